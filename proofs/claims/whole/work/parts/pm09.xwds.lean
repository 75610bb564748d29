/-! the words of the tables that the steps need, each once -/
theorem cwl {C : String} {T : u_T} {N : Nat} (ix : List Nat) (h : ((List.range N).all fun k => decide (tables_1[ix.getD k 0]? = some (u_lay C T k)) && wkd (u_lay C T k)) = true) : ∀ w ∈ u_ws C T N, tbw w := by
  intro w hw
  obtain ⟨k, hk, rfl⟩ := List.mem_map.mp hw
  have h1 := List.all_eq_true.mp h k hk
  rw [Bool.and_eq_true, decide_eq_true_eq] at h1
  exact ⟨List.mem_append_right _ (List.mem_of_getElem? h1.1), h1.2⟩
theorem wt0 {w : Cond} (i : Nat) (h : tables_1[i]? = some w) (hk : wkd w = true) : tbw w := ⟨List.mem_append_right _ (List.mem_of_getElem? h), hk⟩
theorem wp0 {w : Cond} (i : Nat) (h : (k2_sels lw_privs)[i]? = some w) (hk : wkd w = true) : tbw w := ⟨List.mem_append_left _ (List.mem_of_getElem? h), hk⟩
set_option maxRecDepth 100000 in
theorem cw_X0 : ∀ w ∈ u_ws RX0 TX0 5, tbw w := cwl [186, 188, 190, 192, 194] (by decide +kernel)
theorem df_X0 : ∀ j, j < 5 → defaultValue (tyX0 j) = if fR 1 j then .null else .int 0 := by decide +kernel
set_option maxRecDepth 100000 in
theorem cw_X1 : ∀ w ∈ u_ws RX1 TX1 6, tbw w := cwl [54, 56, 58, 60, 62, 64] (by decide +kernel)
theorem df_X1 : ∀ j, j < 6 → defaultValue (tyX1 j) = if fR 2 j then .null else .int 0 := by decide +kernel
set_option maxRecDepth 100000 in
theorem cw_X2 : ∀ w ∈ u_ws RX2 TX2q 5, tbw w := cwl [487, 489, 491, 493, 495] (by decide +kernel)
theorem df_X2 : ∀ j, j < 5 → defaultValue (tyX2 j) = if fR 3 j then .null else .int 0 := by decide +kernel
set_option maxRecDepth 100000 in
theorem cw_X3 : ∀ w ∈ u_ws RX3 TX3 2, tbw w := cwl [70, 72] (by decide +kernel)
theorem df_X3 : ∀ j, j < 2 → defaultValue (tyX3 j) = if fR 4 j then .null else .int 0 := by decide +kernel
set_option maxRecDepth 100000 in
theorem cw_X4 : ∀ w ∈ u_ws RX4 TX4 11, tbw w := cwl [216, 218, 220, 222, 224, 226, 228, 230, 232, 234, 236] (by decide +kernel)
theorem df_X4 : ∀ j, j < 11 → defaultValue (tyX4 j) = if fR 5 j then .null else .int 0 := by decide +kernel
set_option maxRecDepth 100000 in
theorem cw_X5 : ∀ w ∈ u_ws RX5 TX5 15, tbw w := cwl [261, 263, 265, 267, 269, 271, 273, 275, 277, 279, 281, 283, 285, 287, 289] (by decide +kernel)
theorem df_X5 : ∀ j, j < 15 → defaultValue (tyX5 j) = if fR 6 j then .null else .int 0 := by decide +kernel
set_option maxRecDepth 100000 in
theorem cw_X6 : ∀ w ∈ u_ws RX6 TX6 12, tbw w := cwl [140, 142, 144, 146, 148, 150, 152, 154, 156, 158, 160, 162] (by decide +kernel)
theorem df_X6 : ∀ j, j < 12 → defaultValue (tyX6 j) = if fR 7 j then .null else .int 0 := by decide +kernel
set_option maxRecDepth 100000 in
theorem cw_X7 : ∀ w ∈ u_ws RX7 TX7 10, tbw w := cwl [553, 555, 557, 559, 561, 563, 565, 567, 569, 571] (by decide +kernel)
theorem df_X7 : ∀ j, j < 10 → defaultValue (tyX7 j) = if fR 8 j then .null else .int 0 := by decide +kernel
set_option maxRecDepth 100000 in
theorem cw_X8 : ∀ w ∈ u_ws RX8 TX8 17, tbw w := cwl [949, 951, 953, 955, 957, 959, 961, 963, 965, 967, 969, 971, 973, 975, 977, 979, 981] (by decide +kernel)
theorem df_X8 : ∀ j, j < 17 → defaultValue (tyX8 j) = if fR 9 j then .null else .int 0 := by decide +kernel
set_option maxRecDepth 100000 in
theorem cw_X9 : ∀ w ∈ u_ws RX9 TX9 10, tbw w := cwl [368, 370, 372, 374, 376, 378, 380, 382, 384, 386] (by decide +kernel)
theorem df_X9 : ∀ j, j < 10 → defaultValue (tyX9 j) = if fR 10 j then .null else .int 0 := by decide +kernel
set_option maxRecDepth 100000 in
theorem cw_X10 : ∀ w ∈ u_ws RX10 TX10 9, tbw w := cwl [92, 94, 96, 98, 100, 102, 104, 106, 108] (by decide +kernel)
theorem df_X10 : ∀ j, j < 9 → defaultValue (tyX10 j) = if fR 11 j then .null else .int 0 := by decide +kernel
set_option maxRecDepth 100000 in
theorem cw_X11 : ∀ w ∈ u_ws RX11 TX11 9, tbw w := cwl [301, 303, 305, 307, 309, 311, 313, 315, 317] (by decide +kernel)
theorem df_X11 : ∀ j, j < 9 → defaultValue (tyX11 j) = if fR 12 j then .null else .int 0 := by decide +kernel
set_option maxRecDepth 100000 in
theorem cw_X12 : ∀ w ∈ u_ws RX12 TX12 90, tbw w := cwl [1577, 1579, 1581, 1583, 1585, 1587, 1589, 1591, 1593, 1595, 1597, 1599, 1601, 1603, 1605, 1607, 1609, 1611, 1613, 1615, 1617, 1619, 1621, 1623, 1625, 1627, 1629, 1631, 1633, 1635, 1637, 1639, 1641, 1643, 1645, 1647, 1649, 1651, 1653, 1655, 1657, 1659, 1661, 1663, 1665, 1667, 1669, 1671, 1673, 1675, 1677, 1679, 1681, 1683, 1685, 1687, 1689, 1691, 1693, 1695, 1697, 1699, 1701, 1703, 1705, 1707, 1709, 1711, 1713, 1715, 1717, 1719, 1721, 1723, 1725, 1727, 1729, 1731, 1733, 1735, 1737, 1739, 1741, 1743, 1745, 1747, 1749, 1751, 1753, 1755] (by decide +kernel)
theorem df_X12 : ∀ j, j < 90 → defaultValue (tyX12 j) = if fR 13 j then .null else .int 0 := by decide +kernel
set_option maxRecDepth 100000 in
theorem wq_X0_3 : tbw (.methodLink RX0 3 Lib.objectInit) := wt0 178 (by decide +kernel) rfl
set_option maxRecDepth 100000 in
theorem wq_i : tbw (.instanceMethod Lib.objectInit) := wt0 26 (by decide +kernel) rfl
set_option maxRecDepth 100000 in
theorem wq_c : tbw (.code Lib.objectInit ⟨#[0xb1]⟩ 1 none) := wt0 27 (by decide +kernel) rfl
set_option maxRecDepth 100000 in
theorem wa_int : tbw (.arrayClass .int) := wt0 67 (by decide +kernel) rfl
set_option maxRecDepth 100000 in
theorem wf_X0_9 : tbw (.fieldLink RX0 9 RX0 (TX0 0).2.1 (TX0 0).2.2.1) := wt0 179 (by decide +kernel) rfl
set_option maxRecDepth 100000 in
theorem wf_X0_15 : tbw (.fieldLink RX0 15 RX0 (TX0 1).2.1 (TX0 1).2.2.1) := wt0 180 (by decide +kernel) rfl
set_option maxRecDepth 100000 in
theorem wf_X0_18 : tbw (.fieldLink RX0 18 RX0 (TX0 2).2.1 (TX0 2).2.2.1) := wt0 181 (by decide +kernel) rfl
set_option maxRecDepth 100000 in
theorem wf_X0_21 : tbw (.fieldLink RX0 21 RX0 (TX0 3).2.1 (TX0 3).2.2.1) := wt0 182 (by decide +kernel) rfl
set_option maxRecDepth 100000 in
theorem wf_X0_25 : tbw (.fieldLink RX0 25 RX0 (TX0 4).2.1 (TX0 4).2.2.1) := wt0 184 (by decide +kernel) rfl
set_option maxRecDepth 100000 in
theorem wc_X0_sizeOf : tbw (cwd 3) := wt0 1153 rfl rfl
set_option maxRecDepth 100000 in
theorem wi_SealedProcesses_Blocks : tbw (.initialized RX0) := wt0 7 (by decide +kernel) rfl
set_option maxRecDepth 100000 in
theorem wg_X0_28 : tbw (.methodLink RX0 28 (yy 3)) := wt0 1150 (by decide +kernel) rfl
set_option maxRecDepth 100000 in
theorem wm_X0_sizeOf : tbw (.instanceMethod (yy 3)) := wt0 1152 (by decide +kernel) rfl
set_option maxRecDepth 100000 in
theorem wse_X0_sizeOf : tbw (.selects RX0 (yy 3) (yy 3)) := wp0 120 (by decide +kernel) rfl
set_option maxRecDepth 100000 in
theorem wc_X0_free : tbw (cwd 8) := wt0 1161 rfl rfl
set_option maxRecDepth 100000 in
theorem wg_X0_32 : tbw (.methodLink RX0 32 (yy 8)) := wt0 1326 (by decide +kernel) rfl
set_option maxRecDepth 100000 in
theorem wm_X0_free : tbw (.instanceMethod (yy 8)) := wt0 1160 (by decide +kernel) rfl
set_option maxRecDepth 100000 in
theorem wse_X0_free : tbw (.selects RX0 (yy 8) (yy 8)) := wp0 122 (by decide +kernel) rfl
set_option maxRecDepth 100000 in
theorem wq_X1_3 : tbw (.methodLink RX1 3 Lib.objectInit) := wt0 41 (by decide +kernel) rfl
set_option maxRecDepth 100000 in
theorem wf_X1_9 : tbw (.fieldLink RX1 9 RX1 (TX1 0).2.1 (TX1 0).2.2.1) := wt0 42 (by decide +kernel) rfl
set_option maxRecDepth 100000 in
theorem wf_X1_15 : tbw (.fieldLink RX1 15 RX1 (TX1 1).2.1 (TX1 1).2.2.1) := wt0 43 (by decide +kernel) rfl
set_option maxRecDepth 100000 in
theorem wf_X1_19 : tbw (.fieldLink RX1 19 RX1 (TX1 2).2.1 (TX1 2).2.2.1) := wt0 45 (by decide +kernel) rfl
set_option maxRecDepth 100000 in
theorem wf_X1_22 : tbw (.fieldLink RX1 22 RX1 (TX1 3).2.1 (TX1 3).2.2.1) := wt0 47 (by decide +kernel) rfl
set_option maxRecDepth 100000 in
theorem wf_X1_25 : tbw (.fieldLink RX1 25 RX1 (TX1 4).2.1 (TX1 4).2.2.1) := wt0 50 (by decide +kernel) rfl
set_option maxRecDepth 100000 in
theorem wf_X1_28 : tbw (.fieldLink RX1 28 RX1 (TX1 5).2.1 (TX1 5).2.2.1) := wt0 52 (by decide +kernel) rfl
set_option maxRecDepth 100000 in
theorem wq_X1_31 : tbw (.methodLink RX1 31 Lib.Math.min.name) := wt0 397 (by decide +kernel) rfl
set_option maxRecDepth 100000 in
theorem wq_smin : tbw (.static Lib.Math.min.name) := wt0 341 (by decide +kernel) rfl
set_option maxRecDepth 100000 in
theorem wq_im : tbw (.initialized "java/lang/Math") := wt0 15 (by decide +kernel) rfl
set_option maxRecDepth 100000 in
theorem wq_cmin : tbw (.code Lib.Math.min.name Lib.Math.min.code 2 (some .int)) := wt0 342 (by decide +kernel) rfl
set_option maxRecDepth 100000 in
theorem wq_X1_37 : tbw (.methodLink RX1 37 Lib.Math.max.name) := wt0 398 (by decide +kernel) rfl
set_option maxRecDepth 100000 in
theorem wq_smax : tbw (.static Lib.Math.max.name) := wt0 344 (by decide +kernel) rfl
set_option maxRecDepth 100000 in
theorem wq_cmax : tbw (.code Lib.Math.max.name Lib.Math.max.code 2 (some .int)) := wt0 345 (by decide +kernel) rfl
set_option maxRecDepth 100000 in
theorem wc_X1_peek : tbw (cwd 14) := wt0 414 rfl rfl
set_option maxRecDepth 100000 in
theorem wi_SealedProcesses_Bytes : tbw (.initialized RX1) := wt0 3 (by decide +kernel) rfl
set_option maxRecDepth 100000 in
theorem wg_X1_40 : tbw (.methodLink RX1 40 (yy 14)) := wt0 411 (by decide +kernel) rfl
set_option maxRecDepth 100000 in
theorem wm_X1_peek : tbw (.instanceMethod (yy 14)) := wt0 413 (by decide +kernel) rfl
set_option maxRecDepth 100000 in
theorem wse_X1_peek : tbw (.selects RX1 (yy 14) (yy 14)) := wp0 6 (by decide +kernel) rfl
set_option maxRecDepth 100000 in
theorem wc_X1_fail : tbw (cwd 13) := wt0 418 rfl rfl
set_option maxRecDepth 100000 in
theorem wg_X1_44 : tbw (.methodLink RX1 44 (yy 13)) := wt0 415 (by decide +kernel) rfl
set_option maxRecDepth 100000 in
theorem wm_X1_fail : tbw (.instanceMethod (yy 13)) := wt0 417 (by decide +kernel) rfl
set_option maxRecDepth 100000 in
theorem wse_X1_fail : tbw (.selects RX1 (yy 13) (yy 13)) := wp0 7 (by decide +kernel) rfl
set_option maxRecDepth 100000 in
theorem wc_X1_take : tbw (cwd 15) := wt0 410 rfl rfl
set_option maxRecDepth 100000 in
theorem wg_X1_48 : tbw (.methodLink RX1 48 (yy 15)) := wt0 407 (by decide +kernel) rfl
set_option maxRecDepth 100000 in
theorem wm_X1_take : tbw (.instanceMethod (yy 15)) := wt0 409 (by decide +kernel) rfl
set_option maxRecDepth 100000 in
theorem wse_X1_take : tbw (.selects RX1 (yy 15) (yy 15)) := wp0 5 (by decide +kernel) rfl
set_option maxRecDepth 100000 in
theorem wq_X2_3 : tbw (.methodLink RX2 3 Lib.objectInit) := wt0 479 (by decide +kernel) rfl
set_option maxRecDepth 100000 in
theorem wf_X2_9 : tbw (.fieldLink RX2 9 RX2 (TX2q 1).2.1 (TX2q 1).2.2.1) := wt0 483 (by decide +kernel) rfl
set_option maxRecDepth 100000 in
theorem wf_X2_15 : tbw (.fieldLink RX2 15 RX2 (TX2q 2).2.1 (TX2q 2).2.2.1) := wt0 484 (by decide +kernel) rfl
set_option maxRecDepth 100000 in
theorem wf_X2_18 : tbw (.fieldLink RX2 18 RX2 (TX2q 3).2.1 (TX2q 3).2.2.1) := wt0 485 (by decide +kernel) rfl
set_option maxRecDepth 100000 in
theorem wf_X2_21 : tbw (.fieldLink RX2 21 RX2 (TX2q 4).2.1 (TX2q 4).2.2.1) := wt0 486 (by decide +kernel) rfl
set_option maxRecDepth 100000 in
theorem wf_X2_24 : tbw (.fieldLink RX2 24 RX2 (TX2q 0).2.1 (TX2q 0).2.2.1) := wt0 480 (by decide +kernel) rfl
set_option maxRecDepth 100000 in
theorem wc_X2_indexOf : tbw (cwd 22) := wt0 513 rfl rfl
set_option maxRecDepth 100000 in
theorem wi_SealedProcesses_Contract : tbw (.initialized RX2) := wt0 16 (by decide +kernel) rfl
set_option maxRecDepth 100000 in
theorem wg_X2_28 : tbw (.methodLink RX2 28 (yy 22)) := wt0 510 (by decide +kernel) rfl
set_option maxRecDepth 100000 in
theorem wm_X2_indexOf : tbw (.instanceMethod (yy 22)) := wt0 512 (by decide +kernel) rfl
set_option maxRecDepth 100000 in
theorem wse_X2_indexOf : tbw (.selects RX2 (yy 22) (yy 22)) := wp0 22 (by decide +kernel) rfl
set_option maxRecDepth 100000 in
theorem wq_X3_5 : tbw (.methodLink RX3 5 Lib.objectInit) := wt0 35 (by decide +kernel) rfl
set_option maxRecDepth 100000 in
theorem wl_X3_11 : tbw (.classLink RX3 11 RX1) := wt0 36 (by decide +kernel) rfl
set_option maxRecDepth 100000 in
theorem wn_X1 : tbw (.instantiable RX1 6) := wt0 37 (by decide +kernel) rfl
set_option maxRecDepth 100000 in
theorem wc_X1_init : tbw (cwd 10) := wt0 40 rfl rfl
set_option maxRecDepth 100000 in
theorem wg_X3_13 : tbw (.methodLinkNest RX3 13 (yy 10) "SealedProcesses") := wt0 38 (by decide +kernel) rfl
set_option maxRecDepth 100000 in
theorem wm_X1_init : tbw (.instanceMethod (yy 10)) := wt0 39 (by decide +kernel) rfl
set_option maxRecDepth 100000 in
theorem wf_X3_14 : tbw (.fieldLink RX3 14 RX3 (TX3 0).2.1 (TX3 0).2.2.1) := wt0 68 (by decide +kernel) rfl
set_option maxRecDepth 100000 in
theorem wf_X3_18 : tbw (.fieldLink RX3 18 RX3 (TX3 1).2.1 (TX3 1).2.2.1) := wt0 69 (by decide +kernel) rfl
set_option maxRecDepth 100000 in
theorem wf_X3_22 : tbw (.fieldLinkNest RX3 22 RX9 (TX9 0).2.1 (TX9 0).2.2.1 "SealedProcesses") := wt0 347 (by decide +kernel) rfl
set_option maxRecDepth 100000 in
theorem wf_X3_27 : tbw (.fieldLinkNest RX3 27 RX9 (TX9 1).2.1 (TX9 1).2.2.1 "SealedProcesses") := wt0 350 (by decide +kernel) rfl
set_option maxRecDepth 100000 in
theorem wc_X1_startOver : tbw (cwd 11) := wt0 396 rfl rfl
set_option maxRecDepth 100000 in
theorem wg_X3_31 : tbw (.methodLinkNest RX3 31 (yy 11) "SealedProcesses") := wt0 393 (by decide +kernel) rfl
set_option maxRecDepth 100000 in
theorem wm_X1_startOver : tbw (.instanceMethod (yy 11)) := wt0 395 (by decide +kernel) rfl
set_option maxRecDepth 100000 in
theorem wse_X1_startOver : tbw (.selects RX1 (yy 11) (yy 11)) := wp0 2 (by decide +kernel) rfl
set_option maxRecDepth 100000 in
theorem wc_X1_isRight : tbw (cwd 12) := wt0 402 rfl rfl
set_option maxRecDepth 100000 in
theorem wg_X3_35 : tbw (.methodLinkNest RX3 35 (yy 12) "SealedProcesses") := wt0 399 (by decide +kernel) rfl
set_option maxRecDepth 100000 in
theorem wm_X1_isRight : tbw (.instanceMethod (yy 12)) := wt0 401 (by decide +kernel) rfl
set_option maxRecDepth 100000 in
theorem wse_X1_isRight : tbw (.selects RX1 (yy 12) (yy 12)) := wp0 3 (by decide +kernel) rfl
set_option maxRecDepth 100000 in
theorem wc_X1_takeWithin : tbw (cwd 16) := wt0 406 rfl rfl
set_option maxRecDepth 100000 in
theorem wg_X3_39 : tbw (.methodLinkNest RX3 39 (yy 16) "SealedProcesses") := wt0 403 (by decide +kernel) rfl
set_option maxRecDepth 100000 in
theorem wm_X1_takeWithin : tbw (.instanceMethod (yy 16)) := wt0 405 (by decide +kernel) rfl
set_option maxRecDepth 100000 in
theorem wse_X1_takeWithin : tbw (.selects RX1 (yy 16) (yy 16)) := wp0 4 (by decide +kernel) rfl
set_option maxRecDepth 100000 in
theorem wf_X3_43 : tbw (.fieldLinkNest RX3 43 RX9 (TX9 2).2.1 (TX9 2).2.2.1 "SealedProcesses") := wt0 354 (by decide +kernel) rfl
set_option maxRecDepth 100000 in
theorem wc_X3_walkRecord : tbw (cwd 31) := wt0 422 rfl rfl
set_option maxRecDepth 100000 in
theorem wi_SealedProcesses_Decoder : tbw (.initialized RX3) := wt0 2 (by decide +kernel) rfl
set_option maxRecDepth 100000 in
theorem wg_X3_46 : tbw (.methodLink RX3 46 (yy 31)) := wt0 419 (by decide +kernel) rfl
set_option maxRecDepth 100000 in
theorem wm_X3_walkRecord : tbw (.instanceMethod (yy 31)) := wt0 421 (by decide +kernel) rfl
set_option maxRecDepth 100000 in
theorem wse_X3_walkRecord : tbw (.selects RX3 (yy 31) (yy 31)) := wp0 8 (by decide +kernel) rfl
set_option maxRecDepth 100000 in
theorem wf_X3_50 : tbw (.fieldLinkNest RX3 50 RX9 (TX9 6).2.1 (TX9 6).2.2.1 "SealedProcesses") := wt0 360 (by decide +kernel) rfl
set_option maxRecDepth 100000 in
theorem wc_X3_walkContract : tbw (cwd 32) := wt0 473 rfl rfl
set_option maxRecDepth 100000 in
theorem wg_X3_53 : tbw (.methodLink RX3 53 (yy 32)) := wt0 470 (by decide +kernel) rfl
set_option maxRecDepth 100000 in
theorem wm_X3_walkContract : tbw (.instanceMethod (yy 32)) := wt0 472 (by decide +kernel) rfl
set_option maxRecDepth 100000 in
theorem wse_X3_walkContract : tbw (.selects RX3 (yy 32) (yy 32)) := wp0 18 (by decide +kernel) rfl
set_option maxRecDepth 100000 in
theorem wf_X3_56 : tbw (.fieldLinkNest RX3 56 RX9 (TX9 8).2.1 (TX9 8).2.2.1 "SealedProcesses") := wt0 365 (by decide +kernel) rfl
set_option maxRecDepth 100000 in
theorem wc_X3_walkFunction : tbw (cwd 33) := wt0 517 rfl rfl
set_option maxRecDepth 100000 in
theorem wg_X3_59 : tbw (.methodLink RX3 59 (yy 33)) := wt0 514 (by decide +kernel) rfl
set_option maxRecDepth 100000 in
theorem wm_X3_walkFunction : tbw (.instanceMethod (yy 33)) := wt0 516 (by decide +kernel) rfl
set_option maxRecDepth 100000 in
theorem wse_X3_walkFunction : tbw (.selects RX3 (yy 33) (yy 33)) := wp0 23 (by decide +kernel) rfl
set_option maxRecDepth 100000 in
theorem wc_X1_expectEnd : tbw (cwd 18) := wt0 607 rfl rfl
set_option maxRecDepth 100000 in
theorem wg_X3_62 : tbw (.methodLinkNest RX3 62 (yy 18) "SealedProcesses") := wt0 604 (by decide +kernel) rfl
set_option maxRecDepth 100000 in
theorem wm_X1_expectEnd : tbw (.instanceMethod (yy 18)) := wt0 606 (by decide +kernel) rfl
set_option maxRecDepth 100000 in
theorem wse_X1_expectEnd : tbw (.selects RX1 (yy 18) (yy 18)) := wp0 31 (by decide +kernel) rfl
set_option maxRecDepth 100000 in
theorem wc_X9_setSize : tbw (cwd 155) := wt0 426 rfl rfl
set_option maxRecDepth 100000 in
theorem wi_SealedProcesses_TypedModule : tbw (.initialized RX9) := wt0 14 (by decide +kernel) rfl
set_option maxRecDepth 100000 in
theorem wg_X3_65 : tbw (.methodLinkNest RX3 65 (yy 155) "SealedProcesses") := wt0 423 (by decide +kernel) rfl
set_option maxRecDepth 100000 in
theorem wm_X9_setSize : tbw (.instanceMethod (yy 155)) := wt0 425 (by decide +kernel) rfl
set_option maxRecDepth 100000 in
theorem wse_X9_setSize : tbw (.selects RX9 (yy 155) (yy 155)) := wp0 9 (by decide +kernel) rfl
set_option maxRecDepth 100000 in
theorem wc_X3_takeType : tbw (cwd 35) := wt0 430 rfl rfl
set_option maxRecDepth 100000 in
theorem wg_X3_69 : tbw (.methodLink RX3 69 (yy 35)) := wt0 427 (by decide +kernel) rfl
set_option maxRecDepth 100000 in
theorem wm_X3_takeType : tbw (.instanceMethod (yy 35)) := wt0 429 (by decide +kernel) rfl
set_option maxRecDepth 100000 in
theorem wse_X3_takeType : tbw (.selects RX3 (yy 35) (yy 35)) := wp0 10 (by decide +kernel) rfl
set_option maxRecDepth 100000 in
theorem wc_X9_setField : tbw (cwd 156) := wt0 466 rfl rfl
set_option maxRecDepth 100000 in
theorem wg_X3_73 : tbw (.methodLinkNest RX3 73 (yy 156) "SealedProcesses") := wt0 463 (by decide +kernel) rfl
set_option maxRecDepth 100000 in
theorem wm_X9_setField : tbw (.instanceMethod (yy 156)) := wt0 465 (by decide +kernel) rfl
set_option maxRecDepth 100000 in
theorem wse_X9_setField : tbw (.selects RX9 (yy 156) (yy 156)) := wp0 17 (by decide +kernel) rfl
set_option maxRecDepth 100000 in
theorem wl_X3_77 : tbw (.classLink RX3 77 RX2) := wt0 474 (by decide +kernel) rfl
set_option maxRecDepth 100000 in
theorem wn_X2 : tbw (.instantiable RX2 5) := wt0 475 (by decide +kernel) rfl
set_option maxRecDepth 100000 in
theorem wc_X2_init : tbw (cwd 19) := wt0 478 rfl rfl
set_option maxRecDepth 100000 in
theorem wg_X3_79 : tbw (.methodLinkNest RX3 79 (yy 19) "SealedProcesses") := wt0 476 (by decide +kernel) rfl
set_option maxRecDepth 100000 in
theorem wm_X2_init : tbw (.instanceMethod (yy 19)) := wt0 477 (by decide +kernel) rfl
set_option maxRecDepth 100000 in
theorem wc_X9_setContract : tbw (cwd 150) := wt0 501 rfl rfl
set_option maxRecDepth 100000 in
theorem wg_X3_82 : tbw (.methodLinkNest RX3 82 (yy 150) "SealedProcesses") := wt0 498 (by decide +kernel) rfl
set_option maxRecDepth 100000 in
theorem wm_X9_setContract : tbw (.instanceMethod (yy 150)) := wt0 500 (by decide +kernel) rfl
set_option maxRecDepth 100000 in
theorem wse_X9_setContract : tbw (.selects RX9 (yy 150) (yy 150)) := wp0 19 (by decide +kernel) rfl
set_option maxRecDepth 100000 in
theorem wc_X9_contractAt : tbw (cwd 148) := wt0 459 rfl rfl
set_option maxRecDepth 100000 in
theorem wg_X3_86 : tbw (.methodLinkNest RX3 86 (yy 148) "SealedProcesses") := wt0 456 (by decide +kernel) rfl
set_option maxRecDepth 100000 in
theorem wm_X9_contractAt : tbw (.instanceMethod (yy 148)) := wt0 458 (by decide +kernel) rfl
set_option maxRecDepth 100000 in
theorem wse_X9_contractAt : tbw (.selects RX9 (yy 148) (yy 148)) := wp0 16 (by decide +kernel) rfl
set_option maxRecDepth 100000 in
theorem wc_X2_setState : tbw (cwd 26) := wt0 505 rfl rfl
set_option maxRecDepth 100000 in
theorem wg_X3_90 : tbw (.methodLinkNest RX3 90 (yy 26) "SealedProcesses") := wt0 502 (by decide +kernel) rfl
set_option maxRecDepth 100000 in
theorem wm_X2_setState : tbw (.instanceMethod (yy 26)) := wt0 504 (by decide +kernel) rfl
set_option maxRecDepth 100000 in
theorem wse_X2_setState : tbw (.selects RX2 (yy 26) (yy 26)) := wp0 20 (by decide +kernel) rfl
set_option maxRecDepth 100000 in
theorem wc_X3_takeName : tbw (cwd 36) := wt0 436 rfl rfl
set_option maxRecDepth 100000 in
theorem wg_X3_93 : tbw (.methodLink RX3 93 (yy 36)) := wt0 433 (by decide +kernel) rfl
set_option maxRecDepth 100000 in
theorem wm_X3_takeName : tbw (.instanceMethod (yy 36)) := wt0 435 (by decide +kernel) rfl
set_option maxRecDepth 100000 in
theorem wse_X3_takeName : tbw (.selects RX3 (yy 36) (yy 36)) := wp0 11 (by decide +kernel) rfl
set_option maxRecDepth 100000 in
theorem wc_X2_setMessage : tbw (cwd 27) := wt0 509 rfl rfl
set_option maxRecDepth 100000 in
theorem wg_X3_97 : tbw (.methodLinkNest RX3 97 (yy 27) "SealedProcesses") := wt0 506 (by decide +kernel) rfl
set_option maxRecDepth 100000 in
theorem wm_X2_setMessage : tbw (.instanceMethod (yy 27)) := wt0 508 (by decide +kernel) rfl
set_option maxRecDepth 100000 in
theorem wse_X2_setMessage : tbw (.selects RX2 (yy 27) (yy 27)) := wp0 21 (by decide +kernel) rfl
set_option maxRecDepth 100000 in
theorem wl_X3_101 : tbw (.classLink RX3 101 RX7) := wt0 518 (by decide +kernel) rfl
set_option maxRecDepth 100000 in
theorem wn_X7 : tbw (.instantiable RX7 10) := wt0 519 (by decide +kernel) rfl
set_option maxRecDepth 100000 in
theorem wi_SealedProcesses_Routine : tbw (.initialized RX7) := wt0 17 (by decide +kernel) rfl
set_option maxRecDepth 100000 in
theorem wf_X3_103 : tbw (.fieldLinkNest RX3 103 RX1 (TX1 3).2.1 (TX1 3).2.2.1 "SealedProcesses") := wt0 49 (by decide +kernel) rfl
set_option maxRecDepth 100000 in
theorem wc_X7_init : tbw (cwd 106) := wt0 522 rfl rfl
set_option maxRecDepth 100000 in
theorem wg_X3_106 : tbw (.methodLinkNest RX3 106 (yy 106) "SealedProcesses") := wt0 520 (by decide +kernel) rfl
set_option maxRecDepth 100000 in
theorem wm_X7_init : tbw (.instanceMethod (yy 106)) := wt0 521 (by decide +kernel) rfl
set_option maxRecDepth 100000 in
theorem wc_X9_setRoutine : tbw (cwd 151) := wt0 577 rfl rfl
set_option maxRecDepth 100000 in
theorem wg_X3_109 : tbw (.methodLinkNest RX3 109 (yy 151) "SealedProcesses") := wt0 574 (by decide +kernel) rfl
set_option maxRecDepth 100000 in
theorem wm_X9_setRoutine : tbw (.instanceMethod (yy 151)) := wt0 576 (by decide +kernel) rfl
set_option maxRecDepth 100000 in
theorem wse_X9_setRoutine : tbw (.selects RX9 (yy 151) (yy 151)) := wp0 24 (by decide +kernel) rfl
set_option maxRecDepth 100000 in
theorem wc_X9_routineAt : tbw (cwd 149) := wt0 581 rfl rfl
set_option maxRecDepth 100000 in
theorem wg_X3_113 : tbw (.methodLinkNest RX3 113 (yy 149) "SealedProcesses") := wt0 578 (by decide +kernel) rfl
set_option maxRecDepth 100000 in
theorem wm_X9_routineAt : tbw (.instanceMethod (yy 149)) := wt0 580 (by decide +kernel) rfl
set_option maxRecDepth 100000 in
theorem wse_X9_routineAt : tbw (.selects RX9 (yy 149) (yy 149)) := wp0 25 (by decide +kernel) rfl
set_option maxRecDepth 100000 in
theorem wf_X3_117 : tbw (.fieldLinkNest RX3 117 RX7 (TX7 5).2.1 (TX7 5).2.2.1 "SealedProcesses") := wt0 545 (by decide +kernel) rfl
set_option maxRecDepth 100000 in
theorem wf_X3_120 : tbw (.fieldLinkNest RX3 120 RX7 (TX7 4).2.1 (TX7 4).2.2.1 "SealedProcesses") := wt0 541 (by decide +kernel) rfl
set_option maxRecDepth 100000 in
theorem wf_X3_121 : tbw (.fieldLinkNest RX3 121 RX1 (TX1 2).2.1 (TX1 2).2.2.1 "SealedProcesses") := wt0 46 (by decide +kernel) rfl
set_option maxRecDepth 100000 in
theorem wc_X3_walkInstruction : tbw (cwd 34) := wt0 585 rfl rfl
set_option maxRecDepth 100000 in
theorem wg_X3_124 : tbw (.methodLink RX3 124 (yy 34)) := wt0 582 (by decide +kernel) rfl
set_option maxRecDepth 100000 in
theorem wm_X3_walkInstruction : tbw (.instanceMethod (yy 34)) := wt0 584 (by decide +kernel) rfl
set_option maxRecDepth 100000 in
theorem wse_X3_walkInstruction : tbw (.selects RX3 (yy 34) (yy 34)) := wp0 26 (by decide +kernel) rfl
set_option maxRecDepth 100000 in
theorem wf_X3_128 : tbw (.fieldLinkNest RX3 128 RX1 (TX1 1).2.1 (TX1 1).2.2.1 "SealedProcesses") := wt0 44 (by decide +kernel) rfl
set_option maxRecDepth 100000 in
theorem wc_X7_setBegin : tbw (cwd 109) := wt0 589 rfl rfl
set_option maxRecDepth 100000 in
theorem wg_X3_129 : tbw (.methodLinkNest RX3 129 (yy 109) "SealedProcesses") := wt0 586 (by decide +kernel) rfl
set_option maxRecDepth 100000 in
theorem wm_X7_setBegin : tbw (.instanceMethod (yy 109)) := wt0 588 (by decide +kernel) rfl
set_option maxRecDepth 100000 in
theorem wse_X7_setBegin : tbw (.selects RX7 (yy 109) (yy 109)) := wp0 27 (by decide +kernel) rfl
set_option maxRecDepth 100000 in
theorem ws_X3_132 : tbw (.fieldLinkNest RX3 132 "SealedProcesses" "OPERANDS" "[I" "SealedProcesses") := wt0 590 (by decide +kernel) rfl
set_option maxRecDepth 100000 in
theorem wc_X1_takeWord : tbw (cwd 17) := wt0 595 rfl rfl
set_option maxRecDepth 100000 in
theorem wg_X3_135 : tbw (.methodLinkNest RX3 135 (yy 17) "SealedProcesses") := wt0 592 (by decide +kernel) rfl
set_option maxRecDepth 100000 in
theorem wm_X1_takeWord : tbw (.instanceMethod (yy 17)) := wt0 594 (by decide +kernel) rfl
set_option maxRecDepth 100000 in
theorem wse_X1_takeWord : tbw (.selects RX1 (yy 17) (yy 17)) := wp0 28 (by decide +kernel) rfl
set_option maxRecDepth 100000 in
theorem wf_X3_139 : tbw (.fieldLinkNest RX3 139 RX7 (TX7 3).2.1 (TX7 3).2.2.1 "SealedProcesses") := wt0 536 (by decide +kernel) rfl
set_option maxRecDepth 100000 in
theorem wc_X3_takeTarget : tbw (cwd 38) := wt0 599 rfl rfl
set_option maxRecDepth 100000 in
theorem wg_X3_142 : tbw (.methodLink RX3 142 (yy 38)) := wt0 596 (by decide +kernel) rfl
set_option maxRecDepth 100000 in
theorem wm_X3_takeTarget : tbw (.instanceMethod (yy 38)) := wt0 598 (by decide +kernel) rfl
set_option maxRecDepth 100000 in
theorem wse_X3_takeTarget : tbw (.selects RX3 (yy 38) (yy 38)) := wp0 29 (by decide +kernel) rfl
set_option maxRecDepth 100000 in
theorem wc_X3_takeBlockRecord : tbw (cwd 37) := wt0 443 rfl rfl
set_option maxRecDepth 100000 in
theorem wg_X3_146 : tbw (.methodLink RX3 146 (yy 37)) := wt0 440 (by decide +kernel) rfl
set_option maxRecDepth 100000 in
theorem wm_X3_takeBlockRecord : tbw (.instanceMethod (yy 37)) := wt0 442 (by decide +kernel) rfl
set_option maxRecDepth 100000 in
theorem wse_X3_takeBlockRecord : tbw (.selects RX3 (yy 37) (yy 37)) := wp0 12 (by decide +kernel) rfl
set_option maxRecDepth 100000 in
theorem wg_X3_150 : tbw (.methodLinkNest RX3 150 (yy 15) "SealedProcesses") := wt0 431 (by decide +kernel) rfl
set_option maxRecDepth 100000 in
theorem wg_X3_153 : tbw (.methodLinkNest RX3 153 (yy 13) "SealedProcesses") := wt0 432 (by decide +kernel) rfl
set_option maxRecDepth 100000 in
theorem wc_X11_typeOf : tbw (cwd 205) := wt0 439 rfl rfl
set_option maxRecDepth 100000 in
theorem wi_SealedProcesses : tbw (.initialized RX11) := wt0 1 (by decide +kernel) rfl
set_option maxRecDepth 100000 in
theorem wg_X3_156 : tbw (.methodLinkNest RX3 156 (yy 205) "SealedProcesses") := wt0 437 (by decide +kernel) rfl
set_option maxRecDepth 100000 in
theorem wt_X11_typeOf : tbw (.static (yy 205)) := wt0 438 (by decide +kernel) rfl
set_option maxRecDepth 100000 in
theorem wf_X3_159 : tbw (.fieldLinkNest RX3 159 RX2 (TX2q 0).2.1 (TX2q 0).2.2.1 "SealedProcesses") := wt0 481 (by decide +kernel) rfl
set_option maxRecDepth 100000 in
theorem wc_X11_endType : tbw (cwd 206) := wt0 462 rfl rfl
set_option maxRecDepth 100000 in
theorem wg_X3_162 : tbw (.methodLinkNest RX3 162 (yy 206) "SealedProcesses") := wt0 460 (by decide +kernel) rfl
set_option maxRecDepth 100000 in
theorem wt_X11_endType : tbw (.static (yy 206)) := wt0 461 (by decide +kernel) rfl
set_option maxRecDepth 100000 in
theorem wc_X9_hasIntsAlone : tbw (cwd 157) := wt0 447 rfl rfl
set_option maxRecDepth 100000 in
theorem wg_X3_166 : tbw (.methodLinkNest RX3 166 (yy 157) "SealedProcesses") := wt0 444 (by decide +kernel) rfl
set_option maxRecDepth 100000 in
theorem wm_X9_hasIntsAlone : tbw (.instanceMethod (yy 157)) := wt0 446 (by decide +kernel) rfl
set_option maxRecDepth 100000 in
theorem wse_X9_hasIntsAlone : tbw (.selects RX9 (yy 157) (yy 157)) := wp0 13 (by decide +kernel) rfl
set_option maxRecDepth 100000 in
theorem wc_X7_beginsAt : tbw (cwd 108) := wt0 603 rfl rfl
set_option maxRecDepth 100000 in
theorem wg_X3_170 : tbw (.methodLinkNest RX3 170 (yy 108) "SealedProcesses") := wt0 600 (by decide +kernel) rfl
set_option maxRecDepth 100000 in
theorem wm_X7_beginsAt : tbw (.instanceMethod (yy 108)) := wt0 602 (by decide +kernel) rfl
set_option maxRecDepth 100000 in
theorem wse_X7_beginsAt : tbw (.selects RX7 (yy 108) (yy 108)) := wp0 30 (by decide +kernel) rfl
set_option maxRecDepth 100000 in
theorem wq_X4_3 : tbw (.methodLink RX4 3 Lib.objectInit) := wt0 202 (by decide +kernel) rfl
set_option maxRecDepth 100000 in
theorem wa_boolean : tbw (.arrayClass .boolean) := wt0 111 (by decide +kernel) rfl
set_option maxRecDepth 100000 in
theorem wf_X4_9 : tbw (.fieldLink RX4 9 RX4 (TX4 1).2.1 (TX4 1).2.2.1) := wt0 206 (by decide +kernel) rfl
set_option maxRecDepth 100000 in
theorem wf_X4_15 : tbw (.fieldLink RX4 15 RX4 (TX4 2).2.1 (TX4 2).2.2.1) := wt0 207 (by decide +kernel) rfl
set_option maxRecDepth 100000 in
theorem wf_X4_19 : tbw (.fieldLink RX4 19 RX4 (TX4 3).2.1 (TX4 3).2.2.1) := wt0 208 (by decide +kernel) rfl
set_option maxRecDepth 100000 in
theorem wl_X4_22 : tbw (.classLink RX4 22 "SealedProcesses$Contract") := wt0 203 (by decide +kernel) rfl
set_option maxRecDepth 100000 in
theorem wo_X2 : tbw (.arrayOver (.object "SealedProcesses$Contract")) := wt0 204 (by decide +kernel) rfl
set_option maxRecDepth 100000 in
theorem wf_X4_24 : tbw (.fieldLink RX4 24 RX4 (TX4 4).2.1 (TX4 4).2.2.1) := wt0 209 (by decide +kernel) rfl
set_option maxRecDepth 100000 in
theorem wf_X4_28 : tbw (.fieldLink RX4 28 RX4 (TX4 5).2.1 (TX4 5).2.2.1) := wt0 210 (by decide +kernel) rfl
set_option maxRecDepth 100000 in
theorem wf_X4_31 : tbw (.fieldLink RX4 31 RX4 (TX4 6).2.1 (TX4 6).2.2.1) := wt0 211 (by decide +kernel) rfl
set_option maxRecDepth 100000 in
theorem wf_X4_34 : tbw (.fieldLink RX4 34 RX4 (TX4 7).2.1 (TX4 7).2.2.1) := wt0 212 (by decide +kernel) rfl
set_option maxRecDepth 100000 in
theorem wf_X4_37 : tbw (.fieldLink RX4 37 RX4 (TX4 8).2.1 (TX4 8).2.2.1) := wt0 213 (by decide +kernel) rfl
set_option maxRecDepth 100000 in
theorem wf_X4_40 : tbw (.fieldLink RX4 40 RX4 (TX4 9).2.1 (TX4 9).2.2.1) := wt0 214 (by decide +kernel) rfl
set_option maxRecDepth 100000 in
theorem wf_X4_43 : tbw (.fieldLink RX4 43 RX4 (TX4 10).2.1 (TX4 10).2.2.1) := wt0 215 (by decide +kernel) rfl
set_option maxRecDepth 100000 in
theorem wf_X4_47 : tbw (.fieldLink RX4 47 RX4 (TX4 0).2.1 (TX4 0).2.2.1) := wt0 205 (by decide +kernel) rfl
set_option maxRecDepth 100000 in
theorem wc_X4_openEnd : tbw (cwd 44) := wt0 1010 rfl rfl
set_option maxRecDepth 100000 in
theorem wi_SealedProcesses_Ends : tbw (.initialized RX4) := wt0 8 (by decide +kernel) rfl
set_option maxRecDepth 100000 in
theorem wg_X4_51 : tbw (.methodLink RX4 51 (yy 44)) := wt0 1007 (by decide +kernel) rfl
set_option maxRecDepth 100000 in
theorem wm_X4_openEnd : tbw (.instanceMethod (yy 44)) := wt0 1009 (by decide +kernel) rfl
set_option maxRecDepth 100000 in
theorem wse_X4_openEnd : tbw (.selects RX4 (yy 44) (yy 44)) := wp0 88 (by decide +kernel) rfl
set_option maxRecDepth 100000 in
theorem wc_X4_isOpen : tbw (cwd 41) := wt0 1068 rfl rfl
set_option maxRecDepth 100000 in
theorem wg_X4_55 : tbw (.methodLink RX4 55 (yy 41)) := wt0 1065 (by decide +kernel) rfl
set_option maxRecDepth 100000 in
theorem wm_X4_isOpen : tbw (.instanceMethod (yy 41)) := wt0 1067 (by decide +kernel) rfl
set_option maxRecDepth 100000 in
theorem wse_X4_isOpen : tbw (.selects RX4 (yy 41) (yy 41)) := wp0 101 (by decide +kernel) rfl
set_option maxRecDepth 100000 in
theorem wc_X2_sendsBare : tbw (cwd 28) := wt0 775 rfl rfl
set_option maxRecDepth 100000 in
theorem wg_X4_59 : tbw (.methodLinkNest RX4 59 (yy 28) "SealedProcesses") := wt0 1090 (by decide +kernel) rfl
set_option maxRecDepth 100000 in
theorem wm_X2_sendsBare : tbw (.instanceMethod (yy 28)) := wt0 774 (by decide +kernel) rfl
set_option maxRecDepth 100000 in
theorem wse_X2_sendsBare : tbw (.selects RX2 (yy 28) (yy 28)) := wp0 63 (by decide +kernel) rfl
set_option maxRecDepth 100000 in
theorem wc_X4_waitingFor : tbw (cwd 48) := wt0 1064 rfl rfl
set_option maxRecDepth 100000 in
theorem wg_X4_63 : tbw (.methodLink RX4 63 (yy 48)) := wt0 1095 (by decide +kernel) rfl
set_option maxRecDepth 100000 in
theorem wm_X4_waitingFor : tbw (.instanceMethod (yy 48)) := wt0 1063 (by decide +kernel) rfl
set_option maxRecDepth 100000 in
theorem wse_X4_waitingFor : tbw (.selects RX4 (yy 48) (yy 48)) := wp0 100 (by decide +kernel) rfl
set_option maxRecDepth 100000 in
theorem wc_X2_nextOf : tbw (cwd 25) := wt0 794 rfl rfl
set_option maxRecDepth 100000 in
theorem wg_X4_67 : tbw (.methodLinkNest RX4 67 (yy 25) "SealedProcesses") := wt0 1254 (by decide +kernel) rfl
set_option maxRecDepth 100000 in
theorem wm_X2_nextOf : tbw (.instanceMethod (yy 25)) := wt0 793 (by decide +kernel) rfl
set_option maxRecDepth 100000 in
theorem wse_X2_nextOf : tbw (.selects RX2 (yy 25) (yy 25)) := wp0 67 (by decide +kernel) rfl
set_option maxRecDepth 100000 in
theorem wc_X4_hand : tbw (cwd 57) := wt0 1262 rfl rfl
set_option maxRecDepth 100000 in
theorem wg_X4_71 : tbw (.methodLink RX4 71 (yy 57)) := wt0 1259 (by decide +kernel) rfl
set_option maxRecDepth 100000 in
theorem wm_X4_hand : tbw (.instanceMethod (yy 57)) := wt0 1261 (by decide +kernel) rfl
set_option maxRecDepth 100000 in
theorem wse_X4_hand : tbw (.selects RX4 (yy 57) (yy 57)) := wp0 143 (by decide +kernel) rfl
set_option maxRecDepth 100000 in
theorem wc_X4_addClosing : tbw (cwd 60) := wt0 1271 rfl rfl
set_option maxRecDepth 100000 in
theorem wg_X4_75 : tbw (.methodLink RX4 75 (yy 60)) := wt0 1268 (by decide +kernel) rfl
set_option maxRecDepth 100000 in
theorem wm_X4_addClosing : tbw (.instanceMethod (yy 60)) := wt0 1270 (by decide +kernel) rfl
set_option maxRecDepth 100000 in
theorem wse_X4_addClosing : tbw (.selects RX4 (yy 60) (yy 60)) := wp0 145 (by decide +kernel) rfl
set_option maxRecDepth 100000 in
theorem wc_X0_give : tbw (cwd 5) := wt0 1266 rfl rfl
set_option maxRecDepth 100000 in
theorem wg_X4_79 : tbw (.methodLinkNest RX4 79 (yy 5) "SealedProcesses") := wt0 1263 (by decide +kernel) rfl
set_option maxRecDepth 100000 in
theorem wm_X0_give : tbw (.instanceMethod (yy 5)) := wt0 1265 (by decide +kernel) rfl
set_option maxRecDepth 100000 in
theorem wse_X0_give : tbw (.selects RX0 (yy 5) (yy 5)) := wp0 144 (by decide +kernel) rfl
set_option maxRecDepth 100000 in
theorem wc_X4_give : tbw (cwd 47) := wt0 1014 rfl rfl
set_option maxRecDepth 100000 in
theorem wg_X4_84 : tbw (.methodLink RX4 84 (yy 47)) := wt0 1267 (by decide +kernel) rfl
set_option maxRecDepth 100000 in
theorem wm_X4_give : tbw (.instanceMethod (yy 47)) := wt0 1013 (by decide +kernel) rfl
set_option maxRecDepth 100000 in
theorem wse_X4_give : tbw (.selects RX4 (yy 47) (yy 47)) := wp0 89 (by decide +kernel) rfl
set_option maxRecDepth 100000 in
theorem wc_X4_close : tbw (cwd 58) := wt0 1317 rfl rfl
set_option maxRecDepth 100000 in
theorem wg_X4_85 : tbw (.methodLink RX4 85 (yy 58)) := wt0 1331 (by decide +kernel) rfl
set_option maxRecDepth 100000 in
theorem wm_X4_close : tbw (.instanceMethod (yy 58)) := wt0 1316 (by decide +kernel) rfl
set_option maxRecDepth 100000 in
theorem wse_X4_close : tbw (.selects RX4 (yy 58) (yy 58)) := wp0 156 (by decide +kernel) rfl
set_option maxRecDepth 100000 in
theorem wg_X4_88 : tbw (.methodLinkNest RX4 88 (yy 8) "SealedProcesses") := wt0 1336 (by decide +kernel) rfl
set_option maxRecDepth 100000 in
theorem wq_X5_3 : tbw (.methodLink RX5 3 Lib.objectInit) := wt0 170 (by decide +kernel) rfl
set_option maxRecDepth 100000 in
theorem wf_X5_9 : tbw (.fieldLink RX5 9 RX5 (TX5 0).2.1 (TX5 0).2.2.1) := wt0 239 (by decide +kernel) rfl
set_option maxRecDepth 100000 in
theorem wl_X5_15 : tbw (.classLink RX5 15 "SealedProcesses$Task") := wt0 171 (by decide +kernel) rfl
set_option maxRecDepth 100000 in
theorem wo_X8 : tbw (.arrayOver (.object "SealedProcesses$Task")) := wt0 172 (by decide +kernel) rfl
set_option maxRecDepth 100000 in
theorem wf_X5_17 : tbw (.fieldLink RX5 17 RX5 (TX5 1).2.1 (TX5 1).2.2.1) := wt0 241 (by decide +kernel) rfl
set_option maxRecDepth 100000 in
theorem wf_X5_21 : tbw (.fieldLink RX5 21 RX5 (TX5 2).2.1 (TX5 2).2.2.1) := wt0 242 (by decide +kernel) rfl
set_option maxRecDepth 100000 in
theorem wl_X5_25 : tbw (.classLink RX5 25 RX0) := wt0 173 (by decide +kernel) rfl
set_option maxRecDepth 100000 in
theorem wn_X0 : tbw (.instantiable RX0 5) := wt0 174 (by decide +kernel) rfl
set_option maxRecDepth 100000 in
theorem wc_X0_init : tbw (cwd 0) := wt0 177 rfl rfl
set_option maxRecDepth 100000 in
theorem wg_X5_27 : tbw (.methodLinkNest RX5 27 (yy 0) "SealedProcesses") := wt0 175 (by decide +kernel) rfl
set_option maxRecDepth 100000 in
theorem wm_X0_init : tbw (.instanceMethod (yy 0)) := wt0 176 (by decide +kernel) rfl
set_option maxRecDepth 100000 in
theorem wf_X5_28 : tbw (.fieldLink RX5 28 RX5 (TX5 3).2.1 (TX5 3).2.2.1) := wt0 243 (by decide +kernel) rfl
set_option maxRecDepth 100000 in
theorem wl_X5_32 : tbw (.classLink RX5 32 RX4) := wt0 197 (by decide +kernel) rfl
set_option maxRecDepth 100000 in
theorem wn_X4 : tbw (.instantiable RX4 11) := wt0 198 (by decide +kernel) rfl
set_option maxRecDepth 100000 in
theorem wc_X4_init : tbw (cwd 39) := wt0 201 rfl rfl
set_option maxRecDepth 100000 in
theorem wg_X5_34 : tbw (.methodLinkNest RX5 34 (yy 39) "SealedProcesses") := wt0 199 (by decide +kernel) rfl
set_option maxRecDepth 100000 in
theorem wm_X4_init : tbw (.instanceMethod (yy 39)) := wt0 200 (by decide +kernel) rfl
set_option maxRecDepth 100000 in
theorem wf_X5_37 : tbw (.fieldLink RX5 37 RX5 (TX5 4).2.1 (TX5 4).2.2.1) := wt0 245 (by decide +kernel) rfl
set_option maxRecDepth 100000 in
theorem wf_X5_41 : tbw (.fieldLink RX5 41 RX5 (TX5 5).2.1 (TX5 5).2.2.1) := wt0 247 (by decide +kernel) rfl
set_option maxRecDepth 100000 in
theorem wf_X5_45 : tbw (.fieldLink RX5 45 RX5 (TX5 6).2.1 (TX5 6).2.2.1) := wt0 248 (by decide +kernel) rfl
set_option maxRecDepth 100000 in
theorem wf_X5_48 : tbw (.fieldLink RX5 48 RX5 (TX5 7).2.1 (TX5 7).2.2.1) := wt0 250 (by decide +kernel) rfl
set_option maxRecDepth 100000 in
theorem wf_X5_51 : tbw (.fieldLink RX5 51 RX5 (TX5 8).2.1 (TX5 8).2.2.1) := wt0 252 (by decide +kernel) rfl
set_option maxRecDepth 100000 in
theorem wf_X5_55 : tbw (.fieldLink RX5 55 RX5 (TX5 9).2.1 (TX5 9).2.2.1) := wt0 254 (by decide +kernel) rfl
set_option maxRecDepth 100000 in
theorem wf_X5_58 : tbw (.fieldLink RX5 58 RX5 (TX5 10).2.1 (TX5 10).2.2.1) := wt0 256 (by decide +kernel) rfl
set_option maxRecDepth 100000 in
theorem wf_X5_61 : tbw (.fieldLink RX5 61 RX5 (TX5 11).2.1 (TX5 11).2.2.1) := wt0 257 (by decide +kernel) rfl
set_option maxRecDepth 100000 in
theorem wf_X5_64 : tbw (.fieldLink RX5 64 RX5 (TX5 12).2.1 (TX5 12).2.2.1) := wt0 258 (by decide +kernel) rfl
set_option maxRecDepth 100000 in
theorem wf_X5_67 : tbw (.fieldLink RX5 67 RX5 (TX5 13).2.1 (TX5 13).2.2.1) := wt0 259 (by decide +kernel) rfl
set_option maxRecDepth 100000 in
theorem wf_X5_70 : tbw (.fieldLink RX5 70 RX5 (TX5 14).2.1 (TX5 14).2.2.1) := wt0 260 (by decide +kernel) rfl
set_option maxRecDepth 100000 in
theorem wc_X0_clear : tbw (cwd 1) := wt0 897 rfl rfl
set_option maxRecDepth 100000 in
theorem wg_X5_73 : tbw (.methodLinkNest RX5 73 (yy 1) "SealedProcesses") := wt0 894 (by decide +kernel) rfl
set_option maxRecDepth 100000 in
theorem wm_X0_clear : tbw (.instanceMethod (yy 1)) := wt0 896 (by decide +kernel) rfl
set_option maxRecDepth 100000 in
theorem wse_X0_clear : tbw (.selects RX0 (yy 1) (yy 1)) := wp0 80 (by decide +kernel) rfl
set_option maxRecDepth 100000 in
theorem wc_X4_clear : tbw (cwd 40) := wt0 901 rfl rfl
set_option maxRecDepth 100000 in
theorem wg_X5_76 : tbw (.methodLinkNest RX5 76 (yy 40) "SealedProcesses") := wt0 898 (by decide +kernel) rfl
set_option maxRecDepth 100000 in
theorem wm_X4_clear : tbw (.instanceMethod (yy 40)) := wt0 900 (by decide +kernel) rfl
set_option maxRecDepth 100000 in
theorem wse_X4_clear : tbw (.selects RX4 (yy 40) (yy 40)) := wp0 81 (by decide +kernel) rfl
set_option maxRecDepth 100000 in
theorem wf_X5_77 : tbw (.fieldLinkNest RX5 77 RX6 (TX6 1).2.1 (TX6 1).2.2.1 "SealedProcesses") := wt0 123 (by decide +kernel) rfl
set_option maxRecDepth 100000 in
theorem wc_X5_startTask : tbw (cwd 64) := wt0 905 rfl rfl
set_option maxRecDepth 100000 in
theorem wi_SealedProcesses_Machine : tbw (.initialized RX5) := wt0 6 (by decide +kernel) rfl
set_option maxRecDepth 100000 in
theorem wg_X5_82 : tbw (.methodLink RX5 82 (yy 64)) := wt0 902 (by decide +kernel) rfl
set_option maxRecDepth 100000 in
theorem wm_X5_startTask : tbw (.instanceMethod (yy 64)) := wt0 904 (by decide +kernel) rfl
set_option maxRecDepth 100000 in
theorem wse_X5_startTask : tbw (.selects RX5 (yy 64) (yy 64)) := wp0 82 (by decide +kernel) rfl
set_option maxRecDepth 100000 in
theorem wf_X5_86 : tbw (.fieldLinkNest RX5 86 RX6 (TX6 2).2.1 (TX6 2).2.2.1 "SealedProcesses") := wt0 126 (by decide +kernel) rfl
set_option maxRecDepth 100000 in
theorem wf_X5_90 : tbw (.fieldLinkNest RX5 90 RX6 (TX6 4).2.1 (TX6 4).2.2.1 "SealedProcesses") := wt0 130 (by decide +kernel) rfl
set_option maxRecDepth 100000 in
theorem wg_X5_93 : tbw (.methodLinkNest RX5 93 (yy 149) "SealedProcesses") := wt0 906 (by decide +kernel) rfl
set_option maxRecDepth 100000 in
theorem wf_X5_99 : tbw (.fieldLinkNest RX5 99 RX6 (TX6 5).2.1 (TX6 5).2.2.1 "SealedProcesses") := wt0 132 (by decide +kernel) rfl
set_option maxRecDepth 100000 in
theorem wf_X5_102 : tbw (.fieldLinkNest RX5 102 RX6 (TX6 3).2.1 (TX6 3).2.2.1 "SealedProcesses") := wt0 128 (by decide +kernel) rfl
set_option maxRecDepth 100000 in
theorem wc_X5_begin : tbw (cwd 66) := wt0 910 rfl rfl
set_option maxRecDepth 100000 in
theorem wg_X5_105 : tbw (.methodLink RX5 105 (yy 66)) := wt0 907 (by decide +kernel) rfl
set_option maxRecDepth 100000 in
theorem wm_X5_begin : tbw (.instanceMethod (yy 66)) := wt0 909 (by decide +kernel) rfl
set_option maxRecDepth 100000 in
theorem wse_X5_begin : tbw (.selects RX5 (yy 66) (yy 66)) := wp0 83 (by decide +kernel) rfl
set_option maxRecDepth 100000 in
theorem wf_X5_109 : tbw (.fieldLinkNest RX5 109 RX7 (TX7 0).2.1 (TX7 0).2.2.1 "SealedProcesses") := wt0 527 (by decide +kernel) rfl
set_option maxRecDepth 100000 in
theorem wc_X7_typeOfParameter : tbw (cwd 107) := wt0 630 rfl rfl
set_option maxRecDepth 100000 in
theorem wg_X5_114 : tbw (.methodLinkNest RX5 114 (yy 107) "SealedProcesses") := wt0 994 (by decide +kernel) rfl
set_option maxRecDepth 100000 in
theorem wm_X7_typeOfParameter : tbw (.instanceMethod (yy 107)) := wt0 629 (by decide +kernel) rfl
set_option maxRecDepth 100000 in
theorem wse_X7_typeOfParameter : tbw (.selects RX7 (yy 107) (yy 107)) := wp0 36 (by decide +kernel) rfl
set_option maxRecDepth 100000 in
theorem wf_X5_118 : tbw (.fieldLinkNest RX5 118 RX6 (TX6 6).2.1 (TX6 6).2.2.1 "SealedProcesses") := wt0 134 (by decide +kernel) rfl
set_option maxRecDepth 100000 in
theorem wc_X11_kindOf : tbw (cwd 207) := wt0 705 rfl rfl
set_option maxRecDepth 100000 in
theorem wg_X5_121 : tbw (.methodLinkNest RX5 121 (yy 207) "SealedProcesses") := wt0 995 (by decide +kernel) rfl
set_option maxRecDepth 100000 in
theorem wt_X11_kindOf : tbw (.static (yy 207)) := wt0 704 (by decide +kernel) rfl
set_option maxRecDepth 100000 in
theorem wc_X11_sideOfEnd : tbw (cwd 210) := wt0 771 rfl rfl
set_option maxRecDepth 100000 in
theorem wg_X5_124 : tbw (.methodLinkNest RX5 124 (yy 210) "SealedProcesses") := wt0 996 (by decide +kernel) rfl
set_option maxRecDepth 100000 in
theorem wt_X11_sideOfEnd : tbw (.static (yy 210)) := wt0 770 (by decide +kernel) rfl
set_option maxRecDepth 100000 in
theorem wc_X11_namedBy : tbw (cwd 208) := wt0 722 rfl rfl
set_option maxRecDepth 100000 in
theorem wg_X5_127 : tbw (.methodLinkNest RX5 127 (yy 208) "SealedProcesses") := wt0 997 (by decide +kernel) rfl
set_option maxRecDepth 100000 in
theorem wt_X11_namedBy : tbw (.static (yy 208)) := wt0 721 (by decide +kernel) rfl
set_option maxRecDepth 100000 in
theorem wg_X5_130 : tbw (.methodLinkNest RX5 130 (yy 148) "SealedProcesses") := wt0 998 (by decide +kernel) rfl
set_option maxRecDepth 100000 in
theorem wc_X5_bootedEnd : tbw (cwd 65) := wt0 1002 rfl rfl
set_option maxRecDepth 100000 in
theorem wg_X5_134 : tbw (.methodLink RX5 134 (yy 65)) := wt0 999 (by decide +kernel) rfl
set_option maxRecDepth 100000 in
theorem wm_X5_bootedEnd : tbw (.instanceMethod (yy 65)) := wt0 1001 (by decide +kernel) rfl
set_option maxRecDepth 100000 in
theorem wse_X5_bootedEnd : tbw (.selects RX5 (yy 65) (yy 65)) := wp0 86 (by decide +kernel) rfl
set_option maxRecDepth 100000 in
theorem wc_X8_setLocal : tbw (cwd 129) := wt0 1018 rfl rfl
set_option maxRecDepth 100000 in
theorem wi_SealedProcesses_Task : tbw (.initialized RX8) := wt0 18 (by decide +kernel) rfl
set_option maxRecDepth 100000 in
theorem wg_X5_138 : tbw (.methodLinkNest RX5 138 (yy 129) "SealedProcesses") := wt0 1015 (by decide +kernel) rfl
set_option maxRecDepth 100000 in
theorem wm_X8_setLocal : tbw (.instanceMethod (yy 129)) := wt0 1017 (by decide +kernel) rfl
set_option maxRecDepth 100000 in
theorem wse_X8_setLocal : tbw (.selects RX8 (yy 129) (yy 129)) := wp0 90 (by decide +kernel) rfl
set_option maxRecDepth 100000 in
theorem wc_X4_make : tbw (cwd 43) := wt0 1006 rfl rfl
set_option maxRecDepth 100000 in
theorem wg_X5_142 : tbw (.methodLinkNest RX5 142 (yy 43) "SealedProcesses") := wt0 1003 (by decide +kernel) rfl
set_option maxRecDepth 100000 in
theorem wm_X4_make : tbw (.instanceMethod (yy 43)) := wt0 1005 (by decide +kernel) rfl
set_option maxRecDepth 100000 in
theorem wse_X4_make : tbw (.selects RX4 (yy 43) (yy 43)) := wp0 87 (by decide +kernel) rfl
set_option maxRecDepth 100000 in
theorem wg_X5_146 : tbw (.methodLinkNest RX5 146 (yy 47) "SealedProcesses") := wt0 1011 (by decide +kernel) rfl
set_option maxRecDepth 100000 in
theorem wn_X8 : tbw (.instantiable RX8 17) := wt0 911 (by decide +kernel) rfl
set_option maxRecDepth 100000 in
theorem wc_X8_init : tbw (cwd 115) := wt0 914 rfl rfl
set_option maxRecDepth 100000 in
theorem wg_X5_150 : tbw (.methodLinkNest RX5 150 (yy 115) "SealedProcesses") := wt0 912 (by decide +kernel) rfl
set_option maxRecDepth 100000 in
theorem wm_X8_init : tbw (.instanceMethod (yy 115)) := wt0 913 (by decide +kernel) rfl
set_option maxRecDepth 100000 in
theorem wc_X8_begin : tbw (cwd 116) := wt0 987 rfl rfl
set_option maxRecDepth 100000 in
theorem wg_X5_153 : tbw (.methodLinkNest RX5 153 (yy 116) "SealedProcesses") := wt0 984 (by decide +kernel) rfl
set_option maxRecDepth 100000 in
theorem wm_X8_begin : tbw (.instanceMethod (yy 116)) := wt0 986 (by decide +kernel) rfl
set_option maxRecDepth 100000 in
theorem wse_X8_begin : tbw (.selects RX8 (yy 116) (yy 116)) := wp0 84 (by decide +kernel) rfl
set_option maxRecDepth 100000 in
theorem wc_X5_taskAt : tbw (cwd 67) := wt0 1034 rfl rfl
set_option maxRecDepth 100000 in
theorem wg_X5_156 : tbw (.methodLink RX5 156 (yy 67)) := wt0 1031 (by decide +kernel) rfl
set_option maxRecDepth 100000 in
theorem wm_X5_taskAt : tbw (.instanceMethod (yy 67)) := wt0 1033 (by decide +kernel) rfl
set_option maxRecDepth 100000 in
theorem wse_X5_taskAt : tbw (.selects RX5 (yy 67) (yy 67)) := wp0 93 (by decide +kernel) rfl
set_option maxRecDepth 100000 in
theorem wc_X8_isOver : tbw (cwd 117) := wt0 1038 rfl rfl
set_option maxRecDepth 100000 in
theorem wg_X5_160 : tbw (.methodLinkNest RX5 160 (yy 117) "SealedProcesses") := wt0 1035 (by decide +kernel) rfl
set_option maxRecDepth 100000 in
theorem wm_X8_isOver : tbw (.instanceMethod (yy 117)) := wt0 1037 (by decide +kernel) rfl
set_option maxRecDepth 100000 in
theorem wse_X8_isOver : tbw (.selects RX8 (yy 117) (yy 117)) := wp0 94 (by decide +kernel) rfl
set_option maxRecDepth 100000 in
theorem wc_X5_livingAt : tbw (cwd 68) := wt0 1030 rfl rfl
set_option maxRecDepth 100000 in
theorem wg_X5_164 : tbw (.methodLink RX5 164 (yy 68)) := wt0 1027 (by decide +kernel) rfl
set_option maxRecDepth 100000 in
theorem wm_X5_livingAt : tbw (.instanceMethod (yy 68)) := wt0 1029 (by decide +kernel) rfl
set_option maxRecDepth 100000 in
theorem wse_X5_livingAt : tbw (.selects RX5 (yy 68) (yy 68)) := wp0 92 (by decide +kernel) rfl
set_option maxRecDepth 100000 in
theorem wc_X5_outlookOf : tbw (cwd 74) := wt0 1042 rfl rfl
set_option maxRecDepth 100000 in
theorem wg_X5_167 : tbw (.methodLink RX5 167 (yy 74)) := wt0 1039 (by decide +kernel) rfl
set_option maxRecDepth 100000 in
theorem wm_X5_outlookOf : tbw (.instanceMethod (yy 74)) := wt0 1041 (by decide +kernel) rfl
set_option maxRecDepth 100000 in
theorem wse_X5_outlookOf : tbw (.selects RX5 (yy 74) (yy 74)) := wp0 95 (by decide +kernel) rfl
set_option maxRecDepth 100000 in
theorem wc_X8_collect : tbw (cwd 141) := wt0 1173 rfl rfl
set_option maxRecDepth 100000 in
theorem wg_X5_171 : tbw (.methodLinkNest RX5 171 (yy 141) "SealedProcesses") := wt0 1170 (by decide +kernel) rfl
set_option maxRecDepth 100000 in
theorem wm_X8_collect : tbw (.instanceMethod (yy 141)) := wt0 1172 (by decide +kernel) rfl
set_option maxRecDepth 100000 in
theorem wse_X8_collect : tbw (.selects RX8 (yy 141) (yy 141)) := wp0 125 (by decide +kernel) rfl
set_option maxRecDepth 100000 in
theorem wf_X5_175 : tbw (.fieldLinkNest RX5 175 RX8 (TX8 16).2.1 (TX8 16).2.2.1 "SealedProcesses") := wt0 948 (by decide +kernel) rfl
set_option maxRecDepth 100000 in
theorem wf_X5_178 : tbw (.fieldLinkNest RX5 178 RX8 (TX8 4).2.1 (TX8 4).2.2.1 "SealedProcesses") := wt0 927 (by decide +kernel) rfl
set_option maxRecDepth 100000 in
theorem wc_X5_step : tbw (cwd 77) := wt0 1099 rfl rfl
set_option maxRecDepth 100000 in
theorem wg_X5_181 : tbw (.methodLink RX5 181 (yy 77)) := wt0 1096 (by decide +kernel) rfl
set_option maxRecDepth 100000 in
theorem wm_X5_step : tbw (.instanceMethod (yy 77)) := wt0 1098 (by decide +kernel) rfl
set_option maxRecDepth 100000 in
theorem wse_X5_step : tbw (.selects RX5 (yy 77) (yy 77)) := wp0 108 (by decide +kernel) rfl
set_option maxRecDepth 100000 in
theorem wc_X5_passOn : tbw (cwd 73) := wt0 1340 rfl rfl
set_option maxRecDepth 100000 in
theorem wg_X5_185 : tbw (.methodLink RX5 185 (yy 73)) := wt0 1337 (by decide +kernel) rfl
set_option maxRecDepth 100000 in
theorem wm_X5_passOn : tbw (.instanceMethod (yy 73)) := wt0 1339 (by decide +kernel) rfl
set_option maxRecDepth 100000 in
theorem wse_X5_passOn : tbw (.selects RX5 (yy 73) (yy 73)) := wp0 161 (by decide +kernel) rfl
set_option maxRecDepth 100000 in
theorem wc_X8_addressOfNext : tbw (cwd 126) := wt0 1046 rfl rfl
set_option maxRecDepth 100000 in
theorem wg_X5_188 : tbw (.methodLinkNest RX5 188 (yy 126) "SealedProcesses") := wt0 1043 (by decide +kernel) rfl
set_option maxRecDepth 100000 in
theorem wm_X8_addressOfNext : tbw (.instanceMethod (yy 126)) := wt0 1045 (by decide +kernel) rfl
set_option maxRecDepth 100000 in
theorem wse_X8_addressOfNext : tbw (.selects RX8 (yy 126) (yy 126)) := wp0 96 (by decide +kernel) rfl
set_option maxRecDepth 100000 in
theorem wf_X5_192 : tbw (.fieldLinkNest RX5 192 RX8 (TX8 1).2.1 (TX8 1).2.2.1 "SealedProcesses") := wt0 919 (by decide +kernel) rfl
set_option maxRecDepth 100000 in
theorem wc_X9_byteAt : tbw (cwd 145) := wt0 674 rfl rfl
set_option maxRecDepth 100000 in
theorem wg_X5_196 : tbw (.methodLinkNest RX5 196 (yy 145) "SealedProcesses") := wt0 1052 (by decide +kernel) rfl
set_option maxRecDepth 100000 in
theorem wm_X9_byteAt : tbw (.instanceMethod (yy 145)) := wt0 673 (by decide +kernel) rfl
set_option maxRecDepth 100000 in
theorem wse_X9_byteAt : tbw (.selects RX9 (yy 145) (yy 145)) := wp0 45 (by decide +kernel) rfl
set_option maxRecDepth 100000 in
theorem wc_X8_highest : tbw (cwd 132) := wt0 1056 rfl rfl
set_option maxRecDepth 100000 in
theorem wg_X5_199 : tbw (.methodLinkNest RX5 199 (yy 132) "SealedProcesses") := wt0 1053 (by decide +kernel) rfl
set_option maxRecDepth 100000 in
theorem wm_X8_highest : tbw (.instanceMethod (yy 132)) := wt0 1055 (by decide +kernel) rfl
set_option maxRecDepth 100000 in
theorem wse_X8_highest : tbw (.selects RX8 (yy 132) (yy 132)) := wp0 98 (by decide +kernel) rfl
set_option maxRecDepth 100000 in
theorem wg_X5_202 : tbw (.methodLinkNest RX5 202 (yy 48) "SealedProcesses") := wt0 1061 (by decide +kernel) rfl
set_option maxRecDepth 100000 in
theorem wc_X5_sendingEnd : tbw (cwd 76) := wt0 1072 rfl rfl
set_option maxRecDepth 100000 in
theorem wg_X5_205 : tbw (.methodLink RX5 205 (yy 76)) := wt0 1069 (by decide +kernel) rfl
set_option maxRecDepth 100000 in
theorem wm_X5_sendingEnd : tbw (.instanceMethod (yy 76)) := wt0 1071 (by decide +kernel) rfl
set_option maxRecDepth 100000 in
theorem wse_X5_sendingEnd : tbw (.selects RX5 (yy 76) (yy 76)) := wp0 102 (by decide +kernel) rfl
set_option maxRecDepth 100000 in
theorem wc_X4_isFull : tbw (cwd 50) := wt0 1094 rfl rfl
set_option maxRecDepth 100000 in
theorem wg_X5_209 : tbw (.methodLinkNest RX5 209 (yy 50) "SealedProcesses") := wt0 1091 (by decide +kernel) rfl
set_option maxRecDepth 100000 in
theorem wm_X4_isFull : tbw (.instanceMethod (yy 50)) := wt0 1093 (by decide +kernel) rfl
set_option maxRecDepth 100000 in
theorem wse_X4_isFull : tbw (.selects RX4 (yy 50) (yy 50)) := wp0 107 (by decide +kernel) rfl
set_option maxRecDepth 100000 in
theorem wc_X8_height : tbw (cwd 125) := wt0 1076 rfl rfl
set_option maxRecDepth 100000 in
theorem wg_X5_213 : tbw (.methodLinkNest RX5 213 (yy 125) "SealedProcesses") := wt0 1073 (by decide +kernel) rfl
set_option maxRecDepth 100000 in
theorem wm_X8_height : tbw (.instanceMethod (yy 125)) := wt0 1075 (by decide +kernel) rfl
set_option maxRecDepth 100000 in
theorem wse_X8_height : tbw (.selects RX8 (yy 125) (yy 125)) := wp0 103 (by decide +kernel) rfl
set_option maxRecDepth 100000 in
theorem wc_X8_kindIn : tbw (cwd 130) := wt0 1084 rfl rfl
set_option maxRecDepth 100000 in
theorem wg_X5_216 : tbw (.methodLinkNest RX5 216 (yy 130) "SealedProcesses") := wt0 1081 (by decide +kernel) rfl
set_option maxRecDepth 100000 in
theorem wm_X8_kindIn : tbw (.instanceMethod (yy 130)) := wt0 1083 (by decide +kernel) rfl
set_option maxRecDepth 100000 in
theorem wse_X8_kindIn : tbw (.selects RX8 (yy 130) (yy 130)) := wp0 105 (by decide +kernel) rfl
set_option maxRecDepth 100000 in
theorem wc_X8_numberIn : tbw (cwd 131) := wt0 1060 rfl rfl
set_option maxRecDepth 100000 in
theorem wg_X5_219 : tbw (.methodLinkNest RX5 219 (yy 131) "SealedProcesses") := wt0 1085 (by decide +kernel) rfl
set_option maxRecDepth 100000 in
theorem wm_X8_numberIn : tbw (.instanceMethod (yy 131)) := wt0 1059 (by decide +kernel) rfl
set_option maxRecDepth 100000 in
theorem wse_X8_numberIn : tbw (.selects RX8 (yy 131) (yy 131)) := wp0 99 (by decide +kernel) rfl
set_option maxRecDepth 100000 in
theorem wc_X4_sendsBare : tbw (cwd 49) := wt0 1089 rfl rfl
set_option maxRecDepth 100000 in
theorem wg_X5_222 : tbw (.methodLinkNest RX5 222 (yy 49) "SealedProcesses") := wt0 1086 (by decide +kernel) rfl
set_option maxRecDepth 100000 in
theorem wm_X4_sendsBare : tbw (.instanceMethod (yy 49)) := wt0 1088 (by decide +kernel) rfl
set_option maxRecDepth 100000 in
theorem wse_X4_sendsBare : tbw (.selects RX4 (yy 49) (yy 49)) := wp0 106 (by decide +kernel) rfl
set_option maxRecDepth 100000 in
theorem wc_X5_isBare : tbw (cwd 75) := wt0 1080 rfl rfl
set_option maxRecDepth 100000 in
theorem wg_X5_226 : tbw (.methodLink RX5 226 (yy 75)) := wt0 1077 (by decide +kernel) rfl
set_option maxRecDepth 100000 in
theorem wm_X5_isBare : tbw (.instanceMethod (yy 75)) := wt0 1079 (by decide +kernel) rfl
set_option maxRecDepth 100000 in
theorem wse_X5_isBare : tbw (.selects RX5 (yy 75) (yy 75)) := wp0 104 (by decide +kernel) rfl
set_option maxRecDepth 100000 in
theorem wf_X5_230 : tbw (.fieldLinkNest RX5 230 RX8 (TX8 6).2.1 (TX8 6).2.2.1 "SealedProcesses") := wt0 934 (by decide +kernel) rfl
set_option maxRecDepth 100000 in
theorem wc_X8_place : tbw (cwd 123) := wt0 1103 rfl rfl
set_option maxRecDepth 100000 in
theorem wg_X5_231 : tbw (.methodLinkNest RX5 231 (yy 123) "SealedProcesses") := wt0 1100 (by decide +kernel) rfl
set_option maxRecDepth 100000 in
theorem wm_X8_place : tbw (.instanceMethod (yy 123)) := wt0 1102 (by decide +kernel) rfl
set_option maxRecDepth 100000 in
theorem wse_X8_place : tbw (.selects RX8 (yy 123) (yy 123)) := wp0 109 (by decide +kernel) rfl
set_option maxRecDepth 100000 in
theorem wc_X9_lengthOfInstruction : tbw (cwd 147) := wt0 806 rfl rfl
set_option maxRecDepth 100000 in
theorem wg_X5_234 : tbw (.methodLinkNest RX5 234 (yy 147) "SealedProcesses") := wt0 1104 (by decide +kernel) rfl
set_option maxRecDepth 100000 in
theorem wm_X9_lengthOfInstruction : tbw (.instanceMethod (yy 147)) := wt0 805 (by decide +kernel) rfl
set_option maxRecDepth 100000 in
theorem wse_X9_lengthOfInstruction : tbw (.selects RX9 (yy 147) (yy 147)) := wp0 70 (by decide +kernel) rfl
set_option maxRecDepth 100000 in
theorem wc_X8_goTo : tbw (cwd 124) := wt0 1108 rfl rfl
set_option maxRecDepth 100000 in
theorem wg_X5_237 : tbw (.methodLinkNest RX5 237 (yy 124) "SealedProcesses") := wt0 1105 (by decide +kernel) rfl
set_option maxRecDepth 100000 in
theorem wm_X8_goTo : tbw (.instanceMethod (yy 124)) := wt0 1107 (by decide +kernel) rfl
set_option maxRecDepth 100000 in
theorem wse_X8_goTo : tbw (.selects RX8 (yy 124) (yy 124)) := wp0 110 (by decide +kernel) rfl
set_option maxRecDepth 100000 in
theorem wc_X5_perform : tbw (cwd 78) := wt0 1112 rfl rfl
set_option maxRecDepth 100000 in
theorem wg_X5_241 : tbw (.methodLink RX5 241 (yy 78)) := wt0 1109 (by decide +kernel) rfl
set_option maxRecDepth 100000 in
theorem wm_X5_perform : tbw (.instanceMethod (yy 78)) := wt0 1111 (by decide +kernel) rfl
set_option maxRecDepth 100000 in
theorem wse_X5_perform : tbw (.selects RX5 (yy 78) (yy 78)) := wp0 111 (by decide +kernel) rfl
set_option maxRecDepth 100000 in
theorem wf_X5_245 : tbw (.fieldLinkNest RX5 245 RX8 (TX8 5).2.1 (TX8 5).2.2.1 "SealedProcesses") := wt0 931 (by decide +kernel) rfl
set_option maxRecDepth 100000 in
theorem wf_X5_248 : tbw (.fieldLinkNest RX5 248 RX8 (TX8 0).2.1 (TX8 0).2.2.1 "SealedProcesses") := wt0 917 (by decide +kernel) rfl
set_option maxRecDepth 100000 in
theorem wc_X0_freeAllOf : tbw (cwd 9) := wt0 1325 rfl rfl
set_option maxRecDepth 100000 in
theorem wg_X5_251 : tbw (.methodLinkNest RX5 251 (yy 9) "SealedProcesses") := wt0 1322 (by decide +kernel) rfl
set_option maxRecDepth 100000 in
theorem wm_X0_freeAllOf : tbw (.instanceMethod (yy 9)) := wt0 1324 (by decide +kernel) rfl
set_option maxRecDepth 100000 in
theorem wse_X0_freeAllOf : tbw (.selects RX0 (yy 9) (yy 9)) := wp0 158 (by decide +kernel) rfl
set_option maxRecDepth 100000 in
theorem wc_X4_closeAllOf : tbw (cwd 59) := wt0 1330 rfl rfl
set_option maxRecDepth 100000 in
theorem wg_X5_254 : tbw (.methodLinkNest RX5 254 (yy 59) "SealedProcesses") := wt0 1327 (by decide +kernel) rfl
set_option maxRecDepth 100000 in
theorem wm_X4_closeAllOf : tbw (.instanceMethod (yy 59)) := wt0 1329 (by decide +kernel) rfl
set_option maxRecDepth 100000 in
theorem wse_X4_closeAllOf : tbw (.selects RX4 (yy 59) (yy 59)) := wp0 159 (by decide +kernel) rfl
set_option maxRecDepth 100000 in
theorem wc_X4_settle : tbw (cwd 61) := wt0 1335 rfl rfl
set_option maxRecDepth 100000 in
theorem wg_X5_257 : tbw (.methodLinkNest RX5 257 (yy 61) "SealedProcesses") := wt0 1332 (by decide +kernel) rfl
set_option maxRecDepth 100000 in
theorem wm_X4_settle : tbw (.instanceMethod (yy 61)) := wt0 1334 (by decide +kernel) rfl
set_option maxRecDepth 100000 in
theorem wse_X4_settle : tbw (.selects RX4 (yy 61) (yy 61)) := wp0 160 (by decide +kernel) rfl
set_option maxRecDepth 100000 in
theorem wc_X5_performMove : tbw (cwd 79) := wt0 1116 rfl rfl
set_option maxRecDepth 100000 in
theorem wg_X5_260 : tbw (.methodLink RX5 260 (yy 79)) := wt0 1113 (by decide +kernel) rfl
set_option maxRecDepth 100000 in
theorem wm_X5_performMove : tbw (.instanceMethod (yy 79)) := wt0 1115 (by decide +kernel) rfl
set_option maxRecDepth 100000 in
theorem wse_X5_performMove : tbw (.selects RX5 (yy 79) (yy 79)) := wp0 112 (by decide +kernel) rfl
set_option maxRecDepth 100000 in
theorem wc_X5_performInts : tbw (cwd 80) := wt0 1133 rfl rfl
set_option maxRecDepth 100000 in
theorem wg_X5_264 : tbw (.methodLink RX5 264 (yy 80)) := wt0 1130 (by decide +kernel) rfl
set_option maxRecDepth 100000 in
theorem wm_X5_performInts : tbw (.instanceMethod (yy 80)) := wt0 1132 (by decide +kernel) rfl
set_option maxRecDepth 100000 in
theorem wse_X5_performInts : tbw (.selects RX5 (yy 80) (yy 80)) := wp0 116 (by decide +kernel) rfl
set_option maxRecDepth 100000 in
theorem wc_X5_performBlock : tbw (cwd 93) := wt0 1140 rfl rfl
set_option maxRecDepth 100000 in
theorem wg_X5_267 : tbw (.methodLink RX5 267 (yy 93)) := wt0 1137 (by decide +kernel) rfl
set_option maxRecDepth 100000 in
theorem wm_X5_performBlock : tbw (.instanceMethod (yy 93)) := wt0 1139 (by decide +kernel) rfl
set_option maxRecDepth 100000 in
theorem wse_X5_performBlock : tbw (.selects RX5 (yy 93) (yy 93)) := wp0 117 (by decide +kernel) rfl
set_option maxRecDepth 100000 in
theorem wc_X9_sizeOfRecord : tbw (cwd 152) := wt0 451 rfl rfl
set_option maxRecDepth 100000 in
theorem wg_X5_270 : tbw (.methodLinkNest RX5 270 (yy 152) "SealedProcesses") := wt0 1141 (by decide +kernel) rfl
set_option maxRecDepth 100000 in
theorem wm_X9_sizeOfRecord : tbw (.instanceMethod (yy 152)) := wt0 450 (by decide +kernel) rfl
set_option maxRecDepth 100000 in
theorem wse_X9_sizeOfRecord : tbw (.selects RX9 (yy 152) (yy 152)) := wp0 14 (by decide +kernel) rfl
set_option maxRecDepth 100000 in
theorem wc_X5_layInHeap : tbw (cwd 90) := wt0 1165 rfl rfl
set_option maxRecDepth 100000 in
theorem wg_X5_273 : tbw (.methodLink RX5 273 (yy 90)) := wt0 1162 (by decide +kernel) rfl
set_option maxRecDepth 100000 in
theorem wm_X5_layInHeap : tbw (.instanceMethod (yy 90)) := wt0 1164 (by decide +kernel) rfl
set_option maxRecDepth 100000 in
theorem wse_X5_layInHeap : tbw (.selects RX5 (yy 90) (yy 90)) := wp0 123 (by decide +kernel) rfl
set_option maxRecDepth 100000 in
theorem wk_X5_276 : tbw (.constant RX5 276 (Int32.ofInt 524288)) := wt0 1201 (by decide +kernel) rfl
set_option maxRecDepth 100000 in
theorem wc_X8_pop : tbw (cwd 128) := wt0 1129 rfl rfl
set_option maxRecDepth 100000 in
theorem wg_X5_277 : tbw (.methodLinkNest RX5 277 (yy 128) "SealedProcesses") := wt0 1126 (by decide +kernel) rfl
set_option maxRecDepth 100000 in
theorem wm_X8_pop : tbw (.instanceMethod (yy 128)) := wt0 1128 (by decide +kernel) rfl
set_option maxRecDepth 100000 in
theorem wse_X8_pop : tbw (.selects RX8 (yy 128) (yy 128)) := wp0 115 (by decide +kernel) rfl
set_option maxRecDepth 100000 in
theorem wk_X5_280 : tbw (.constant RX5 280 (Int32.ofInt 589824)) := wt0 1202 (by decide +kernel) rfl
set_option maxRecDepth 100000 in
theorem wc_X5_performNode : tbw (cwd 91) := wt0 1206 rfl rfl
set_option maxRecDepth 100000 in
theorem wg_X5_281 : tbw (.methodLink RX5 281 (yy 91)) := wt0 1203 (by decide +kernel) rfl
set_option maxRecDepth 100000 in
theorem wm_X5_performNode : tbw (.instanceMethod (yy 91)) := wt0 1205 (by decide +kernel) rfl
set_option maxRecDepth 100000 in
theorem wse_X5_performNode : tbw (.selects RX5 (yy 91) (yy 91)) := wp0 131 (by decide +kernel) rfl
set_option maxRecDepth 100000 in
theorem wc_X5_performRow : tbw (cwd 92) := wt0 1220 rfl rfl
set_option maxRecDepth 100000 in
theorem wg_X5_284 : tbw (.methodLink RX5 284 (yy 92)) := wt0 1217 (by decide +kernel) rfl
set_option maxRecDepth 100000 in
theorem wm_X5_performRow : tbw (.instanceMethod (yy 92)) := wt0 1219 (by decide +kernel) rfl
set_option maxRecDepth 100000 in
theorem wse_X5_performRow : tbw (.selects RX5 (yy 92) (yy 92)) := wp0 134 (by decide +kernel) rfl
set_option maxRecDepth 100000 in
theorem wc_X5_call : tbw (cwd 83) := wt0 1232 rfl rfl
set_option maxRecDepth 100000 in
theorem wg_X5_287 : tbw (.methodLink RX5 287 (yy 83)) := wt0 1229 (by decide +kernel) rfl
set_option maxRecDepth 100000 in
theorem wm_X5_call : tbw (.instanceMethod (yy 83)) := wt0 1231 (by decide +kernel) rfl
set_option maxRecDepth 100000 in
theorem wse_X5_call : tbw (.selects RX5 (yy 83) (yy 83)) := wp0 137 (by decide +kernel) rfl
set_option maxRecDepth 100000 in
theorem wc_X5_send : tbw (cwd 95) := wt0 1249 rfl rfl
set_option maxRecDepth 100000 in
theorem wg_X5_290 : tbw (.methodLink RX5 290 (yy 95)) := wt0 1246 (by decide +kernel) rfl
set_option maxRecDepth 100000 in
theorem wm_X5_send : tbw (.instanceMethod (yy 95)) := wt0 1248 (by decide +kernel) rfl
set_option maxRecDepth 100000 in
theorem wse_X5_send : tbw (.selects RX5 (yy 95) (yy 95)) := wp0 140 (by decide +kernel) rfl
set_option maxRecDepth 100000 in
theorem wc_X5_receive : tbw (cwd 96) := wt0 1275 rfl rfl
set_option maxRecDepth 100000 in
theorem wg_X5_293 : tbw (.methodLink RX5 293 (yy 96)) := wt0 1272 (by decide +kernel) rfl
set_option maxRecDepth 100000 in
theorem wm_X5_receive : tbw (.instanceMethod (yy 96)) := wt0 1274 (by decide +kernel) rfl
set_option maxRecDepth 100000 in
theorem wse_X5_receive : tbw (.selects RX5 (yy 96) (yy 96)) := wp0 146 (by decide +kernel) rfl
set_option maxRecDepth 100000 in
theorem wc_X5_spawn : tbw (cwd 88) := wt0 1296 rfl rfl
set_option maxRecDepth 100000 in
theorem wg_X5_296 : tbw (.methodLink RX5 296 (yy 88)) := wt0 1293 (by decide +kernel) rfl
set_option maxRecDepth 100000 in
theorem wm_X5_spawn : tbw (.instanceMethod (yy 88)) := wt0 1295 (by decide +kernel) rfl
set_option maxRecDepth 100000 in
theorem wse_X5_spawn : tbw (.selects RX5 (yy 88) (yy 88)) := wp0 151 (by decide +kernel) rfl
set_option maxRecDepth 100000 in
theorem wc_X5_performFlow : tbw (cwd 82) := wt0 1300 rfl rfl
set_option maxRecDepth 100000 in
theorem wg_X5_299 : tbw (.methodLink RX5 299 (yy 82)) := wt0 1297 (by decide +kernel) rfl
set_option maxRecDepth 100000 in
theorem wm_X5_performFlow : tbw (.instanceMethod (yy 82)) := wt0 1299 (by decide +kernel) rfl
set_option maxRecDepth 100000 in
theorem wse_X5_performFlow : tbw (.selects RX5 (yy 82) (yy 82)) := wp0 152 (by decide +kernel) rfl
set_option maxRecDepth 100000 in
theorem wc_X9_wordAt : tbw (cwd 146) := wt0 1120 rfl rfl
set_option maxRecDepth 100000 in
theorem wg_X5_302 : tbw (.methodLinkNest RX5 302 (yy 146) "SealedProcesses") := wt0 1117 (by decide +kernel) rfl
set_option maxRecDepth 100000 in
theorem wm_X9_wordAt : tbw (.instanceMethod (yy 146)) := wt0 1119 (by decide +kernel) rfl
set_option maxRecDepth 100000 in
theorem wse_X9_wordAt : tbw (.selects RX9 (yy 146) (yy 146)) := wp0 113 (by decide +kernel) rfl
set_option maxRecDepth 100000 in
theorem wc_X8_push : tbw (cwd 127) := wt0 1124 rfl rfl
set_option maxRecDepth 100000 in
theorem wg_X5_305 : tbw (.methodLinkNest RX5 305 (yy 127) "SealedProcesses") := wt0 1121 (by decide +kernel) rfl
set_option maxRecDepth 100000 in
theorem wm_X8_push : tbw (.instanceMethod (yy 127)) := wt0 1123 (by decide +kernel) rfl
set_option maxRecDepth 100000 in
theorem wse_X8_push : tbw (.selects RX8 (yy 127) (yy 127)) := wp0 114 (by decide +kernel) rfl
set_option maxRecDepth 100000 in
theorem wc_X11_isLinear : tbw (cwd 211) := wt0 652 rfl rfl
set_option maxRecDepth 100000 in
theorem wg_X5_308 : tbw (.methodLinkNest RX5 308 (yy 211) "SealedProcesses") := wt0 1125 (by decide +kernel) rfl
set_option maxRecDepth 100000 in
theorem wt_X11_isLinear : tbw (.static (yy 211)) := wt0 651 (by decide +kernel) rfl
set_option maxRecDepth 100000 in
theorem wf_X5_311 : tbw (.fieldLinkNest RX5 311 RX8 (TX8 14).2.1 (TX8 14).2.2.1 "SealedProcesses") := wt0 945 (by decide +kernel) rfl
set_option maxRecDepth 100000 in
theorem wc_X5_reckon : tbw (cwd 81) := wt0 1136 rfl rfl
set_option maxRecDepth 100000 in
theorem wg_X5_314 : tbw (.methodLink RX5 314 (yy 81)) := wt0 1134 (by decide +kernel) rfl
set_option maxRecDepth 100000 in
theorem wt_X5_reckon : tbw (.static (yy 81)) := wt0 1135 (by decide +kernel) rfl
set_option maxRecDepth 100000 in
theorem wc_X5_giveBack : tbw (cwd 87) := wt0 1304 rfl rfl
set_option maxRecDepth 100000 in
theorem wg_X5_318 : tbw (.methodLink RX5 318 (yy 87)) := wt0 1301 (by decide +kernel) rfl
set_option maxRecDepth 100000 in
theorem wm_X5_giveBack : tbw (.instanceMethod (yy 87)) := wt0 1303 (by decide +kernel) rfl
set_option maxRecDepth 100000 in
theorem wse_X5_giveBack : tbw (.selects RX5 (yy 87) (yy 87)) := wp0 153 (by decide +kernel) rfl
set_option maxRecDepth 100000 in
theorem wc_X5_openChannel : tbw (cwd 94) := wt0 1313 rfl rfl
set_option maxRecDepth 100000 in
theorem wg_X5_321 : tbw (.methodLink RX5 321 (yy 94)) := wt0 1310 (by decide +kernel) rfl
set_option maxRecDepth 100000 in
theorem wm_X5_openChannel : tbw (.instanceMethod (yy 94)) := wt0 1312 (by decide +kernel) rfl
set_option maxRecDepth 100000 in
theorem wse_X5_openChannel : tbw (.selects RX5 (yy 94) (yy 94)) := wp0 155 (by decide +kernel) rfl
set_option maxRecDepth 100000 in
theorem wg_X5_324 : tbw (.methodLinkNest RX5 324 (yy 58) "SealedProcesses") := wt0 1314 (by decide +kernel) rfl
set_option maxRecDepth 100000 in
theorem wc_X5_out : tbw (cwd 89) := wt0 1321 rfl rfl
set_option maxRecDepth 100000 in
theorem wg_X5_327 : tbw (.methodLink RX5 327 (yy 89)) := wt0 1318 (by decide +kernel) rfl
set_option maxRecDepth 100000 in
theorem wm_X5_out : tbw (.instanceMethod (yy 89)) := wt0 1320 (by decide +kernel) rfl
set_option maxRecDepth 100000 in
theorem wse_X5_out : tbw (.selects RX5 (yy 89) (yy 89)) := wp0 157 (by decide +kernel) rfl
set_option maxRecDepth 100000 in
theorem wc_X5_parametersOf : tbw (cwd 84) := wt0 1235 rfl rfl
set_option maxRecDepth 100000 in
theorem wg_X5_330 : tbw (.methodLink RX5 330 (yy 84)) := wt0 1233 (by decide +kernel) rfl
set_option maxRecDepth 100000 in
theorem wt_X5_parametersOf : tbw (.static (yy 84)) := wt0 1234 (by decide +kernel) rfl
set_option maxRecDepth 100000 in
theorem wc_X5_takeParameters : tbw (cwd 85) := wt0 1240 rfl rfl
set_option maxRecDepth 100000 in
theorem wg_X5_333 : tbw (.methodLink RX5 333 (yy 85)) := wt0 1237 (by decide +kernel) rfl
set_option maxRecDepth 100000 in
theorem wm_X5_takeParameters : tbw (.instanceMethod (yy 85)) := wt0 1239 (by decide +kernel) rfl
set_option maxRecDepth 100000 in
theorem wse_X5_takeParameters : tbw (.selects RX5 (yy 85) (yy 85)) := wp0 138 (by decide +kernel) rfl
set_option maxRecDepth 100000 in
theorem wc_X8_enter : tbw (cwd 118) := wt0 993 rfl rfl
set_option maxRecDepth 100000 in
theorem wg_X5_337 : tbw (.methodLinkNest RX5 337 (yy 118) "SealedProcesses") := wt0 1241 (by decide +kernel) rfl
set_option maxRecDepth 100000 in
theorem wm_X8_enter : tbw (.instanceMethod (yy 118)) := wt0 992 (by decide +kernel) rfl
set_option maxRecDepth 100000 in
theorem wse_X8_enter : tbw (.selects RX8 (yy 118) (yy 118)) := wp0 85 (by decide +kernel) rfl
set_option maxRecDepth 100000 in
theorem wc_X5_layParameters : tbw (cwd 86) := wt0 1245 rfl rfl
set_option maxRecDepth 100000 in
theorem wg_X5_340 : tbw (.methodLink RX5 340 (yy 86)) := wt0 1242 (by decide +kernel) rfl
set_option maxRecDepth 100000 in
theorem wm_X5_layParameters : tbw (.instanceMethod (yy 86)) := wt0 1244 (by decide +kernel) rfl
set_option maxRecDepth 100000 in
theorem wse_X5_layParameters : tbw (.selects RX5 (yy 86) (yy 86)) := wp0 139 (by decide +kernel) rfl
set_option maxRecDepth 100000 in
theorem wq_X5_343 : tbw (.methodLink RX5 343 Lib.Math.min.name) := wt0 1236 (by decide +kernel) rfl
set_option maxRecDepth 100000 in
theorem wc_X8_routine : tbw (cwd 121) := wt0 1050 rfl rfl
set_option maxRecDepth 100000 in
theorem wg_X5_349 : tbw (.methodLinkNest RX5 349 (yy 121) "SealedProcesses") := wt0 1305 (by decide +kernel) rfl
set_option maxRecDepth 100000 in
theorem wm_X8_routine : tbw (.instanceMethod (yy 121)) := wt0 1049 (by decide +kernel) rfl
set_option maxRecDepth 100000 in
theorem wse_X8_routine : tbw (.selects RX8 (yy 121) (yy 121)) := wp0 97 (by decide +kernel) rfl
set_option maxRecDepth 100000 in
theorem wf_X5_353 : tbw (.fieldLinkNest RX5 353 RX7 (TX7 2).2.1 (TX7 2).2.2.1 "SealedProcesses") := wt0 534 (by decide +kernel) rfl
set_option maxRecDepth 100000 in
theorem wf_X5_356 : tbw (.fieldLinkNest RX5 356 RX8 (TX8 7).2.1 (TX8 7).2.2.1 "SealedProcesses") := wt0 937 (by decide +kernel) rfl
set_option maxRecDepth 100000 in
theorem wc_X8_leave : tbw (cwd 119) := wt0 1309 rfl rfl
set_option maxRecDepth 100000 in
theorem wg_X5_359 : tbw (.methodLinkNest RX5 359 (yy 119) "SealedProcesses") := wt0 1306 (by decide +kernel) rfl
set_option maxRecDepth 100000 in
theorem wm_X8_leave : tbw (.instanceMethod (yy 119)) := wt0 1308 (by decide +kernel) rfl
set_option maxRecDepth 100000 in
theorem wse_X8_leave : tbw (.selects RX8 (yy 119) (yy 119)) := wp0 154 (by decide +kernel) rfl
set_option maxRecDepth 100000 in
theorem wf_X5_362 : tbw (.fieldLinkNest RX5 362 RX8 (TX8 2).2.1 (TX8 2).2.2.1 "SealedProcesses") := wt0 922 (by decide +kernel) rfl
set_option maxRecDepth 100000 in
theorem wf_X5_365 : tbw (.fieldLinkNest RX5 365 RX8 (TX8 3).2.1 (TX8 3).2.2.1 "SealedProcesses") := wt0 925 (by decide +kernel) rfl
set_option maxRecDepth 100000 in
theorem wg_X5_368 : tbw (.methodLinkNest RX5 368 (yy 57) "SealedProcesses") := wt0 1292 (by decide +kernel) rfl
set_option maxRecDepth 100000 in
theorem wc_X8_room : tbw (cwd 136) := wt0 1169 rfl rfl
set_option maxRecDepth 100000 in
theorem wg_X5_371 : tbw (.methodLinkNest RX5 371 (yy 136) "SealedProcesses") := wt0 1166 (by decide +kernel) rfl
set_option maxRecDepth 100000 in
theorem wm_X8_room : tbw (.instanceMethod (yy 136)) := wt0 1168 (by decide +kernel) rfl
set_option maxRecDepth 100000 in
theorem wse_X8_room : tbw (.selects RX8 (yy 136) (yy 136)) := wp0 124 (by decide +kernel) rfl
set_option maxRecDepth 100000 in
theorem wc_X8_make : tbw (cwd 137) := wt0 1195 rfl rfl
set_option maxRecDepth 100000 in
theorem wg_X5_374 : tbw (.methodLinkNest RX5 374 (yy 137) "SealedProcesses") := wt0 1192 (by decide +kernel) rfl
set_option maxRecDepth 100000 in
theorem wm_X8_make : tbw (.instanceMethod (yy 137)) := wt0 1194 (by decide +kernel) rfl
set_option maxRecDepth 100000 in
theorem wse_X8_make : tbw (.selects RX8 (yy 137) (yy 137)) := wp0 129 (by decide +kernel) rfl
set_option maxRecDepth 100000 in
theorem wc_X8_setCell : tbw (cwd 135) := wt0 1200 rfl rfl
set_option maxRecDepth 100000 in
theorem wg_X5_376 : tbw (.methodLinkNest RX5 376 (yy 135) "SealedProcesses") := wt0 1207 (by decide +kernel) rfl
set_option maxRecDepth 100000 in
theorem wm_X8_setCell : tbw (.instanceMethod (yy 135)) := wt0 1199 (by decide +kernel) rfl
set_option maxRecDepth 100000 in
theorem wse_X8_setCell : tbw (.selects RX8 (yy 135) (yy 135)) := wp0 130 (by decide +kernel) rfl
set_option maxRecDepth 100000 in
theorem wc_X8_kindOfField : tbw (cwd 140) := wt0 1211 rfl rfl
set_option maxRecDepth 100000 in
theorem wg_X5_379 : tbw (.methodLinkNest RX5 379 (yy 140) "SealedProcesses") := wt0 1208 (by decide +kernel) rfl
set_option maxRecDepth 100000 in
theorem wm_X8_kindOfField : tbw (.instanceMethod (yy 140)) := wt0 1210 (by decide +kernel) rfl
set_option maxRecDepth 100000 in
theorem wse_X8_kindOfField : tbw (.selects RX8 (yy 140) (yy 140)) := wp0 132 (by decide +kernel) rfl
set_option maxRecDepth 100000 in
theorem wc_X8_cellAt : tbw (cwd 134) := wt0 1215 rfl rfl
set_option maxRecDepth 100000 in
theorem wg_X5_382 : tbw (.methodLinkNest RX5 382 (yy 134) "SealedProcesses") := wt0 1216 (by decide +kernel) rfl
set_option maxRecDepth 100000 in
theorem wm_X8_cellAt : tbw (.instanceMethod (yy 134)) := wt0 1214 (by decide +kernel) rfl
set_option maxRecDepth 100000 in
theorem wse_X8_cellAt : tbw (.selects RX8 (yy 134) (yy 134)) := wp0 133 (by decide +kernel) rfl
set_option maxRecDepth 100000 in
theorem wc_X8_lengthOf : tbw (cwd 138) := wt0 1224 rfl rfl
set_option maxRecDepth 100000 in
theorem wg_X5_385 : tbw (.methodLinkNest RX5 385 (yy 138) "SealedProcesses") := wt0 1221 (by decide +kernel) rfl
set_option maxRecDepth 100000 in
theorem wm_X8_lengthOf : tbw (.instanceMethod (yy 138)) := wt0 1223 (by decide +kernel) rfl
set_option maxRecDepth 100000 in
theorem wse_X8_lengthOf : tbw (.selects RX8 (yy 138) (yy 138)) := wp0 135 (by decide +kernel) rfl
set_option maxRecDepth 100000 in
theorem wc_X8_kindOfItem : tbw (cwd 139) := wt0 1228 rfl rfl
set_option maxRecDepth 100000 in
theorem wg_X5_388 : tbw (.methodLinkNest RX5 388 (yy 139) "SealedProcesses") := wt0 1225 (by decide +kernel) rfl
set_option maxRecDepth 100000 in
theorem wm_X8_kindOfItem : tbw (.instanceMethod (yy 139)) := wt0 1227 (by decide +kernel) rfl
set_option maxRecDepth 100000 in
theorem wse_X8_kindOfItem : tbw (.selects RX8 (yy 139) (yy 139)) := wp0 136 (by decide +kernel) rfl
set_option maxRecDepth 100000 in
theorem wc_X0_make : tbw (cwd 2) := wt0 1145 rfl rfl
set_option maxRecDepth 100000 in
theorem wg_X5_391 : tbw (.methodLinkNest RX5 391 (yy 2) "SealedProcesses") := wt0 1142 (by decide +kernel) rfl
set_option maxRecDepth 100000 in
theorem wm_X0_make : tbw (.instanceMethod (yy 2)) := wt0 1144 (by decide +kernel) rfl
set_option maxRecDepth 100000 in
theorem wse_X0_make : tbw (.selects RX0 (yy 2) (yy 2)) := wp0 118 (by decide +kernel) rfl
set_option maxRecDepth 100000 in
theorem wc_X0_see : tbw (cwd 6) := wt0 1149 rfl rfl
set_option maxRecDepth 100000 in
theorem wg_X5_393 : tbw (.methodLinkNest RX5 393 (yy 6) "SealedProcesses") := wt0 1146 (by decide +kernel) rfl
set_option maxRecDepth 100000 in
theorem wm_X0_see : tbw (.instanceMethod (yy 6)) := wt0 1148 (by decide +kernel) rfl
set_option maxRecDepth 100000 in
theorem wse_X0_see : tbw (.selects RX0 (yy 6) (yy 6)) := wp0 119 (by decide +kernel) rfl
set_option maxRecDepth 100000 in
theorem wc_X0_set : tbw (cwd 7) := wt0 1157 rfl rfl
set_option maxRecDepth 100000 in
theorem wg_X5_396 : tbw (.methodLinkNest RX5 396 (yy 7) "SealedProcesses") := wt0 1154 (by decide +kernel) rfl
set_option maxRecDepth 100000 in
theorem wm_X0_set : tbw (.instanceMethod (yy 7)) := wt0 1156 (by decide +kernel) rfl
set_option maxRecDepth 100000 in
theorem wse_X0_set : tbw (.selects RX0 (yy 7) (yy 7)) := wp0 121 (by decide +kernel) rfl
set_option maxRecDepth 100000 in
theorem wg_X5_399 : tbw (.methodLinkNest RX5 399 (yy 8) "SealedProcesses") := wt0 1158 (by decide +kernel) rfl
set_option maxRecDepth 100000 in
theorem wc_X4_moveOn : tbw (cwd 51) := wt0 1253 rfl rfl
set_option maxRecDepth 100000 in
theorem wg_X5_401 : tbw (.methodLinkNest RX5 401 (yy 51) "SealedProcesses") := wt0 1250 (by decide +kernel) rfl
set_option maxRecDepth 100000 in
theorem wm_X4_moveOn : tbw (.instanceMethod (yy 51)) := wt0 1252 (by decide +kernel) rfl
set_option maxRecDepth 100000 in
theorem wse_X4_moveOn : tbw (.selects RX4 (yy 51) (yy 51)) := wp0 141 (by decide +kernel) rfl
set_option maxRecDepth 100000 in
theorem wc_X4_send : tbw (cwd 52) := wt0 1258 rfl rfl
set_option maxRecDepth 100000 in
theorem wg_X5_404 : tbw (.methodLinkNest RX5 404 (yy 52) "SealedProcesses") := wt0 1255 (by decide +kernel) rfl
set_option maxRecDepth 100000 in
theorem wm_X4_send : tbw (.instanceMethod (yy 52)) := wt0 1257 (by decide +kernel) rfl
set_option maxRecDepth 100000 in
theorem wse_X4_send : tbw (.selects RX4 (yy 52) (yy 52)) := wp0 142 (by decide +kernel) rfl
set_option maxRecDepth 100000 in
theorem wc_X4_nextMessage : tbw (cwd 53) := wt0 1279 rfl rfl
set_option maxRecDepth 100000 in
theorem wg_X5_407 : tbw (.methodLinkNest RX5 407 (yy 53) "SealedProcesses") := wt0 1276 (by decide +kernel) rfl
set_option maxRecDepth 100000 in
theorem wm_X4_nextMessage : tbw (.instanceMethod (yy 53)) := wt0 1278 (by decide +kernel) rfl
set_option maxRecDepth 100000 in
theorem wse_X4_nextMessage : tbw (.selects RX4 (yy 53) (yy 53)) := wp0 147 (by decide +kernel) rfl
set_option maxRecDepth 100000 in
theorem wc_X4_nextLoadKind : tbw (cwd 54) := wt0 1283 rfl rfl
set_option maxRecDepth 100000 in
theorem wg_X5_410 : tbw (.methodLinkNest RX5 410 (yy 54) "SealedProcesses") := wt0 1280 (by decide +kernel) rfl
set_option maxRecDepth 100000 in
theorem wm_X4_nextLoadKind : tbw (.instanceMethod (yy 54)) := wt0 1282 (by decide +kernel) rfl
set_option maxRecDepth 100000 in
theorem wse_X4_nextLoadKind : tbw (.selects RX4 (yy 54) (yy 54)) := wp0 148 (by decide +kernel) rfl
set_option maxRecDepth 100000 in
theorem wc_X4_nextLoad : tbw (cwd 55) := wt0 1287 rfl rfl
set_option maxRecDepth 100000 in
theorem wg_X5_413 : tbw (.methodLinkNest RX5 413 (yy 55) "SealedProcesses") := wt0 1284 (by decide +kernel) rfl
set_option maxRecDepth 100000 in
theorem wm_X4_nextLoad : tbw (.instanceMethod (yy 55)) := wt0 1286 (by decide +kernel) rfl
set_option maxRecDepth 100000 in
theorem wse_X4_nextLoad : tbw (.selects RX4 (yy 55) (yy 55)) := wp0 149 (by decide +kernel) rfl
set_option maxRecDepth 100000 in
theorem wc_X4_removeNext : tbw (cwd 56) := wt0 1291 rfl rfl
set_option maxRecDepth 100000 in
theorem wg_X5_416 : tbw (.methodLinkNest RX5 416 (yy 56) "SealedProcesses") := wt0 1288 (by decide +kernel) rfl
set_option maxRecDepth 100000 in
theorem wm_X4_removeNext : tbw (.instanceMethod (yy 56)) := wt0 1290 (by decide +kernel) rfl
set_option maxRecDepth 100000 in
theorem wse_X4_removeNext : tbw (.selects RX4 (yy 56) (yy 56)) := wp0 150 (by decide +kernel) rfl
set_option maxRecDepth 100000 in
theorem wq_X6_3 : tbw (.methodLink RX6 3 Lib.objectInit) := wt0 117 (by decide +kernel) rfl
set_option maxRecDepth 100000 in
theorem wl_X6_9 : tbw (.classLink RX6 9 RX1) := wt0 118 (by decide +kernel) rfl
set_option maxRecDepth 100000 in
theorem wg_X6_11 : tbw (.methodLinkNest RX6 11 (yy 10) "SealedProcesses") := wt0 119 (by decide +kernel) rfl
set_option maxRecDepth 100000 in
theorem wf_X6_12 : tbw (.fieldLink RX6 12 RX6 (TX6 0).2.1 (TX6 0).2.2.1) := wt0 121 (by decide +kernel) rfl
set_option maxRecDepth 100000 in
theorem wf_X6_18 : tbw (.fieldLink RX6 18 RX6 (TX6 1).2.1 (TX6 1).2.2.1) := wt0 122 (by decide +kernel) rfl
set_option maxRecDepth 100000 in
theorem wl_X6_22 : tbw (.classLink RX6 22 "SealedProcesses$TypedModule") := wt0 120 (by decide +kernel) rfl
set_option maxRecDepth 100000 in
theorem wo_X9 : tbw (.arrayOver (.object "SealedProcesses$TypedModule")) := wt0 29 (by decide +kernel) rfl
set_option maxRecDepth 100000 in
theorem wf_X6_24 : tbw (.fieldLink RX6 24 RX6 (TX6 2).2.1 (TX6 2).2.2.1) := wt0 125 (by decide +kernel) rfl
set_option maxRecDepth 100000 in
theorem wf_X6_28 : tbw (.fieldLink RX6 28 RX6 (TX6 3).2.1 (TX6 3).2.2.1) := wt0 127 (by decide +kernel) rfl
set_option maxRecDepth 100000 in
theorem wf_X6_32 : tbw (.fieldLink RX6 32 RX6 (TX6 4).2.1 (TX6 4).2.2.1) := wt0 129 (by decide +kernel) rfl
set_option maxRecDepth 100000 in
theorem wf_X6_35 : tbw (.fieldLink RX6 35 RX6 (TX6 5).2.1 (TX6 5).2.2.1) := wt0 131 (by decide +kernel) rfl
set_option maxRecDepth 100000 in
theorem wf_X6_38 : tbw (.fieldLink RX6 38 RX6 (TX6 6).2.1 (TX6 6).2.2.1) := wt0 133 (by decide +kernel) rfl
set_option maxRecDepth 100000 in
theorem wf_X6_41 : tbw (.fieldLink RX6 41 RX6 (TX6 7).2.1 (TX6 7).2.2.1) := wt0 135 (by decide +kernel) rfl
set_option maxRecDepth 100000 in
theorem wf_X6_44 : tbw (.fieldLink RX6 44 RX6 (TX6 8).2.1 (TX6 8).2.2.1) := wt0 136 (by decide +kernel) rfl
set_option maxRecDepth 100000 in
theorem wf_X6_47 : tbw (.fieldLink RX6 47 RX6 (TX6 9).2.1 (TX6 9).2.2.1) := wt0 137 (by decide +kernel) rfl
set_option maxRecDepth 100000 in
theorem wf_X6_50 : tbw (.fieldLink RX6 50 RX6 (TX6 10).2.1 (TX6 10).2.2.1) := wt0 138 (by decide +kernel) rfl
set_option maxRecDepth 100000 in
theorem wf_X6_53 : tbw (.fieldLink RX6 53 RX6 (TX6 11).2.1 (TX6 11).2.2.1) := wt0 139 (by decide +kernel) rfl
set_option maxRecDepth 100000 in
theorem wg_X6_56 : tbw (.methodLinkNest RX6 56 (yy 11) "SealedProcesses") := wt0 844 (by decide +kernel) rfl
set_option maxRecDepth 100000 in
theorem wg_X6_60 : tbw (.methodLinkNest RX6 60 (yy 16) "SealedProcesses") := wt0 845 (by decide +kernel) rfl
set_option maxRecDepth 100000 in
theorem wg_X6_64 : tbw (.methodLinkNest RX6 64 (yy 12) "SealedProcesses") := wt0 846 (by decide +kernel) rfl
set_option maxRecDepth 100000 in
theorem wc_X6_readProcess : tbw (cwd 99) := wt0 850 rfl rfl
set_option maxRecDepth 100000 in
theorem wi_SealedProcesses_Manifest : tbw (.initialized RX6) := wt0 5 (by decide +kernel) rfl
set_option maxRecDepth 100000 in
theorem wg_X6_68 : tbw (.methodLink RX6 68 (yy 99)) := wt0 847 (by decide +kernel) rfl
set_option maxRecDepth 100000 in
theorem wm_X6_readProcess : tbw (.instanceMethod (yy 99)) := wt0 849 (by decide +kernel) rfl
set_option maxRecDepth 100000 in
theorem wse_X6_readProcess : tbw (.selects RX6 (yy 99) (yy 99)) := wp0 73 (by decide +kernel) rfl
set_option maxRecDepth 100000 in
theorem wg_X6_72 : tbw (.methodLinkNest RX6 72 (yy 18) "SealedProcesses") := wt0 889 (by decide +kernel) rfl
set_option maxRecDepth 100000 in
theorem wf_X6_75 : tbw (.fieldLinkNest RX6 75 RX1 (TX1 3).2.1 (TX1 3).2.2.1 "SealedProcesses") := wt0 48 (by decide +kernel) rfl
set_option maxRecDepth 100000 in
theorem wg_X6_78 : tbw (.methodLinkNest RX6 78 (yy 13) "SealedProcesses") := wt0 852 (by decide +kernel) rfl
set_option maxRecDepth 100000 in
theorem wg_X6_82 : tbw (.methodLinkNest RX6 82 (yy 15) "SealedProcesses") := wt0 851 (by decide +kernel) rfl
set_option maxRecDepth 100000 in
theorem wg_X6_86 : tbw (.methodLinkNest RX6 86 (yy 149) "SealedProcesses") := wt0 853 (by decide +kernel) rfl
set_option maxRecDepth 100000 in
theorem wc_X6_isBootable : tbw (cwd 100) := wt0 856 rfl rfl
set_option maxRecDepth 100000 in
theorem wg_X6_90 : tbw (.methodLink RX6 90 (yy 100)) := wt0 854 (by decide +kernel) rfl
set_option maxRecDepth 100000 in
theorem wt_X6_isBootable : tbw (.static (yy 100)) := wt0 855 (by decide +kernel) rfl
set_option maxRecDepth 100000 in
theorem wf_X6_94 : tbw (.fieldLinkNest RX6 94 RX7 (TX7 0).2.1 (TX7 0).2.2.1 "SealedProcesses") := wt0 528 (by decide +kernel) rfl
set_option maxRecDepth 100000 in
theorem wg_X6_99 : tbw (.methodLinkNest RX6 99 (yy 107) "SealedProcesses") := wt0 857 (by decide +kernel) rfl
set_option maxRecDepth 100000 in
theorem wg_X6_103 : tbw (.methodLinkNest RX6 103 (yy 17) "SealedProcesses") := wt0 860 (by decide +kernel) rfl
set_option maxRecDepth 100000 in
theorem wc_X6_readEnd : tbw (cwd 101) := wt0 864 rfl rfl
set_option maxRecDepth 100000 in
theorem wg_X6_106 : tbw (.methodLink RX6 106 (yy 101)) := wt0 861 (by decide +kernel) rfl
set_option maxRecDepth 100000 in
theorem wm_X6_readEnd : tbw (.instanceMethod (yy 101)) := wt0 863 (by decide +kernel) rfl
set_option maxRecDepth 100000 in
theorem wse_X6_readEnd : tbw (.selects RX6 (yy 101) (yy 101)) := wp0 74 (by decide +kernel) rfl
set_option maxRecDepth 100000 in
theorem wg_X6_110 : tbw (.methodLinkNest RX6 110 (yy 207) "SealedProcesses") := wt0 858 (by decide +kernel) rfl
set_option maxRecDepth 100000 in
theorem wc_X11_stateOfEnd : tbw (cwd 209) := wt0 768 rfl rfl
set_option maxRecDepth 100000 in
theorem wg_X6_113 : tbw (.methodLinkNest RX6 113 (yy 209) "SealedProcesses") := wt0 859 (by decide +kernel) rfl
set_option maxRecDepth 100000 in
theorem wt_X11_stateOfEnd : tbw (.static (yy 209)) := wt0 767 (by decide +kernel) rfl
set_option maxRecDepth 100000 in
theorem wf_X6_116 : tbw (.fieldLinkNest RX6 116 RX7 (TX7 2).2.1 (TX7 2).2.2.1 "SealedProcesses") := wt0 532 (by decide +kernel) rfl
set_option maxRecDepth 100000 in
theorem wg_X6_119 : tbw (.methodLinkNest RX6 119 (yy 210) "SealedProcesses") := wt0 865 (by decide +kernel) rfl
set_option maxRecDepth 100000 in
theorem wg_X6_122 : tbw (.methodLinkNest RX6 122 (yy 208) "SealedProcesses") := wt0 866 (by decide +kernel) rfl
set_option maxRecDepth 100000 in
theorem wc_X6_areAlike : tbw (cwd 102) := wt0 870 rfl rfl
set_option maxRecDepth 100000 in
theorem wg_X6_125 : tbw (.methodLink RX6 125 (yy 102)) := wt0 867 (by decide +kernel) rfl
set_option maxRecDepth 100000 in
theorem wm_X6_areAlike : tbw (.instanceMethod (yy 102)) := wt0 869 (by decide +kernel) rfl
set_option maxRecDepth 100000 in
theorem wse_X6_areAlike : tbw (.selects RX6 (yy 102) (yy 102)) := wp0 75 (by decide +kernel) rfl
set_option maxRecDepth 100000 in
theorem wc_X6_addPair : tbw (cwd 103) := wt0 874 rfl rfl
set_option maxRecDepth 100000 in
theorem wg_X6_129 : tbw (.methodLink RX6 129 (yy 103)) := wt0 871 (by decide +kernel) rfl
set_option maxRecDepth 100000 in
theorem wm_X6_addPair : tbw (.instanceMethod (yy 103)) := wt0 873 (by decide +kernel) rfl
set_option maxRecDepth 100000 in
theorem wse_X6_addPair : tbw (.selects RX6 (yy 103) (yy 103)) := wp0 76 (by decide +kernel) rfl
set_option maxRecDepth 100000 in
theorem wg_X6_132 : tbw (.methodLinkNest RX6 132 (yy 148) "SealedProcesses") := wt0 875 (by decide +kernel) rfl
set_option maxRecDepth 100000 in
theorem wc_X6_isPairAlike : tbw (cwd 104) := wt0 879 rfl rfl
set_option maxRecDepth 100000 in
theorem wg_X6_136 : tbw (.methodLink RX6 136 (yy 104)) := wt0 876 (by decide +kernel) rfl
set_option maxRecDepth 100000 in
theorem wm_X6_isPairAlike : tbw (.instanceMethod (yy 104)) := wt0 878 (by decide +kernel) rfl
set_option maxRecDepth 100000 in
theorem wse_X6_isPairAlike : tbw (.selects RX6 (yy 104) (yy 104)) := wp0 77 (by decide +kernel) rfl
set_option maxRecDepth 100000 in
theorem wf_X6_140 : tbw (.fieldLinkNest RX6 140 RX2 (TX2q 0).2.1 (TX2q 0).2.2.1 "SealedProcesses") := wt0 482 (by decide +kernel) rfl
set_option maxRecDepth 100000 in
theorem wc_X2_turnAt : tbw (cwd 20) := wt0 779 rfl rfl
set_option maxRecDepth 100000 in
theorem wg_X6_145 : tbw (.methodLinkNest RX6 145 (yy 20) "SealedProcesses") := wt0 880 (by decide +kernel) rfl
set_option maxRecDepth 100000 in
theorem wm_X2_turnAt : tbw (.instanceMethod (yy 20)) := wt0 778 (by decide +kernel) rfl
set_option maxRecDepth 100000 in
theorem wse_X2_turnAt : tbw (.selects RX2 (yy 20) (yy 20)) := wp0 64 (by decide +kernel) rfl
set_option maxRecDepth 100000 in
theorem wc_X2_countAt : tbw (cwd 21) := wt0 802 rfl rfl
set_option maxRecDepth 100000 in
theorem wg_X6_148 : tbw (.methodLinkNest RX6 148 (yy 21) "SealedProcesses") := wt0 881 (by decide +kernel) rfl
set_option maxRecDepth 100000 in
theorem wm_X2_countAt : tbw (.instanceMethod (yy 21)) := wt0 801 (by decide +kernel) rfl
set_option maxRecDepth 100000 in
theorem wse_X2_countAt : tbw (.selects RX2 (yy 21) (yy 21)) := wp0 69 (by decide +kernel) rfl
set_option maxRecDepth 100000 in
theorem wg_X6_151 : tbw (.methodLinkNest RX6 151 (yy 25) "SealedProcesses") := wt0 882 (by decide +kernel) rfl
set_option maxRecDepth 100000 in
theorem wc_X2_loadOf : tbw (cwd 24) := wt0 790 rfl rfl
set_option maxRecDepth 100000 in
theorem wg_X6_154 : tbw (.methodLinkNest RX6 154 (yy 24) "SealedProcesses") := wt0 883 (by decide +kernel) rfl
set_option maxRecDepth 100000 in
theorem wm_X2_loadOf : tbw (.instanceMethod (yy 24)) := wt0 789 (by decide +kernel) rfl
set_option maxRecDepth 100000 in
theorem wse_X2_loadOf : tbw (.selects RX2 (yy 24) (yy 24)) := wp0 66 (by decide +kernel) rfl
set_option maxRecDepth 100000 in
theorem wc_X6_isLoadAlike : tbw (cwd 105) := wt0 887 rfl rfl
set_option maxRecDepth 100000 in
theorem wg_X6_157 : tbw (.methodLink RX6 157 (yy 105)) := wt0 884 (by decide +kernel) rfl
set_option maxRecDepth 100000 in
theorem wm_X6_isLoadAlike : tbw (.instanceMethod (yy 105)) := wt0 886 (by decide +kernel) rfl
set_option maxRecDepth 100000 in
theorem wse_X6_isLoadAlike : tbw (.selects RX6 (yy 105) (yy 105)) := wp0 78 (by decide +kernel) rfl
set_option maxRecDepth 100000 in
theorem wg_X6_160 : tbw (.methodLinkNest RX6 160 (yy 152) "SealedProcesses") := wt0 888 (by decide +kernel) rfl
set_option maxRecDepth 100000 in
theorem wq_X7_3 : tbw (.methodLink RX7 3 Lib.objectInit) := wt0 523 (by decide +kernel) rfl
set_option maxRecDepth 100000 in
theorem wf_X7_9 : tbw (.fieldLink RX7 9 RX7 (TX7 6).2.1 (TX7 6).2.2.1) := wt0 548 (by decide +kernel) rfl
set_option maxRecDepth 100000 in
theorem wf_X7_15 : tbw (.fieldLink RX7 15 RX7 (TX7 8).2.1 (TX7 8).2.2.1) := wt0 551 (by decide +kernel) rfl
set_option maxRecDepth 100000 in
theorem wf_X7_19 : tbw (.fieldLink RX7 19 RX7 (TX7 9).2.1 (TX7 9).2.2.1) := wt0 552 (by decide +kernel) rfl
set_option maxRecDepth 100000 in
theorem wf_X7_22 : tbw (.fieldLink RX7 22 RX7 (TX7 1).2.1 (TX7 1).2.2.1) := wt0 530 (by decide +kernel) rfl
set_option maxRecDepth 100000 in
theorem wf_X7_25 : tbw (.fieldLink RX7 25 RX7 (TX7 0).2.1 (TX7 0).2.2.1) := wt0 525 (by decide +kernel) rfl
set_option maxRecDepth 100000 in
theorem wf_X7_28 : tbw (.fieldLink RX7 28 RX7 (TX7 2).2.1 (TX7 2).2.2.1) := wt0 531 (by decide +kernel) rfl
set_option maxRecDepth 100000 in
theorem wf_X7_31 : tbw (.fieldLink RX7 31 RX7 (TX7 3).2.1 (TX7 3).2.2.1) := wt0 535 (by decide +kernel) rfl
set_option maxRecDepth 100000 in
theorem wf_X7_34 : tbw (.fieldLink RX7 34 RX7 (TX7 4).2.1 (TX7 4).2.2.1) := wt0 539 (by decide +kernel) rfl
set_option maxRecDepth 100000 in
theorem wf_X7_37 : tbw (.fieldLink RX7 37 RX7 (TX7 5).2.1 (TX7 5).2.2.1) := wt0 543 (by decide +kernel) rfl
set_option maxRecDepth 100000 in
theorem wq_X7_40 : tbw (.methodLink RX7 40 Lib.Math.max.name) := wt0 524 (by decide +kernel) rfl
set_option maxRecDepth 100000 in
theorem wf_X7_46 : tbw (.fieldLink RX7 46 RX7 (TX7 7).2.1 (TX7 7).2.2.1) := wt0 550 (by decide +kernel) rfl
set_option maxRecDepth 100000 in
theorem wq_X8_5 : tbw (.methodLink RX8 5 Lib.objectInit) := wt0 915 (by decide +kernel) rfl
set_option maxRecDepth 100000 in
theorem wf_X8_11 : tbw (.fieldLink RX8 11 RX8 (TX8 2).2.1 (TX8 2).2.2.1) := wt0 920 (by decide +kernel) rfl
set_option maxRecDepth 100000 in
theorem wf_X8_15 : tbw (.fieldLink RX8 15 RX8 (TX8 3).2.1 (TX8 3).2.2.1) := wt0 923 (by decide +kernel) rfl
set_option maxRecDepth 100000 in
theorem wf_X8_18 : tbw (.fieldLink RX8 18 RX8 (TX8 4).2.1 (TX8 4).2.2.1) := wt0 926 (by decide +kernel) rfl
set_option maxRecDepth 100000 in
theorem wf_X8_21 : tbw (.fieldLink RX8 21 RX8 (TX8 5).2.1 (TX8 5).2.2.1) := wt0 929 (by decide +kernel) rfl
set_option maxRecDepth 100000 in
theorem wf_X8_24 : tbw (.fieldLink RX8 24 RX8 (TX8 6).2.1 (TX8 6).2.2.1) := wt0 932 (by decide +kernel) rfl
set_option maxRecDepth 100000 in
theorem wf_X8_27 : tbw (.fieldLink RX8 27 RX8 (TX8 7).2.1 (TX8 7).2.2.1) := wt0 935 (by decide +kernel) rfl
set_option maxRecDepth 100000 in
theorem wf_X8_30 : tbw (.fieldLink RX8 30 RX8 (TX8 8).2.1 (TX8 8).2.2.1) := wt0 938 (by decide +kernel) rfl
set_option maxRecDepth 100000 in
theorem wf_X8_33 : tbw (.fieldLink RX8 33 RX8 (TX8 9).2.1 (TX8 9).2.2.1) := wt0 939 (by decide +kernel) rfl
set_option maxRecDepth 100000 in
theorem wf_X8_37 : tbw (.fieldLink RX8 37 RX8 (TX8 10).2.1 (TX8 10).2.2.1) := wt0 940 (by decide +kernel) rfl
set_option maxRecDepth 100000 in
theorem wf_X8_40 : tbw (.fieldLink RX8 40 RX8 (TX8 11).2.1 (TX8 11).2.2.1) := wt0 941 (by decide +kernel) rfl
set_option maxRecDepth 100000 in
theorem wf_X8_43 : tbw (.fieldLink RX8 43 RX8 (TX8 12).2.1 (TX8 12).2.2.1) := wt0 942 (by decide +kernel) rfl
set_option maxRecDepth 100000 in
theorem wf_X8_46 : tbw (.fieldLink RX8 46 RX8 (TX8 13).2.1 (TX8 13).2.2.1) := wt0 943 (by decide +kernel) rfl
set_option maxRecDepth 100000 in
theorem wf_X8_49 : tbw (.fieldLink RX8 49 RX8 (TX8 14).2.1 (TX8 14).2.2.1) := wt0 944 (by decide +kernel) rfl
set_option maxRecDepth 100000 in
theorem wf_X8_52 : tbw (.fieldLink RX8 52 RX8 (TX8 15).2.1 (TX8 15).2.2.1) := wt0 946 (by decide +kernel) rfl
set_option maxRecDepth 100000 in
theorem wf_X8_55 : tbw (.fieldLink RX8 55 RX8 (TX8 16).2.1 (TX8 16).2.2.1) := wt0 947 (by decide +kernel) rfl
set_option maxRecDepth 100000 in
theorem wf_X8_58 : tbw (.fieldLink RX8 58 RX8 (TX8 0).2.1 (TX8 0).2.2.1) := wt0 916 (by decide +kernel) rfl
set_option maxRecDepth 100000 in
theorem wf_X8_61 : tbw (.fieldLink RX8 61 RX8 (TX8 1).2.1 (TX8 1).2.2.1) := wt0 918 (by decide +kernel) rfl
set_option maxRecDepth 100000 in
theorem wq_X8_65 : tbw (.methodLink RX8 65 Lib.Math.min.name) := wt0 988 (by decide +kernel) rfl
set_option maxRecDepth 100000 in
theorem wq_X8_71 : tbw (.methodLink RX8 71 Lib.Math.max.name) := wt0 989 (by decide +kernel) rfl
set_option maxRecDepth 100000 in
theorem wg_X8_74 : tbw (.methodLink RX8 74 (yy 118)) := wt0 990 (by decide +kernel) rfl
set_option maxRecDepth 100000 in
theorem wg_X8_78 : tbw (.methodLinkNest RX8 78 (yy 149) "SealedProcesses") := wt0 1051 (by decide +kernel) rfl
set_option maxRecDepth 100000 in
theorem wg_X8_84 : tbw (.methodLink RX8 84 (yy 121)) := wt0 1047 (by decide +kernel) rfl
set_option maxRecDepth 100000 in
theorem wf_X8_88 : tbw (.fieldLinkNest RX8 88 RX7 (TX7 3).2.1 (TX7 3).2.2.1 "SealedProcesses") := wt0 538 (by decide +kernel) rfl
set_option maxRecDepth 100000 in
theorem wf_X8_93 : tbw (.fieldLinkNest RX8 93 RX7 (TX7 5).2.1 (TX7 5).2.2.1 "SealedProcesses") := wt0 546 (by decide +kernel) rfl
set_option maxRecDepth 100000 in
theorem wg_X8_96 : tbw (.methodLink RX8 96 (yy 131)) := wt0 1057 (by decide +kernel) rfl
set_option maxRecDepth 100000 in
theorem wg_X8_100 : tbw (.methodLink RX8 100 (yy 130)) := wt0 1386 (by decide +kernel) rfl
set_option maxRecDepth 100000 in
theorem wk_X8_103 : tbw (.constant RX8 103 (Int32.ofInt 65535)) := wt0 1178 (by decide +kernel) rfl
set_option maxRecDepth 100000 in
theorem wg_X8_104 : tbw (.methodLink RX8 104 (yy 136)) := wt0 1196 (by decide +kernel) rfl
set_option maxRecDepth 100000 in
theorem wg_X8_108 : tbw (.methodLink RX8 108 (yy 135)) := wt0 1197 (by decide +kernel) rfl
set_option maxRecDepth 100000 in
theorem wg_X8_112 : tbw (.methodLink RX8 112 (yy 134)) := wt0 1212 (by decide +kernel) rfl
set_option maxRecDepth 100000 in
theorem wk_X8_115 : tbw (.constant RX8 115 (Int32.ofInt 589824)) := wt0 1191 (by decide +kernel) rfl
set_option maxRecDepth 100000 in
theorem wc_X9_pointersOf : tbw (cwd 154) := wt0 1190 rfl rfl
set_option maxRecDepth 100000 in
theorem wg_X8_116 : tbw (.methodLinkNest RX8 116 (yy 154) "SealedProcesses") := wt0 1187 (by decide +kernel) rfl
set_option maxRecDepth 100000 in
theorem wm_X9_pointersOf : tbw (.instanceMethod (yy 154)) := wt0 1189 (by decide +kernel) rfl
set_option maxRecDepth 100000 in
theorem wse_X9_pointersOf : tbw (.selects RX9 (yy 154) (yy 154)) := wp0 128 (by decide +kernel) rfl
set_option maxRecDepth 100000 in
theorem wc_X8_moved : tbw (cwd 142) := wt0 1177 rfl rfl
set_option maxRecDepth 100000 in
theorem wg_X8_119 : tbw (.methodLink RX8 119 (yy 142)) := wt0 1174 (by decide +kernel) rfl
set_option maxRecDepth 100000 in
theorem wm_X8_moved : tbw (.instanceMethod (yy 142)) := wt0 1176 (by decide +kernel) rfl
set_option maxRecDepth 100000 in
theorem wse_X8_moved : tbw (.selects RX8 (yy 142) (yy 142)) := wp0 126 (by decide +kernel) rfl
set_option maxRecDepth 100000 in
theorem wc_X8_movePartsOf : tbw (cwd 143) := wt0 1185 rfl rfl
set_option maxRecDepth 100000 in
theorem wg_X8_123 : tbw (.methodLink RX8 123 (yy 143)) := wt0 1182 (by decide +kernel) rfl
set_option maxRecDepth 100000 in
theorem wm_X8_movePartsOf : tbw (.instanceMethod (yy 143)) := wt0 1184 (by decide +kernel) rfl
set_option maxRecDepth 100000 in
theorem wse_X8_movePartsOf : tbw (.selects RX8 (yy 143) (yy 143)) := wp0 127 (by decide +kernel) rfl
set_option maxRecDepth 100000 in
theorem wq_X8_126 : tbw (.methodLink RX8 126 arraycopyName) := wt0 1179 (by decide +kernel) rfl
set_option maxRecDepth 100000 in
theorem wq_na : tbw (.native arraycopyName) := wt0 1181 (by decide +kernel) rfl
set_option maxRecDepth 100000 in
theorem wq_sa : tbw (.static arraycopyName) := wt0 1180 (by decide +kernel) rfl
set_option maxRecDepth 100000 in
theorem wq_is : tbw (.initialized "java/lang/System") := wt0 19 (by decide +kernel) rfl
set_option maxRecDepth 100000 in
theorem wk_X8_132 : tbw (.constant RX8 132 (Int32.ofInt 524288)) := wt0 1186 (by decide +kernel) rfl
set_option maxRecDepth 100000 in
theorem wq_X9_3 : tbw (.methodLink RX9 3 Lib.objectInit) := wt0 336 (by decide +kernel) rfl
set_option maxRecDepth 100000 in
theorem wf_X9_9 : tbw (.fieldLink RX9 9 RX9 (TX9 2).2.1 (TX9 2).2.2.1) := wt0 353 (by decide +kernel) rfl
set_option maxRecDepth 100000 in
theorem wf_X9_15 : tbw (.fieldLink RX9 15 RX9 (TX9 3).2.1 (TX9 3).2.2.1) := wt0 356 (by decide +kernel) rfl
set_option maxRecDepth 100000 in
theorem wf_X9_19 : tbw (.fieldLink RX9 19 RX9 (TX9 4).2.1 (TX9 4).2.2.1) := wt0 357 (by decide +kernel) rfl
set_option maxRecDepth 100000 in
theorem wf_X9_22 : tbw (.fieldLink RX9 22 RX9 (TX9 5).2.1 (TX9 5).2.2.1) := wt0 358 (by decide +kernel) rfl
set_option maxRecDepth 100000 in
theorem wf_X9_25 : tbw (.fieldLink RX9 25 RX9 (TX9 6).2.1 (TX9 6).2.2.1) := wt0 359 (by decide +kernel) rfl
set_option maxRecDepth 100000 in
theorem wl_X9_28 : tbw (.classLink RX9 28 "SealedProcesses$Contract") := wt0 337 (by decide +kernel) rfl
set_option maxRecDepth 100000 in
theorem wf_X9_30 : tbw (.fieldLink RX9 30 RX9 (TX9 7).2.1 (TX9 7).2.2.1) := wt0 362 (by decide +kernel) rfl
set_option maxRecDepth 100000 in
theorem wf_X9_34 : tbw (.fieldLink RX9 34 RX9 (TX9 8).2.1 (TX9 8).2.2.1) := wt0 363 (by decide +kernel) rfl
set_option maxRecDepth 100000 in
theorem wl_X9_37 : tbw (.classLink RX9 37 "SealedProcesses$Routine") := wt0 338 (by decide +kernel) rfl
set_option maxRecDepth 100000 in
theorem wo_X7 : tbw (.arrayOver (.object "SealedProcesses$Routine")) := wt0 339 (by decide +kernel) rfl
set_option maxRecDepth 100000 in
theorem wf_X9_39 : tbw (.fieldLink RX9 39 RX9 (TX9 9).2.1 (TX9 9).2.2.1) := wt0 367 (by decide +kernel) rfl
set_option maxRecDepth 100000 in
theorem wq_X9_43 : tbw (.methodLink RX9 43 Lib.Math.min.name) := wt0 340 (by decide +kernel) rfl
set_option maxRecDepth 100000 in
theorem wq_X9_49 : tbw (.methodLink RX9 49 Lib.Math.max.name) := wt0 343 (by decide +kernel) rfl
set_option maxRecDepth 100000 in
theorem wf_X9_52 : tbw (.fieldLink RX9 52 RX9 (TX9 1).2.1 (TX9 1).2.2.1) := wt0 349 (by decide +kernel) rfl
set_option maxRecDepth 100000 in
theorem wf_X9_55 : tbw (.fieldLink RX9 55 RX9 (TX9 0).2.1 (TX9 0).2.2.1) := wt0 346 (by decide +kernel) rfl
set_option maxRecDepth 100000 in
theorem wg_X9_58 : tbw (.methodLink RX9 58 (yy 145)) := wt0 807 (by decide +kernel) rfl
set_option maxRecDepth 100000 in
theorem ws_X9_62 : tbw (.fieldLinkNest RX9 62 "SealedProcesses" "OPERANDS" "[I" "SealedProcesses") := wt0 808 (by decide +kernel) rfl
set_option maxRecDepth 100000 in
theorem wg_X9_65 : tbw (.methodLink RX9 65 (yy 152)) := wt0 448 (by decide +kernel) rfl
set_option maxRecDepth 100000 in
theorem wc_X11_isPointer : tbw (cwd 212) := wt0 469 rfl rfl
set_option maxRecDepth 100000 in
theorem wg_X9_68 : tbw (.methodLinkNest RX9 68 (yy 212) "SealedProcesses") := wt0 467 (by decide +kernel) rfl
set_option maxRecDepth 100000 in
theorem wt_X11_isPointer : tbw (.static (yy 212)) := wt0 468 (by decide +kernel) rfl
set_option maxRecDepth 100000 in
theorem wc_X9_typeOfField : tbw (cwd 153) := wt0 455 rfl rfl
set_option maxRecDepth 100000 in
theorem wg_X9_72 : tbw (.methodLink RX9 72 (yy 153)) := wt0 452 (by decide +kernel) rfl
set_option maxRecDepth 100000 in
theorem wm_X9_typeOfField : tbw (.instanceMethod (yy 153)) := wt0 454 (by decide +kernel) rfl
set_option maxRecDepth 100000 in
theorem wse_X9_typeOfField : tbw (.selects RX9 (yy 153) (yy 153)) := wp0 15 (by decide +kernel) rfl
set_option maxRecDepth 100000 in
theorem wq_X10_3 : tbw (.methodLink RX10 3 Lib.objectInit) := wt0 80 (by decide +kernel) rfl
set_option maxRecDepth 100000 in
theorem wl_X10_9 : tbw (.classLink RX10 9 RX1) := wt0 81 (by decide +kernel) rfl
set_option maxRecDepth 100000 in
theorem wg_X10_11 : tbw (.methodLinkNest RX10 11 (yy 10) "SealedProcesses") := wt0 82 (by decide +kernel) rfl
set_option maxRecDepth 100000 in
theorem wf_X10_12 : tbw (.fieldLink RX10 12 RX10 (TX10 0).2.1 (TX10 0).2.2.1) := wt0 83 (by decide +kernel) rfl
set_option maxRecDepth 100000 in
theorem wf_X10_18 : tbw (.fieldLink RX10 18 RX10 (TX10 1).2.1 (TX10 1).2.2.1) := wt0 84 (by decide +kernel) rfl
set_option maxRecDepth 100000 in
theorem wf_X10_22 : tbw (.fieldLink RX10 22 RX10 (TX10 2).2.1 (TX10 2).2.2.1) := wt0 85 (by decide +kernel) rfl
set_option maxRecDepth 100000 in
theorem wf_X10_25 : tbw (.fieldLink RX10 25 RX10 (TX10 3).2.1 (TX10 3).2.2.1) := wt0 86 (by decide +kernel) rfl
set_option maxRecDepth 100000 in
theorem wf_X10_29 : tbw (.fieldLink RX10 29 RX10 (TX10 4).2.1 (TX10 4).2.2.1) := wt0 87 (by decide +kernel) rfl
set_option maxRecDepth 100000 in
theorem wf_X10_33 : tbw (.fieldLink RX10 33 RX10 (TX10 5).2.1 (TX10 5).2.2.1) := wt0 88 (by decide +kernel) rfl
set_option maxRecDepth 100000 in
theorem wf_X10_37 : tbw (.fieldLink RX10 37 RX10 (TX10 6).2.1 (TX10 6).2.2.1) := wt0 89 (by decide +kernel) rfl
set_option maxRecDepth 100000 in
theorem wf_X10_40 : tbw (.fieldLink RX10 40 RX10 (TX10 7).2.1 (TX10 7).2.2.1) := wt0 90 (by decide +kernel) rfl
set_option maxRecDepth 100000 in
theorem wf_X10_44 : tbw (.fieldLink RX10 44 RX10 (TX10 8).2.1 (TX10 8).2.2.1) := wt0 91 (by decide +kernel) rfl
set_option maxRecDepth 100000 in
theorem wf_X10_48 : tbw (.fieldLinkNest RX10 48 RX9 (TX9 0).2.1 (TX9 0).2.2.1 "SealedProcesses") := wt0 348 (by decide +kernel) rfl
set_option maxRecDepth 100000 in
theorem wf_X10_53 : tbw (.fieldLinkNest RX10 53 RX9 (TX9 1).2.1 (TX9 1).2.2.1 "SealedProcesses") := wt0 351 (by decide +kernel) rfl
set_option maxRecDepth 100000 in
theorem wg_X10_56 : tbw (.methodLinkNest RX10 56 (yy 11) "SealedProcesses") := wt0 616 (by decide +kernel) rfl
set_option maxRecDepth 100000 in
theorem wf_X10_60 : tbw (.fieldLinkNest RX10 60 RX9 (TX9 8).2.1 (TX9 8).2.2.1 "SealedProcesses") := wt0 364 (by decide +kernel) rfl
set_option maxRecDepth 100000 in
theorem wg_X10_63 : tbw (.methodLinkNest RX10 63 (yy 12) "SealedProcesses") := wt0 617 (by decide +kernel) rfl
set_option maxRecDepth 100000 in
theorem wg_X10_67 : tbw (.methodLinkNest RX10 67 (yy 149) "SealedProcesses") := wt0 618 (by decide +kernel) rfl
set_option maxRecDepth 100000 in
theorem wc_X10_isRoutineRight : tbw (cwd 160) := wt0 622 rfl rfl
set_option maxRecDepth 100000 in
theorem wi_SealedProcesses_Verifier : tbw (.initialized RX10) := wt0 4 (by decide +kernel) rfl
set_option maxRecDepth 100000 in
theorem wg_X10_71 : tbw (.methodLink RX10 71 (yy 160)) := wt0 619 (by decide +kernel) rfl
set_option maxRecDepth 100000 in
theorem wm_X10_isRoutineRight : tbw (.instanceMethod (yy 160)) := wt0 621 (by decide +kernel) rfl
set_option maxRecDepth 100000 in
theorem wse_X10_isRoutineRight : tbw (.selects RX10 (yy 160) (yy 160)) := wp0 34 (by decide +kernel) rfl
set_option maxRecDepth 100000 in
theorem wf_X10_74 : tbw (.fieldLinkNest RX10 74 RX7 (TX7 5).2.1 (TX7 5).2.2.1 "SealedProcesses") := wt0 544 (by decide +kernel) rfl
set_option maxRecDepth 100000 in
theorem wg_X10_79 : tbw (.methodLinkNest RX10 79 (yy 13) "SealedProcesses") := wt0 809 (by decide +kernel) rfl
set_option maxRecDepth 100000 in
theorem wc_X7_prepare : tbw (cwd 110) := wt0 626 rfl rfl
set_option maxRecDepth 100000 in
theorem wg_X10_83 : tbw (.methodLinkNest RX10 83 (yy 110) "SealedProcesses") := wt0 623 (by decide +kernel) rfl
set_option maxRecDepth 100000 in
theorem wm_X7_prepare : tbw (.instanceMethod (yy 110)) := wt0 625 (by decide +kernel) rfl
set_option maxRecDepth 100000 in
theorem wse_X7_prepare : tbw (.selects RX7 (yy 110) (yy 110)) := wp0 35 (by decide +kernel) rfl
set_option maxRecDepth 100000 in
theorem wf_X10_86 : tbw (.fieldLinkNest RX10 86 RX7 (TX7 0).2.1 (TX7 0).2.2.1 "SealedProcesses") := wt0 526 (by decide +kernel) rfl
set_option maxRecDepth 100000 in
theorem wg_X10_89 : tbw (.methodLinkNest RX10 89 (yy 107) "SealedProcesses") := wt0 627 (by decide +kernel) rfl
set_option maxRecDepth 100000 in
theorem wc_X10_arriveAt : tbw (cwd 162) := wt0 634 rfl rfl
set_option maxRecDepth 100000 in
theorem wg_X10_93 : tbw (.methodLink RX10 93 (yy 162)) := wt0 631 (by decide +kernel) rfl
set_option maxRecDepth 100000 in
theorem wm_X10_arriveAt : tbw (.instanceMethod (yy 162)) := wt0 633 (by decide +kernel) rfl
set_option maxRecDepth 100000 in
theorem wse_X10_arriveAt : tbw (.selects RX10 (yy 162) (yy 162)) := wp0 37 (by decide +kernel) rfl
set_option maxRecDepth 100000 in
theorem wf_X10_97 : tbw (.fieldLinkNest RX10 97 RX7 (TX7 4).2.1 (TX7 4).2.2.1 "SealedProcesses") := wt0 540 (by decide +kernel) rfl
set_option maxRecDepth 100000 in
theorem wc_X10_takeUp : tbw (cwd 161) := wt0 664 rfl rfl
set_option maxRecDepth 100000 in
theorem wg_X10_98 : tbw (.methodLink RX10 98 (yy 161)) := wt0 661 (by decide +kernel) rfl
set_option maxRecDepth 100000 in
theorem wm_X10_takeUp : tbw (.instanceMethod (yy 161)) := wt0 663 (by decide +kernel) rfl
set_option maxRecDepth 100000 in
theorem wse_X10_takeUp : tbw (.selects RX10 (yy 161) (yy 161)) := wp0 43 (by decide +kernel) rfl
set_option maxRecDepth 100000 in
theorem wc_X10_follow : tbw (cwd 169) := wt0 670 rfl rfl
set_option maxRecDepth 100000 in
theorem wg_X10_101 : tbw (.methodLink RX10 101 (yy 169)) := wt0 667 (by decide +kernel) rfl
set_option maxRecDepth 100000 in
theorem wm_X10_follow : tbw (.instanceMethod (yy 169)) := wt0 669 (by decide +kernel) rfl
set_option maxRecDepth 100000 in
theorem wse_X10_follow : tbw (.selects RX10 (yy 169) (yy 169)) := wp0 44 (by decide +kernel) rfl
set_option maxRecDepth 100000 in
theorem wc_X7_heightAt : tbw (cwd 111) := wt0 638 rfl rfl
set_option maxRecDepth 100000 in
theorem wg_X10_104 : tbw (.methodLinkNest RX10 104 (yy 111) "SealedProcesses") := wt0 635 (by decide +kernel) rfl
set_option maxRecDepth 100000 in
theorem wm_X7_heightAt : tbw (.instanceMethod (yy 111)) := wt0 637 (by decide +kernel) rfl
set_option maxRecDepth 100000 in
theorem wse_X7_heightAt : tbw (.selects RX7 (yy 111) (yy 111)) := wp0 38 (by decide +kernel) rfl
set_option maxRecDepth 100000 in
theorem wq_X10_107 : tbw (.methodLink RX10 107 Lib.Math.min.name) := wt0 665 (by decide +kernel) rfl
set_option maxRecDepth 100000 in
theorem wq_X10_113 : tbw (.methodLink RX10 113 Lib.Math.max.name) := wt0 666 (by decide +kernel) rfl
set_option maxRecDepth 100000 in
theorem wc_X7_typeComing : tbw (cwd 113) := wt0 646 rfl rfl
set_option maxRecDepth 100000 in
theorem wg_X10_116 : tbw (.methodLinkNest RX10 116 (yy 113) "SealedProcesses") := wt0 643 (by decide +kernel) rfl
set_option maxRecDepth 100000 in
theorem wm_X7_typeComing : tbw (.instanceMethod (yy 113)) := wt0 645 (by decide +kernel) rfl
set_option maxRecDepth 100000 in
theorem wse_X7_typeComing : tbw (.selects RX7 (yy 113) (yy 113)) := wp0 40 (by decide +kernel) rfl
set_option maxRecDepth 100000 in
theorem wc_X7_setHeight : tbw (cwd 112) := wt0 642 rfl rfl
set_option maxRecDepth 100000 in
theorem wg_X10_119 : tbw (.methodLinkNest RX10 119 (yy 112) "SealedProcesses") := wt0 639 (by decide +kernel) rfl
set_option maxRecDepth 100000 in
theorem wm_X7_setHeight : tbw (.instanceMethod (yy 112)) := wt0 641 (by decide +kernel) rfl
set_option maxRecDepth 100000 in
theorem wse_X7_setHeight : tbw (.selects RX7 (yy 112) (yy 112)) := wp0 39 (by decide +kernel) rfl
set_option maxRecDepth 100000 in
theorem wc_X10_join : tbw (cwd 163) := wt0 649 rfl rfl
set_option maxRecDepth 100000 in
theorem wg_X10_122 : tbw (.methodLink RX10 122 (yy 163)) := wt0 647 (by decide +kernel) rfl
set_option maxRecDepth 100000 in
theorem wt_X10_join : tbw (.static (yy 163)) := wt0 648 (by decide +kernel) rfl
set_option maxRecDepth 100000 in
theorem wg_X10_125 : tbw (.methodLinkNest RX10 125 (yy 211) "SealedProcesses") := wt0 650 (by decide +kernel) rfl
set_option maxRecDepth 100000 in
theorem wc_X10_want : tbw (cwd 166) := wt0 656 rfl rfl
set_option maxRecDepth 100000 in
theorem wg_X10_129 : tbw (.methodLink RX10 129 (yy 166)) := wt0 653 (by decide +kernel) rfl
set_option maxRecDepth 100000 in
theorem wm_X10_want : tbw (.instanceMethod (yy 166)) := wt0 655 (by decide +kernel) rfl
set_option maxRecDepth 100000 in
theorem wse_X10_want : tbw (.selects RX10 (yy 166) (yy 166)) := wp0 41 (by decide +kernel) rfl
set_option maxRecDepth 100000 in
theorem wc_X7_setComing : tbw (cwd 114) := wt0 660 rfl rfl
set_option maxRecDepth 100000 in
theorem wg_X10_133 : tbw (.methodLinkNest RX10 133 (yy 114) "SealedProcesses") := wt0 657 (by decide +kernel) rfl
set_option maxRecDepth 100000 in
theorem wm_X7_setComing : tbw (.instanceMethod (yy 114)) := wt0 659 (by decide +kernel) rfl
set_option maxRecDepth 100000 in
theorem wse_X7_setComing : tbw (.selects RX7 (yy 114) (yy 114)) := wp0 42 (by decide +kernel) rfl
set_option maxRecDepth 100000 in
theorem wc_X10_pop : tbw (cwd 165) := wt0 694 rfl rfl
set_option maxRecDepth 100000 in
theorem wg_X10_137 : tbw (.methodLink RX10 137 (yy 165)) := wt0 691 (by decide +kernel) rfl
set_option maxRecDepth 100000 in
theorem wm_X10_pop : tbw (.instanceMethod (yy 165)) := wt0 693 (by decide +kernel) rfl
set_option maxRecDepth 100000 in
theorem wse_X10_pop : tbw (.selects RX10 (yy 165) (yy 165)) := wp0 50 (by decide +kernel) rfl
set_option maxRecDepth 100000 in
theorem wg_X10_141 : tbw (.methodLinkNest RX10 141 (yy 145) "SealedProcesses") := wt0 671 (by decide +kernel) rfl
set_option maxRecDepth 100000 in
theorem wc_X10_operandOf : tbw (cwd 168) := wt0 678 rfl rfl
set_option maxRecDepth 100000 in
theorem wg_X10_144 : tbw (.methodLink RX10 144 (yy 168)) := wt0 675 (by decide +kernel) rfl
set_option maxRecDepth 100000 in
theorem wm_X10_operandOf : tbw (.instanceMethod (yy 168)) := wt0 677 (by decide +kernel) rfl
set_option maxRecDepth 100000 in
theorem wse_X10_operandOf : tbw (.selects RX10 (yy 168) (yy 168)) := wp0 46 (by decide +kernel) rfl
set_option maxRecDepth 100000 in
theorem wc_X10_followMove : tbw (cwd 170) := wt0 682 rfl rfl
set_option maxRecDepth 100000 in
theorem wg_X10_147 : tbw (.methodLink RX10 147 (yy 170)) := wt0 679 (by decide +kernel) rfl
set_option maxRecDepth 100000 in
theorem wm_X10_followMove : tbw (.instanceMethod (yy 170)) := wt0 681 (by decide +kernel) rfl
set_option maxRecDepth 100000 in
theorem wse_X10_followMove : tbw (.selects RX10 (yy 170) (yy 170)) := wp0 47 (by decide +kernel) rfl
set_option maxRecDepth 100000 in
theorem wc_X10_followInts : tbw (cwd 172) := wt0 698 rfl rfl
set_option maxRecDepth 100000 in
theorem wg_X10_151 : tbw (.methodLink RX10 151 (yy 172)) := wt0 695 (by decide +kernel) rfl
set_option maxRecDepth 100000 in
theorem wm_X10_followInts : tbw (.instanceMethod (yy 172)) := wt0 697 (by decide +kernel) rfl
set_option maxRecDepth 100000 in
theorem wse_X10_followInts : tbw (.selects RX10 (yy 172) (yy 172)) := wp0 51 (by decide +kernel) rfl
set_option maxRecDepth 100000 in
theorem wc_X10_followHeap : tbw (cwd 173) := wt0 713 rfl rfl
set_option maxRecDepth 100000 in
theorem wg_X10_154 : tbw (.methodLink RX10 154 (yy 173)) := wt0 710 (by decide +kernel) rfl
set_option maxRecDepth 100000 in
theorem wm_X10_followHeap : tbw (.instanceMethod (yy 173)) := wt0 712 (by decide +kernel) rfl
set_option maxRecDepth 100000 in
theorem wse_X10_followHeap : tbw (.selects RX10 (yy 173) (yy 173)) := wp0 53 (by decide +kernel) rfl
set_option maxRecDepth 100000 in
theorem wc_X10_followFlow : tbw (cwd 176) := wt0 734 rfl rfl
set_option maxRecDepth 100000 in
theorem wg_X10_157 : tbw (.methodLink RX10 157 (yy 176)) := wt0 731 (by decide +kernel) rfl
set_option maxRecDepth 100000 in
theorem wm_X10_followFlow : tbw (.instanceMethod (yy 176)) := wt0 733 (by decide +kernel) rfl
set_option maxRecDepth 100000 in
theorem wse_X10_followFlow : tbw (.selects RX10 (yy 176) (yy 176)) := wp0 56 (by decide +kernel) rfl
set_option maxRecDepth 100000 in
theorem wc_X10_followBlock : tbw (cwd 180) := wt0 750 rfl rfl
set_option maxRecDepth 100000 in
theorem wg_X10_160 : tbw (.methodLink RX10 160 (yy 180)) := wt0 747 (by decide +kernel) rfl
set_option maxRecDepth 100000 in
theorem wm_X10_followBlock : tbw (.instanceMethod (yy 180)) := wt0 749 (by decide +kernel) rfl
set_option maxRecDepth 100000 in
theorem wse_X10_followBlock : tbw (.selects RX10 (yy 180) (yy 180)) := wp0 59 (by decide +kernel) rfl
set_option maxRecDepth 100000 in
theorem wc_X10_followEnd : tbw (cwd 181) := wt0 755 rfl rfl
set_option maxRecDepth 100000 in
theorem wg_X10_163 : tbw (.methodLink RX10 163 (yy 181)) := wt0 752 (by decide +kernel) rfl
set_option maxRecDepth 100000 in
theorem wm_X10_followEnd : tbw (.instanceMethod (yy 181)) := wt0 754 (by decide +kernel) rfl
set_option maxRecDepth 100000 in
theorem wse_X10_followEnd : tbw (.selects RX10 (yy 181) (yy 181)) := wp0 60 (by decide +kernel) rfl
set_option maxRecDepth 100000 in
theorem wg_X10_166 : tbw (.methodLinkNest RX10 166 (yy 147) "SealedProcesses") := wt0 803 (by decide +kernel) rfl
set_option maxRecDepth 100000 in
theorem wc_X10_push : tbw (cwd 164) := wt0 686 rfl rfl
set_option maxRecDepth 100000 in
theorem wg_X10_169 : tbw (.methodLink RX10 169 (yy 164)) := wt0 683 (by decide +kernel) rfl
set_option maxRecDepth 100000 in
theorem wm_X10_push : tbw (.instanceMethod (yy 164)) := wt0 685 (by decide +kernel) rfl
set_option maxRecDepth 100000 in
theorem wse_X10_push : tbw (.selects RX10 (yy 164) (yy 164)) := wp0 48 (by decide +kernel) rfl
set_option maxRecDepth 100000 in
theorem wc_X10_followLoad : tbw (cwd 171) := wt0 690 rfl rfl
set_option maxRecDepth 100000 in
theorem wg_X10_172 : tbw (.methodLink RX10 172 (yy 171)) := wt0 687 (by decide +kernel) rfl
set_option maxRecDepth 100000 in
theorem wm_X10_followLoad : tbw (.instanceMethod (yy 171)) := wt0 689 (by decide +kernel) rfl
set_option maxRecDepth 100000 in
theorem wse_X10_followLoad : tbw (.selects RX10 (yy 171) (yy 171)) := wp0 49 (by decide +kernel) rfl
set_option maxRecDepth 100000 in
theorem wc_X11_isPointerOrNil : tbw (cwd 213) := wt0 701 rfl rfl
set_option maxRecDepth 100000 in
theorem wg_X10_175 : tbw (.methodLinkNest RX10 175 (yy 213) "SealedProcesses") := wt0 699 (by decide +kernel) rfl
set_option maxRecDepth 100000 in
theorem wt_X11_isPointerOrNil : tbw (.static (yy 213)) := wt0 700 (by decide +kernel) rfl
set_option maxRecDepth 100000 in
theorem wc_X10_popInt : tbw (cwd 167) := wt0 709 rfl rfl
set_option maxRecDepth 100000 in
theorem wg_X10_178 : tbw (.methodLink RX10 178 (yy 167)) := wt0 706 (by decide +kernel) rfl
set_option maxRecDepth 100000 in
theorem wm_X10_popInt : tbw (.instanceMethod (yy 167)) := wt0 708 (by decide +kernel) rfl
set_option maxRecDepth 100000 in
theorem wse_X10_popInt : tbw (.selects RX10 (yy 167) (yy 167)) := wp0 52 (by decide +kernel) rfl
set_option maxRecDepth 100000 in
theorem wg_X10_181 : tbw (.methodLinkNest RX10 181 (yy 205) "SealedProcesses") := wt0 714 (by decide +kernel) rfl
set_option maxRecDepth 100000 in
theorem wc_X10_followNode : tbw (cwd 174) := wt0 718 rfl rfl
set_option maxRecDepth 100000 in
theorem wg_X10_184 : tbw (.methodLink RX10 184 (yy 174)) := wt0 715 (by decide +kernel) rfl
set_option maxRecDepth 100000 in
theorem wm_X10_followNode : tbw (.instanceMethod (yy 174)) := wt0 717 (by decide +kernel) rfl
set_option maxRecDepth 100000 in
theorem wse_X10_followNode : tbw (.selects RX10 (yy 174) (yy 174)) := wp0 54 (by decide +kernel) rfl
set_option maxRecDepth 100000 in
theorem wc_X10_followRow : tbw (cwd 175) := wt0 730 rfl rfl
set_option maxRecDepth 100000 in
theorem wg_X10_187 : tbw (.methodLink RX10 187 (yy 175)) := wt0 727 (by decide +kernel) rfl
set_option maxRecDepth 100000 in
theorem wm_X10_followRow : tbw (.instanceMethod (yy 175)) := wt0 729 (by decide +kernel) rfl
set_option maxRecDepth 100000 in
theorem wse_X10_followRow : tbw (.selects RX10 (yy 175) (yy 175)) := wp0 55 (by decide +kernel) rfl
set_option maxRecDepth 100000 in
theorem wg_X10_190 : tbw (.methodLinkNest RX10 190 (yy 207) "SealedProcesses") := wt0 719 (by decide +kernel) rfl
set_option maxRecDepth 100000 in
theorem wg_X10_193 : tbw (.methodLinkNest RX10 193 (yy 208) "SealedProcesses") := wt0 720 (by decide +kernel) rfl
set_option maxRecDepth 100000 in
theorem wg_X10_196 : tbw (.methodLinkNest RX10 196 (yy 153) "SealedProcesses") := wt0 723 (by decide +kernel) rfl
set_option maxRecDepth 100000 in
theorem wc_X11_fits : tbw (cwd 214) := wt0 726 rfl rfl
set_option maxRecDepth 100000 in
theorem wg_X10_199 : tbw (.methodLinkNest RX10 199 (yy 214) "SealedProcesses") := wt0 724 (by decide +kernel) rfl
set_option maxRecDepth 100000 in
theorem wt_X11_fits : tbw (.static (yy 214)) := wt0 725 (by decide +kernel) rfl
set_option maxRecDepth 100000 in
theorem wc_X10_popParameters : tbw (cwd 177) := wt0 738 rfl rfl
set_option maxRecDepth 100000 in
theorem wg_X10_202 : tbw (.methodLink RX10 202 (yy 177)) := wt0 735 (by decide +kernel) rfl
set_option maxRecDepth 100000 in
theorem wm_X10_popParameters : tbw (.instanceMethod (yy 177)) := wt0 737 (by decide +kernel) rfl
set_option maxRecDepth 100000 in
theorem wse_X10_popParameters : tbw (.selects RX10 (yy 177) (yy 177)) := wp0 57 (by decide +kernel) rfl
set_option maxRecDepth 100000 in
theorem wf_X10_206 : tbw (.fieldLinkNest RX10 206 RX7 (TX7 2).2.1 (TX7 2).2.2.1 "SealedProcesses") := wt0 533 (by decide +kernel) rfl
set_option maxRecDepth 100000 in
theorem wc_X10_followReturn : tbw (cwd 179) := wt0 742 rfl rfl
set_option maxRecDepth 100000 in
theorem wg_X10_209 : tbw (.methodLink RX10 209 (yy 179)) := wt0 739 (by decide +kernel) rfl
set_option maxRecDepth 100000 in
theorem wm_X10_followReturn : tbw (.instanceMethod (yy 179)) := wt0 741 (by decide +kernel) rfl
set_option maxRecDepth 100000 in
theorem wse_X10_followReturn : tbw (.selects RX10 (yy 179) (yy 179)) := wp0 58 (by decide +kernel) rfl
set_option maxRecDepth 100000 in
theorem wc_X10_takesPointers : tbw (cwd 178) := wt0 745 rfl rfl
set_option maxRecDepth 100000 in
theorem wg_X10_212 : tbw (.methodLink RX10 212 (yy 178)) := wt0 743 (by decide +kernel) rfl
set_option maxRecDepth 100000 in
theorem wt_X10_takesPointers : tbw (.static (yy 178)) := wt0 744 (by decide +kernel) rfl
set_option maxRecDepth 100000 in
theorem wg_X10_216 : tbw (.methodLinkNest RX10 216 (yy 212) "SealedProcesses") := wt0 746 (by decide +kernel) rfl
set_option maxRecDepth 100000 in
theorem wg_X10_219 : tbw (.methodLinkNest RX10 219 (yy 152) "SealedProcesses") := wt0 751 (by decide +kernel) rfl
set_option maxRecDepth 100000 in
theorem wg_X10_222 : tbw (.methodLinkNest RX10 222 (yy 206) "SealedProcesses") := wt0 756 (by decide +kernel) rfl
set_option maxRecDepth 100000 in
theorem wc_X10_followSend : tbw (cwd 183) := wt0 760 rfl rfl
set_option maxRecDepth 100000 in
theorem wg_X10_226 : tbw (.methodLink RX10 226 (yy 183)) := wt0 757 (by decide +kernel) rfl
set_option maxRecDepth 100000 in
theorem wm_X10_followSend : tbw (.instanceMethod (yy 183)) := wt0 759 (by decide +kernel) rfl
set_option maxRecDepth 100000 in
theorem wse_X10_followSend : tbw (.selects RX10 (yy 183) (yy 183)) := wp0 61 (by decide +kernel) rfl
set_option maxRecDepth 100000 in
theorem wc_X10_followReceive : tbw (cwd 184) := wt0 798 rfl rfl
set_option maxRecDepth 100000 in
theorem wg_X10_229 : tbw (.methodLink RX10 229 (yy 184)) := wt0 795 (by decide +kernel) rfl
set_option maxRecDepth 100000 in
theorem wm_X10_followReceive : tbw (.instanceMethod (yy 184)) := wt0 797 (by decide +kernel) rfl
set_option maxRecDepth 100000 in
theorem wse_X10_followReceive : tbw (.selects RX10 (yy 184) (yy 184)) := wp0 68 (by decide +kernel) rfl
set_option maxRecDepth 100000 in
theorem wc_X10_contractOf : tbw (cwd 182) := wt0 764 rfl rfl
set_option maxRecDepth 100000 in
theorem wg_X10_232 : tbw (.methodLink RX10 232 (yy 182)) := wt0 761 (by decide +kernel) rfl
set_option maxRecDepth 100000 in
theorem wm_X10_contractOf : tbw (.instanceMethod (yy 182)) := wt0 763 (by decide +kernel) rfl
set_option maxRecDepth 100000 in
theorem wse_X10_contractOf : tbw (.selects RX10 (yy 182) (yy 182)) := wp0 62 (by decide +kernel) rfl
set_option maxRecDepth 100000 in
theorem wg_X10_236 : tbw (.methodLinkNest RX10 236 (yy 209) "SealedProcesses") := wt0 766 (by decide +kernel) rfl
set_option maxRecDepth 100000 in
theorem wg_X10_239 : tbw (.methodLinkNest RX10 239 (yy 20) "SealedProcesses") := wt0 776 (by decide +kernel) rfl
set_option maxRecDepth 100000 in
theorem wg_X10_244 : tbw (.methodLinkNest RX10 244 (yy 148) "SealedProcesses") := wt0 765 (by decide +kernel) rfl
set_option maxRecDepth 100000 in
theorem wg_X10_247 : tbw (.methodLinkNest RX10 247 (yy 210) "SealedProcesses") := wt0 769 (by decide +kernel) rfl
set_option maxRecDepth 100000 in
theorem wg_X10_250 : tbw (.methodLinkNest RX10 250 (yy 28) "SealedProcesses") := wt0 772 (by decide +kernel) rfl
set_option maxRecDepth 100000 in
theorem wc_X11_turnOfSide : tbw (cwd 215) := wt0 782 rfl rfl
set_option maxRecDepth 100000 in
theorem wg_X10_254 : tbw (.methodLinkNest RX10 254 (yy 215) "SealedProcesses") := wt0 780 (by decide +kernel) rfl
set_option maxRecDepth 100000 in
theorem wt_X11_turnOfSide : tbw (.static (yy 215)) := wt0 781 (by decide +kernel) rfl
set_option maxRecDepth 100000 in
theorem wc_X2_has : tbw (cwd 23) := wt0 786 rfl rfl
set_option maxRecDepth 100000 in
theorem wg_X10_257 : tbw (.methodLinkNest RX10 257 (yy 23) "SealedProcesses") := wt0 783 (by decide +kernel) rfl
set_option maxRecDepth 100000 in
theorem wm_X2_has : tbw (.instanceMethod (yy 23)) := wt0 785 (by decide +kernel) rfl
set_option maxRecDepth 100000 in
theorem wse_X2_has : tbw (.selects RX2 (yy 23) (yy 23)) := wp0 65 (by decide +kernel) rfl
set_option maxRecDepth 100000 in
theorem wg_X10_260 : tbw (.methodLinkNest RX10 260 (yy 24) "SealedProcesses") := wt0 787 (by decide +kernel) rfl
set_option maxRecDepth 100000 in
theorem wg_X10_263 : tbw (.methodLinkNest RX10 263 (yy 25) "SealedProcesses") := wt0 791 (by decide +kernel) rfl
set_option maxRecDepth 100000 in
theorem wg_X10_266 : tbw (.methodLinkNest RX10 266 (yy 21) "SealedProcesses") := wt0 799 (by decide +kernel) rfl
set_option maxRecDepth 100000 in
theorem wq_X11_3 : tbw (.methodLink RX11 3 Lib.objectInit) := wt0 25 (by decide +kernel) rfl
set_option maxRecDepth 100000 in
theorem wf_X11_9 : tbw (.fieldLink RX11 9 RX11 (TX11 0).2.1 (TX11 0).2.2.1) := wt0 292 (by decide +kernel) rfl
set_option maxRecDepth 100000 in
theorem wf_X11_13 : tbw (.fieldLink RX11 13 RX11 (TX11 1).2.1 (TX11 1).2.2.1) := wt0 293 (by decide +kernel) rfl
set_option maxRecDepth 100000 in
theorem wl_X11_17 : tbw (.classLink RX11 17 "SealedProcesses$TypedModule") := wt0 28 (by decide +kernel) rfl
set_option maxRecDepth 100000 in
theorem wf_X11_19 : tbw (.fieldLink RX11 19 RX11 (TX11 2).2.1 (TX11 2).2.2.1) := wt0 294 (by decide +kernel) rfl
set_option maxRecDepth 100000 in
theorem wf_X11_23 : tbw (.fieldLink RX11 23 RX11 (TX11 3).2.1 (TX11 3).2.2.1) := wt0 295 (by decide +kernel) rfl
set_option maxRecDepth 100000 in
theorem wf_X11_26 : tbw (.fieldLink RX11 26 RX11 (TX11 4).2.1 (TX11 4).2.2.1) := wt0 296 (by decide +kernel) rfl
set_option maxRecDepth 100000 in
theorem wl_X11_29 : tbw (.classLink RX11 29 RX3) := wt0 30 (by decide +kernel) rfl
set_option maxRecDepth 100000 in
theorem wn_X3 : tbw (.instantiable RX3 2) := wt0 31 (by decide +kernel) rfl
set_option maxRecDepth 100000 in
theorem wc_X3_init : tbw (cwd 29) := wt0 34 rfl rfl
set_option maxRecDepth 100000 in
theorem wg_X11_31 : tbw (.methodLinkNest RX11 31 (yy 29) "SealedProcesses") := wt0 32 (by decide +kernel) rfl
set_option maxRecDepth 100000 in
theorem wm_X3_init : tbw (.instanceMethod (yy 29)) := wt0 33 (by decide +kernel) rfl
set_option maxRecDepth 100000 in
theorem wf_X11_32 : tbw (.fieldLink RX11 32 RX11 (TX11 5).2.1 (TX11 5).2.2.1) := wt0 297 (by decide +kernel) rfl
set_option maxRecDepth 100000 in
theorem wl_X11_36 : tbw (.classLink RX11 36 RX10) := wt0 75 (by decide +kernel) rfl
set_option maxRecDepth 100000 in
theorem wn_X10 : tbw (.instantiable RX10 9) := wt0 76 (by decide +kernel) rfl
set_option maxRecDepth 100000 in
theorem wc_X10_init : tbw (cwd 158) := wt0 79 rfl rfl
set_option maxRecDepth 100000 in
theorem wg_X11_38 : tbw (.methodLinkNest RX11 38 (yy 158) "SealedProcesses") := wt0 77 (by decide +kernel) rfl
set_option maxRecDepth 100000 in
theorem wm_X10_init : tbw (.instanceMethod (yy 158)) := wt0 78 (by decide +kernel) rfl
set_option maxRecDepth 100000 in
theorem wf_X11_39 : tbw (.fieldLink RX11 39 RX11 (TX11 6).2.1 (TX11 6).2.2.1) := wt0 298 (by decide +kernel) rfl
set_option maxRecDepth 100000 in
theorem wl_X11_43 : tbw (.classLink RX11 43 RX6) := wt0 112 (by decide +kernel) rfl
set_option maxRecDepth 100000 in
theorem wn_X6 : tbw (.instantiable RX6 12) := wt0 113 (by decide +kernel) rfl
set_option maxRecDepth 100000 in
theorem wc_X6_init : tbw (cwd 97) := wt0 116 rfl rfl
set_option maxRecDepth 100000 in
theorem wg_X11_45 : tbw (.methodLinkNest RX11 45 (yy 97) "SealedProcesses") := wt0 114 (by decide +kernel) rfl
set_option maxRecDepth 100000 in
theorem wm_X6_init : tbw (.instanceMethod (yy 97)) := wt0 115 (by decide +kernel) rfl
set_option maxRecDepth 100000 in
theorem wf_X11_46 : tbw (.fieldLink RX11 46 RX11 (TX11 7).2.1 (TX11 7).2.2.1) := wt0 299 (by decide +kernel) rfl
set_option maxRecDepth 100000 in
theorem wl_X11_50 : tbw (.classLink RX11 50 RX5) := wt0 165 (by decide +kernel) rfl
set_option maxRecDepth 100000 in
theorem wn_X5 : tbw (.instantiable RX5 15) := wt0 166 (by decide +kernel) rfl
set_option maxRecDepth 100000 in
theorem wc_X5_init : tbw (cwd 62) := wt0 169 rfl rfl
set_option maxRecDepth 100000 in
theorem wg_X11_52 : tbw (.methodLinkNest RX11 52 (yy 62) "SealedProcesses") := wt0 167 (by decide +kernel) rfl
set_option maxRecDepth 100000 in
theorem wm_X5_init : tbw (.instanceMethod (yy 62)) := wt0 168 (by decide +kernel) rfl
set_option maxRecDepth 100000 in
theorem wf_X11_53 : tbw (.fieldLink RX11 53 RX11 (TX11 8).2.1 (TX11 8).2.2.1) := wt0 300 (by decide +kernel) rfl
set_option maxRecDepth 100000 in
theorem wc_X11_tapeNumber : tbw (cwd 200) := wt0 327 rfl rfl
set_option maxRecDepth 100000 in
theorem wg_X11_57 : tbw (.methodLink RX11 57 (yy 200)) := wt0 324 (by decide +kernel) rfl
set_option maxRecDepth 100000 in
theorem wm_X11_tapeNumber : tbw (.instanceMethod (yy 200)) := wt0 326 (by decide +kernel) rfl
set_option maxRecDepth 100000 in
theorem wse_X11_tapeNumber : tbw (.selects RX11 (yy 200) (yy 200)) := wp0 0 (by decide +kernel) rfl
set_option maxRecDepth 100000 in
theorem wn_X9 : tbw (.instantiable RX9 10) := wt0 332 (by decide +kernel) rfl
set_option maxRecDepth 100000 in
theorem wc_X9_init : tbw (cwd 144) := wt0 335 rfl rfl
set_option maxRecDepth 100000 in
theorem wg_X11_61 : tbw (.methodLinkNest RX11 61 (yy 144) "SealedProcesses") := wt0 333 (by decide +kernel) rfl
set_option maxRecDepth 100000 in
theorem wm_X9_init : tbw (.instanceMethod (yy 144)) := wt0 334 (by decide +kernel) rfl
set_option maxRecDepth 100000 in
theorem wc_X3_decode : tbw (cwd 30) := wt0 392 rfl rfl
set_option maxRecDepth 100000 in
theorem wg_X11_64 : tbw (.methodLinkNest RX11 64 (yy 30) "SealedProcesses") := wt0 389 (by decide +kernel) rfl
set_option maxRecDepth 100000 in
theorem wm_X3_decode : tbw (.instanceMethod (yy 30)) := wt0 391 (by decide +kernel) rfl
set_option maxRecDepth 100000 in
theorem wse_X3_decode : tbw (.selects RX3 (yy 30) (yy 30)) := wp0 1 (by decide +kernel) rfl
set_option maxRecDepth 100000 in
theorem wc_X11_tell : tbw (cwd 201) := wt0 611 rfl rfl
set_option maxRecDepth 100000 in
theorem wg_X11_68 : tbw (.methodLink RX11 68 (yy 201)) := wt0 608 (by decide +kernel) rfl
set_option maxRecDepth 100000 in
theorem wm_X11_tell : tbw (.instanceMethod (yy 201)) := wt0 610 (by decide +kernel) rfl
set_option maxRecDepth 100000 in
theorem wse_X11_tell : tbw (.selects RX11 (yy 201) (yy 201)) := wp0 32 (by decide +kernel) rfl
set_option maxRecDepth 100000 in
theorem wc_X10_verify : tbw (cwd 159) := wt0 615 rfl rfl
set_option maxRecDepth 100000 in
theorem wg_X11_72 : tbw (.methodLinkNest RX11 72 (yy 159) "SealedProcesses") := wt0 612 (by decide +kernel) rfl
set_option maxRecDepth 100000 in
theorem wm_X10_verify : tbw (.instanceMethod (yy 159)) := wt0 614 (by decide +kernel) rfl
set_option maxRecDepth 100000 in
theorem wse_X10_verify : tbw (.selects RX10 (yy 159) (yy 159)) := wp0 33 (by decide +kernel) rfl
set_option maxRecDepth 100000 in
theorem wc_X11_onShelf : tbw (cwd 202) := wt0 821 rfl rfl
set_option maxRecDepth 100000 in
theorem wg_X11_75 : tbw (.methodLink RX11 75 (yy 202)) := wt0 818 (by decide +kernel) rfl
set_option maxRecDepth 100000 in
theorem wm_X11_onShelf : tbw (.instanceMethod (yy 202)) := wt0 820 (by decide +kernel) rfl
set_option maxRecDepth 100000 in
theorem wse_X11_onShelf : tbw (.selects RX11 (yy 202) (yy 202)) := wp0 71 (by decide +kernel) rfl
set_option maxRecDepth 100000 in
theorem wf_X11_79 : tbw (.fieldLinkNest RX11 79 RX9 (TX9 2).2.1 (TX9 2).2.2.1 "SealedProcesses") := wt0 355 (by decide +kernel) rfl
set_option maxRecDepth 100000 in
theorem wf_X11_82 : tbw (.fieldLinkNest RX11 82 RX9 (TX9 6).2.1 (TX9 6).2.2.1 "SealedProcesses") := wt0 361 (by decide +kernel) rfl
set_option maxRecDepth 100000 in
theorem wf_X11_85 : tbw (.fieldLinkNest RX11 85 RX9 (TX9 8).2.1 (TX9 8).2.2.1 "SealedProcesses") := wt0 366 (by decide +kernel) rfl
set_option maxRecDepth 100000 in
theorem wf_X11_88 : tbw (.fieldLinkNest RX11 88 RX9 (TX9 1).2.1 (TX9 1).2.2.1 "SealedProcesses") := wt0 352 (by decide +kernel) rfl
set_option maxRecDepth 100000 in
theorem wg_X11_91 : tbw (.methodLinkNest RX11 91 (yy 149) "SealedProcesses") := wt0 826 (by decide +kernel) rfl
set_option maxRecDepth 100000 in
theorem wc_X11_ofRoutine : tbw (cwd 204) := wt0 829 rfl rfl
set_option maxRecDepth 100000 in
theorem wg_X11_95 : tbw (.methodLink RX11 95 (yy 204)) := wt0 827 (by decide +kernel) rfl
set_option maxRecDepth 100000 in
theorem wt_X11_ofRoutine : tbw (.static (yy 204)) := wt0 828 (by decide +kernel) rfl
set_option maxRecDepth 100000 in
theorem wg_X11_99 : tbw (.methodLinkNest RX11 99 (yy 111) "SealedProcesses") := wt0 834 (by decide +kernel) rfl
set_option maxRecDepth 100000 in
theorem wg_X11_105 : tbw (.methodLinkNest RX11 105 (yy 113) "SealedProcesses") := wt0 835 (by decide +kernel) rfl
set_option maxRecDepth 100000 in
theorem wg_X11_109 : tbw (.methodLink RX11 109 (yy 207)) := wt0 703 (by decide +kernel) rfl
set_option maxRecDepth 100000 in
theorem wf_X11_112 : tbw (.fieldLinkNest RX11 112 RX7 (TX7 3).2.1 (TX7 3).2.2.1 "SealedProcesses") := wt0 537 (by decide +kernel) rfl
set_option maxRecDepth 100000 in
theorem wc_X6_read : tbw (cwd 98) := wt0 843 rfl rfl
set_option maxRecDepth 100000 in
theorem wg_X11_115 : tbw (.methodLinkNest RX11 115 (yy 98) "SealedProcesses") := wt0 840 (by decide +kernel) rfl
set_option maxRecDepth 100000 in
theorem wm_X6_read : tbw (.instanceMethod (yy 98)) := wt0 842 (by decide +kernel) rfl
set_option maxRecDepth 100000 in
theorem wse_X6_read : tbw (.selects RX6 (yy 98) (yy 98)) := wp0 72 (by decide +kernel) rfl
set_option maxRecDepth 100000 in
theorem wc_X5_start : tbw (cwd 63) := wt0 893 rfl rfl
set_option maxRecDepth 100000 in
theorem wg_X11_119 : tbw (.methodLinkNest RX11 119 (yy 63) "SealedProcesses") := wt0 890 (by decide +kernel) rfl
set_option maxRecDepth 100000 in
theorem wm_X5_start : tbw (.instanceMethod (yy 63)) := wt0 892 (by decide +kernel) rfl
set_option maxRecDepth 100000 in
theorem wse_X5_start : tbw (.selects RX5 (yy 63) (yy 63)) := wp0 79 (by decide +kernel) rfl
set_option maxRecDepth 100000 in
theorem wf_X11_123 : tbw (.fieldLinkNest RX11 123 RX6 (TX6 1).2.1 (TX6 1).2.2.1 "SealedProcesses") := wt0 124 (by decide +kernel) rfl
set_option maxRecDepth 100000 in
theorem wf_X11_126 : tbw (.fieldLinkNest RX11 126 RX5 (TX5 0).2.1 (TX5 0).2.2.1 "SealedProcesses") := wt0 240 (by decide +kernel) rfl
set_option maxRecDepth 100000 in
theorem wc_X5_goOn : tbw (cwd 72) := wt0 1026 rfl rfl
set_option maxRecDepth 100000 in
theorem wg_X11_130 : tbw (.methodLinkNest RX11 130 (yy 72) "SealedProcesses") := wt0 1023 (by decide +kernel) rfl
set_option maxRecDepth 100000 in
theorem wm_X5_goOn : tbw (.instanceMethod (yy 72)) := wt0 1025 (by decide +kernel) rfl
set_option maxRecDepth 100000 in
theorem wse_X5_goOn : tbw (.selects RX5 (yy 72) (yy 72)) := wp0 91 (by decide +kernel) rfl
set_option maxRecDepth 100000 in
theorem wf_X11_133 : tbw (.fieldLinkNest RX11 133 RX5 (TX5 9).2.1 (TX5 9).2.2.1 "SealedProcesses") := wt0 255 (by decide +kernel) rfl
set_option maxRecDepth 100000 in
theorem wc_X5_isStill : tbw (cwd 70) := wt0 1348 rfl rfl
set_option maxRecDepth 100000 in
theorem wg_X11_136 : tbw (.methodLinkNest RX11 136 (yy 70) "SealedProcesses") := wt0 1345 (by decide +kernel) rfl
set_option maxRecDepth 100000 in
theorem wm_X5_isStill : tbw (.instanceMethod (yy 70)) := wt0 1347 (by decide +kernel) rfl
set_option maxRecDepth 100000 in
theorem wse_X5_isStill : tbw (.selects RX5 (yy 70) (yy 70)) := wp0 162 (by decide +kernel) rfl
set_option maxRecDepth 100000 in
theorem wc_X5_living : tbw (cwd 69) := wt0 1352 rfl rfl
set_option maxRecDepth 100000 in
theorem wg_X11_140 : tbw (.methodLinkNest RX11 140 (yy 69) "SealedProcesses") := wt0 1349 (by decide +kernel) rfl
set_option maxRecDepth 100000 in
theorem wm_X5_living : tbw (.instanceMethod (yy 69)) := wt0 1351 (by decide +kernel) rfl
set_option maxRecDepth 100000 in
theorem wse_X5_living : tbw (.selects RX5 (yy 69) (yy 69)) := wp0 163 (by decide +kernel) rfl
set_option maxRecDepth 100000 in
theorem wf_X11_144 : tbw (.fieldLinkNest RX11 144 RX5 (TX5 4).2.1 (TX5 4).2.2.1 "SealedProcesses") := wt0 246 (by decide +kernel) rfl
set_option maxRecDepth 100000 in
theorem wc_X4_channels : tbw (cwd 42) := wt0 1356 rfl rfl
set_option maxRecDepth 100000 in
theorem wg_X11_148 : tbw (.methodLinkNest RX11 148 (yy 42) "SealedProcesses") := wt0 1353 (by decide +kernel) rfl
set_option maxRecDepth 100000 in
theorem wm_X4_channels : tbw (.instanceMethod (yy 42)) := wt0 1355 (by decide +kernel) rfl
set_option maxRecDepth 100000 in
theorem wse_X4_channels : tbw (.selects RX4 (yy 42) (yy 42)) := wp0 164 (by decide +kernel) rfl
set_option maxRecDepth 100000 in
theorem wf_X11_153 : tbw (.fieldLinkNest RX11 153 RX5 (TX5 3).2.1 (TX5 3).2.2.1 "SealedProcesses") := wt0 244 (by decide +kernel) rfl
set_option maxRecDepth 100000 in
theorem wf_X11_157 : tbw (.fieldLinkNest RX11 157 RX0 (TX0 3).2.1 (TX0 3).2.2.1 "SealedProcesses") := wt0 183 (by decide +kernel) rfl
set_option maxRecDepth 100000 in
theorem wf_X11_160 : tbw (.fieldLinkNest RX11 160 RX0 (TX0 4).2.1 (TX0 4).2.2.1 "SealedProcesses") := wt0 185 (by decide +kernel) rfl
set_option maxRecDepth 100000 in
theorem wf_X11_163 : tbw (.fieldLinkNest RX11 163 RX5 (TX5 8).2.1 (TX5 8).2.2.1 "SealedProcesses") := wt0 253 (by decide +kernel) rfl
set_option maxRecDepth 100000 in
theorem wg_X11_166 : tbw (.methodLinkNest RX11 166 (yy 67) "SealedProcesses") := wt0 1361 (by decide +kernel) rfl
set_option maxRecDepth 100000 in
theorem wf_X11_170 : tbw (.fieldLinkNest RX11 170 RX8 (TX8 4).2.1 (TX8 4).2.2.1 "SealedProcesses") := wt0 928 (by decide +kernel) rfl
set_option maxRecDepth 100000 in
theorem wf_X11_175 : tbw (.fieldLinkNest RX11 175 RX8 (TX8 5).2.1 (TX8 5).2.2.1 "SealedProcesses") := wt0 930 (by decide +kernel) rfl
set_option maxRecDepth 100000 in
theorem wf_X11_178 : tbw (.fieldLinkNest RX11 178 RX8 (TX8 2).2.1 (TX8 2).2.2.1 "SealedProcesses") := wt0 921 (by decide +kernel) rfl
set_option maxRecDepth 100000 in
theorem wg_X11_181 : tbw (.methodLinkNest RX11 181 (yy 117) "SealedProcesses") := wt0 1362 (by decide +kernel) rfl
set_option maxRecDepth 100000 in
theorem wc_X11_ofLivingTask : tbw (cwd 203) := wt0 1366 rfl rfl
set_option maxRecDepth 100000 in
theorem wg_X11_184 : tbw (.methodLink RX11 184 (yy 203)) := wt0 1363 (by decide +kernel) rfl
set_option maxRecDepth 100000 in
theorem wm_X11_ofLivingTask : tbw (.instanceMethod (yy 203)) := wt0 1365 (by decide +kernel) rfl
set_option maxRecDepth 100000 in
theorem wse_X11_ofLivingTask : tbw (.selects RX11 (yy 203) (yy 203)) := wp0 165 (by decide +kernel) rfl
set_option maxRecDepth 100000 in
theorem wf_X11_188 : tbw (.fieldLinkNest RX11 188 RX8 (TX8 3).2.1 (TX8 3).2.2.1 "SealedProcesses") := wt0 924 (by decide +kernel) rfl
set_option maxRecDepth 100000 in
theorem wf_X11_191 : tbw (.fieldLinkNest RX11 191 RX8 (TX8 6).2.1 (TX8 6).2.2.1 "SealedProcesses") := wt0 933 (by decide +kernel) rfl
set_option maxRecDepth 100000 in
theorem wk_X11_194 : tbw (.constant RX11 194 (Int32.ofInt (-2147483648))) := wt0 1381 (by decide +kernel) rfl
set_option maxRecDepth 100000 in
theorem wg_X11_195 : tbw (.methodLinkNest RX11 195 (yy 125) "SealedProcesses") := wt0 1372 (by decide +kernel) rfl
set_option maxRecDepth 100000 in
theorem wc_X8_shown : tbw (cwd 133) := wt0 1385 rfl rfl
set_option maxRecDepth 100000 in
theorem wg_X11_198 : tbw (.methodLinkNest RX11 198 (yy 133) "SealedProcesses") := wt0 1382 (by decide +kernel) rfl
set_option maxRecDepth 100000 in
theorem wm_X8_shown : tbw (.instanceMethod (yy 133)) := wt0 1384 (by decide +kernel) rfl
set_option maxRecDepth 100000 in
theorem wse_X8_shown : tbw (.selects RX8 (yy 133) (yy 133)) := wp0 168 (by decide +kernel) rfl
set_option maxRecDepth 100000 in
theorem wc_X8_localCount : tbw (cwd 122) := wt0 1390 rfl rfl
set_option maxRecDepth 100000 in
theorem wg_X11_201 : tbw (.methodLinkNest RX11 201 (yy 122) "SealedProcesses") := wt0 1387 (by decide +kernel) rfl
set_option maxRecDepth 100000 in
theorem wm_X8_localCount : tbw (.instanceMethod (yy 122)) := wt0 1389 (by decide +kernel) rfl
set_option maxRecDepth 100000 in
theorem wse_X8_localCount : tbw (.selects RX8 (yy 122) (yy 122)) := wp0 169 (by decide +kernel) rfl
set_option maxRecDepth 100000 in
theorem wg_X11_204 : tbw (.methodLinkNest RX11 204 (yy 3) "SealedProcesses") := wt0 1395 (by decide +kernel) rfl
set_option maxRecDepth 100000 in
theorem wc_X0_ownerOf : tbw (cwd 4) := wt0 1399 rfl rfl
set_option maxRecDepth 100000 in
theorem wg_X11_207 : tbw (.methodLinkNest RX11 207 (yy 4) "SealedProcesses") := wt0 1396 (by decide +kernel) rfl
set_option maxRecDepth 100000 in
theorem wm_X0_ownerOf : tbw (.instanceMethod (yy 4)) := wt0 1398 (by decide +kernel) rfl
set_option maxRecDepth 100000 in
theorem wse_X0_ownerOf : tbw (.selects RX0 (yy 4) (yy 4)) := wp0 170 (by decide +kernel) rfl
set_option maxRecDepth 100000 in
theorem wg_X11_210 : tbw (.methodLinkNest RX11 210 (yy 6) "SealedProcesses") := wt0 1400 (by decide +kernel) rfl
set_option maxRecDepth 100000 in
theorem wg_X11_213 : tbw (.methodLinkNest RX11 213 (yy 41) "SealedProcesses") := wt0 1405 (by decide +kernel) rfl
set_option maxRecDepth 100000 in
theorem wc_X4_stateOf : tbw (cwd 45) := wt0 1409 rfl rfl
set_option maxRecDepth 100000 in
theorem wg_X11_217 : tbw (.methodLinkNest RX11 217 (yy 45) "SealedProcesses") := wt0 1406 (by decide +kernel) rfl
set_option maxRecDepth 100000 in
theorem wm_X4_stateOf : tbw (.instanceMethod (yy 45)) := wt0 1408 (by decide +kernel) rfl
set_option maxRecDepth 100000 in
theorem wse_X4_stateOf : tbw (.selects RX4 (yy 45) (yy 45)) := wp0 171 (by decide +kernel) rfl
set_option maxRecDepth 100000 in
theorem wc_X4_ownerOf : tbw (cwd 46) := wt0 1413 rfl rfl
set_option maxRecDepth 100000 in
theorem wg_X11_220 : tbw (.methodLinkNest RX11 220 (yy 46) "SealedProcesses") := wt0 1410 (by decide +kernel) rfl
set_option maxRecDepth 100000 in
theorem wm_X4_ownerOf : tbw (.instanceMethod (yy 46)) := wt0 1412 (by decide +kernel) rfl
set_option maxRecDepth 100000 in
theorem wse_X4_ownerOf : tbw (.selects RX4 (yy 46) (yy 46)) := wp0 172 (by decide +kernel) rfl
set_option maxRecDepth 100000 in
theorem wg_X11_221 : tbw (.methodLinkNest RX11 221 (yy 48) "SealedProcesses") := wt0 1414 (by decide +kernel) rfl
set_option maxRecDepth 100000 in
theorem wf_X11_224 : tbw (.fieldLinkNest RX11 224 RX5 (TX5 6).2.1 (TX5 6).2.2.1 "SealedProcesses") := wt0 249 (by decide +kernel) rfl
set_option maxRecDepth 100000 in
theorem wf_X11_227 : tbw (.fieldLinkNest RX11 227 RX5 (TX5 7).2.1 (TX5 7).2.2.1 "SealedProcesses") := wt0 251 (by decide +kernel) rfl
set_option maxRecDepth 100000 in
theorem wf_X11_230 : tbw (.fieldLinkNest RX11 230 RX1 (TX1 4).2.1 (TX1 4).2.2.1 "SealedProcesses") := wt0 51 (by decide +kernel) rfl
set_option maxRecDepth 100000 in
theorem wf_X11_235 : tbw (.fieldLinkNest RX11 235 RX1 (TX1 5).2.1 (TX1 5).2.2.1 "SealedProcesses") := wt0 53 (by decide +kernel) rfl
set_option maxRecDepth 100000 in
theorem wc_X8_function : tbw (cwd 120) := wt0 1370 rfl rfl
set_option maxRecDepth 100000 in
theorem wg_X11_238 : tbw (.methodLinkNest RX11 238 (yy 120) "SealedProcesses") := wt0 1367 (by decide +kernel) rfl
set_option maxRecDepth 100000 in
theorem wm_X8_function : tbw (.instanceMethod (yy 120)) := wt0 1369 (by decide +kernel) rfl
set_option maxRecDepth 100000 in
theorem wse_X8_function : tbw (.selects RX8 (yy 120) (yy 120)) := wp0 166 (by decide +kernel) rfl
set_option maxRecDepth 100000 in
theorem wg_X11_241 : tbw (.methodLinkNest RX11 241 (yy 123) "SealedProcesses") := wt0 1371 (by decide +kernel) rfl
set_option maxRecDepth 100000 in
theorem wf_X11_243 : tbw (.fieldLinkNest RX11 243 RX8 (TX8 7).2.1 (TX8 7).2.2.1 "SealedProcesses") := wt0 936 (by decide +kernel) rfl
set_option maxRecDepth 100000 in
theorem wc_X5_reachedBy : tbw (cwd 71) := wt0 1376 rfl rfl
set_option maxRecDepth 100000 in
theorem wg_X11_246 : tbw (.methodLinkNest RX11 246 (yy 71) "SealedProcesses") := wt0 1373 (by decide +kernel) rfl
set_option maxRecDepth 100000 in
theorem wm_X5_reachedBy : tbw (.instanceMethod (yy 71)) := wt0 1375 (by decide +kernel) rfl
set_option maxRecDepth 100000 in
theorem wse_X5_reachedBy : tbw (.selects RX5 (yy 71) (yy 71)) := wp0 167 (by decide +kernel) rfl
set_option maxRecDepth 100000 in
theorem wf_X11_250 : tbw (.fieldLinkNest RX11 250 RX7 (TX7 0).2.1 (TX7 0).2.2.1 "SealedProcesses") := wt0 529 (by decide +kernel) rfl
set_option maxRecDepth 100000 in
theorem wf_X11_253 : tbw (.fieldLinkNest RX11 253 RX7 (TX7 4).2.1 (TX7 4).2.2.1 "SealedProcesses") := wt0 542 (by decide +kernel) rfl
set_option maxRecDepth 100000 in
theorem wf_X11_254 : tbw (.fieldLinkNest RX11 254 RX7 (TX7 5).2.1 (TX7 5).2.2.1 "SealedProcesses") := wt0 547 (by decide +kernel) rfl
set_option maxRecDepth 100000 in
theorem wf_X11_256 : tbw (.fieldLinkNest RX11 256 RX7 (TX7 6).2.1 (TX7 6).2.2.1 "SealedProcesses") := wt0 549 (by decide +kernel) rfl
set_option maxRecDepth 100000 in
theorem wg_X11_259 : tbw (.methodLink RX11 259 (yy 212)) := wt0 702 (by decide +kernel) rfl
set_option maxRecDepth 100000 in
theorem wq_X12_1 : tbw (.methodLink RX12 1 Lib.objectInit) := wt0 1424 (by decide +kernel) rfl
set_option maxRecDepth 100000 in
theorem wa_byte : tbw (.arrayClass .byte) := wt0 1486 (by decide +kernel) rfl
set_option maxRecDepth 100000 in
theorem wf_X12_7 : tbw (.fieldLink RX12 7 RX12 (TX12 1).2.1 (TX12 1).2.2.1) := wt0 1488 (by decide +kernel) rfl
set_option maxRecDepth 100000 in
theorem wf_X12_13 : tbw (.fieldLink RX12 13 RX12 (TX12 3).2.1 (TX12 3).2.2.1) := wt0 1490 (by decide +kernel) rfl
set_option maxRecDepth 100000 in
theorem wf_X12_16 : tbw (.fieldLink RX12 16 RX12 (TX12 4).2.1 (TX12 4).2.2.1) := wt0 1491 (by decide +kernel) rfl
set_option maxRecDepth 100000 in
theorem wf_X12_20 : tbw (.fieldLink RX12 20 RX12 (TX12 5).2.1 (TX12 5).2.2.1) := wt0 1492 (by decide +kernel) rfl
set_option maxRecDepth 100000 in
theorem wf_X12_23 : tbw (.fieldLink RX12 23 RX12 (TX12 6).2.1 (TX12 6).2.2.1) := wt0 1493 (by decide +kernel) rfl
set_option maxRecDepth 100000 in
theorem wf_X12_26 : tbw (.fieldLink RX12 26 RX12 (TX12 7).2.1 (TX12 7).2.2.1) := wt0 1494 (by decide +kernel) rfl
set_option maxRecDepth 100000 in
theorem wf_X12_29 : tbw (.fieldLink RX12 29 RX12 (TX12 8).2.1 (TX12 8).2.2.1) := wt0 1495 (by decide +kernel) rfl
set_option maxRecDepth 100000 in
theorem wf_X12_33 : tbw (.fieldLink RX12 33 RX12 (TX12 9).2.1 (TX12 9).2.2.1) := wt0 1496 (by decide +kernel) rfl
set_option maxRecDepth 100000 in
theorem wf_X12_36 : tbw (.fieldLink RX12 36 RX12 (TX12 10).2.1 (TX12 10).2.2.1) := wt0 1497 (by decide +kernel) rfl
set_option maxRecDepth 100000 in
theorem wf_X12_39 : tbw (.fieldLink RX12 39 RX12 (TX12 11).2.1 (TX12 11).2.2.1) := wt0 1498 (by decide +kernel) rfl
set_option maxRecDepth 100000 in
theorem wf_X12_42 : tbw (.fieldLink RX12 42 RX12 (TX12 12).2.1 (TX12 12).2.2.1) := wt0 1499 (by decide +kernel) rfl
set_option maxRecDepth 100000 in
theorem wf_X12_45 : tbw (.fieldLink RX12 45 RX12 (TX12 13).2.1 (TX12 13).2.2.1) := wt0 1500 (by decide +kernel) rfl
set_option maxRecDepth 100000 in
theorem wf_X12_48 : tbw (.fieldLink RX12 48 RX12 (TX12 14).2.1 (TX12 14).2.2.1) := wt0 1501 (by decide +kernel) rfl
set_option maxRecDepth 100000 in
theorem wf_X12_51 : tbw (.fieldLink RX12 51 RX12 (TX12 15).2.1 (TX12 15).2.2.1) := wt0 1502 (by decide +kernel) rfl
set_option maxRecDepth 100000 in
theorem wf_X12_54 : tbw (.fieldLink RX12 54 RX12 (TX12 16).2.1 (TX12 16).2.2.1) := wt0 1503 (by decide +kernel) rfl
set_option maxRecDepth 100000 in
theorem wf_X12_57 : tbw (.fieldLink RX12 57 RX12 (TX12 17).2.1 (TX12 17).2.2.1) := wt0 1504 (by decide +kernel) rfl
set_option maxRecDepth 100000 in
theorem wf_X12_60 : tbw (.fieldLink RX12 60 RX12 (TX12 18).2.1 (TX12 18).2.2.1) := wt0 1505 (by decide +kernel) rfl
set_option maxRecDepth 100000 in
theorem wf_X12_63 : tbw (.fieldLink RX12 63 RX12 (TX12 19).2.1 (TX12 19).2.2.1) := wt0 1506 (by decide +kernel) rfl
set_option maxRecDepth 100000 in
theorem wf_X12_66 : tbw (.fieldLink RX12 66 RX12 (TX12 20).2.1 (TX12 20).2.2.1) := wt0 1507 (by decide +kernel) rfl
set_option maxRecDepth 100000 in
theorem wf_X12_69 : tbw (.fieldLink RX12 69 RX12 (TX12 21).2.1 (TX12 21).2.2.1) := wt0 1508 (by decide +kernel) rfl
set_option maxRecDepth 100000 in
theorem wf_X12_72 : tbw (.fieldLink RX12 72 RX12 (TX12 23).2.1 (TX12 23).2.2.1) := wt0 1510 (by decide +kernel) rfl
set_option maxRecDepth 100000 in
theorem wl_X12_76 : tbw (.classLink RX12 76 "java/lang/IllegalStateException") := wt0 1425 (by decide +kernel) rfl
set_option maxRecDepth 100000 in
theorem wn_E : tbw (.instantiable "java/lang/IllegalStateException" 6) := wt0 1426 (by decide +kernel) rfl
set_option maxRecDepth 100000 in
theorem wi_E : tbw (.initialized "java/lang/IllegalStateException") := wt0 13 (by decide +kernel) rfl
set_option maxRecDepth 100000 in
theorem wf_X12_79 : tbw (.fieldLink RX12 79 RX12 (TX12 25).2.1 (TX12 25).2.2.1) := wt0 1512 (by decide +kernel) rfl
set_option maxRecDepth 100000 in
theorem wf_X12_83 : tbw (.fieldLink RX12 83 RX12 (TX12 29).2.1 (TX12 29).2.2.1) := wt0 1516 (by decide +kernel) rfl
set_option maxRecDepth 100000 in
theorem wf_X12_86 : tbw (.fieldLink RX12 86 RX12 (TX12 30).2.1 (TX12 30).2.2.1) := wt0 1517 (by decide +kernel) rfl
set_option maxRecDepth 100000 in
theorem wf_X12_89 : tbw (.fieldLink RX12 89 RX12 (TX12 31).2.1 (TX12 31).2.2.1) := wt0 1518 (by decide +kernel) rfl
set_option maxRecDepth 100000 in
theorem wf_X12_92 : tbw (.fieldLink RX12 92 RX12 (TX12 32).2.1 (TX12 32).2.2.1) := wt0 1519 (by decide +kernel) rfl
set_option maxRecDepth 100000 in
theorem wf_X12_95 : tbw (.fieldLink RX12 95 RX12 (TX12 33).2.1 (TX12 33).2.2.1) := wt0 1520 (by decide +kernel) rfl
set_option maxRecDepth 100000 in
theorem wf_X12_98 : tbw (.fieldLink RX12 98 RX12 (TX12 34).2.1 (TX12 34).2.2.1) := wt0 1521 (by decide +kernel) rfl
set_option maxRecDepth 100000 in
theorem wf_X12_101 : tbw (.fieldLink RX12 101 RX12 (TX12 39).2.1 (TX12 39).2.2.1) := wt0 1526 (by decide +kernel) rfl
set_option maxRecDepth 100000 in
theorem wf_X12_104 : tbw (.fieldLink RX12 104 RX12 (TX12 40).2.1 (TX12 40).2.2.1) := wt0 1527 (by decide +kernel) rfl
set_option maxRecDepth 100000 in
theorem wf_X12_107 : tbw (.fieldLink RX12 107 RX12 (TX12 41).2.1 (TX12 41).2.2.1) := wt0 1528 (by decide +kernel) rfl
set_option maxRecDepth 100000 in
theorem wf_X12_110 : tbw (.fieldLink RX12 110 RX12 (TX12 42).2.1 (TX12 42).2.2.1) := wt0 1529 (by decide +kernel) rfl
set_option maxRecDepth 100000 in
theorem wf_X12_113 : tbw (.fieldLink RX12 113 RX12 (TX12 43).2.1 (TX12 43).2.2.1) := wt0 1530 (by decide +kernel) rfl
set_option maxRecDepth 100000 in
theorem wf_X12_116 : tbw (.fieldLink RX12 116 RX12 (TX12 44).2.1 (TX12 44).2.2.1) := wt0 1531 (by decide +kernel) rfl
set_option maxRecDepth 100000 in
theorem wf_X12_119 : tbw (.fieldLink RX12 119 RX12 (TX12 45).2.1 (TX12 45).2.2.1) := wt0 1532 (by decide +kernel) rfl
set_option maxRecDepth 100000 in
theorem wf_X12_122 : tbw (.fieldLink RX12 122 RX12 (TX12 46).2.1 (TX12 46).2.2.1) := wt0 1533 (by decide +kernel) rfl
set_option maxRecDepth 100000 in
theorem wf_X12_125 : tbw (.fieldLink RX12 125 RX12 (TX12 47).2.1 (TX12 47).2.2.1) := wt0 1534 (by decide +kernel) rfl
set_option maxRecDepth 100000 in
theorem wf_X12_128 : tbw (.fieldLink RX12 128 RX12 (TX12 50).2.1 (TX12 50).2.2.1) := wt0 1537 (by decide +kernel) rfl
set_option maxRecDepth 100000 in
theorem wf_X12_131 : tbw (.fieldLink RX12 131 RX12 (TX12 57).2.1 (TX12 57).2.2.1) := wt0 1544 (by decide +kernel) rfl
set_option maxRecDepth 100000 in
theorem wf_X12_134 : tbw (.fieldLink RX12 134 RX12 (TX12 58).2.1 (TX12 58).2.2.1) := wt0 1545 (by decide +kernel) rfl
set_option maxRecDepth 100000 in
theorem wf_X12_137 : tbw (.fieldLink RX12 137 RX12 (TX12 59).2.1 (TX12 59).2.2.1) := wt0 1546 (by decide +kernel) rfl
set_option maxRecDepth 100000 in
theorem wf_X12_140 : tbw (.fieldLink RX12 140 RX12 (TX12 60).2.1 (TX12 60).2.2.1) := wt0 1547 (by decide +kernel) rfl
set_option maxRecDepth 100000 in
theorem wf_X12_143 : tbw (.fieldLink RX12 143 RX12 (TX12 61).2.1 (TX12 61).2.2.1) := wt0 1548 (by decide +kernel) rfl
set_option maxRecDepth 100000 in
theorem wf_X12_146 : tbw (.fieldLink RX12 146 RX12 (TX12 62).2.1 (TX12 62).2.2.1) := wt0 1549 (by decide +kernel) rfl
set_option maxRecDepth 100000 in
theorem wf_X12_149 : tbw (.fieldLink RX12 149 RX12 (TX12 63).2.1 (TX12 63).2.2.1) := wt0 1550 (by decide +kernel) rfl
set_option maxRecDepth 100000 in
theorem wf_X12_152 : tbw (.fieldLink RX12 152 RX12 (TX12 64).2.1 (TX12 64).2.2.1) := wt0 1551 (by decide +kernel) rfl
set_option maxRecDepth 100000 in
theorem wf_X12_155 : tbw (.fieldLink RX12 155 RX12 (TX12 65).2.1 (TX12 65).2.2.1) := wt0 1552 (by decide +kernel) rfl
set_option maxRecDepth 100000 in
theorem wf_X12_158 : tbw (.fieldLink RX12 158 RX12 (TX12 66).2.1 (TX12 66).2.2.1) := wt0 1553 (by decide +kernel) rfl
set_option maxRecDepth 100000 in
theorem wf_X12_161 : tbw (.fieldLink RX12 161 RX12 (TX12 67).2.1 (TX12 67).2.2.1) := wt0 1554 (by decide +kernel) rfl
set_option maxRecDepth 100000 in
theorem wf_X12_164 : tbw (.fieldLink RX12 164 RX12 (TX12 68).2.1 (TX12 68).2.2.1) := wt0 1555 (by decide +kernel) rfl
set_option maxRecDepth 100000 in
theorem wf_X12_167 : tbw (.fieldLink RX12 167 RX12 (TX12 69).2.1 (TX12 69).2.2.1) := wt0 1556 (by decide +kernel) rfl
set_option maxRecDepth 100000 in
theorem wf_X12_170 : tbw (.fieldLink RX12 170 RX12 (TX12 70).2.1 (TX12 70).2.2.1) := wt0 1557 (by decide +kernel) rfl
set_option maxRecDepth 100000 in
theorem wf_X12_173 : tbw (.fieldLink RX12 173 RX12 (TX12 71).2.1 (TX12 71).2.2.1) := wt0 1558 (by decide +kernel) rfl
set_option maxRecDepth 100000 in
theorem wf_X12_176 : tbw (.fieldLink RX12 176 RX12 (TX12 72).2.1 (TX12 72).2.2.1) := wt0 1559 (by decide +kernel) rfl
set_option maxRecDepth 100000 in
theorem wf_X12_179 : tbw (.fieldLink RX12 179 RX12 (TX12 73).2.1 (TX12 73).2.2.1) := wt0 1560 (by decide +kernel) rfl
set_option maxRecDepth 100000 in
theorem wf_X12_182 : tbw (.fieldLink RX12 182 RX12 (TX12 74).2.1 (TX12 74).2.2.1) := wt0 1561 (by decide +kernel) rfl
set_option maxRecDepth 100000 in
theorem wf_X12_185 : tbw (.fieldLink RX12 185 RX12 (TX12 75).2.1 (TX12 75).2.2.1) := wt0 1562 (by decide +kernel) rfl
set_option maxRecDepth 100000 in
theorem wf_X12_188 : tbw (.fieldLink RX12 188 RX12 (TX12 76).2.1 (TX12 76).2.2.1) := wt0 1563 (by decide +kernel) rfl
set_option maxRecDepth 100000 in
theorem wf_X12_191 : tbw (.fieldLink RX12 191 RX12 (TX12 77).2.1 (TX12 77).2.2.1) := wt0 1564 (by decide +kernel) rfl
set_option maxRecDepth 100000 in
theorem wf_X12_194 : tbw (.fieldLink RX12 194 RX12 (TX12 78).2.1 (TX12 78).2.2.1) := wt0 1565 (by decide +kernel) rfl
set_option maxRecDepth 100000 in
theorem wf_X12_197 : tbw (.fieldLink RX12 197 RX12 (TX12 79).2.1 (TX12 79).2.2.1) := wt0 1566 (by decide +kernel) rfl
set_option maxRecDepth 100000 in
theorem wf_X12_200 : tbw (.fieldLink RX12 200 RX12 (TX12 80).2.1 (TX12 80).2.2.1) := wt0 1567 (by decide +kernel) rfl
set_option maxRecDepth 100000 in
theorem wf_X12_203 : tbw (.fieldLink RX12 203 RX12 (TX12 81).2.1 (TX12 81).2.2.1) := wt0 1568 (by decide +kernel) rfl
set_option maxRecDepth 100000 in
theorem wf_X12_206 : tbw (.fieldLink RX12 206 RX12 (TX12 82).2.1 (TX12 82).2.2.1) := wt0 1569 (by decide +kernel) rfl
set_option maxRecDepth 100000 in
theorem wf_X12_209 : tbw (.fieldLink RX12 209 RX12 (TX12 83).2.1 (TX12 83).2.2.1) := wt0 1570 (by decide +kernel) rfl
set_option maxRecDepth 100000 in
theorem wf_X12_212 : tbw (.fieldLink RX12 212 RX12 (TX12 84).2.1 (TX12 84).2.2.1) := wt0 1571 (by decide +kernel) rfl
set_option maxRecDepth 100000 in
theorem wf_X12_215 : tbw (.fieldLink RX12 215 RX12 (TX12 85).2.1 (TX12 85).2.2.1) := wt0 1572 (by decide +kernel) rfl
set_option maxRecDepth 100000 in
theorem wf_X12_218 : tbw (.fieldLink RX12 218 RX12 (TX12 86).2.1 (TX12 86).2.2.1) := wt0 1573 (by decide +kernel) rfl
set_option maxRecDepth 100000 in
theorem wf_X12_221 : tbw (.fieldLink RX12 221 RX12 (TX12 87).2.1 (TX12 87).2.2.1) := wt0 1574 (by decide +kernel) rfl
set_option maxRecDepth 100000 in
theorem wf_X12_224 : tbw (.fieldLink RX12 224 RX12 (TX12 88).2.1 (TX12 88).2.2.1) := wt0 1575 (by decide +kernel) rfl
set_option maxRecDepth 100000 in
theorem wf_X12_227 : tbw (.fieldLink RX12 227 RX12 (TX12 0).2.1 (TX12 0).2.2.1) := wt0 1487 (by decide +kernel) rfl
set_option maxRecDepth 100000 in
theorem wf_X12_230 : tbw (.fieldLink RX12 230 RX12 (TX12 2).2.1 (TX12 2).2.2.1) := wt0 1489 (by decide +kernel) rfl
set_option maxRecDepth 100000 in
theorem wf_X12_233 : tbw (.fieldLink RX12 233 RX12 (TX12 22).2.1 (TX12 22).2.2.1) := wt0 1509 (by decide +kernel) rfl
set_option maxRecDepth 100000 in
theorem wf_X12_236 : tbw (.fieldLink RX12 236 RX12 (TX12 24).2.1 (TX12 24).2.2.1) := wt0 1511 (by decide +kernel) rfl
set_option maxRecDepth 100000 in
theorem wf_X12_240 : tbw (.fieldLink RX12 240 RX12 (TX12 27).2.1 (TX12 27).2.2.1) := wt0 1514 (by decide +kernel) rfl
set_option maxRecDepth 100000 in
theorem wf_X12_243 : tbw (.fieldLink RX12 243 RX12 (TX12 26).2.1 (TX12 26).2.2.1) := wt0 1513 (by decide +kernel) rfl
set_option maxRecDepth 100000 in
theorem wc_X12_byteAt : tbw (cwd 220) := wt0 1789 rfl rfl
set_option maxRecDepth 100000 in
theorem wi_SealedProcessesModel : tbw (.initialized RX12) := wt0 9 (by decide +kernel) rfl
set_option maxRecDepth 100000 in
theorem wg_X12_246 : tbw (.methodLink RX12 246 (yy 220)) := wt0 1786 (by decide +kernel) rfl
set_option maxRecDepth 100000 in
theorem wm_X12_byteAt : tbw (.instanceMethod (yy 220)) := wt0 1788 (by decide +kernel) rfl
set_option maxRecDepth 100000 in
theorem wse_X12_byteAt : tbw (.selects RX12 (yy 220) (yy 220)) := wp0 178 (by decide +kernel) rfl
set_option maxRecDepth 100000 in
theorem wc_X12_fails : tbw (cwd 218) := wt0 1793 rfl rfl
set_option maxRecDepth 100000 in
theorem wg_X12_250 : tbw (.methodLink RX12 250 (yy 218)) := wt0 1790 (by decide +kernel) rfl
set_option maxRecDepth 100000 in
theorem wm_X12_fails : tbw (.instanceMethod (yy 218)) := wt0 1792 (by decide +kernel) rfl
set_option maxRecDepth 100000 in
theorem wse_X12_fails : tbw (.selects RX12 (yy 218) (yy 218)) := wp0 179 (by decide +kernel) rfl
set_option maxRecDepth 100000 in
theorem wc_X12_number : tbw (cwd 221) := wt0 1785 rfl rfl
set_option maxRecDepth 100000 in
theorem wg_X12_254 : tbw (.methodLink RX12 254 (yy 221)) := wt0 1782 (by decide +kernel) rfl
set_option maxRecDepth 100000 in
theorem wm_X12_number : tbw (.instanceMethod (yy 221)) := wt0 1784 (by decide +kernel) rfl
set_option maxRecDepth 100000 in
theorem wse_X12_number : tbw (.selects RX12 (yy 221) (yy 221)) := wp0 177 (by decide +kernel) rfl
set_option maxRecDepth 100000 in
theorem wk_X12_257 : tbw (.constant RX12 257 (Int32.ofInt 524288)) := wt0 1798 (by decide +kernel) rfl
set_option maxRecDepth 100000 in
theorem wc_X12_kind : tbw (cwd 224) := wt0 1867 rfl rfl
set_option maxRecDepth 100000 in
theorem wg_X12_258 : tbw (.methodLink RX12 258 (yy 224)) := wt0 1865 (by decide +kernel) rfl
set_option maxRecDepth 100000 in
theorem wt_X12_kind : tbw (.static (yy 224)) := wt0 1866 (by decide +kernel) rfl
set_option maxRecDepth 100000 in
theorem wc_X12_must : tbw (cwd 222) := wt0 1781 rfl rfl
set_option maxRecDepth 100000 in
theorem wg_X12_262 : tbw (.methodLink RX12 262 (yy 222)) := wt0 1778 (by decide +kernel) rfl
set_option maxRecDepth 100000 in
theorem wm_X12_must : tbw (.instanceMethod (yy 222)) := wt0 1780 (by decide +kernel) rfl
set_option maxRecDepth 100000 in
theorem wse_X12_must : tbw (.selects RX12 (yy 222) (yy 222)) := wp0 176 (by decide +kernel) rfl
set_option maxRecDepth 100000 in
theorem wc_X12_type : tbw (cwd 223) := wt0 1797 rfl rfl
set_option maxRecDepth 100000 in
theorem wg_X12_266 : tbw (.methodLink RX12 266 (yy 223)) := wt0 1794 (by decide +kernel) rfl
set_option maxRecDepth 100000 in
theorem wm_X12_type : tbw (.instanceMethod (yy 223)) := wt0 1796 (by decide +kernel) rfl
set_option maxRecDepth 100000 in
theorem wse_X12_type : tbw (.selects RX12 (yy 223) (yy 223)) := wp0 180 (by decide +kernel) rfl
set_option maxRecDepth 100000 in
theorem wc_X12_contract : tbw (cwd 231) := wt0 1802 rfl rfl
set_option maxRecDepth 100000 in
theorem wg_X12_270 : tbw (.methodLink RX12 270 (yy 231)) := wt0 1799 (by decide +kernel) rfl
set_option maxRecDepth 100000 in
theorem wm_X12_contract : tbw (.instanceMethod (yy 231)) := wt0 1801 (by decide +kernel) rfl
set_option maxRecDepth 100000 in
theorem wse_X12_contract : tbw (.selects RX12 (yy 231) (yy 231)) := wp0 181 (by decide +kernel) rfl
set_option maxRecDepth 100000 in
theorem wc_X12_functionText : tbw (cwd 232) := wt0 1806 rfl rfl
set_option maxRecDepth 100000 in
theorem wg_X12_273 : tbw (.methodLink RX12 273 (yy 232)) := wt0 1803 (by decide +kernel) rfl
set_option maxRecDepth 100000 in
theorem wm_X12_functionText : tbw (.instanceMethod (yy 232)) := wt0 1805 (by decide +kernel) rfl
set_option maxRecDepth 100000 in
theorem wse_X12_functionText : tbw (.selects RX12 (yy 232) (yy 232)) := wp0 182 (by decide +kernel) rfl
set_option maxRecDepth 100000 in
theorem wc_X12_instruction : tbw (cwd 234) := wt0 1810 rfl rfl
set_option maxRecDepth 100000 in
theorem wg_X12_276 : tbw (.methodLink RX12 276 (yy 234)) := wt0 1807 (by decide +kernel) rfl
set_option maxRecDepth 100000 in
theorem wm_X12_instruction : tbw (.instanceMethod (yy 234)) := wt0 1809 (by decide +kernel) rfl
set_option maxRecDepth 100000 in
theorem wse_X12_instruction : tbw (.selects RX12 (yy 234) (yy 234)) := wp0 183 (by decide +kernel) rfl
set_option maxRecDepth 100000 in
theorem wc_X12_part : tbw (cwd 233) := wt0 1814 rfl rfl
set_option maxRecDepth 100000 in
theorem wg_X12_279 : tbw (.methodLink RX12 279 (yy 233)) := wt0 1811 (by decide +kernel) rfl
set_option maxRecDepth 100000 in
theorem wm_X12_part : tbw (.instanceMethod (yy 233)) := wt0 1813 (by decide +kernel) rfl
set_option maxRecDepth 100000 in
theorem wse_X12_part : tbw (.selects RX12 (yy 233) (yy 233)) := wp0 184 (by decide +kernel) rfl
set_option maxRecDepth 100000 in
theorem wc_X12_noLocal : tbw (cwd 235) := wt0 1818 rfl rfl
set_option maxRecDepth 100000 in
theorem wg_X12_283 : tbw (.methodLink RX12 283 (yy 235)) := wt0 1815 (by decide +kernel) rfl
set_option maxRecDepth 100000 in
theorem wm_X12_noLocal : tbw (.instanceMethod (yy 235)) := wt0 1817 (by decide +kernel) rfl
set_option maxRecDepth 100000 in
theorem wse_X12_noLocal : tbw (.selects RX12 (yy 235) (yy 235)) := wp0 185 (by decide +kernel) rfl
set_option maxRecDepth 100000 in
theorem wf_X12_286 : tbw (.fieldLink RX12 286 RX12 (TX12 28).2.1 (TX12 28).2.2.1) := wt0 1515 (by decide +kernel) rfl
set_option maxRecDepth 100000 in
theorem wc_X12_isPlain : tbw (cwd 238) := wt0 1830 rfl rfl
set_option maxRecDepth 100000 in
theorem wg_X12_289 : tbw (.methodLink RX12 289 (yy 238)) := wt0 1827 (by decide +kernel) rfl
set_option maxRecDepth 100000 in
theorem wm_X12_isPlain : tbw (.instanceMethod (yy 238)) := wt0 1829 (by decide +kernel) rfl
set_option maxRecDepth 100000 in
theorem wse_X12_isPlain : tbw (.selects RX12 (yy 238) (yy 238)) := wp0 188 (by decide +kernel) rfl
set_option maxRecDepth 100000 in
theorem wc_X12_missing : tbw (cwd 236) := wt0 1834 rfl rfl
set_option maxRecDepth 100000 in
theorem wg_X12_293 : tbw (.methodLink RX12 293 (yy 236)) := wt0 1831 (by decide +kernel) rfl
set_option maxRecDepth 100000 in
theorem wm_X12_missing : tbw (.instanceMethod (yy 236)) := wt0 1833 (by decide +kernel) rfl
set_option maxRecDepth 100000 in
theorem wse_X12_missing : tbw (.selects RX12 (yy 236) (yy 236)) := wp0 189 (by decide +kernel) rfl
set_option maxRecDepth 100000 in
theorem wc_X12_names : tbw (cwd 237) := wt0 1826 rfl rfl
set_option maxRecDepth 100000 in
theorem wg_X12_296 : tbw (.methodLink RX12 296 (yy 237)) := wt0 1823 (by decide +kernel) rfl
set_option maxRecDepth 100000 in
theorem wm_X12_names : tbw (.instanceMethod (yy 237)) := wt0 1825 (by decide +kernel) rfl
set_option maxRecDepth 100000 in
theorem wse_X12_names : tbw (.selects RX12 (yy 237) (yy 237)) := wp0 187 (by decide +kernel) rfl
set_option maxRecDepth 100000 in
theorem wc_X12_looksAtCode : tbw (cwd 242) := wt0 1838 rfl rfl
set_option maxRecDepth 100000 in
theorem wg_X12_299 : tbw (.methodLink RX12 299 (yy 242)) := wt0 1835 (by decide +kernel) rfl
set_option maxRecDepth 100000 in
theorem wm_X12_looksAtCode : tbw (.instanceMethod (yy 242)) := wt0 1837 (by decide +kernel) rfl
set_option maxRecDepth 100000 in
theorem wse_X12_looksAtCode : tbw (.selects RX12 (yy 242) (yy 242)) := wp0 190 (by decide +kernel) rfl
set_option maxRecDepth 100000 in
theorem wc_X12_length : tbw (cwd 240) := wt0 1846 rfl rfl
set_option maxRecDepth 100000 in
theorem wg_X12_302 : tbw (.methodLink RX12 302 (yy 240)) := wt0 1843 (by decide +kernel) rfl
set_option maxRecDepth 100000 in
theorem wm_X12_length : tbw (.instanceMethod (yy 240)) := wt0 1845 (by decide +kernel) rfl
set_option maxRecDepth 100000 in
theorem wse_X12_length : tbw (.selects RX12 (yy 240) (yy 240)) := wp0 192 (by decide +kernel) rfl
set_option maxRecDepth 100000 in
theorem wc_X12_begins : tbw (cwd 241) := wt0 1842 rfl rfl
set_option maxRecDepth 100000 in
theorem wg_X12_305 : tbw (.methodLink RX12 305 (yy 241)) := wt0 1839 (by decide +kernel) rfl
set_option maxRecDepth 100000 in
theorem wm_X12_begins : tbw (.instanceMethod (yy 241)) := wt0 1841 (by decide +kernel) rfl
set_option maxRecDepth 100000 in
theorem wse_X12_begins : tbw (.selects RX12 (yy 241) (yy 241)) := wp0 191 (by decide +kernel) rfl
set_option maxRecDepth 100000 in
theorem wf_X12_309 : tbw (.fieldLink RX12 309 RX12 (TX12 36).2.1 (TX12 36).2.2.1) := wt0 1523 (by decide +kernel) rfl
set_option maxRecDepth 100000 in
theorem wf_X12_312 : tbw (.fieldLink RX12 312 RX12 (TX12 37).2.1 (TX12 37).2.2.1) := wt0 1524 (by decide +kernel) rfl
set_option maxRecDepth 100000 in
theorem wf_X12_315 : tbw (.fieldLink RX12 315 RX12 (TX12 35).2.1 (TX12 35).2.2.1) := wt0 1522 (by decide +kernel) rfl
set_option maxRecDepth 100000 in
theorem wc_X12_flow : tbw (cwd 245) := wt0 1854 rfl rfl
set_option maxRecDepth 100000 in
theorem wg_X12_318 : tbw (.methodLink RX12 318 (yy 245)) := wt0 1851 (by decide +kernel) rfl
set_option maxRecDepth 100000 in
theorem wm_X12_flow : tbw (.instanceMethod (yy 245)) := wt0 1853 (by decide +kernel) rfl
set_option maxRecDepth 100000 in
theorem wse_X12_flow : tbw (.selects RX12 (yy 245) (yy 245)) := wp0 194 (by decide +kernel) rfl
set_option maxRecDepth 100000 in
theorem wc_X12_step : tbw (cwd 253) := wt0 1874 rfl rfl
set_option maxRecDepth 100000 in
theorem wg_X12_321 : tbw (.methodLink RX12 321 (yy 253)) := wt0 1871 (by decide +kernel) rfl
set_option maxRecDepth 100000 in
theorem wm_X12_step : tbw (.instanceMethod (yy 253)) := wt0 1873 (by decide +kernel) rfl
set_option maxRecDepth 100000 in
theorem wse_X12_step : tbw (.selects RX12 (yy 253) (yy 253)) := wp0 196 (by decide +kernel) rfl
set_option maxRecDepth 100000 in
theorem wc_X12_wants : tbw (cwd 244) := wt0 1858 rfl rfl
set_option maxRecDepth 100000 in
theorem wg_X12_325 : tbw (.methodLink RX12 325 (yy 244)) := wt0 1855 (by decide +kernel) rfl
set_option maxRecDepth 100000 in
theorem wm_X12_wants : tbw (.instanceMethod (yy 244)) := wt0 1857 (by decide +kernel) rfl
set_option maxRecDepth 100000 in
theorem wse_X12_wants : tbw (.selects RX12 (yy 244) (yy 244)) := wp0 195 (by decide +kernel) rfl
set_option maxRecDepth 100000 in
theorem wc_X12_both : tbw (cwd 246) := wt0 1861 rfl rfl
set_option maxRecDepth 100000 in
theorem wg_X12_329 : tbw (.methodLink RX12 329 (yy 246)) := wt0 1859 (by decide +kernel) rfl
set_option maxRecDepth 100000 in
theorem wt_X12_both : tbw (.static (yy 246)) := wt0 1860 (by decide +kernel) rfl
set_option maxRecDepth 100000 in
theorem wc_X12_isLinear : tbw (cwd 228) := wt0 1870 rfl rfl
set_option maxRecDepth 100000 in
theorem wg_X12_332 : tbw (.methodLink RX12 332 (yy 228)) := wt0 1868 (by decide +kernel) rfl
set_option maxRecDepth 100000 in
theorem wt_X12_isLinear : tbw (.static (yy 228)) := wt0 1869 (by decide +kernel) rfl
set_option maxRecDepth 100000 in
theorem wc_X12_isHeap : tbw (cwd 229) := wt0 1864 rfl rfl
set_option maxRecDepth 100000 in
theorem wg_X12_336 : tbw (.methodLink RX12 336 (yy 229)) := wt0 1862 (by decide +kernel) rfl
set_option maxRecDepth 100000 in
theorem wt_X12_isHeap : tbw (.static (yy 229)) := wt0 1863 (by decide +kernel) rfl
set_option maxRecDepth 100000 in
theorem wc_X12_pop : tbw (cwd 247) := wt0 1886 rfl rfl
set_option maxRecDepth 100000 in
theorem wg_X12_339 : tbw (.methodLink RX12 339 (yy 247)) := wt0 1883 (by decide +kernel) rfl
set_option maxRecDepth 100000 in
theorem wm_X12_pop : tbw (.instanceMethod (yy 247)) := wt0 1885 (by decide +kernel) rfl
set_option maxRecDepth 100000 in
theorem wse_X12_pop : tbw (.selects RX12 (yy 247) (yy 247)) := wp0 199 (by decide +kernel) rfl
set_option maxRecDepth 100000 in
theorem wf_X12_343 : tbw (.fieldLink RX12 343 RX12 (TX12 38).2.1 (TX12 38).2.2.1) := wt0 1525 (by decide +kernel) rfl
set_option maxRecDepth 100000 in
theorem wc_X12_receives : tbw (cwd 263) := wt0 1878 rfl rfl
set_option maxRecDepth 100000 in
theorem wg_X12_346 : tbw (.methodLink RX12 346 (yy 263)) := wt0 1875 (by decide +kernel) rfl
set_option maxRecDepth 100000 in
theorem wm_X12_receives : tbw (.instanceMethod (yy 263)) := wt0 1877 (by decide +kernel) rfl
set_option maxRecDepth 100000 in
theorem wse_X12_receives : tbw (.selects RX12 (yy 263) (yy 263)) := wp0 197 (by decide +kernel) rfl
set_option maxRecDepth 100000 in
theorem wc_X12_plain : tbw (cwd 254) := wt0 1910 rfl rfl
set_option maxRecDepth 100000 in
theorem wg_X12_350 : tbw (.methodLink RX12 350 (yy 254)) := wt0 1907 (by decide +kernel) rfl
set_option maxRecDepth 100000 in
theorem wm_X12_plain : tbw (.instanceMethod (yy 254)) := wt0 1909 (by decide +kernel) rfl
set_option maxRecDepth 100000 in
theorem wse_X12_plain : tbw (.selects RX12 (yy 254) (yy 254)) := wp0 201 (by decide +kernel) rfl
set_option maxRecDepth 100000 in
theorem wc_X12_heaps : tbw (cwd 255) := wt0 1918 rfl rfl
set_option maxRecDepth 100000 in
theorem wg_X12_353 : tbw (.methodLink RX12 353 (yy 255)) := wt0 1915 (by decide +kernel) rfl
set_option maxRecDepth 100000 in
theorem wm_X12_heaps : tbw (.instanceMethod (yy 255)) := wt0 1917 (by decide +kernel) rfl
set_option maxRecDepth 100000 in
theorem wse_X12_heaps : tbw (.selects RX12 (yy 255) (yy 255)) := wp0 203 (by decide +kernel) rfl
set_option maxRecDepth 100000 in
theorem wc_X12_linear : tbw (cwd 258) := wt0 1938 rfl rfl
set_option maxRecDepth 100000 in
theorem wg_X12_356 : tbw (.methodLink RX12 356 (yy 258)) := wt0 1935 (by decide +kernel) rfl
set_option maxRecDepth 100000 in
theorem wm_X12_linear : tbw (.instanceMethod (yy 258)) := wt0 1937 (by decide +kernel) rfl
set_option maxRecDepth 100000 in
theorem wse_X12_linear : tbw (.selects RX12 (yy 258) (yy 258)) := wp0 208 (by decide +kernel) rfl
set_option maxRecDepth 100000 in
theorem wc_X12_push : tbw (cwd 248) := wt0 1906 rfl rfl
set_option maxRecDepth 100000 in
theorem wg_X12_359 : tbw (.methodLink RX12 359 (yy 248)) := wt0 1903 (by decide +kernel) rfl
set_option maxRecDepth 100000 in
theorem wm_X12_push : tbw (.instanceMethod (yy 248)) := wt0 1905 (by decide +kernel) rfl
set_option maxRecDepth 100000 in
theorem wse_X12_push : tbw (.selects RX12 (yy 248) (yy 248)) := wp0 200 (by decide +kernel) rfl
set_option maxRecDepth 100000 in
theorem wc_X12_popFor : tbw (cwd 249) := wt0 1914 rfl rfl
set_option maxRecDepth 100000 in
theorem wg_X12_362 : tbw (.methodLink RX12 362 (yy 249)) := wt0 1911 (by decide +kernel) rfl
set_option maxRecDepth 100000 in
theorem wm_X12_popFor : tbw (.instanceMethod (yy 249)) := wt0 1913 (by decide +kernel) rfl
set_option maxRecDepth 100000 in
theorem wse_X12_popFor : tbw (.selects RX12 (yy 249) (yy 249)) := wp0 202 (by decide +kernel) rfl
set_option maxRecDepth 100000 in
theorem wc_X12_popNode : tbw (cwd 251) := wt0 1922 rfl rfl
set_option maxRecDepth 100000 in
theorem wg_X12_365 : tbw (.methodLink RX12 365 (yy 251)) := wt0 1919 (by decide +kernel) rfl
set_option maxRecDepth 100000 in
theorem wm_X12_popNode : tbw (.instanceMethod (yy 251)) := wt0 1921 (by decide +kernel) rfl
set_option maxRecDepth 100000 in
theorem wse_X12_popNode : tbw (.selects RX12 (yy 251) (yy 251)) := wp0 204 (by decide +kernel) rfl
set_option maxRecDepth 100000 in
theorem wc_X12_which : tbw (cwd 225) := wt0 1892 rfl rfl
set_option maxRecDepth 100000 in
theorem wg_X12_368 : tbw (.methodLink RX12 368 (yy 225)) := wt0 1890 (by decide +kernel) rfl
set_option maxRecDepth 100000 in
theorem wt_X12_which : tbw (.static (yy 225)) := wt0 1891 (by decide +kernel) rfl
set_option maxRecDepth 100000 in
theorem wc_X12_fits : tbw (cwd 256) := wt0 1926 rfl rfl
set_option maxRecDepth 100000 in
theorem wg_X12_371 : tbw (.methodLink RX12 371 (yy 256)) := wt0 1923 (by decide +kernel) rfl
set_option maxRecDepth 100000 in
theorem wm_X12_fits : tbw (.instanceMethod (yy 256)) := wt0 1925 (by decide +kernel) rfl
set_option maxRecDepth 100000 in
theorem wse_X12_fits : tbw (.selects RX12 (yy 256) (yy 256)) := wp0 205 (by decide +kernel) rfl
set_option maxRecDepth 100000 in
theorem wc_X12_popRow : tbw (cwd 252) := wt0 1930 rfl rfl
set_option maxRecDepth 100000 in
theorem wg_X12_374 : tbw (.methodLink RX12 374 (yy 252)) := wt0 1927 (by decide +kernel) rfl
set_option maxRecDepth 100000 in
theorem wm_X12_popRow : tbw (.instanceMethod (yy 252)) := wt0 1929 (by decide +kernel) rfl
set_option maxRecDepth 100000 in
theorem wse_X12_popRow : tbw (.selects RX12 (yy 252) (yy 252)) := wp0 206 (by decide +kernel) rfl
set_option maxRecDepth 100000 in
theorem wc_X12_takes : tbw (cwd 257) := wt0 1934 rfl rfl
set_option maxRecDepth 100000 in
theorem wg_X12_377 : tbw (.methodLink RX12 377 (yy 257)) := wt0 1931 (by decide +kernel) rfl
set_option maxRecDepth 100000 in
theorem wm_X12_takes : tbw (.instanceMethod (yy 257)) := wt0 1933 (by decide +kernel) rfl
set_option maxRecDepth 100000 in
theorem wse_X12_takes : tbw (.selects RX12 (yy 257) (yy 257)) := wp0 207 (by decide +kernel) rfl
set_option maxRecDepth 100000 in
theorem wc_X12_popKind : tbw (cwd 250) := wt0 1882 rfl rfl
set_option maxRecDepth 100000 in
theorem wg_X12_380 : tbw (.methodLink RX12 380 (yy 250)) := wt0 1879 (by decide +kernel) rfl
set_option maxRecDepth 100000 in
theorem wm_X12_popKind : tbw (.instanceMethod (yy 250)) := wt0 1881 (by decide +kernel) rfl
set_option maxRecDepth 100000 in
theorem wse_X12_popKind : tbw (.selects RX12 (yy 250) (yy 250)) := wp0 198 (by decide +kernel) rfl
set_option maxRecDepth 100000 in
theorem wc_X12_sends : tbw (cwd 260) := wt0 1942 rfl rfl
set_option maxRecDepth 100000 in
theorem wg_X12_383 : tbw (.methodLink RX12 383 (yy 260)) := wt0 1939 (by decide +kernel) rfl
set_option maxRecDepth 100000 in
theorem wm_X12_sends : tbw (.instanceMethod (yy 260)) := wt0 1941 (by decide +kernel) rfl
set_option maxRecDepth 100000 in
theorem wse_X12_sends : tbw (.selects RX12 (yy 260) (yy 260)) := wp0 209 (by decide +kernel) rfl
set_option maxRecDepth 100000 in
theorem wc_X12_state : tbw (cwd 226) := wt0 1895 rfl rfl
set_option maxRecDepth 100000 in
theorem wg_X12_386 : tbw (.methodLink RX12 386 (yy 226)) := wt0 1893 (by decide +kernel) rfl
set_option maxRecDepth 100000 in
theorem wt_X12_state : tbw (.static (yy 226)) := wt0 1894 (by decide +kernel) rfl
set_option maxRecDepth 100000 in
theorem wk_X12_389 : tbw (.constant RX12 389 (Int32.ofInt (-522241))) := wt0 1902 (by decide +kernel) rfl
set_option maxRecDepth 100000 in
theorem wc_X12_isTurn : tbw (cwd 262) := wt0 1946 rfl rfl
set_option maxRecDepth 100000 in
theorem wg_X12_390 : tbw (.methodLink RX12 390 (yy 262)) := wt0 1943 (by decide +kernel) rfl
set_option maxRecDepth 100000 in
theorem wm_X12_isTurn : tbw (.instanceMethod (yy 262)) := wt0 1945 (by decide +kernel) rfl
set_option maxRecDepth 100000 in
theorem wse_X12_isTurn : tbw (.selects RX12 (yy 262) (yy 262)) := wp0 210 (by decide +kernel) rfl
set_option maxRecDepth 100000 in
theorem wc_X12_stateOf : tbw (cwd 261) := wt0 1889 rfl rfl
set_option maxRecDepth 100000 in
theorem wg_X12_393 : tbw (.methodLink RX12 393 (yy 261)) := wt0 1887 (by decide +kernel) rfl
set_option maxRecDepth 100000 in
theorem wt_X12_stateOf : tbw (.static (yy 261)) := wt0 1888 (by decide +kernel) rfl
set_option maxRecDepth 100000 in
theorem wc_X12_inState : tbw (cwd 259) := wt0 1901 rfl rfl
set_option maxRecDepth 100000 in
theorem wg_X12_396 : tbw (.methodLink RX12 396 (yy 259)) := wt0 1899 (by decide +kernel) rfl
set_option maxRecDepth 100000 in
theorem wt_X12_inState : tbw (.static (yy 259)) := wt0 1900 (by decide +kernel) rfl
set_option maxRecDepth 100000 in
theorem wc_X12_side : tbw (cwd 227) := wt0 1898 rfl rfl
set_option maxRecDepth 100000 in
theorem wg_X12_399 : tbw (.methodLink RX12 399 (yy 227)) := wt0 1896 (by decide +kernel) rfl
set_option maxRecDepth 100000 in
theorem wt_X12_side : tbw (.static (yy 227)) := wt0 1897 (by decide +kernel) rfl
set_option maxRecDepth 100000 in
theorem wc_X12_take : tbw (cwd 265) := wt0 1773 rfl rfl
set_option maxRecDepth 100000 in
theorem wg_X12_402 : tbw (.methodLink RX12 402 (yy 265)) := wt0 1770 (by decide +kernel) rfl
set_option maxRecDepth 100000 in
theorem wm_X12_take : tbw (.instanceMethod (yy 265)) := wt0 1772 (by decide +kernel) rfl
set_option maxRecDepth 100000 in
theorem wse_X12_take : tbw (.selects RX12 (yy 265) (yy 265)) := wp0 174 (by decide +kernel) rfl
set_option maxRecDepth 100000 in
theorem wc_X12_module : tbw (cwd 230) := wt0 1777 rfl rfl
set_option maxRecDepth 100000 in
theorem wg_X12_405 : tbw (.methodLink RX12 405 (yy 230)) := wt0 1774 (by decide +kernel) rfl
set_option maxRecDepth 100000 in
theorem wm_X12_module : tbw (.instanceMethod (yy 230)) := wt0 1776 (by decide +kernel) rfl
set_option maxRecDepth 100000 in
theorem wse_X12_module : tbw (.selects RX12 (yy 230) (yy 230)) := wp0 175 (by decide +kernel) rfl
set_option maxRecDepth 100000 in
theorem wc_X12_looksAt : tbw (cwd 239) := wt0 1822 rfl rfl
set_option maxRecDepth 100000 in
theorem wg_X12_408 : tbw (.methodLink RX12 408 (yy 239)) := wt0 1819 (by decide +kernel) rfl
set_option maxRecDepth 100000 in
theorem wm_X12_looksAt : tbw (.instanceMethod (yy 239)) := wt0 1821 (by decide +kernel) rfl
set_option maxRecDepth 100000 in
theorem wse_X12_looksAt : tbw (.selects RX12 (yy 239) (yy 239)) := wp0 186 (by decide +kernel) rfl
set_option maxRecDepth 100000 in
theorem wc_X12_right : tbw (cwd 243) := wt0 1850 rfl rfl
set_option maxRecDepth 100000 in
theorem wg_X12_411 : tbw (.methodLink RX12 411 (yy 243)) := wt0 1847 (by decide +kernel) rfl
set_option maxRecDepth 100000 in
theorem wm_X12_right : tbw (.instanceMethod (yy 243)) := wt0 1849 (by decide +kernel) rfl
set_option maxRecDepth 100000 in
theorem wse_X12_right : tbw (.selects RX12 (yy 243) (yy 243)) := wp0 193 (by decide +kernel) rfl
set_option maxRecDepth 100000 in
theorem wc_X12_copy : tbw (cwd 267) := wt0 1950 rfl rfl
set_option maxRecDepth 100000 in
theorem wg_X12_414 : tbw (.methodLink RX12 414 (yy 267)) := wt0 1947 (by decide +kernel) rfl
set_option maxRecDepth 100000 in
theorem wm_X12_copy : tbw (.instanceMethod (yy 267)) := wt0 1949 (by decide +kernel) rfl
set_option maxRecDepth 100000 in
theorem wse_X12_copy : tbw (.selects RX12 (yy 267) (yy 267)) := wp0 211 (by decide +kernel) rfl
set_option maxRecDepth 100000 in
theorem wc_X12_move : tbw (cwd 266) := wt0 1953 rfl rfl
set_option maxRecDepth 100000 in
theorem wg_X12_417 : tbw (.methodLink RX12 417 (yy 266)) := wt0 1951 (by decide +kernel) rfl
set_option maxRecDepth 100000 in
theorem wt_X12_move : tbw (.static (yy 266)) := wt0 1952 (by decide +kernel) rfl
set_option maxRecDepth 100000 in
theorem wc_X12_isModule : tbw (cwd 268) := wt0 1961 rfl rfl
set_option maxRecDepth 100000 in
theorem wg_X12_421 : tbw (.methodLink RX12 421 (yy 268)) := wt0 1958 (by decide +kernel) rfl
set_option maxRecDepth 100000 in
theorem wm_X12_isModule : tbw (.instanceMethod (yy 268)) := wt0 1960 (by decide +kernel) rfl
set_option maxRecDepth 100000 in
theorem wse_X12_isModule : tbw (.selects RX12 (yy 268) (yy 268)) := wp0 212 (by decide +kernel) rfl
set_option maxRecDepth 100000 in
theorem wc_X12_highest : tbw (cwd 271) := wt0 1969 rfl rfl
set_option maxRecDepth 100000 in
theorem wg_X12_424 : tbw (.methodLink RX12 424 (yy 271)) := wt0 1966 (by decide +kernel) rfl
set_option maxRecDepth 100000 in
theorem wm_X12_highest : tbw (.instanceMethod (yy 271)) := wt0 1968 (by decide +kernel) rfl
set_option maxRecDepth 100000 in
theorem wse_X12_highest : tbw (.selects RX12 (yy 271) (yy 271)) := wp0 213 (by decide +kernel) rfl
set_option maxRecDepth 100000 in
theorem wq_X12_427 : tbw (.methodLink RX12 427 Lib.Math.max.name) := wt0 1970 (by decide +kernel) rfl
set_option maxRecDepth 100000 in
theorem wf_X12_432 : tbw (.fieldLink RX12 432 RX12 (TX12 48).2.1 (TX12 48).2.2.1) := wt0 1535 (by decide +kernel) rfl
set_option maxRecDepth 100000 in
theorem wf_X12_435 : tbw (.fieldLink RX12 435 RX12 (TX12 49).2.1 (TX12 49).2.2.1) := wt0 1536 (by decide +kernel) rfl
set_option maxRecDepth 100000 in
theorem wc_X12_canBoot : tbw (cwd 274) := wt0 1986 rfl rfl
set_option maxRecDepth 100000 in
theorem wg_X12_438 : tbw (.methodLink RX12 438 (yy 274)) := wt0 1983 (by decide +kernel) rfl
set_option maxRecDepth 100000 in
theorem wm_X12_canBoot : tbw (.instanceMethod (yy 274)) := wt0 1985 (by decide +kernel) rfl
set_option maxRecDepth 100000 in
theorem wse_X12_canBoot : tbw (.selects RX12 (yy 274) (yy 274)) := wp0 215 (by decide +kernel) rfl
set_option maxRecDepth 100000 in
theorem wc_X12_parameter : tbw (cwd 275) := wt0 1990 rfl rfl
set_option maxRecDepth 100000 in
theorem wg_X12_441 : tbw (.methodLink RX12 441 (yy 275)) := wt0 1987 (by decide +kernel) rfl
set_option maxRecDepth 100000 in
theorem wm_X12_parameter : tbw (.instanceMethod (yy 275)) := wt0 1989 (by decide +kernel) rfl
set_option maxRecDepth 100000 in
theorem wse_X12_parameter : tbw (.selects RX12 (yy 275) (yy 275)) := wp0 216 (by decide +kernel) rfl
set_option maxRecDepth 100000 in
theorem wc_X12_alike : tbw (cwd 276) := wt0 1994 rfl rfl
set_option maxRecDepth 100000 in
theorem wg_X12_444 : tbw (.methodLink RX12 444 (yy 276)) := wt0 1991 (by decide +kernel) rfl
set_option maxRecDepth 100000 in
theorem wm_X12_alike : tbw (.instanceMethod (yy 276)) := wt0 1993 (by decide +kernel) rfl
set_option maxRecDepth 100000 in
theorem wse_X12_alike : tbw (.selects RX12 (yy 276) (yy 276)) := wp0 217 (by decide +kernel) rfl
set_option maxRecDepth 100000 in
theorem wc_X12_alikeLoads : tbw (cwd 277) := wt0 1998 rfl rfl
set_option maxRecDepth 100000 in
theorem wg_X12_447 : tbw (.methodLink RX12 447 (yy 277)) := wt0 1995 (by decide +kernel) rfl
set_option maxRecDepth 100000 in
theorem wm_X12_alikeLoads : tbw (.instanceMethod (yy 277)) := wt0 1997 (by decide +kernel) rfl
set_option maxRecDepth 100000 in
theorem wse_X12_alikeLoads : tbw (.selects RX12 (yy 277) (yy 277)) := wp0 218 (by decide +kernel) rfl
set_option maxRecDepth 100000 in
theorem wc_X12_manifest : tbw (cwd 273) := wt0 1982 rfl rfl
set_option maxRecDepth 100000 in
theorem wg_X12_451 : tbw (.methodLink RX12 451 (yy 273)) := wt0 1979 (by decide +kernel) rfl
set_option maxRecDepth 100000 in
theorem wm_X12_manifest : tbw (.instanceMethod (yy 273)) := wt0 1981 (by decide +kernel) rfl
set_option maxRecDepth 100000 in
theorem wse_X12_manifest : tbw (.selects RX12 (yy 273) (yy 273)) := wp0 214 (by decide +kernel) rfl
set_option maxRecDepth 100000 in
theorem wc_X12_begin : tbw (cwd 279) := wt0 2002 rfl rfl
set_option maxRecDepth 100000 in
theorem wg_X12_454 : tbw (.methodLink RX12 454 (yy 279)) := wt0 1999 (by decide +kernel) rfl
set_option maxRecDepth 100000 in
theorem wm_X12_begin : tbw (.instanceMethod (yy 279)) := wt0 2001 (by decide +kernel) rfl
set_option maxRecDepth 100000 in
theorem wse_X12_begin : tbw (.selects RX12 (yy 279) (yy 279)) := wp0 219 (by decide +kernel) rfl
set_option maxRecDepth 100000 in
theorem wf_X12_457 : tbw (.fieldLink RX12 457 RX12 (TX12 51).2.1 (TX12 51).2.2.1) := wt0 1538 (by decide +kernel) rfl
set_option maxRecDepth 100000 in
theorem wf_X12_460 : tbw (.fieldLink RX12 460 RX12 (TX12 52).2.1 (TX12 52).2.2.1) := wt0 1539 (by decide +kernel) rfl
set_option maxRecDepth 100000 in
theorem wf_X12_463 : tbw (.fieldLink RX12 463 RX12 (TX12 53).2.1 (TX12 53).2.2.1) := wt0 1540 (by decide +kernel) rfl
set_option maxRecDepth 100000 in
theorem wf_X12_466 : tbw (.fieldLink RX12 466 RX12 (TX12 54).2.1 (TX12 54).2.2.1) := wt0 1541 (by decide +kernel) rfl
set_option maxRecDepth 100000 in
theorem wf_X12_469 : tbw (.fieldLink RX12 469 RX12 (TX12 55).2.1 (TX12 55).2.2.1) := wt0 1542 (by decide +kernel) rfl
set_option maxRecDepth 100000 in
theorem wf_X12_472 : tbw (.fieldLink RX12 472 RX12 (TX12 56).2.1 (TX12 56).2.2.1) := wt0 1543 (by decide +kernel) rfl
set_option maxRecDepth 100000 in
theorem wc_X12_start : tbw (cwd 280) := wt0 2006 rfl rfl
set_option maxRecDepth 100000 in
theorem wg_X12_475 : tbw (.methodLink RX12 475 (yy 280)) := wt0 2003 (by decide +kernel) rfl
set_option maxRecDepth 100000 in
theorem wm_X12_start : tbw (.instanceMethod (yy 280)) := wt0 2005 (by decide +kernel) rfl
set_option maxRecDepth 100000 in
theorem wse_X12_start : tbw (.selects RX12 (yy 280) (yy 280)) := wp0 220 (by decide +kernel) rfl
set_option maxRecDepth 100000 in
theorem wc_X12_local : tbw (cwd 283) := wt0 2017 rfl rfl
set_option maxRecDepth 100000 in
theorem wg_X12_478 : tbw (.methodLink RX12 478 (yy 283)) := wt0 2015 (by decide +kernel) rfl
set_option maxRecDepth 100000 in
theorem wt_X12_local : tbw (.static (yy 283)) := wt0 2016 (by decide +kernel) rfl
set_option maxRecDepth 100000 in
theorem wc_X12_set : tbw (cwd 285) := wt0 2014 rfl rfl
set_option maxRecDepth 100000 in
theorem wg_X12_481 : tbw (.methodLink RX12 481 (yy 285)) := wt0 2011 (by decide +kernel) rfl
set_option maxRecDepth 100000 in
theorem wm_X12_set : tbw (.instanceMethod (yy 285)) := wt0 2013 (by decide +kernel) rfl
set_option maxRecDepth 100000 in
theorem wse_X12_set : tbw (.selects RX12 (yy 285) (yy 285)) := wp0 222 (by decide +kernel) rfl
set_option maxRecDepth 100000 in
theorem wc_X12_activate : tbw (cwd 281) := wt0 2010 rfl rfl
set_option maxRecDepth 100000 in
theorem wg_X12_484 : tbw (.methodLink RX12 484 (yy 281)) := wt0 2007 (by decide +kernel) rfl
set_option maxRecDepth 100000 in
theorem wm_X12_activate : tbw (.instanceMethod (yy 281)) := wt0 2009 (by decide +kernel) rfl
set_option maxRecDepth 100000 in
theorem wse_X12_activate : tbw (.selects RX12 (yy 281) (yy 281)) := wp0 221 (by decide +kernel) rfl
set_option maxRecDepth 100000 in
theorem wc_X12_act : tbw (cwd 282) := wt0 2041 rfl rfl
set_option maxRecDepth 100000 in
theorem wg_X12_487 : tbw (.methodLink RX12 487 (yy 282)) := wt0 2038 (by decide +kernel) rfl
set_option maxRecDepth 100000 in
theorem wm_X12_act : tbw (.instanceMethod (yy 282)) := wt0 2040 (by decide +kernel) rfl
set_option maxRecDepth 100000 in
theorem wse_X12_act : tbw (.selects RX12 (yy 282) (yy 282)) := wp0 227 (by decide +kernel) rfl
set_option maxRecDepth 100000 in
theorem wc_X12_stack : tbw (cwd 284) := wt0 2045 rfl rfl
set_option maxRecDepth 100000 in
theorem wg_X12_490 : tbw (.methodLink RX12 490 (yy 284)) := wt0 2042 (by decide +kernel) rfl
set_option maxRecDepth 100000 in
theorem wm_X12_stack : tbw (.instanceMethod (yy 284)) := wt0 2044 (by decide +kernel) rfl
set_option maxRecDepth 100000 in
theorem wse_X12_stack : tbw (.selects RX12 (yy 284) (yy 284)) := wp0 228 (by decide +kernel) rfl
set_option maxRecDepth 100000 in
theorem wc_X12_pop_ : tbw (cwd 287) := wt0 2073 rfl rfl
set_option maxRecDepth 100000 in
theorem wg_X12_493 : tbw (.methodLink RX12 493 (yy 287)) := wt0 2070 (by decide +kernel) rfl
set_option maxRecDepth 100000 in
theorem wm_X12_pop_ : tbw (.instanceMethod (yy 287)) := wt0 2072 (by decide +kernel) rfl
set_option maxRecDepth 100000 in
theorem wse_X12_pop_ : tbw (.selects RX12 (yy 287) (yy 287)) := wp0 235 (by decide +kernel) rfl
set_option maxRecDepth 100000 in
theorem wc_X12_note : tbw (cwd 290) := wt0 2112 rfl rfl
set_option maxRecDepth 100000 in
theorem wg_X12_495 : tbw (.methodLink RX12 495 (yy 290)) := wt0 2109 (by decide +kernel) rfl
set_option maxRecDepth 100000 in
theorem wm_X12_note : tbw (.instanceMethod (yy 290)) := wt0 2111 (by decide +kernel) rfl
set_option maxRecDepth 100000 in
theorem wse_X12_note : tbw (.selects RX12 (yy 290) (yy 290)) := wp0 244 (by decide +kernel) rfl
set_option maxRecDepth 100000 in
theorem wc_X12_reach : tbw (cwd 289) := wt0 2108 rfl rfl
set_option maxRecDepth 100000 in
theorem wg_X12_498 : tbw (.methodLink RX12 498 (yy 289)) := wt0 2105 (by decide +kernel) rfl
set_option maxRecDepth 100000 in
theorem wm_X12_reach : tbw (.instanceMethod (yy 289)) := wt0 2107 (by decide +kernel) rfl
set_option maxRecDepth 100000 in
theorem wse_X12_reach : tbw (.selects RX12 (yy 289) (yy 289)) := wp0 243 (by decide +kernel) rfl
set_option maxRecDepth 100000 in
theorem wc_X12_lose : tbw (cwd 296) := wt0 2093 rfl rfl
set_option maxRecDepth 100000 in
theorem wg_X12_501 : tbw (.methodLink RX12 501 (yy 296)) := wt0 2090 (by decide +kernel) rfl
set_option maxRecDepth 100000 in
theorem wm_X12_lose : tbw (.instanceMethod (yy 296)) := wt0 2092 (by decide +kernel) rfl
set_option maxRecDepth 100000 in
theorem wse_X12_lose : tbw (.selects RX12 (yy 296) (yy 296)) := wp0 240 (by decide +kernel) rfl
set_option maxRecDepth 100000 in
theorem wc_X12_close : tbw (cwd 295) := wt0 2089 rfl rfl
set_option maxRecDepth 100000 in
theorem wg_X12_504 : tbw (.methodLink RX12 504 (yy 295)) := wt0 2086 (by decide +kernel) rfl
set_option maxRecDepth 100000 in
theorem wm_X12_close : tbw (.instanceMethod (yy 295)) := wt0 2088 (by decide +kernel) rfl
set_option maxRecDepth 100000 in
theorem wse_X12_close : tbw (.selects RX12 (yy 295) (yy 295)) := wp0 239 (by decide +kernel) rfl
set_option maxRecDepth 100000 in
theorem wc_X12_canGo : tbw (cwd 306) := wt0 2025 rfl rfl
set_option maxRecDepth 100000 in
theorem wg_X12_507 : tbw (.methodLink RX12 507 (yy 306)) := wt0 2022 (by decide +kernel) rfl
set_option maxRecDepth 100000 in
theorem wm_X12_canGo : tbw (.instanceMethod (yy 306)) := wt0 2024 (by decide +kernel) rfl
set_option maxRecDepth 100000 in
theorem wse_X12_canGo : tbw (.selects RX12 (yy 306) (yy 306)) := wp0 223 (by decide +kernel) rfl
set_option maxRecDepth 100000 in
theorem wf_X12_510 : tbw (.fieldLink RX12 510 RX12 (TX12 89).2.1 (TX12 89).2.2.1) := wt0 1576 (by decide +kernel) rfl
set_option maxRecDepth 100000 in
theorem wc_X12_act1 : tbw (cwd 309) := wt0 2057 rfl rfl
set_option maxRecDepth 100000 in
theorem wg_X12_513 : tbw (.methodLink RX12 513 (yy 309)) := wt0 2054 (by decide +kernel) rfl
set_option maxRecDepth 100000 in
theorem wm_X12_act1 : tbw (.instanceMethod (yy 309)) := wt0 2056 (by decide +kernel) rfl
set_option maxRecDepth 100000 in
theorem wse_X12_act1 : tbw (.selects RX12 (yy 309) (yy 309)) := wp0 231 (by decide +kernel) rfl
set_option maxRecDepth 100000 in
theorem wc_X12_nextTurn : tbw (cwd 300) := wt0 2168 rfl rfl
set_option maxRecDepth 100000 in
theorem wg_X12_516 : tbw (.methodLink RX12 516 (yy 300)) := wt0 2165 (by decide +kernel) rfl
set_option maxRecDepth 100000 in
theorem wm_X12_nextTurn : tbw (.instanceMethod (yy 300)) := wt0 2167 (by decide +kernel) rfl
set_option maxRecDepth 100000 in
theorem wse_X12_nextTurn : tbw (.selects RX12 (yy 300) (yy 300)) := wp0 258 (by decide +kernel) rfl
set_option maxRecDepth 100000 in
theorem wc_X12_op : tbw (cwd 303) := wt0 2029 rfl rfl
set_option maxRecDepth 100000 in
theorem wg_X12_519 : tbw (.methodLink RX12 519 (yy 303)) := wt0 2026 (by decide +kernel) rfl
set_option maxRecDepth 100000 in
theorem wm_X12_op : tbw (.instanceMethod (yy 303)) := wt0 2028 (by decide +kernel) rfl
set_option maxRecDepth 100000 in
theorem wse_X12_op : tbw (.selects RX12 (yy 303) (yy 303)) := wp0 224 (by decide +kernel) rfl
set_option maxRecDepth 100000 in
theorem wc_X12_function : tbw (cwd 301) := wt0 2037 rfl rfl
set_option maxRecDepth 100000 in
theorem wg_X12_522 : tbw (.methodLink RX12 522 (yy 301)) := wt0 2034 (by decide +kernel) rfl
set_option maxRecDepth 100000 in
theorem wm_X12_function : tbw (.instanceMethod (yy 301)) := wt0 2036 (by decide +kernel) rfl
set_option maxRecDepth 100000 in
theorem wse_X12_function : tbw (.selects RX12 (yy 301) (yy 301)) := wp0 226 (by decide +kernel) rfl
set_option maxRecDepth 100000 in
theorem wc_X12_codePlace : tbw (cwd 302) := wt0 2033 rfl rfl
set_option maxRecDepth 100000 in
theorem wg_X12_525 : tbw (.methodLink RX12 525 (yy 302)) := wt0 2030 (by decide +kernel) rfl
set_option maxRecDepth 100000 in
theorem wm_X12_codePlace : tbw (.instanceMethod (yy 302)) := wt0 2032 (by decide +kernel) rfl
set_option maxRecDepth 100000 in
theorem wse_X12_codePlace : tbw (.selects RX12 (yy 302) (yy 302)) := wp0 225 (by decide +kernel) rfl
set_option maxRecDepth 100000 in
theorem wc_X12_part_ : tbw (cwd 304) := wt0 2049 rfl rfl
set_option maxRecDepth 100000 in
theorem wg_X12_528 : tbw (.methodLink RX12 528 (yy 304)) := wt0 2046 (by decide +kernel) rfl
set_option maxRecDepth 100000 in
theorem wm_X12_part_ : tbw (.instanceMethod (yy 304)) := wt0 2048 (by decide +kernel) rfl
set_option maxRecDepth 100000 in
theorem wse_X12_part_ : tbw (.selects RX12 (yy 304) (yy 304)) := wp0 229 (by decide +kernel) rfl
set_option maxRecDepth 100000 in
theorem wc_X12_depthOfEnd : tbw (cwd 305) := wt0 2053 rfl rfl
set_option maxRecDepth 100000 in
theorem wg_X12_530 : tbw (.methodLink RX12 530 (yy 305)) := wt0 2050 (by decide +kernel) rfl
set_option maxRecDepth 100000 in
theorem wm_X12_depthOfEnd : tbw (.instanceMethod (yy 305)) := wt0 2052 (by decide +kernel) rfl
set_option maxRecDepth 100000 in
theorem wse_X12_depthOfEnd : tbw (.selects RX12 (yy 305) (yy 305)) := wp0 230 (by decide +kernel) rfl
set_option maxRecDepth 100000 in
theorem wc_X12_over : tbw (cwd 298) := wt0 2085 rfl rfl
set_option maxRecDepth 100000 in
theorem wg_X12_533 : tbw (.methodLink RX12 533 (yy 298)) := wt0 2082 (by decide +kernel) rfl
set_option maxRecDepth 100000 in
theorem wm_X12_over : tbw (.instanceMethod (yy 298)) := wt0 2084 (by decide +kernel) rfl
set_option maxRecDepth 100000 in
theorem wse_X12_over : tbw (.selects RX12 (yy 298) (yy 298)) := wp0 238 (by decide +kernel) rfl
set_option maxRecDepth 100000 in
theorem wc_X12_goTo : tbw (cwd 308) := wt0 2061 rfl rfl
set_option maxRecDepth 100000 in
theorem wg_X12_536 : tbw (.methodLink RX12 536 (yy 308)) := wt0 2058 (by decide +kernel) rfl
set_option maxRecDepth 100000 in
theorem wm_X12_goTo : tbw (.instanceMethod (yy 308)) := wt0 2060 (by decide +kernel) rfl
set_option maxRecDepth 100000 in
theorem wse_X12_goTo : tbw (.selects RX12 (yy 308) (yy 308)) := wp0 232 (by decide +kernel) rfl
set_option maxRecDepth 100000 in
theorem wc_X12_plainly : tbw (cwd 310) := wt0 2065 rfl rfl
set_option maxRecDepth 100000 in
theorem wg_X12_539 : tbw (.methodLink RX12 539 (yy 310)) := wt0 2062 (by decide +kernel) rfl
set_option maxRecDepth 100000 in
theorem wm_X12_plainly : tbw (.instanceMethod (yy 310)) := wt0 2064 (by decide +kernel) rfl
set_option maxRecDepth 100000 in
theorem wse_X12_plainly : tbw (.selects RX12 (yy 310) (yy 310)) := wp0 233 (by decide +kernel) rfl
set_option maxRecDepth 100000 in
theorem wc_X12_withHeap : tbw (cwd 312) := wt0 2100 rfl rfl
set_option maxRecDepth 100000 in
theorem wg_X12_542 : tbw (.methodLink RX12 542 (yy 312)) := wt0 2097 (by decide +kernel) rfl
set_option maxRecDepth 100000 in
theorem wm_X12_withHeap : tbw (.instanceMethod (yy 312)) := wt0 2099 (by decide +kernel) rfl
set_option maxRecDepth 100000 in
theorem wse_X12_withHeap : tbw (.selects RX12 (yy 312) (yy 312)) := wp0 241 (by decide +kernel) rfl
set_option maxRecDepth 100000 in
theorem wc_X12_linearly : tbw (cwd 316) := wt0 2132 rfl rfl
set_option maxRecDepth 100000 in
theorem wg_X12_545 : tbw (.methodLink RX12 545 (yy 316)) := wt0 2129 (by decide +kernel) rfl
set_option maxRecDepth 100000 in
theorem wm_X12_linearly : tbw (.instanceMethod (yy 316)) := wt0 2131 (by decide +kernel) rfl
set_option maxRecDepth 100000 in
theorem wse_X12_linearly : tbw (.selects RX12 (yy 316) (yy 316)) := wp0 249 (by decide +kernel) rfl
set_option maxRecDepth 100000 in
theorem wc_X12_push_ : tbw (cwd 286) := wt0 2069 rfl rfl
set_option maxRecDepth 100000 in
theorem wg_X12_548 : tbw (.methodLink RX12 548 (yy 286)) := wt0 2066 (by decide +kernel) rfl
set_option maxRecDepth 100000 in
theorem wm_X12_push_ : tbw (.instanceMethod (yy 286)) := wt0 2068 (by decide +kernel) rfl
set_option maxRecDepth 100000 in
theorem wse_X12_push_ : tbw (.selects RX12 (yy 286) (yy 286)) := wp0 234 (by decide +kernel) rfl
set_option maxRecDepth 100000 in
theorem wc_X12_popValue : tbw (cwd 288) := wt0 2077 rfl rfl
set_option maxRecDepth 100000 in
theorem wg_X12_550 : tbw (.methodLink RX12 550 (yy 288)) := wt0 2074 (by decide +kernel) rfl
set_option maxRecDepth 100000 in
theorem wm_X12_popValue : tbw (.instanceMethod (yy 288)) := wt0 2076 (by decide +kernel) rfl
set_option maxRecDepth 100000 in
theorem wse_X12_popValue : tbw (.selects RX12 (yy 288) (yy 288)) := wp0 236 (by decide +kernel) rfl
set_option maxRecDepth 100000 in
theorem wc_X12_trap : tbw (cwd 307) := wt0 2081 rfl rfl
set_option maxRecDepth 100000 in
theorem wg_X12_553 : tbw (.methodLink RX12 553 (yy 307)) := wt0 2078 (by decide +kernel) rfl
set_option maxRecDepth 100000 in
theorem wm_X12_trap : tbw (.instanceMethod (yy 307)) := wt0 2080 (by decide +kernel) rfl
set_option maxRecDepth 100000 in
theorem wse_X12_trap : tbw (.selects RX12 (yy 307) (yy 307)) := wp0 237 (by decide +kernel) rfl
set_option maxRecDepth 100000 in
theorem wc_X12_reckon : tbw (cwd 311) := wt0 2096 rfl rfl
set_option maxRecDepth 100000 in
theorem wg_X12_555 : tbw (.methodLink RX12 555 (yy 311)) := wt0 2094 (by decide +kernel) rfl
set_option maxRecDepth 100000 in
theorem wt_X12_reckon : tbw (.static (yy 311)) := wt0 2095 (by decide +kernel) rfl
set_option maxRecDepth 100000 in
theorem wc_X12_make : tbw (cwd 291) := wt0 2104 rfl rfl
set_option maxRecDepth 100000 in
theorem wg_X12_558 : tbw (.methodLink RX12 558 (yy 291)) := wt0 2101 (by decide +kernel) rfl
set_option maxRecDepth 100000 in
theorem wm_X12_make : tbw (.instanceMethod (yy 291)) := wt0 2103 (by decide +kernel) rfl
set_option maxRecDepth 100000 in
theorem wse_X12_make : tbw (.selects RX12 (yy 291) (yy 291)) := wp0 242 (by decide +kernel) rfl
set_option maxRecDepth 100000 in
theorem wc_X12_cell : tbw (cwd 292) := wt0 2116 rfl rfl
set_option maxRecDepth 100000 in
theorem wg_X12_562 : tbw (.methodLink RX12 562 (yy 292)) := wt0 2113 (by decide +kernel) rfl
set_option maxRecDepth 100000 in
theorem wm_X12_cell : tbw (.instanceMethod (yy 292)) := wt0 2115 (by decide +kernel) rfl
set_option maxRecDepth 100000 in
theorem wse_X12_cell : tbw (.selects RX12 (yy 292) (yy 292)) := wp0 245 (by decide +kernel) rfl
set_option maxRecDepth 100000 in
theorem wc_X12_isAt : tbw (cwd 313) := wt0 2120 rfl rfl
set_option maxRecDepth 100000 in
theorem wg_X12_565 : tbw (.methodLink RX12 565 (yy 313)) := wt0 2117 (by decide +kernel) rfl
set_option maxRecDepth 100000 in
theorem wm_X12_isAt : tbw (.instanceMethod (yy 313)) := wt0 2119 (by decide +kernel) rfl
set_option maxRecDepth 100000 in
theorem wse_X12_isAt : tbw (.selects RX12 (yy 313) (yy 313)) := wp0 246 (by decide +kernel) rfl
set_option maxRecDepth 100000 in
theorem wc_X12_call : tbw (cwd 314) := wt0 2124 rfl rfl
set_option maxRecDepth 100000 in
theorem wg_X12_568 : tbw (.methodLink RX12 568 (yy 314)) := wt0 2121 (by decide +kernel) rfl
set_option maxRecDepth 100000 in
theorem wm_X12_call : tbw (.instanceMethod (yy 314)) := wt0 2123 (by decide +kernel) rfl
set_option maxRecDepth 100000 in
theorem wse_X12_call : tbw (.selects RX12 (yy 314) (yy 314)) := wp0 247 (by decide +kernel) rfl
set_option maxRecDepth 100000 in
theorem wc_X12_back : tbw (cwd 315) := wt0 2128 rfl rfl
set_option maxRecDepth 100000 in
theorem wg_X12_571 : tbw (.methodLink RX12 571 (yy 315)) := wt0 2125 (by decide +kernel) rfl
set_option maxRecDepth 100000 in
theorem wm_X12_back : tbw (.instanceMethod (yy 315)) := wt0 2127 (by decide +kernel) rfl
set_option maxRecDepth 100000 in
theorem wse_X12_back : tbw (.selects RX12 (yy 315) (yy 315)) := wp0 248 (by decide +kernel) rfl
set_option maxRecDepth 100000 in
theorem wc_X12_makeBlock : tbw (cwd 317) := wt0 2136 rfl rfl
set_option maxRecDepth 100000 in
theorem wg_X12_574 : tbw (.methodLink RX12 574 (yy 317)) := wt0 2133 (by decide +kernel) rfl
set_option maxRecDepth 100000 in
theorem wm_X12_makeBlock : tbw (.instanceMethod (yy 317)) := wt0 2135 (by decide +kernel) rfl
set_option maxRecDepth 100000 in
theorem wse_X12_makeBlock : tbw (.selects RX12 (yy 317) (yy 317)) := wp0 250 (by decide +kernel) rfl
set_option maxRecDepth 100000 in
theorem wc_X12_channel : tbw (cwd 318) := wt0 2144 rfl rfl
set_option maxRecDepth 100000 in
theorem wg_X12_577 : tbw (.methodLink RX12 577 (yy 318)) := wt0 2141 (by decide +kernel) rfl
set_option maxRecDepth 100000 in
theorem wm_X12_channel : tbw (.instanceMethod (yy 318)) := wt0 2143 (by decide +kernel) rfl
set_option maxRecDepth 100000 in
theorem wse_X12_channel : tbw (.selects RX12 (yy 318) (yy 318)) := wp0 252 (by decide +kernel) rfl
set_option maxRecDepth 100000 in
theorem wc_X12_send : tbw (cwd 319) := wt0 2152 rfl rfl
set_option maxRecDepth 100000 in
theorem wg_X12_580 : tbw (.methodLink RX12 580 (yy 319)) := wt0 2149 (by decide +kernel) rfl
set_option maxRecDepth 100000 in
theorem wm_X12_send : tbw (.instanceMethod (yy 319)) := wt0 2151 (by decide +kernel) rfl
set_option maxRecDepth 100000 in
theorem wse_X12_send : tbw (.selects RX12 (yy 319) (yy 319)) := wp0 254 (by decide +kernel) rfl
set_option maxRecDepth 100000 in
theorem wc_X12_receive : tbw (cwd 320) := wt0 2160 rfl rfl
set_option maxRecDepth 100000 in
theorem wg_X12_583 : tbw (.methodLink RX12 583 (yy 320)) := wt0 2157 (by decide +kernel) rfl
set_option maxRecDepth 100000 in
theorem wm_X12_receive : tbw (.instanceMethod (yy 320)) := wt0 2159 (by decide +kernel) rfl
set_option maxRecDepth 100000 in
theorem wse_X12_receive : tbw (.selects RX12 (yy 320) (yy 320)) := wp0 256 (by decide +kernel) rfl
set_option maxRecDepth 100000 in
theorem wc_X12_spawn : tbw (cwd 321) := wt0 2164 rfl rfl
set_option maxRecDepth 100000 in
theorem wg_X12_586 : tbw (.methodLink RX12 586 (yy 321)) := wt0 2161 (by decide +kernel) rfl
set_option maxRecDepth 100000 in
theorem wm_X12_spawn : tbw (.instanceMethod (yy 321)) := wt0 2163 (by decide +kernel) rfl
set_option maxRecDepth 100000 in
theorem wse_X12_spawn : tbw (.selects RX12 (yy 321) (yy 321)) := wp0 257 (by decide +kernel) rfl
set_option maxRecDepth 100000 in
theorem wc_X12_blockCells : tbw (cwd 293) := wt0 2140 rfl rfl
set_option maxRecDepth 100000 in
theorem wg_X12_589 : tbw (.methodLink RX12 589 (yy 293)) := wt0 2137 (by decide +kernel) rfl
set_option maxRecDepth 100000 in
theorem wm_X12_blockCells : tbw (.instanceMethod (yy 293)) := wt0 2139 (by decide +kernel) rfl
set_option maxRecDepth 100000 in
theorem wse_X12_blockCells : tbw (.selects RX12 (yy 293) (yy 293)) := wp0 251 (by decide +kernel) rfl
set_option maxRecDepth 100000 in
theorem wc_X12_isChannel : tbw (cwd 294) := wt0 2148 rfl rfl
set_option maxRecDepth 100000 in
theorem wg_X12_592 : tbw (.methodLink RX12 592 (yy 294)) := wt0 2145 (by decide +kernel) rfl
set_option maxRecDepth 100000 in
theorem wm_X12_isChannel : tbw (.instanceMethod (yy 294)) := wt0 2147 (by decide +kernel) rfl
set_option maxRecDepth 100000 in
theorem wse_X12_isChannel : tbw (.selects RX12 (yy 294) (yy 294)) := wp0 253 (by decide +kernel) rfl
set_option maxRecDepth 100000 in
theorem wc_X12_own : tbw (cwd 297) := wt0 2156 rfl rfl
set_option maxRecDepth 100000 in
theorem wg_X12_595 : tbw (.methodLink RX12 595 (yy 297)) := wt0 2153 (by decide +kernel) rfl
set_option maxRecDepth 100000 in
theorem wm_X12_own : tbw (.instanceMethod (yy 297)) := wt0 2155 (by decide +kernel) rfl
set_option maxRecDepth 100000 in
theorem wse_X12_own : tbw (.selects RX12 (yy 297) (yy 297)) := wp0 255 (by decide +kernel) rfl
set_option maxRecDepth 100000 in
theorem wk_X12_600 : tbw (.constant RX12 600 (Int32.ofInt (-2147483648))) := wt0 2181 (by decide +kernel) rfl
set_option maxRecDepth 100000 in
theorem wl_L_7 : tbw (.classLink RL 7 RX11) := wt0 20 (by decide +kernel) rfl
set_option maxRecDepth 100000 in
theorem wn_X11 : tbw (.instantiable RX11 9) := wt0 21 (by decide +kernel) rfl
set_option maxRecDepth 100000 in
theorem wc_X11_init : tbw (cwd 185) := wt0 24 rfl rfl
set_option maxRecDepth 100000 in
theorem wg_L_9 : tbw (.methodLink RL 9 (yy 185)) := wt0 22 (by decide +kernel) rfl
set_option maxRecDepth 100000 in
theorem wm_X11_init : tbw (.instanceMethod (yy 185)) := wt0 23 (by decide +kernel) rfl
set_option maxRecDepth 100000 in
theorem wl_L_10 : tbw (.classLink RL 10 RX12) := wt0 1419 (by decide +kernel) rfl
set_option maxRecDepth 100000 in
theorem wn_X12 : tbw (.instantiable RX12 90) := wt0 1420 (by decide +kernel) rfl
set_option maxRecDepth 100000 in
theorem wc_X12_init : tbw (cwd 216) := wt0 1423 rfl rfl
set_option maxRecDepth 100000 in
theorem wg_L_12 : tbw (.methodLink RL 12 (yy 216)) := wt0 1421 (by decide +kernel) rfl
set_option maxRecDepth 100000 in
theorem wm_X12_init : tbw (.instanceMethod (yy 216)) := wt0 1422 (by decide +kernel) rfl
set_option maxRecDepth 100000 in
theorem wc_X11_feed : tbw (cwd 186) := wt0 323 rfl rfl
set_option maxRecDepth 100000 in
theorem wg_L_13 : tbw (.methodLink RL 13 (yy 186)) := wt0 320 (by decide +kernel) rfl
set_option maxRecDepth 100000 in
theorem wm_X11_feed : tbw (.instanceMethod (yy 186)) := wt0 321 (by decide +kernel) rfl
set_option maxRecDepth 100000 in
theorem wse_X11_feed : tbw (.selects RX11 (yy 186) (yy 186)) := wt0 322 (by decide +kernel) rfl
set_option maxRecDepth 100000 in
theorem wc_X12_feed : tbw (cwd 217) := wt0 1761 rfl rfl
set_option maxRecDepth 100000 in
theorem wg_L_17 : tbw (.methodLink RL 17 (yy 217)) := wt0 1758 (by decide +kernel) rfl
set_option maxRecDepth 100000 in
theorem wm_X12_feed : tbw (.instanceMethod (yy 217)) := wt0 1759 (by decide +kernel) rfl
set_option maxRecDepth 100000 in
theorem wse_X12_feed : tbw (.selects RX12 (yy 217) (yy 217)) := wt0 1760 (by decide +kernel) rfl
set_option maxRecDepth 100000 in
theorem wc_X11_load : tbw (cwd 187) := wt0 331 rfl rfl
set_option maxRecDepth 100000 in
theorem wg_L_18 : tbw (.methodLink RL 18 (yy 187)) := wt0 328 (by decide +kernel) rfl
set_option maxRecDepth 100000 in
theorem wm_X11_load : tbw (.instanceMethod (yy 187)) := wt0 329 (by decide +kernel) rfl
set_option maxRecDepth 100000 in
theorem wse_X11_load : tbw (.selects RX11 (yy 187) (yy 187)) := wt0 330 (by decide +kernel) rfl
set_option maxRecDepth 100000 in
theorem wc_X12_load : tbw (cwd 264) := wt0 1769 rfl rfl
set_option maxRecDepth 100000 in
theorem wq_L_22 : tbw (.methodLink RL 22 (yy 264)) := wt0 1766 (by decide +kernel) rfl
set_option maxRecDepth 100000 in
theorem wm_X12_load : tbw (.instanceMethod (yy 264)) := wt0 1767 (by decide +kernel) rfl
set_option maxRecDepth 100000 in
theorem wse_X12_load : tbw (.selects RX12 (yy 264) (yy 264)) := wt0 1768 (by decide +kernel) rfl
set_option maxRecDepth 100000 in
theorem wc_X11_fault : tbw (cwd 188) := wt0 813 rfl rfl
set_option maxRecDepth 100000 in
theorem wg_L_23 : tbw (.methodLink RL 23 (yy 188)) := wt0 810 (by decide +kernel) rfl
set_option maxRecDepth 100000 in
theorem wm_X11_fault : tbw (.instanceMethod (yy 188)) := wt0 811 (by decide +kernel) rfl
set_option maxRecDepth 100000 in
theorem wse_X11_fault : tbw (.selects RX11 (yy 188) (yy 188)) := wt0 812 (by decide +kernel) rfl
set_option maxRecDepth 100000 in
theorem wc_X12_fault : tbw (cwd 219) := wt0 1765 rfl rfl
set_option maxRecDepth 100000 in
theorem wg_L_26 : tbw (.methodLink RL 26 (yy 219)) := wt0 1762 (by decide +kernel) rfl
set_option maxRecDepth 100000 in
theorem wm_X12_fault : tbw (.instanceMethod (yy 219)) := wt0 1763 (by decide +kernel) rfl
set_option maxRecDepth 100000 in
theorem wse_X12_fault : tbw (.selects RX12 (yy 219) (yy 219)) := wt0 1764 (by decide +kernel) rfl
set_option maxRecDepth 100000 in
theorem wc_X11_discard : tbw (cwd 189) := wt0 817 rfl rfl
set_option maxRecDepth 100000 in
theorem wg_L_27 : tbw (.methodLink RL 27 (yy 189)) := wt0 814 (by decide +kernel) rfl
set_option maxRecDepth 100000 in
theorem wm_X11_discard : tbw (.instanceMethod (yy 189)) := wt0 815 (by decide +kernel) rfl
set_option maxRecDepth 100000 in
theorem wse_X11_discard : tbw (.selects RX11 (yy 189) (yy 189)) := wt0 816 (by decide +kernel) rfl
set_option maxRecDepth 100000 in
theorem wc_X12_discard : tbw (cwd 269) := wt0 1957 rfl rfl
set_option maxRecDepth 100000 in
theorem wg_L_31 : tbw (.methodLink RL 31 (yy 269)) := wt0 1954 (by decide +kernel) rfl
set_option maxRecDepth 100000 in
theorem wm_X12_discard : tbw (.instanceMethod (yy 269)) := wt0 1955 (by decide +kernel) rfl
set_option maxRecDepth 100000 in
theorem wse_X12_discard : tbw (.selects RX12 (yy 269) (yy 269)) := wt0 1956 (by decide +kernel) rfl
set_option maxRecDepth 100000 in
theorem wc_X11_module : tbw (cwd 190) := wt0 825 rfl rfl
set_option maxRecDepth 100000 in
theorem wg_L_32 : tbw (.methodLink RL 32 (yy 190)) := wt0 822 (by decide +kernel) rfl
set_option maxRecDepth 100000 in
theorem wm_X11_module : tbw (.instanceMethod (yy 190)) := wt0 823 (by decide +kernel) rfl
set_option maxRecDepth 100000 in
theorem wse_X11_module : tbw (.selects RX11 (yy 190) (yy 190)) := wt0 824 (by decide +kernel) rfl
set_option maxRecDepth 100000 in
theorem wc_X12_module_ : tbw (cwd 270) := wt0 1965 rfl rfl
set_option maxRecDepth 100000 in
theorem wg_L_36 : tbw (.methodLink RL 36 (yy 270)) := wt0 1962 (by decide +kernel) rfl
set_option maxRecDepth 100000 in
theorem wm_X12_module_ : tbw (.instanceMethod (yy 270)) := wt0 1963 (by decide +kernel) rfl
set_option maxRecDepth 100000 in
theorem wse_X12_module_ : tbw (.selects RX12 (yy 270) (yy 270)) := wt0 1964 (by decide +kernel) rfl
set_option maxRecDepth 100000 in
theorem wc_X11_typeAt : tbw (cwd 191) := wt0 833 rfl rfl
set_option maxRecDepth 100000 in
theorem wg_L_37 : tbw (.methodLink RL 37 (yy 191)) := wt0 830 (by decide +kernel) rfl
set_option maxRecDepth 100000 in
theorem wm_X11_typeAt : tbw (.instanceMethod (yy 191)) := wt0 831 (by decide +kernel) rfl
set_option maxRecDepth 100000 in
theorem wse_X11_typeAt : tbw (.selects RX11 (yy 191) (yy 191)) := wt0 832 (by decide +kernel) rfl
set_option maxRecDepth 100000 in
theorem wc_X12_typeAt : tbw (cwd 272) := wt0 1974 rfl rfl
set_option maxRecDepth 100000 in
theorem wg_L_40 : tbw (.methodLink RL 40 (yy 272)) := wt0 1971 (by decide +kernel) rfl
set_option maxRecDepth 100000 in
theorem wm_X12_typeAt : tbw (.instanceMethod (yy 272)) := wt0 1972 (by decide +kernel) rfl
set_option maxRecDepth 100000 in
theorem wse_X12_typeAt : tbw (.selects RX12 (yy 272) (yy 272)) := wt0 1973 (by decide +kernel) rfl
set_option maxRecDepth 100000 in
theorem wc_X11_boot : tbw (cwd 192) := wt0 839 rfl rfl
set_option maxRecDepth 100000 in
theorem wg_L_41 : tbw (.methodLink RL 41 (yy 192)) := wt0 836 (by decide +kernel) rfl
set_option maxRecDepth 100000 in
theorem wm_X11_boot : tbw (.instanceMethod (yy 192)) := wt0 837 (by decide +kernel) rfl
set_option maxRecDepth 100000 in
theorem wse_X11_boot : tbw (.selects RX11 (yy 192) (yy 192)) := wt0 838 (by decide +kernel) rfl
set_option maxRecDepth 100000 in
theorem wc_X12_boot : tbw (cwd 278) := wt0 1978 rfl rfl
set_option maxRecDepth 100000 in
theorem wq_L_44 : tbw (.methodLink RL 44 (yy 278)) := wt0 1975 (by decide +kernel) rfl
set_option maxRecDepth 100000 in
theorem wm_X12_boot : tbw (.instanceMethod (yy 278)) := wt0 1976 (by decide +kernel) rfl
set_option maxRecDepth 100000 in
theorem wse_X12_boot : tbw (.selects RX12 (yy 278) (yy 278)) := wt0 1977 (by decide +kernel) rfl
set_option maxRecDepth 100000 in
theorem wc_X11_run : tbw (cwd 193) := wt0 1022 rfl rfl
set_option maxRecDepth 100000 in
theorem wg_L_45 : tbw (.methodLink RL 45 (yy 193)) := wt0 1019 (by decide +kernel) rfl
set_option maxRecDepth 100000 in
theorem wm_X11_run : tbw (.instanceMethod (yy 193)) := wt0 1020 (by decide +kernel) rfl
set_option maxRecDepth 100000 in
theorem wse_X11_run : tbw (.selects RX11 (yy 193) (yy 193)) := wt0 1021 (by decide +kernel) rfl
set_option maxRecDepth 100000 in
theorem wc_X12_run : tbw (cwd 299) := wt0 2021 rfl rfl
set_option maxRecDepth 100000 in
theorem wg_L_48 : tbw (.methodLink RL 48 (yy 299)) := wt0 2018 (by decide +kernel) rfl
set_option maxRecDepth 100000 in
theorem wm_X12_run : tbw (.instanceMethod (yy 299)) := wt0 2019 (by decide +kernel) rfl
set_option maxRecDepth 100000 in
theorem wse_X12_run : tbw (.selects RX12 (yy 299) (yy 299)) := wt0 2020 (by decide +kernel) rfl
set_option maxRecDepth 100000 in
theorem wc_X11_about : tbw (cwd 194) := wt0 1344 rfl rfl
set_option maxRecDepth 100000 in
theorem wg_L_49 : tbw (.methodLink RL 49 (yy 194)) := wt0 1341 (by decide +kernel) rfl
set_option maxRecDepth 100000 in
theorem wm_X11_about : tbw (.instanceMethod (yy 194)) := wt0 1342 (by decide +kernel) rfl
set_option maxRecDepth 100000 in
theorem wse_X11_about : tbw (.selects RX11 (yy 194) (yy 194)) := wt0 1343 (by decide +kernel) rfl
set_option maxRecDepth 100000 in
theorem wc_X12_about : tbw (cwd 322) := wt0 2172 rfl rfl
set_option maxRecDepth 100000 in
theorem wg_L_52 : tbw (.methodLink RL 52 (yy 322)) := wt0 2169 (by decide +kernel) rfl
set_option maxRecDepth 100000 in
theorem wm_X12_about : tbw (.instanceMethod (yy 322)) := wt0 2170 (by decide +kernel) rfl
set_option maxRecDepth 100000 in
theorem wse_X12_about : tbw (.selects RX12 (yy 322) (yy 322)) := wt0 2171 (by decide +kernel) rfl
set_option maxRecDepth 100000 in
theorem wc_X11_process : tbw (cwd 195) := wt0 1360 rfl rfl
set_option maxRecDepth 100000 in
theorem wg_L_53 : tbw (.methodLink RL 53 (yy 195)) := wt0 1357 (by decide +kernel) rfl
set_option maxRecDepth 100000 in
theorem wm_X11_process : tbw (.instanceMethod (yy 195)) := wt0 1358 (by decide +kernel) rfl
set_option maxRecDepth 100000 in
theorem wse_X11_process : tbw (.selects RX11 (yy 195) (yy 195)) := wt0 1359 (by decide +kernel) rfl
set_option maxRecDepth 100000 in
theorem wc_X12_process : tbw (cwd 323) := wt0 2176 rfl rfl
set_option maxRecDepth 100000 in
theorem wg_L_57 : tbw (.methodLink RL 57 (yy 323)) := wt0 2173 (by decide +kernel) rfl
set_option maxRecDepth 100000 in
theorem wm_X12_process : tbw (.instanceMethod (yy 323)) := wt0 2174 (by decide +kernel) rfl
set_option maxRecDepth 100000 in
theorem wse_X12_process : tbw (.selects RX12 (yy 323) (yy 323)) := wt0 2175 (by decide +kernel) rfl
set_option maxRecDepth 100000 in
theorem wc_X11_value : tbw (cwd 196) := wt0 1380 rfl rfl
set_option maxRecDepth 100000 in
theorem wg_L_58 : tbw (.methodLink RL 58 (yy 196)) := wt0 1377 (by decide +kernel) rfl
set_option maxRecDepth 100000 in
theorem wm_X11_value : tbw (.instanceMethod (yy 196)) := wt0 1378 (by decide +kernel) rfl
set_option maxRecDepth 100000 in
theorem wse_X11_value : tbw (.selects RX11 (yy 196) (yy 196)) := wt0 1379 (by decide +kernel) rfl
set_option maxRecDepth 100000 in
theorem wc_X12_value : tbw (cwd 324) := wt0 2180 rfl rfl
set_option maxRecDepth 100000 in
theorem wg_L_61 : tbw (.methodLink RL 61 (yy 324)) := wt0 2177 (by decide +kernel) rfl
set_option maxRecDepth 100000 in
theorem wm_X12_value : tbw (.instanceMethod (yy 324)) := wt0 2178 (by decide +kernel) rfl
set_option maxRecDepth 100000 in
theorem wse_X12_value : tbw (.selects RX12 (yy 324) (yy 324)) := wt0 2179 (by decide +kernel) rfl
set_option maxRecDepth 100000 in
theorem wc_X11_block : tbw (cwd 197) := wt0 1394 rfl rfl
set_option maxRecDepth 100000 in
theorem wg_L_62 : tbw (.methodLink RL 62 (yy 197)) := wt0 1391 (by decide +kernel) rfl
set_option maxRecDepth 100000 in
theorem wm_X11_block : tbw (.instanceMethod (yy 197)) := wt0 1392 (by decide +kernel) rfl
set_option maxRecDepth 100000 in
theorem wse_X11_block : tbw (.selects RX11 (yy 197) (yy 197)) := wt0 1393 (by decide +kernel) rfl
set_option maxRecDepth 100000 in
theorem wc_X12_block : tbw (cwd 325) := wt0 2185 rfl rfl
set_option maxRecDepth 100000 in
theorem wg_L_65 : tbw (.methodLink RL 65 (yy 325)) := wt0 2182 (by decide +kernel) rfl
set_option maxRecDepth 100000 in
theorem wm_X12_block : tbw (.instanceMethod (yy 325)) := wt0 2183 (by decide +kernel) rfl
set_option maxRecDepth 100000 in
theorem wse_X12_block : tbw (.selects RX12 (yy 325) (yy 325)) := wt0 2184 (by decide +kernel) rfl
set_option maxRecDepth 100000 in
theorem wc_X11_channel : tbw (cwd 198) := wt0 1404 rfl rfl
set_option maxRecDepth 100000 in
theorem wg_L_66 : tbw (.methodLink RL 66 (yy 198)) := wt0 1401 (by decide +kernel) rfl
set_option maxRecDepth 100000 in
theorem wm_X11_channel : tbw (.instanceMethod (yy 198)) := wt0 1402 (by decide +kernel) rfl
set_option maxRecDepth 100000 in
theorem wse_X11_channel : tbw (.selects RX11 (yy 198) (yy 198)) := wt0 1403 (by decide +kernel) rfl
set_option maxRecDepth 100000 in
theorem wc_X12_channel_ : tbw (cwd 326) := wt0 2189 rfl rfl
set_option maxRecDepth 100000 in
theorem wg_L_69 : tbw (.methodLink RL 69 (yy 326)) := wt0 2186 (by decide +kernel) rfl
set_option maxRecDepth 100000 in
theorem wm_X12_channel_ : tbw (.instanceMethod (yy 326)) := wt0 2187 (by decide +kernel) rfl
set_option maxRecDepth 100000 in
theorem wse_X12_channel_ : tbw (.selects RX12 (yy 326) (yy 326)) := wt0 2188 (by decide +kernel) rfl
set_option maxRecDepth 100000 in
theorem wc_X11_output : tbw (cwd 199) := wt0 1418 rfl rfl
set_option maxRecDepth 100000 in
theorem wg_L_70 : tbw (.methodLink RL 70 (yy 199)) := wt0 1415 (by decide +kernel) rfl
set_option maxRecDepth 100000 in
theorem wm_X11_output : tbw (.instanceMethod (yy 199)) := wt0 1416 (by decide +kernel) rfl
set_option maxRecDepth 100000 in
theorem wse_X11_output : tbw (.selects RX11 (yy 199) (yy 199)) := wt0 1417 (by decide +kernel) rfl
set_option maxRecDepth 100000 in
theorem wc_X12_output : tbw (cwd 327) := wt0 2193 rfl rfl
set_option maxRecDepth 100000 in
theorem wg_L_73 : tbw (.methodLink RL 73 (yy 327)) := wt0 2190 (by decide +kernel) rfl
set_option maxRecDepth 100000 in
theorem wm_X12_output : tbw (.instanceMethod (yy 327)) := wt0 2191 (by decide +kernel) rfl
set_option maxRecDepth 100000 in
theorem wse_X12_output : tbw (.selects RX12 (yy 327) (yy 327)) := wt0 2192 (by decide +kernel) rfl
theorem atE : ∀ w ∈ vx_at0 RX12 78 isE upE, tbw w := by
  have h1 : (vx_at0 RX12 78 isE upE).all wkd = true := by decide +kernel
  have h2 : (vx_at0 RX12 78 isE upE).all (fun w => decide (w ∈ lw_tbl)) = true := by decide +kernel
  exact fun w h => ⟨of_decide_eq_true (List.all_eq_true.mp h2 w h), List.all_eq_true.mp h1 w h⟩
