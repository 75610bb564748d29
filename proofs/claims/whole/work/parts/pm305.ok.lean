theorem o143_0 : Okp RX8 cX8_movePartsOf 6 (some .int) "movePartsOf" false 0 (sK 1 1) := ok_iconst (by decide +kernel : decode cX8_movePartsOf 0 = .ok (.iconst 1, 1)) (by decide)
theorem o143_1 : Okp RX8 cX8_movePartsOf 6 (some .int) "movePartsOf" false 1 (sLR 0 2) := ok_aload_n (by decide +kernel : decode cX8_movePartsOf 1 = .ok (.aload_n 0, 1)) rfl
theorem o143_2 : Okp RX8 cX8_movePartsOf 6 (some .int) "movePartsOf" false 2 (sGR 9 15 5) := ok_getR (by decide +kernel : decode cX8_movePartsOf 2 = .ok (.getfield 52, 3)) fw_X8_52 rfl
theorem o143_5 : Okp RX8 cX8_movePartsOf 6 (some .int) "movePartsOf" false 5 (sLI 2 6) := ok_iload_n (by decide +kernel : decode cX8_movePartsOf 5 = .ok (.iload_n 2, 1)) rfl
theorem o143_6 : Okp RX8 cX8_movePartsOf 6 (some .int) "movePartsOf" false 6 (sIA 7) := ok_iaload (by decide +kernel : decode cX8_movePartsOf 6 = .ok (.iaload, 1))
theorem o143_7 : Okp RX8 cX8_movePartsOf 6 (some .int) "movePartsOf" false 7 (sK 65535 9) := ok_ldc (by decide +kernel : decode cX8_movePartsOf 7 = .ok (.ldc 103, 2)) wk_X8_103 (by decide)
theorem o143_9 : Okp RX8 cX8_movePartsOf 6 (some .int) "movePartsOf" false 9 (sB2 fAnd 10) := ok_iand (by decide +kernel : decode cX8_movePartsOf 9 = .ok (.iand, 1))
theorem o143_10 : Okp RX8 cX8_movePartsOf 6 (some .int) "movePartsOf" false 10 (sB2 fAdd 11) := ok_iadd (by decide +kernel : decode cX8_movePartsOf 10 = .ok (.iadd, 1))
theorem o143_11 : Okp RX8 cX8_movePartsOf 6 (some .int) "movePartsOf" false 11 (sSI 3 12) := ok_istore_n (by decide +kernel : decode cX8_movePartsOf 11 = .ok (.istore_n 3, 1)) rfl (by decide) (by decide)
theorem o143_12 : Okp RX8 cX8_movePartsOf 6 (some .int) "movePartsOf" false 12 (sLR 0 13) := ok_aload_n (by decide +kernel : decode cX8_movePartsOf 12 = .ok (.aload_n 0, 1)) rfl
theorem o143_13 : Okp RX8 cX8_movePartsOf 6 (some .int) "movePartsOf" false 13 (sGR 9 15 16) := ok_getR (by decide +kernel : decode cX8_movePartsOf 13 = .ok (.getfield 52, 3)) fw_X8_52 rfl
theorem o143_16 : Okp RX8 cX8_movePartsOf 6 (some .int) "movePartsOf" false 16 (sLI 2 17) := ok_iload_n (by decide +kernel : decode cX8_movePartsOf 16 = .ok (.iload_n 2, 1)) rfl
theorem o143_17 : Okp RX8 cX8_movePartsOf 6 (some .int) "movePartsOf" false 17 (sIA 18) := ok_iaload (by decide +kernel : decode cX8_movePartsOf 17 = .ok (.iaload, 1))
theorem o143_18 : Okp RX8 cX8_movePartsOf 6 (some .int) "movePartsOf" false 18 (sK 524288 20) := ok_ldc (by decide +kernel : decode cX8_movePartsOf 18 = .ok (.ldc 132, 2)) wk_X8_132 (by decide)
theorem o143_20 : Okp RX8 cX8_movePartsOf 6 (some .int) "movePartsOf" false 20 (sI2 3 120 23) := ok_icmp_ge (by decide +kernel : decode cX8_movePartsOf 20 = .ok (.if_icmp .ge 100, 3)) (by decide)
theorem o143_23 : Okp RX8 cX8_movePartsOf 6 (some .int) "movePartsOf" false 23 (sLR 0 24) := ok_aload_n (by decide +kernel : decode cX8_movePartsOf 23 = .ok (.aload_n 0, 1)) rfl
theorem o143_24 : Okp RX8 cX8_movePartsOf 6 (some .int) "movePartsOf" false 24 (sGR 9 1 27) := ok_getR (by decide +kernel : decode cX8_movePartsOf 24 = .ok (.getfield 61, 3)) fw_X8_61 rfl
theorem o143_27 : Okp RX8 cX8_movePartsOf 6 (some .int) "movePartsOf" false 27 (sLR 0 28) := ok_aload_n (by decide +kernel : decode cX8_movePartsOf 27 = .ok (.aload_n 0, 1)) rfl
theorem o143_28 : Okp RX8 cX8_movePartsOf 6 (some .int) "movePartsOf" false 28 (sGR 9 15 31) := ok_getR (by decide +kernel : decode cX8_movePartsOf 28 = .ok (.getfield 52, 3)) fw_X8_52 rfl
theorem o143_31 : Okp RX8 cX8_movePartsOf 6 (some .int) "movePartsOf" false 31 (sLI 2 32) := ok_iload_n (by decide +kernel : decode cX8_movePartsOf 31 = .ok (.iload_n 2, 1)) rfl
theorem o143_32 : Okp RX8 cX8_movePartsOf 6 (some .int) "movePartsOf" false 32 (sIA 33) := ok_iaload (by decide +kernel : decode cX8_movePartsOf 32 = .ok (.iaload, 1))
theorem o143_33 : Okp RX8 cX8_movePartsOf 6 (some .int) "movePartsOf" false 33 (sK 16 35) := ok_bipush (by decide +kernel : decode cX8_movePartsOf 33 = .ok (.bipush 16, 2)) (by decide)
theorem o143_35 : Okp RX8 cX8_movePartsOf 6 (some .int) "movePartsOf" false 35 (sB2 fShr 36) := ok_ishr (by decide +kernel : decode cX8_movePartsOf 35 = .ok (.ishr, 1))
theorem o143_36 : Okp RX8 cX8_movePartsOf 6 (some .int) "movePartsOf" false 36 (sCV false 154 2 10 39) := ok_cv (by decide +kernel : decode cX8_movePartsOf 36 = .ok (.invokevirtual 116, 3)) mw_X8_116 rfl (by decide) wm_X9_pointersOf wse_X9_pointersOf (by decide) rfl
theorem o143_39 : Okp RX8 cX8_movePartsOf 6 (some .int) "movePartsOf" false 39 (sSI 4 41) := ok_istore (by decide +kernel : decode cX8_movePartsOf 39 = .ok (.istore 4, 2)) (by decide) (by decide)
theorem o143_41 : Okp RX8 cX8_movePartsOf 6 (some .int) "movePartsOf" false 41 (sK 0 42) := ok_iconst (by decide +kernel : decode cX8_movePartsOf 41 = .ok (.iconst 0, 1)) (by decide)
theorem o143_42 : Okp RX8 cX8_movePartsOf 6 (some .int) "movePartsOf" false 42 (sSI 5 44) := ok_istore (by decide +kernel : decode cX8_movePartsOf 42 = .ok (.istore 5, 2)) (by decide) (by decide)
theorem o143_44 : Okp RX8 cX8_movePartsOf 6 (some .int) "movePartsOf" false 44 (sLI 4 46) := ok_iload (by decide +kernel : decode cX8_movePartsOf 44 = .ok (.iload 4, 2))
theorem o143_46 : Okp RX8 cX8_movePartsOf 6 (some .int) "movePartsOf" false 46 (sLI 5 48) := ok_iload (by decide +kernel : decode cX8_movePartsOf 46 = .ok (.iload 5, 2))
theorem o143_48 : Okp RX8 cX8_movePartsOf 6 (some .int) "movePartsOf" false 48 (sB2 fShr 49) := ok_ishr (by decide +kernel : decode cX8_movePartsOf 48 = .ok (.ishr, 1))
theorem o143_49 : Okp RX8 cX8_movePartsOf 6 (some .int) "movePartsOf" false 49 (sI1 0 117 52) := ok_if_eq (by decide +kernel : decode cX8_movePartsOf 49 = .ok (.ifCond .eq 68, 3)) (by decide)
theorem o143_52 : Okp RX8 cX8_movePartsOf 6 (some .int) "movePartsOf" false 52 (sLI 5 54) := ok_iload (by decide +kernel : decode cX8_movePartsOf 52 = .ok (.iload 5, 2))
theorem o143_54 : Okp RX8 cX8_movePartsOf 6 (some .int) "movePartsOf" false 54 (sK 6 56) := ok_bipush (by decide +kernel : decode cX8_movePartsOf 54 = .ok (.bipush 6, 2)) (by decide)
theorem o143_56 : Okp RX8 cX8_movePartsOf 6 (some .int) "movePartsOf" false 56 (sI2 3 117 59) := ok_icmp_ge (by decide +kernel : decode cX8_movePartsOf 56 = .ok (.if_icmp .ge 61, 3)) (by decide)
theorem o143_59 : Okp RX8 cX8_movePartsOf 6 (some .int) "movePartsOf" false 59 (sLI 4 61) := ok_iload (by decide +kernel : decode cX8_movePartsOf 59 = .ok (.iload 4, 2))
theorem o143_61 : Okp RX8 cX8_movePartsOf 6 (some .int) "movePartsOf" false 61 (sLI 5 63) := ok_iload (by decide +kernel : decode cX8_movePartsOf 61 = .ok (.iload 5, 2))
theorem o143_63 : Okp RX8 cX8_movePartsOf 6 (some .int) "movePartsOf" false 63 (sB2 fShr 64) := ok_ishr (by decide +kernel : decode cX8_movePartsOf 63 = .ok (.ishr, 1))
theorem o143_64 : Okp RX8 cX8_movePartsOf 6 (some .int) "movePartsOf" false 64 (sK 1 65) := ok_iconst (by decide +kernel : decode cX8_movePartsOf 64 = .ok (.iconst 1, 1)) (by decide)
theorem o143_65 : Okp RX8 cX8_movePartsOf 6 (some .int) "movePartsOf" false 65 (sB2 fAnd 66) := ok_iand (by decide +kernel : decode cX8_movePartsOf 65 = .ok (.iand, 1))
theorem o143_66 : Okp RX8 cX8_movePartsOf 6 (some .int) "movePartsOf" false 66 (sK 1 67) := ok_iconst (by decide +kernel : decode cX8_movePartsOf 66 = .ok (.iconst 1, 1)) (by decide)
theorem o143_67 : Okp RX8 cX8_movePartsOf 6 (some .int) "movePartsOf" false 67 (sI2 1 111 70) := ok_icmp_ne (by decide +kernel : decode cX8_movePartsOf 67 = .ok (.if_icmp .ne 44, 3)) (by decide)
theorem o143_70 : Okp RX8 cX8_movePartsOf 6 (some .int) "movePartsOf" false 70 (sLI 2 71) := ok_iload_n (by decide +kernel : decode cX8_movePartsOf 70 = .ok (.iload_n 2, 1)) rfl
theorem o143_71 : Okp RX8 cX8_movePartsOf 6 (some .int) "movePartsOf" false 71 (sK 1 72) := ok_iconst (by decide +kernel : decode cX8_movePartsOf 71 = .ok (.iconst 1, 1)) (by decide)
theorem o143_72 : Okp RX8 cX8_movePartsOf 6 (some .int) "movePartsOf" false 72 (sB2 fAdd 73) := ok_iadd (by decide +kernel : decode cX8_movePartsOf 72 = .ok (.iadd, 1))
theorem o143_73 : Okp RX8 cX8_movePartsOf 6 (some .int) "movePartsOf" false 73 (sLI 5 75) := ok_iload (by decide +kernel : decode cX8_movePartsOf 73 = .ok (.iload 5, 2))
theorem o143_75 : Okp RX8 cX8_movePartsOf 6 (some .int) "movePartsOf" false 75 (sB2 fAdd 76) := ok_iadd (by decide +kernel : decode cX8_movePartsOf 75 = .ok (.iadd, 1))
theorem o143_76 : Okp RX8 cX8_movePartsOf 6 (some .int) "movePartsOf" false 76 (sLR 0 77) := ok_aload_n (by decide +kernel : decode cX8_movePartsOf 76 = .ok (.aload_n 0, 1)) rfl
theorem o143_77 : Okp RX8 cX8_movePartsOf 6 (some .int) "movePartsOf" false 77 (sGR 9 15 80) := ok_getR (by decide +kernel : decode cX8_movePartsOf 77 = .ok (.getfield 52, 3)) fw_X8_52 rfl
theorem o143_80 : Okp RX8 cX8_movePartsOf 6 (some .int) "movePartsOf" false 80 (sLen 81) := ok_alen (by decide +kernel : decode cX8_movePartsOf 80 = .ok (.arraylength, 1))
theorem o143_81 : Okp RX8 cX8_movePartsOf 6 (some .int) "movePartsOf" false 81 (sI2 3 111 84) := ok_icmp_ge (by decide +kernel : decode cX8_movePartsOf 81 = .ok (.if_icmp .ge 30, 3)) (by decide)
theorem o143_84 : Okp RX8 cX8_movePartsOf 6 (some .int) "movePartsOf" false 84 (sLR 0 85) := ok_aload_n (by decide +kernel : decode cX8_movePartsOf 84 = .ok (.aload_n 0, 1)) rfl
theorem o143_85 : Okp RX8 cX8_movePartsOf 6 (some .int) "movePartsOf" false 85 (sGR 9 15 88) := ok_getR (by decide +kernel : decode cX8_movePartsOf 85 = .ok (.getfield 52, 3)) fw_X8_52 rfl
theorem o143_88 : Okp RX8 cX8_movePartsOf 6 (some .int) "movePartsOf" false 88 (sLI 2 89) := ok_iload_n (by decide +kernel : decode cX8_movePartsOf 88 = .ok (.iload_n 2, 1)) rfl
theorem o143_89 : Okp RX8 cX8_movePartsOf 6 (some .int) "movePartsOf" false 89 (sK 1 90) := ok_iconst (by decide +kernel : decode cX8_movePartsOf 89 = .ok (.iconst 1, 1)) (by decide)
theorem o143_90 : Okp RX8 cX8_movePartsOf 6 (some .int) "movePartsOf" false 90 (sB2 fAdd 91) := ok_iadd (by decide +kernel : decode cX8_movePartsOf 90 = .ok (.iadd, 1))
theorem o143_91 : Okp RX8 cX8_movePartsOf 6 (some .int) "movePartsOf" false 91 (sLI 5 93) := ok_iload (by decide +kernel : decode cX8_movePartsOf 91 = .ok (.iload 5, 2))
theorem o143_93 : Okp RX8 cX8_movePartsOf 6 (some .int) "movePartsOf" false 93 (sB2 fAdd 94) := ok_iadd (by decide +kernel : decode cX8_movePartsOf 93 = .ok (.iadd, 1))
theorem o143_94 : Okp RX8 cX8_movePartsOf 6 (some .int) "movePartsOf" false 94 (sLR 0 95) := ok_aload_n (by decide +kernel : decode cX8_movePartsOf 94 = .ok (.aload_n 0, 1)) rfl
theorem o143_95 : Okp RX8 cX8_movePartsOf 6 (some .int) "movePartsOf" false 95 (sLR 1 96) := ok_aload_n (by decide +kernel : decode cX8_movePartsOf 95 = .ok (.aload_n 1, 1)) rfl
theorem o143_96 : Okp RX8 cX8_movePartsOf 6 (some .int) "movePartsOf" false 96 (sLR 0 97) := ok_aload_n (by decide +kernel : decode cX8_movePartsOf 96 = .ok (.aload_n 0, 1)) rfl
theorem o143_97 : Okp RX8 cX8_movePartsOf 6 (some .int) "movePartsOf" false 97 (sGR 9 15 100) := ok_getR (by decide +kernel : decode cX8_movePartsOf 97 = .ok (.getfield 52, 3)) fw_X8_52 rfl
theorem o143_100 : Okp RX8 cX8_movePartsOf 6 (some .int) "movePartsOf" false 100 (sLI 2 101) := ok_iload_n (by decide +kernel : decode cX8_movePartsOf 100 = .ok (.iload_n 2, 1)) rfl
theorem o143_101 : Okp RX8 cX8_movePartsOf 6 (some .int) "movePartsOf" false 101 (sK 1 102) := ok_iconst (by decide +kernel : decode cX8_movePartsOf 101 = .ok (.iconst 1, 1)) (by decide)
theorem o143_102 : Okp RX8 cX8_movePartsOf 6 (some .int) "movePartsOf" false 102 (sB2 fAdd 103) := ok_iadd (by decide +kernel : decode cX8_movePartsOf 102 = .ok (.iadd, 1))
theorem o143_103 : Okp RX8 cX8_movePartsOf 6 (some .int) "movePartsOf" false 103 (sLI 5 105) := ok_iload (by decide +kernel : decode cX8_movePartsOf 103 = .ok (.iload 5, 2))
theorem o143_105 : Okp RX8 cX8_movePartsOf 6 (some .int) "movePartsOf" false 105 (sB2 fAdd 106) := ok_iadd (by decide +kernel : decode cX8_movePartsOf 105 = .ok (.iadd, 1))
theorem o143_106 : Okp RX8 cX8_movePartsOf 6 (some .int) "movePartsOf" false 106 (sIA 107) := ok_iaload (by decide +kernel : decode cX8_movePartsOf 106 = .ok (.iaload, 1))
theorem o143_107 : Okp RX8 cX8_movePartsOf 6 (some .int) "movePartsOf" false 107 (sCV false 142 3 9 110) := ok_cv (by decide +kernel : decode cX8_movePartsOf 107 = .ok (.invokevirtual 119, 3)) mw_X8_119 rfl (by decide) wm_X8_moved wse_X8_moved (by decide) rfl
theorem o143_110 : Okp RX8 cX8_movePartsOf 6 (some .int) "movePartsOf" false 110 (sIS 111) := ok_iastore (by decide +kernel : decode cX8_movePartsOf 110 = .ok (.iastore, 1))
theorem o143_111 : Okp RX8 cX8_movePartsOf 6 (some .int) "movePartsOf" false 111 (sInc 5 1 114) := ok_iinc (by decide +kernel : decode cX8_movePartsOf 111 = .ok (.iinc 5 1, 3)) (by decide) (by decide)
theorem o143_114 : Okp RX8 cX8_movePartsOf 6 (some .int) "movePartsOf" false 114 (sGo 44) := ok_goto (by decide +kernel : decode cX8_movePartsOf 114 = .ok (.goto (-70), 3)) (by decide)
theorem o143_117 : Okp RX8 cX8_movePartsOf 6 (some .int) "movePartsOf" false 117 (sGo 179) := ok_goto (by decide +kernel : decode cX8_movePartsOf 117 = .ok (.goto 62, 3)) (by decide)
theorem o143_120 : Okp RX8 cX8_movePartsOf 6 (some .int) "movePartsOf" false 120 (sLR 0 121) := ok_aload_n (by decide +kernel : decode cX8_movePartsOf 120 = .ok (.aload_n 0, 1)) rfl
theorem o143_121 : Okp RX8 cX8_movePartsOf 6 (some .int) "movePartsOf" false 121 (sGR 9 15 124) := ok_getR (by decide +kernel : decode cX8_movePartsOf 121 = .ok (.getfield 52, 3)) fw_X8_52 rfl
theorem o143_124 : Okp RX8 cX8_movePartsOf 6 (some .int) "movePartsOf" false 124 (sLI 2 125) := ok_iload_n (by decide +kernel : decode cX8_movePartsOf 124 = .ok (.iload_n 2, 1)) rfl
theorem o143_125 : Okp RX8 cX8_movePartsOf 6 (some .int) "movePartsOf" false 125 (sIA 126) := ok_iaload (by decide +kernel : decode cX8_movePartsOf 125 = .ok (.iaload, 1))
theorem o143_126 : Okp RX8 cX8_movePartsOf 6 (some .int) "movePartsOf" false 126 (sK 589824 128) := ok_ldc (by decide +kernel : decode cX8_movePartsOf 126 = .ok (.ldc 115, 2)) wk_X8_115 (by decide)
theorem o143_128 : Okp RX8 cX8_movePartsOf 6 (some .int) "movePartsOf" false 128 (sI2 2 179 131) := ok_icmp_lt (by decide +kernel : decode cX8_movePartsOf 128 = .ok (.if_icmp .lt 51, 3)) (by decide)
theorem o143_131 : Okp RX8 cX8_movePartsOf 6 (some .int) "movePartsOf" false 131 (sLI 2 132) := ok_iload_n (by decide +kernel : decode cX8_movePartsOf 131 = .ok (.iload_n 2, 1)) rfl
theorem o143_132 : Okp RX8 cX8_movePartsOf 6 (some .int) "movePartsOf" false 132 (sK 1 133) := ok_iconst (by decide +kernel : decode cX8_movePartsOf 132 = .ok (.iconst 1, 1)) (by decide)
theorem o143_133 : Okp RX8 cX8_movePartsOf 6 (some .int) "movePartsOf" false 133 (sB2 fAdd 134) := ok_iadd (by decide +kernel : decode cX8_movePartsOf 133 = .ok (.iadd, 1))
theorem o143_134 : Okp RX8 cX8_movePartsOf 6 (some .int) "movePartsOf" false 134 (sSI 4 136) := ok_istore (by decide +kernel : decode cX8_movePartsOf 134 = .ok (.istore 4, 2)) (by decide) (by decide)
theorem o143_136 : Okp RX8 cX8_movePartsOf 6 (some .int) "movePartsOf" false 136 (sLI 4 138) := ok_iload (by decide +kernel : decode cX8_movePartsOf 136 = .ok (.iload 4, 2))
theorem o143_138 : Okp RX8 cX8_movePartsOf 6 (some .int) "movePartsOf" false 138 (sLI 2 139) := ok_iload_n (by decide +kernel : decode cX8_movePartsOf 138 = .ok (.iload_n 2, 1)) rfl
theorem o143_139 : Okp RX8 cX8_movePartsOf 6 (some .int) "movePartsOf" false 139 (sLI 3 140) := ok_iload_n (by decide +kernel : decode cX8_movePartsOf 139 = .ok (.iload_n 3, 1)) rfl
theorem o143_140 : Okp RX8 cX8_movePartsOf 6 (some .int) "movePartsOf" false 140 (sB2 fAdd 141) := ok_iadd (by decide +kernel : decode cX8_movePartsOf 140 = .ok (.iadd, 1))
theorem o143_141 : Okp RX8 cX8_movePartsOf 6 (some .int) "movePartsOf" false 141 (sI2 3 179 144) := ok_icmp_ge (by decide +kernel : decode cX8_movePartsOf 141 = .ok (.if_icmp .ge 38, 3)) (by decide)
theorem o143_144 : Okp RX8 cX8_movePartsOf 6 (some .int) "movePartsOf" false 144 (sLI 4 146) := ok_iload (by decide +kernel : decode cX8_movePartsOf 144 = .ok (.iload 4, 2))
theorem o143_146 : Okp RX8 cX8_movePartsOf 6 (some .int) "movePartsOf" false 146 (sLR 0 147) := ok_aload_n (by decide +kernel : decode cX8_movePartsOf 146 = .ok (.aload_n 0, 1)) rfl
theorem o143_147 : Okp RX8 cX8_movePartsOf 6 (some .int) "movePartsOf" false 147 (sGR 9 15 150) := ok_getR (by decide +kernel : decode cX8_movePartsOf 147 = .ok (.getfield 52, 3)) fw_X8_52 rfl
theorem o143_150 : Okp RX8 cX8_movePartsOf 6 (some .int) "movePartsOf" false 150 (sLen 151) := ok_alen (by decide +kernel : decode cX8_movePartsOf 150 = .ok (.arraylength, 1))
theorem o143_151 : Okp RX8 cX8_movePartsOf 6 (some .int) "movePartsOf" false 151 (sI2 3 179 154) := ok_icmp_ge (by decide +kernel : decode cX8_movePartsOf 151 = .ok (.if_icmp .ge 28, 3)) (by decide)
theorem o143_154 : Okp RX8 cX8_movePartsOf 6 (some .int) "movePartsOf" false 154 (sLR 0 155) := ok_aload_n (by decide +kernel : decode cX8_movePartsOf 154 = .ok (.aload_n 0, 1)) rfl
theorem o143_155 : Okp RX8 cX8_movePartsOf 6 (some .int) "movePartsOf" false 155 (sGR 9 15 158) := ok_getR (by decide +kernel : decode cX8_movePartsOf 155 = .ok (.getfield 52, 3)) fw_X8_52 rfl
theorem o143_158 : Okp RX8 cX8_movePartsOf 6 (some .int) "movePartsOf" false 158 (sLI 4 160) := ok_iload (by decide +kernel : decode cX8_movePartsOf 158 = .ok (.iload 4, 2))
theorem o143_160 : Okp RX8 cX8_movePartsOf 6 (some .int) "movePartsOf" false 160 (sLR 0 161) := ok_aload_n (by decide +kernel : decode cX8_movePartsOf 160 = .ok (.aload_n 0, 1)) rfl
theorem o143_161 : Okp RX8 cX8_movePartsOf 6 (some .int) "movePartsOf" false 161 (sLR 1 162) := ok_aload_n (by decide +kernel : decode cX8_movePartsOf 161 = .ok (.aload_n 1, 1)) rfl
theorem o143_162 : Okp RX8 cX8_movePartsOf 6 (some .int) "movePartsOf" false 162 (sLR 0 163) := ok_aload_n (by decide +kernel : decode cX8_movePartsOf 162 = .ok (.aload_n 0, 1)) rfl
theorem o143_163 : Okp RX8 cX8_movePartsOf 6 (some .int) "movePartsOf" false 163 (sGR 9 15 166) := ok_getR (by decide +kernel : decode cX8_movePartsOf 163 = .ok (.getfield 52, 3)) fw_X8_52 rfl
theorem o143_166 : Okp RX8 cX8_movePartsOf 6 (some .int) "movePartsOf" false 166 (sLI 4 168) := ok_iload (by decide +kernel : decode cX8_movePartsOf 166 = .ok (.iload 4, 2))
theorem o143_168 : Okp RX8 cX8_movePartsOf 6 (some .int) "movePartsOf" false 168 (sIA 169) := ok_iaload (by decide +kernel : decode cX8_movePartsOf 168 = .ok (.iaload, 1))
theorem o143_169 : Okp RX8 cX8_movePartsOf 6 (some .int) "movePartsOf" false 169 (sCV false 142 3 9 172) := ok_cv (by decide +kernel : decode cX8_movePartsOf 169 = .ok (.invokevirtual 119, 3)) mw_X8_119 rfl (by decide) wm_X8_moved wse_X8_moved (by decide) rfl
theorem o143_172 : Okp RX8 cX8_movePartsOf 6 (some .int) "movePartsOf" false 172 (sIS 173) := ok_iastore (by decide +kernel : decode cX8_movePartsOf 172 = .ok (.iastore, 1))
theorem o143_173 : Okp RX8 cX8_movePartsOf 6 (some .int) "movePartsOf" false 173 (sInc 4 1 176) := ok_iinc (by decide +kernel : decode cX8_movePartsOf 173 = .ok (.iinc 4 1, 3)) (by decide) (by decide)
theorem o143_176 : Okp RX8 cX8_movePartsOf 6 (some .int) "movePartsOf" false 176 (sGo 136) := ok_goto (by decide +kernel : decode cX8_movePartsOf 176 = .ok (.goto (-40), 3)) (by decide)
theorem o143_179 : Okp RX8 cX8_movePartsOf 6 (some .int) "movePartsOf" false 179 (sLI 3 180) := ok_iload_n (by decide +kernel : decode cX8_movePartsOf 179 = .ok (.iload_n 3, 1)) rfl
theorem o143_180 : Okp RX8 cX8_movePartsOf 6 (some .int) "movePartsOf" false 180 sRI := ok_iret rfl (by decide +kernel : decode cX8_movePartsOf 180 = .ok (.ireturn, 1))
theorem oc143_0 : ∀ pc, Mnp (c143_0 pc) ∧ Okp RX8 cX8_movePartsOf 6 (some .int) "movePartsOf" false pc (c143_0 pc) := by
  intro pc
  unfold c143_0
  split
  · exact ⟨mn_sK, o143_0⟩
  · exact ⟨mn_sLR, o143_1⟩
  · exact ⟨mn_sGR, o143_2⟩
  · exact ⟨mn_sLI, o143_5⟩
  · exact ⟨mn_sIA, o143_6⟩
  · exact ⟨mn_sK, o143_7⟩
  · exact ⟨mn_sB2, o143_9⟩
  · exact ⟨mn_sB2, o143_10⟩
  · exact ⟨mn_sSI, o143_11⟩
  · exact ⟨mn_sLR, o143_12⟩
  · exact ⟨mn_sGR, o143_13⟩
  · exact ⟨mn_sLI, o143_16⟩
  · exact ⟨mn_sIA, o143_17⟩
  · exact ⟨mn_sK, o143_18⟩
  · exact ⟨mn_sI2, o143_20⟩
  · exact ⟨mn_sLR, o143_23⟩
  · exact ⟨mn_sX, ok_X⟩
theorem oc143_1 : ∀ pc, Mnp (c143_1 pc) ∧ Okp RX8 cX8_movePartsOf 6 (some .int) "movePartsOf" false pc (c143_1 pc) := by
  intro pc
  unfold c143_1
  split
  · exact ⟨mn_sGR, o143_24⟩
  · exact ⟨mn_sLR, o143_27⟩
  · exact ⟨mn_sGR, o143_28⟩
  · exact ⟨mn_sLI, o143_31⟩
  · exact ⟨mn_sIA, o143_32⟩
  · exact ⟨mn_sK, o143_33⟩
  · exact ⟨mn_sB2, o143_35⟩
  · exact ⟨mn_sCV, o143_36⟩
  · exact ⟨mn_sSI, o143_39⟩
  · exact ⟨mn_sK, o143_41⟩
  · exact ⟨mn_sSI, o143_42⟩
  · exact ⟨mn_sLI, o143_44⟩
  · exact ⟨mn_sLI, o143_46⟩
  · exact ⟨mn_sX, ok_X⟩
theorem oc143_2 : ∀ pc, Mnp (c143_2 pc) ∧ Okp RX8 cX8_movePartsOf 6 (some .int) "movePartsOf" false pc (c143_2 pc) := by
  intro pc
  unfold c143_2
  split
  · exact ⟨mn_sB2, o143_48⟩
  · exact ⟨mn_sI1, o143_49⟩
  · exact ⟨mn_sLI, o143_52⟩
  · exact ⟨mn_sK, o143_54⟩
  · exact ⟨mn_sI2, o143_56⟩
  · exact ⟨mn_sLI, o143_59⟩
  · exact ⟨mn_sLI, o143_61⟩
  · exact ⟨mn_sB2, o143_63⟩
  · exact ⟨mn_sK, o143_64⟩
  · exact ⟨mn_sB2, o143_65⟩
  · exact ⟨mn_sK, o143_66⟩
  · exact ⟨mn_sI2, o143_67⟩
  · exact ⟨mn_sLI, o143_70⟩
  · exact ⟨mn_sK, o143_71⟩
  · exact ⟨mn_sX, ok_X⟩
theorem oc143_3 : ∀ pc, Mnp (c143_3 pc) ∧ Okp RX8 cX8_movePartsOf 6 (some .int) "movePartsOf" false pc (c143_3 pc) := by
  intro pc
  unfold c143_3
  split
  · exact ⟨mn_sB2, o143_72⟩
  · exact ⟨mn_sLI, o143_73⟩
  · exact ⟨mn_sB2, o143_75⟩
  · exact ⟨mn_sLR, o143_76⟩
  · exact ⟨mn_sGR, o143_77⟩
  · exact ⟨mn_sLen, o143_80⟩
  · exact ⟨mn_sI2, o143_81⟩
  · exact ⟨mn_sLR, o143_84⟩
  · exact ⟨mn_sGR, o143_85⟩
  · exact ⟨mn_sLI, o143_88⟩
  · exact ⟨mn_sK, o143_89⟩
  · exact ⟨mn_sB2, o143_90⟩
  · exact ⟨mn_sLI, o143_91⟩
  · exact ⟨mn_sB2, o143_93⟩
  · exact ⟨mn_sLR, o143_94⟩
  · exact ⟨mn_sLR, o143_95⟩
  · exact ⟨mn_sX, ok_X⟩
theorem oc143_4 : ∀ pc, Mnp (c143_4 pc) ∧ Okp RX8 cX8_movePartsOf 6 (some .int) "movePartsOf" false pc (c143_4 pc) := by
  intro pc
  unfold c143_4
  split
  · exact ⟨mn_sLR, o143_96⟩
  · exact ⟨mn_sGR, o143_97⟩
  · exact ⟨mn_sLI, o143_100⟩
  · exact ⟨mn_sK, o143_101⟩
  · exact ⟨mn_sB2, o143_102⟩
  · exact ⟨mn_sLI, o143_103⟩
  · exact ⟨mn_sB2, o143_105⟩
  · exact ⟨mn_sIA, o143_106⟩
  · exact ⟨mn_sCV, o143_107⟩
  · exact ⟨mn_sIS, o143_110⟩
  · exact ⟨mn_sInc, o143_111⟩
  · exact ⟨mn_sGo, o143_114⟩
  · exact ⟨mn_sGo, o143_117⟩
  · exact ⟨mn_sX, ok_X⟩
theorem oc143_5 : ∀ pc, Mnp (c143_5 pc) ∧ Okp RX8 cX8_movePartsOf 6 (some .int) "movePartsOf" false pc (c143_5 pc) := by
  intro pc
  unfold c143_5
  split
  · exact ⟨mn_sLR, o143_120⟩
  · exact ⟨mn_sGR, o143_121⟩
  · exact ⟨mn_sLI, o143_124⟩
  · exact ⟨mn_sIA, o143_125⟩
  · exact ⟨mn_sK, o143_126⟩
  · exact ⟨mn_sI2, o143_128⟩
  · exact ⟨mn_sLI, o143_131⟩
  · exact ⟨mn_sK, o143_132⟩
  · exact ⟨mn_sB2, o143_133⟩
  · exact ⟨mn_sSI, o143_134⟩
  · exact ⟨mn_sLI, o143_136⟩
  · exact ⟨mn_sLI, o143_138⟩
  · exact ⟨mn_sLI, o143_139⟩
  · exact ⟨mn_sB2, o143_140⟩
  · exact ⟨mn_sI2, o143_141⟩
  · exact ⟨mn_sX, ok_X⟩
theorem oc143_6 : ∀ pc, Mnp (c143_6 pc) ∧ Okp RX8 cX8_movePartsOf 6 (some .int) "movePartsOf" false pc (c143_6 pc) := by
  intro pc
  unfold c143_6
  split
  · exact ⟨mn_sLI, o143_144⟩
  · exact ⟨mn_sLR, o143_146⟩
  · exact ⟨mn_sGR, o143_147⟩
  · exact ⟨mn_sLen, o143_150⟩
  · exact ⟨mn_sI2, o143_151⟩
  · exact ⟨mn_sLR, o143_154⟩
  · exact ⟨mn_sGR, o143_155⟩
  · exact ⟨mn_sLI, o143_158⟩
  · exact ⟨mn_sLR, o143_160⟩
  · exact ⟨mn_sLR, o143_161⟩
  · exact ⟨mn_sLR, o143_162⟩
  · exact ⟨mn_sGR, o143_163⟩
  · exact ⟨mn_sLI, o143_166⟩
  · exact ⟨mn_sX, ok_X⟩
theorem oc143_7 : ∀ pc, Mnp (c143_7 pc) ∧ Okp RX8 cX8_movePartsOf 6 (some .int) "movePartsOf" false pc (c143_7 pc) := by
  intro pc
  unfold c143_7
  split
  · exact ⟨mn_sIA, o143_168⟩
  · exact ⟨mn_sCV, o143_169⟩
  · exact ⟨mn_sIS, o143_172⟩
  · exact ⟨mn_sInc, o143_173⟩
  · exact ⟨mn_sGo, o143_176⟩
  · exact ⟨mn_sLI, o143_179⟩
  · exact ⟨mn_sRI, o143_180⟩
  · exact ⟨mn_sX, ok_X⟩
theorem oc143 : ∀ pc, Mnp (c143 pc) ∧ Okp RX8 cX8_movePartsOf 6 (some .int) "movePartsOf" false pc (c143 pc) := by
  intro pc
  unfold c143
  split
  · exact oc143_0 pc
  · exact oc143_1 pc
  · exact oc143_2 pc
  · exact oc143_3 pc
  · exact oc143_4 pc
  · exact oc143_5 pc
  · exact oc143_6 pc
  · exact oc143_7 pc
  · exact ⟨mn_sX, ok_X⟩
theorem o144_0 : Okp RX9 cX9_init 4 none "<init>" false 0 (sLR 0 1) := ok_aload_n (by decide +kernel : decode cX9_init 0 = .ok (.aload_n 0, 1)) rfl
theorem o144_1 : Okp RX9 cX9_init 4 none "<init>" false 1 (sCt 4) := ok_oinit (by decide +kernel : decode cX9_init 1 = .ok (.invokespecial 3, 3)) wq_X9_3 wq_i wq_c
theorem o144_4 : Okp RX9 cX9_init 4 none "<init>" false 4 (sLR 0 5) := ok_aload_n (by decide +kernel : decode cX9_init 4 = .ok (.aload_n 0, 1)) rfl
theorem o144_5 : Okp RX9 cX9_init 4 none "<init>" false 5 (sK 0 6) := ok_iconst (by decide +kernel : decode cX9_init 5 = .ok (.iconst 0, 1)) (by decide)
theorem o144_6 : Okp RX9 cX9_init 4 none "<init>" false 6 (sPI 10 2 9) := ok_putI (by decide +kernel : decode cX9_init 6 = .ok (.putfield 9, 3)) fw_X9_9 ⟨⟨tyX9_ok, nmX9⟩, Or.inl rfl, rfl⟩ rfl
theorem o144_9 : Okp RX9 cX9_init 4 none "<init>" false 9 (sLR 0 10) := ok_aload_n (by decide +kernel : decode cX9_init 9 = .ok (.aload_n 0, 1)) rfl
theorem o144_10 : Okp RX9 cX9_init 4 none "<init>" false 10 (sK 8 12) := ok_bipush (by decide +kernel : decode cX9_init 10 = .ok (.bipush 8, 2)) (by decide)
theorem o144_12 : Okp RX9 cX9_init 4 none "<init>" false 12 (sNA 15 14) := ok_newI (by decide +kernel : decode cX9_init 12 = .ok (.newarray .int, 2)) wa_int
theorem o144_14 : Okp RX9 cX9_init 4 none "<init>" false 14 (sPR 10 3 17) := ok_putR (by decide +kernel : decode cX9_init 14 = .ok (.putfield 15, 3)) fw_X9_15 ⟨⟨tyX9_ok, nmX9⟩, Or.inr ⟨rfl, rfl, rfl⟩, rfl⟩ (Or.inr ⟨_, rfl⟩) rfl
theorem o144_17 : Okp RX9 cX9_init 4 none "<init>" false 17 (sLR 0 18) := ok_aload_n (by decide +kernel : decode cX9_init 17 = .ok (.aload_n 0, 1)) rfl
theorem o144_18 : Okp RX9 cX9_init 4 none "<init>" false 18 (sK 48 20) := ok_bipush (by decide +kernel : decode cX9_init 18 = .ok (.bipush 48, 2)) (by decide)
theorem o144_20 : Okp RX9 cX9_init 4 none "<init>" false 20 (sNA 15 22) := ok_newI (by decide +kernel : decode cX9_init 20 = .ok (.newarray .int, 2)) wa_int
theorem o144_22 : Okp RX9 cX9_init 4 none "<init>" false 22 (sPR 10 4 25) := ok_putR (by decide +kernel : decode cX9_init 22 = .ok (.putfield 19, 3)) fw_X9_19 ⟨⟨tyX9_ok, nmX9⟩, Or.inr ⟨rfl, rfl, rfl⟩, rfl⟩ (Or.inr ⟨_, rfl⟩) rfl
theorem o144_25 : Okp RX9 cX9_init 4 none "<init>" false 25 (sLR 0 26) := ok_aload_n (by decide +kernel : decode cX9_init 25 = .ok (.aload_n 0, 1)) rfl
theorem o144_26 : Okp RX9 cX9_init 4 none "<init>" false 26 (sK 8 28) := ok_bipush (by decide +kernel : decode cX9_init 26 = .ok (.bipush 8, 2)) (by decide)
theorem o144_28 : Okp RX9 cX9_init 4 none "<init>" false 28 (sNA 15 30) := ok_newI (by decide +kernel : decode cX9_init 28 = .ok (.newarray .int, 2)) wa_int
theorem o144_30 : Okp RX9 cX9_init 4 none "<init>" false 30 (sPR 10 5 33) := ok_putR (by decide +kernel : decode cX9_init 30 = .ok (.putfield 22, 3)) fw_X9_22 ⟨⟨tyX9_ok, nmX9⟩, Or.inr ⟨rfl, rfl, rfl⟩, rfl⟩ (Or.inr ⟨_, rfl⟩) rfl
theorem o144_33 : Okp RX9 cX9_init 4 none "<init>" false 33 (sLR 0 34) := ok_aload_n (by decide +kernel : decode cX9_init 33 = .ok (.aload_n 0, 1)) rfl
theorem o144_34 : Okp RX9 cX9_init 4 none "<init>" false 34 (sK 0 35) := ok_iconst (by decide +kernel : decode cX9_init 34 = .ok (.iconst 0, 1)) (by decide)
theorem o144_35 : Okp RX9 cX9_init 4 none "<init>" false 35 (sPI 10 6 38) := ok_putI (by decide +kernel : decode cX9_init 35 = .ok (.putfield 25, 3)) fw_X9_25 ⟨⟨tyX9_ok, nmX9⟩, Or.inl rfl, rfl⟩ rfl
theorem o144_38 : Okp RX9 cX9_init 4 none "<init>" false 38 (sLR 0 39) := ok_aload_n (by decide +kernel : decode cX9_init 38 = .ok (.aload_n 0, 1)) rfl
theorem o144_39 : Okp RX9 cX9_init 4 none "<init>" false 39 (sK 4 40) := ok_iconst (by decide +kernel : decode cX9_init 39 = .ok (.iconst 4, 1)) (by decide)
theorem o144_40 : Okp RX9 cX9_init 4 none "<init>" false 40 (sNA 17 43) := ok_anew (by decide +kernel : decode cX9_init 40 = .ok (.anewarray 28, 3)) (by decide) (fun _ => rfl) wl_X9_28 wo_X2
theorem o144_43 : Okp RX9 cX9_init 4 none "<init>" false 43 (sPR 10 7 46) := ok_putR (by decide +kernel : decode cX9_init 43 = .ok (.putfield 30, 3)) fw_X9_30 ⟨⟨tyX9_ok, nmX9⟩, Or.inr ⟨rfl, rfl, rfl⟩, rfl⟩ (Or.inr ⟨_, rfl⟩) rfl
theorem o144_46 : Okp RX9 cX9_init 4 none "<init>" false 46 (sLR 0 47) := ok_aload_n (by decide +kernel : decode cX9_init 46 = .ok (.aload_n 0, 1)) rfl
theorem o144_47 : Okp RX9 cX9_init 4 none "<init>" false 47 (sK 0 48) := ok_iconst (by decide +kernel : decode cX9_init 47 = .ok (.iconst 0, 1)) (by decide)
theorem o144_48 : Okp RX9 cX9_init 4 none "<init>" false 48 (sPI 10 8 51) := ok_putI (by decide +kernel : decode cX9_init 48 = .ok (.putfield 34, 3)) fw_X9_34 ⟨⟨tyX9_ok, nmX9⟩, Or.inl rfl, rfl⟩ rfl
theorem o144_51 : Okp RX9 cX9_init 4 none "<init>" false 51 (sLR 0 52) := ok_aload_n (by decide +kernel : decode cX9_init 51 = .ok (.aload_n 0, 1)) rfl
theorem o144_52 : Okp RX9 cX9_init 4 none "<init>" false 52 (sK 10 54) := ok_bipush (by decide +kernel : decode cX9_init 52 = .ok (.bipush 10, 2)) (by decide)
theorem o144_54 : Okp RX9 cX9_init 4 none "<init>" false 54 (sNA 18 57) := ok_anew (by decide +kernel : decode cX9_init 54 = .ok (.anewarray 37, 3)) (by decide) (fun _ => rfl) wl_X9_37 wo_X7
theorem o144_57 : Okp RX9 cX9_init 4 none "<init>" false 57 (sPR 10 9 60) := ok_putR (by decide +kernel : decode cX9_init 57 = .ok (.putfield 39, 3)) fw_X9_39 ⟨⟨tyX9_ok, nmX9⟩, Or.inr ⟨rfl, rfl, rfl⟩, rfl⟩ (Or.inr ⟨_, rfl⟩) rfl
theorem o144_60 : Okp RX9 cX9_init 4 none "<init>" false 60 (sLR 0 61) := ok_aload_n (by decide +kernel : decode cX9_init 60 = .ok (.aload_n 0, 1)) rfl
theorem o144_61 : Okp RX9 cX9_init 4 none "<init>" false 61 (sK 0 62) := ok_iconst (by decide +kernel : decode cX9_init 61 = .ok (.iconst 0, 1)) (by decide)
theorem o144_62 : Okp RX9 cX9_init 4 none "<init>" false 62 (sLI 2 63) := ok_iload_n (by decide +kernel : decode cX9_init 62 = .ok (.iload_n 2, 1)) rfl
theorem o144_63 : Okp RX9 cX9_init 4 none "<init>" false 63 (sLR 1 64) := ok_aload_n (by decide +kernel : decode cX9_init 63 = .ok (.aload_n 1, 1)) rfl
theorem o144_64 : Okp RX9 cX9_init 4 none "<init>" false 64 (sLen 65) := ok_alen (by decide +kernel : decode cX9_init 64 = .ok (.arraylength, 1))
theorem o144_65 : Okp RX9 cX9_init 4 none "<init>" false 65 (sM2 fMin 68) := ok_min (by decide +kernel : decode cX9_init 65 = .ok (.invokestatic 43, 3)) wq_X9_43 wq_smin wq_im wq_cmin
theorem o144_68 : Okp RX9 cX9_init 4 none "<init>" false 68 (sM2 fMax 71) := ok_max (by decide +kernel : decode cX9_init 68 = .ok (.invokestatic 49, 3)) wq_X9_49 wq_smax wq_im wq_cmax
theorem o144_71 : Okp RX9 cX9_init 4 none "<init>" false 71 (sPI 10 1 74) := ok_putI (by decide +kernel : decode cX9_init 71 = .ok (.putfield 52, 3)) fw_X9_52 ⟨⟨tyX9_ok, nmX9⟩, Or.inr ⟨rfl, rfl, rfl⟩, rfl⟩ rfl
theorem o144_74 : Okp RX9 cX9_init 4 none "<init>" false 74 (sLR 0 75) := ok_aload_n (by decide +kernel : decode cX9_init 74 = .ok (.aload_n 0, 1)) rfl
theorem o144_75 : Okp RX9 cX9_init 4 none "<init>" false 75 (sLR 0 76) := ok_aload_n (by decide +kernel : decode cX9_init 75 = .ok (.aload_n 0, 1)) rfl
theorem o144_76 : Okp RX9 cX9_init 4 none "<init>" false 76 (sGI 10 1 79) := ok_getI (by decide +kernel : decode cX9_init 76 = .ok (.getfield 52, 3)) fw_X9_52 rfl
theorem o144_79 : Okp RX9 cX9_init 4 none "<init>" false 79 (sNA 15 81) := ok_newI (by decide +kernel : decode cX9_init 79 = .ok (.newarray .int, 2)) wa_int
theorem o144_81 : Okp RX9 cX9_init 4 none "<init>" false 81 (sPR 10 0 84) := ok_putR (by decide +kernel : decode cX9_init 81 = .ok (.putfield 55, 3)) fw_X9_55 ⟨⟨tyX9_ok, nmX9⟩, Or.inr ⟨rfl, rfl, rfl⟩, rfl⟩ (Or.inr ⟨_, rfl⟩) rfl
theorem o144_84 : Okp RX9 cX9_init 4 none "<init>" false 84 (sK 0 85) := ok_iconst (by decide +kernel : decode cX9_init 84 = .ok (.iconst 0, 1)) (by decide)
theorem o144_85 : Okp RX9 cX9_init 4 none "<init>" false 85 (sSI 3 86) := ok_istore_n (by decide +kernel : decode cX9_init 85 = .ok (.istore_n 3, 1)) rfl (by decide) (by decide)
theorem o144_86 : Okp RX9 cX9_init 4 none "<init>" false 86 (sLI 3 87) := ok_iload_n (by decide +kernel : decode cX9_init 86 = .ok (.iload_n 3, 1)) rfl
theorem o144_87 : Okp RX9 cX9_init 4 none "<init>" false 87 (sLR 0 88) := ok_aload_n (by decide +kernel : decode cX9_init 87 = .ok (.aload_n 0, 1)) rfl
theorem o144_88 : Okp RX9 cX9_init 4 none "<init>" false 88 (sGI 10 1 91) := ok_getI (by decide +kernel : decode cX9_init 88 = .ok (.getfield 52, 3)) fw_X9_52 rfl
theorem o144_91 : Okp RX9 cX9_init 4 none "<init>" false 91 (sI2 3 109 94) := ok_icmp_ge (by decide +kernel : decode cX9_init 91 = .ok (.if_icmp .ge 18, 3)) (by decide)
theorem o144_94 : Okp RX9 cX9_init 4 none "<init>" false 94 (sLR 0 95) := ok_aload_n (by decide +kernel : decode cX9_init 94 = .ok (.aload_n 0, 1)) rfl
theorem o144_95 : Okp RX9 cX9_init 4 none "<init>" false 95 (sGR 10 0 98) := ok_getR (by decide +kernel : decode cX9_init 95 = .ok (.getfield 55, 3)) fw_X9_55 rfl
theorem o144_98 : Okp RX9 cX9_init 4 none "<init>" false 98 (sLI 3 99) := ok_iload_n (by decide +kernel : decode cX9_init 98 = .ok (.iload_n 3, 1)) rfl
theorem o144_99 : Okp RX9 cX9_init 4 none "<init>" false 99 (sLR 1 100) := ok_aload_n (by decide +kernel : decode cX9_init 99 = .ok (.aload_n 1, 1)) rfl
theorem o144_100 : Okp RX9 cX9_init 4 none "<init>" false 100 (sLI 3 101) := ok_iload_n (by decide +kernel : decode cX9_init 100 = .ok (.iload_n 3, 1)) rfl
theorem o144_101 : Okp RX9 cX9_init 4 none "<init>" false 101 (sIA 102) := ok_iaload (by decide +kernel : decode cX9_init 101 = .ok (.iaload, 1))
theorem o144_102 : Okp RX9 cX9_init 4 none "<init>" false 102 (sIS 103) := ok_iastore (by decide +kernel : decode cX9_init 102 = .ok (.iastore, 1))
theorem o144_103 : Okp RX9 cX9_init 4 none "<init>" false 103 (sInc 3 1 106) := ok_iinc (by decide +kernel : decode cX9_init 103 = .ok (.iinc 3 1, 3)) (by decide) (by decide)
theorem o144_106 : Okp RX9 cX9_init 4 none "<init>" false 106 (sGo 86) := ok_goto (by decide +kernel : decode cX9_init 106 = .ok (.goto (-20), 3)) (by decide)
theorem o144_109 : Okp RX9 cX9_init 4 none "<init>" false 109 sRV := ok_vret rfl (by decide +kernel : decode cX9_init 109 = .ok (.return_, 1))
theorem oc144_0 : ∀ pc, Mnp (c144_0 pc) ∧ Okp RX9 cX9_init 4 none "<init>" false pc (c144_0 pc) := by
  intro pc
  unfold c144_0
  split
  · exact ⟨mn_sLR, o144_0⟩
  · exact ⟨mn_sCt, o144_1⟩
  · exact ⟨mn_sLR, o144_4⟩
  · exact ⟨mn_sK, o144_5⟩
  · exact ⟨mn_sPI, o144_6⟩
  · exact ⟨mn_sLR, o144_9⟩
  · exact ⟨mn_sK, o144_10⟩
  · exact ⟨mn_sNA, o144_12⟩
  · exact ⟨mn_sPR, o144_14⟩
  · exact ⟨mn_sLR, o144_17⟩
  · exact ⟨mn_sK, o144_18⟩
  · exact ⟨mn_sNA, o144_20⟩
  · exact ⟨mn_sPR, o144_22⟩
  · exact ⟨mn_sX, ok_X⟩
theorem oc144_1 : ∀ pc, Mnp (c144_1 pc) ∧ Okp RX9 cX9_init 4 none "<init>" false pc (c144_1 pc) := by
  intro pc
  unfold c144_1
  split
  · exact ⟨mn_sLR, o144_25⟩
  · exact ⟨mn_sK, o144_26⟩
  · exact ⟨mn_sNA, o144_28⟩
  · exact ⟨mn_sPR, o144_30⟩
  · exact ⟨mn_sLR, o144_33⟩
  · exact ⟨mn_sK, o144_34⟩
  · exact ⟨mn_sPI, o144_35⟩
  · exact ⟨mn_sLR, o144_38⟩
  · exact ⟨mn_sK, o144_39⟩
  · exact ⟨mn_sNA, o144_40⟩
  · exact ⟨mn_sPR, o144_43⟩
  · exact ⟨mn_sLR, o144_46⟩
  · exact ⟨mn_sK, o144_47⟩
  · exact ⟨mn_sX, ok_X⟩
theorem oc144_2 : ∀ pc, Mnp (c144_2 pc) ∧ Okp RX9 cX9_init 4 none "<init>" false pc (c144_2 pc) := by
  intro pc
  unfold c144_2
  split
  · exact ⟨mn_sPI, o144_48⟩
  · exact ⟨mn_sLR, o144_51⟩
  · exact ⟨mn_sK, o144_52⟩
  · exact ⟨mn_sNA, o144_54⟩
  · exact ⟨mn_sPR, o144_57⟩
  · exact ⟨mn_sLR, o144_60⟩
  · exact ⟨mn_sK, o144_61⟩
  · exact ⟨mn_sLI, o144_62⟩
  · exact ⟨mn_sLR, o144_63⟩
  · exact ⟨mn_sLen, o144_64⟩
  · exact ⟨mn_sM2, o144_65⟩
  · exact ⟨mn_sM2, o144_68⟩
  · exact ⟨mn_sPI, o144_71⟩
  · exact ⟨mn_sX, ok_X⟩
theorem oc144_3 : ∀ pc, Mnp (c144_3 pc) ∧ Okp RX9 cX9_init 4 none "<init>" false pc (c144_3 pc) := by
  intro pc
  unfold c144_3
  split
  · exact ⟨mn_sLR, o144_74⟩
  · exact ⟨mn_sLR, o144_75⟩
  · exact ⟨mn_sGI, o144_76⟩
  · exact ⟨mn_sNA, o144_79⟩
  · exact ⟨mn_sPR, o144_81⟩
  · exact ⟨mn_sK, o144_84⟩
  · exact ⟨mn_sSI, o144_85⟩
  · exact ⟨mn_sLI, o144_86⟩
  · exact ⟨mn_sLR, o144_87⟩
  · exact ⟨mn_sGI, o144_88⟩
  · exact ⟨mn_sI2, o144_91⟩
  · exact ⟨mn_sLR, o144_94⟩
  · exact ⟨mn_sGR, o144_95⟩
  · exact ⟨mn_sX, ok_X⟩
theorem oc144_4 : ∀ pc, Mnp (c144_4 pc) ∧ Okp RX9 cX9_init 4 none "<init>" false pc (c144_4 pc) := by
  intro pc
  unfold c144_4
  split
  · exact ⟨mn_sLI, o144_98⟩
  · exact ⟨mn_sLR, o144_99⟩
  · exact ⟨mn_sLI, o144_100⟩
  · exact ⟨mn_sIA, o144_101⟩
  · exact ⟨mn_sIS, o144_102⟩
  · exact ⟨mn_sInc, o144_103⟩
  · exact ⟨mn_sGo, o144_106⟩
  · exact ⟨mn_sRV, o144_109⟩
  · exact ⟨mn_sX, ok_X⟩
theorem oc144 : ∀ pc, Mnp (c144 pc) ∧ Okp RX9 cX9_init 4 none "<init>" false pc (c144 pc) := by
  intro pc
  unfold c144
  split
  · exact oc144_0 pc
  · exact oc144_1 pc
  · exact oc144_2 pc
  · exact oc144_3 pc
  · exact oc144_4 pc
  · exact ⟨mn_sX, ok_X⟩
theorem o145_0 : Okp RX9 cX9_byteAt 2 (some .int) "byteAt" false 0 (sLI 1 1) := ok_iload_n (by decide +kernel : decode cX9_byteAt 0 = .ok (.iload_n 1, 1)) rfl
theorem o145_1 : Okp RX9 cX9_byteAt 2 (some .int) "byteAt" false 1 (sI1 2 12 4) := ok_if_lt (by decide +kernel : decode cX9_byteAt 1 = .ok (.ifCond .lt 11, 3)) (by decide)
theorem o145_4 : Okp RX9 cX9_byteAt 2 (some .int) "byteAt" false 4 (sLI 1 5) := ok_iload_n (by decide +kernel : decode cX9_byteAt 4 = .ok (.iload_n 1, 1)) rfl
theorem o145_5 : Okp RX9 cX9_byteAt 2 (some .int) "byteAt" false 5 (sLR 0 6) := ok_aload_n (by decide +kernel : decode cX9_byteAt 5 = .ok (.aload_n 0, 1)) rfl
theorem o145_6 : Okp RX9 cX9_byteAt 2 (some .int) "byteAt" false 6 (sGI 10 1 9) := ok_getI (by decide +kernel : decode cX9_byteAt 6 = .ok (.getfield 52, 3)) fw_X9_52 rfl
theorem o145_9 : Okp RX9 cX9_byteAt 2 (some .int) "byteAt" false 9 (sI2 2 16 12) := ok_icmp_lt (by decide +kernel : decode cX9_byteAt 9 = .ok (.if_icmp .lt 7, 3)) (by decide)
theorem o145_12 : Okp RX9 cX9_byteAt 2 (some .int) "byteAt" false 12 (sK 0 13) := ok_iconst (by decide +kernel : decode cX9_byteAt 12 = .ok (.iconst 0, 1)) (by decide)
theorem o145_13 : Okp RX9 cX9_byteAt 2 (some .int) "byteAt" false 13 (sGo 22) := ok_goto (by decide +kernel : decode cX9_byteAt 13 = .ok (.goto 9, 3)) (by decide)
theorem o145_16 : Okp RX9 cX9_byteAt 2 (some .int) "byteAt" false 16 (sLR 0 17) := ok_aload_n (by decide +kernel : decode cX9_byteAt 16 = .ok (.aload_n 0, 1)) rfl
theorem o145_17 : Okp RX9 cX9_byteAt 2 (some .int) "byteAt" false 17 (sGR 10 0 20) := ok_getR (by decide +kernel : decode cX9_byteAt 17 = .ok (.getfield 55, 3)) fw_X9_55 rfl
theorem o145_20 : Okp RX9 cX9_byteAt 2 (some .int) "byteAt" false 20 (sLI 1 21) := ok_iload_n (by decide +kernel : decode cX9_byteAt 20 = .ok (.iload_n 1, 1)) rfl
theorem o145_21 : Okp RX9 cX9_byteAt 2 (some .int) "byteAt" false 21 (sIA 22) := ok_iaload (by decide +kernel : decode cX9_byteAt 21 = .ok (.iaload, 1))
theorem o145_22 : Okp RX9 cX9_byteAt 2 (some .int) "byteAt" false 22 sRI := ok_iret rfl (by decide +kernel : decode cX9_byteAt 22 = .ok (.ireturn, 1))
theorem oc145 : ∀ pc, Mnp (c145 pc) ∧ Okp RX9 cX9_byteAt 2 (some .int) "byteAt" false pc (c145 pc) := by
  intro pc
  unfold c145
  split
  · exact ⟨mn_sLI, o145_0⟩
  · exact ⟨mn_sI1, o145_1⟩
  · exact ⟨mn_sLI, o145_4⟩
  · exact ⟨mn_sLR, o145_5⟩
  · exact ⟨mn_sGI, o145_6⟩
  · exact ⟨mn_sI2, o145_9⟩
  · exact ⟨mn_sK, o145_12⟩
  · exact ⟨mn_sGo, o145_13⟩
  · exact ⟨mn_sLR, o145_16⟩
  · exact ⟨mn_sGR, o145_17⟩
  · exact ⟨mn_sLI, o145_20⟩
  · exact ⟨mn_sIA, o145_21⟩
  · exact ⟨mn_sRI, o145_22⟩
  · exact ⟨mn_sX, ok_X⟩
theorem o146_0 : Okp RX9 cX9_wordAt 2 (some .int) "wordAt" false 0 (sLR 0 1) := ok_aload_n (by decide +kernel : decode cX9_wordAt 0 = .ok (.aload_n 0, 1)) rfl
theorem o146_1 : Okp RX9 cX9_wordAt 2 (some .int) "wordAt" false 1 (sLI 1 2) := ok_iload_n (by decide +kernel : decode cX9_wordAt 1 = .ok (.iload_n 1, 1)) rfl
theorem o146_2 : Okp RX9 cX9_wordAt 2 (some .int) "wordAt" false 2 (sCV false 145 2 10 5) := ok_cv (by decide +kernel : decode cX9_wordAt 2 = .ok (.invokevirtual 58, 3)) mw_X9_58 rfl (by decide) wm_X9_byteAt wse_X9_byteAt (by decide) rfl
theorem o146_5 : Okp RX9 cX9_wordAt 2 (some .int) "wordAt" false 5 (sK 24 7) := ok_bipush (by decide +kernel : decode cX9_wordAt 5 = .ok (.bipush 24, 2)) (by decide)
theorem o146_7 : Okp RX9 cX9_wordAt 2 (some .int) "wordAt" false 7 (sB2 fShl 8) := ok_ishl (by decide +kernel : decode cX9_wordAt 7 = .ok (.ishl, 1))
theorem o146_8 : Okp RX9 cX9_wordAt 2 (some .int) "wordAt" false 8 (sLR 0 9) := ok_aload_n (by decide +kernel : decode cX9_wordAt 8 = .ok (.aload_n 0, 1)) rfl
theorem o146_9 : Okp RX9 cX9_wordAt 2 (some .int) "wordAt" false 9 (sLI 1 10) := ok_iload_n (by decide +kernel : decode cX9_wordAt 9 = .ok (.iload_n 1, 1)) rfl
theorem o146_10 : Okp RX9 cX9_wordAt 2 (some .int) "wordAt" false 10 (sK 1 11) := ok_iconst (by decide +kernel : decode cX9_wordAt 10 = .ok (.iconst 1, 1)) (by decide)
theorem o146_11 : Okp RX9 cX9_wordAt 2 (some .int) "wordAt" false 11 (sB2 fAdd 12) := ok_iadd (by decide +kernel : decode cX9_wordAt 11 = .ok (.iadd, 1))
theorem o146_12 : Okp RX9 cX9_wordAt 2 (some .int) "wordAt" false 12 (sCV false 145 2 10 15) := ok_cv (by decide +kernel : decode cX9_wordAt 12 = .ok (.invokevirtual 58, 3)) mw_X9_58 rfl (by decide) wm_X9_byteAt wse_X9_byteAt (by decide) rfl
theorem o146_15 : Okp RX9 cX9_wordAt 2 (some .int) "wordAt" false 15 (sK 16 17) := ok_bipush (by decide +kernel : decode cX9_wordAt 15 = .ok (.bipush 16, 2)) (by decide)
theorem o146_17 : Okp RX9 cX9_wordAt 2 (some .int) "wordAt" false 17 (sB2 fShl 18) := ok_ishl (by decide +kernel : decode cX9_wordAt 17 = .ok (.ishl, 1))
theorem o146_18 : Okp RX9 cX9_wordAt 2 (some .int) "wordAt" false 18 (sB2 fOr 19) := ok_ior (by decide +kernel : decode cX9_wordAt 18 = .ok (.ior, 1))
theorem o146_19 : Okp RX9 cX9_wordAt 2 (some .int) "wordAt" false 19 (sLR 0 20) := ok_aload_n (by decide +kernel : decode cX9_wordAt 19 = .ok (.aload_n 0, 1)) rfl
theorem o146_20 : Okp RX9 cX9_wordAt 2 (some .int) "wordAt" false 20 (sLI 1 21) := ok_iload_n (by decide +kernel : decode cX9_wordAt 20 = .ok (.iload_n 1, 1)) rfl
theorem o146_21 : Okp RX9 cX9_wordAt 2 (some .int) "wordAt" false 21 (sK 2 22) := ok_iconst (by decide +kernel : decode cX9_wordAt 21 = .ok (.iconst 2, 1)) (by decide)
theorem o146_22 : Okp RX9 cX9_wordAt 2 (some .int) "wordAt" false 22 (sB2 fAdd 23) := ok_iadd (by decide +kernel : decode cX9_wordAt 22 = .ok (.iadd, 1))
theorem o146_23 : Okp RX9 cX9_wordAt 2 (some .int) "wordAt" false 23 (sCV false 145 2 10 26) := ok_cv (by decide +kernel : decode cX9_wordAt 23 = .ok (.invokevirtual 58, 3)) mw_X9_58 rfl (by decide) wm_X9_byteAt wse_X9_byteAt (by decide) rfl
theorem o146_26 : Okp RX9 cX9_wordAt 2 (some .int) "wordAt" false 26 (sK 8 28) := ok_bipush (by decide +kernel : decode cX9_wordAt 26 = .ok (.bipush 8, 2)) (by decide)
theorem o146_28 : Okp RX9 cX9_wordAt 2 (some .int) "wordAt" false 28 (sB2 fShl 29) := ok_ishl (by decide +kernel : decode cX9_wordAt 28 = .ok (.ishl, 1))
theorem o146_29 : Okp RX9 cX9_wordAt 2 (some .int) "wordAt" false 29 (sB2 fOr 30) := ok_ior (by decide +kernel : decode cX9_wordAt 29 = .ok (.ior, 1))
theorem o146_30 : Okp RX9 cX9_wordAt 2 (some .int) "wordAt" false 30 (sLR 0 31) := ok_aload_n (by decide +kernel : decode cX9_wordAt 30 = .ok (.aload_n 0, 1)) rfl
theorem o146_31 : Okp RX9 cX9_wordAt 2 (some .int) "wordAt" false 31 (sLI 1 32) := ok_iload_n (by decide +kernel : decode cX9_wordAt 31 = .ok (.iload_n 1, 1)) rfl
theorem o146_32 : Okp RX9 cX9_wordAt 2 (some .int) "wordAt" false 32 (sK 3 33) := ok_iconst (by decide +kernel : decode cX9_wordAt 32 = .ok (.iconst 3, 1)) (by decide)
theorem o146_33 : Okp RX9 cX9_wordAt 2 (some .int) "wordAt" false 33 (sB2 fAdd 34) := ok_iadd (by decide +kernel : decode cX9_wordAt 33 = .ok (.iadd, 1))
theorem o146_34 : Okp RX9 cX9_wordAt 2 (some .int) "wordAt" false 34 (sCV false 145 2 10 37) := ok_cv (by decide +kernel : decode cX9_wordAt 34 = .ok (.invokevirtual 58, 3)) mw_X9_58 rfl (by decide) wm_X9_byteAt wse_X9_byteAt (by decide) rfl
theorem o146_37 : Okp RX9 cX9_wordAt 2 (some .int) "wordAt" false 37 (sB2 fOr 38) := ok_ior (by decide +kernel : decode cX9_wordAt 37 = .ok (.ior, 1))
theorem o146_38 : Okp RX9 cX9_wordAt 2 (some .int) "wordAt" false 38 sRI := ok_iret rfl (by decide +kernel : decode cX9_wordAt 38 = .ok (.ireturn, 1))
theorem oc146_0 : ∀ pc, Mnp (c146_0 pc) ∧ Okp RX9 cX9_wordAt 2 (some .int) "wordAt" false pc (c146_0 pc) := by
  intro pc
  unfold c146_0
  split
  · exact ⟨mn_sLR, o146_0⟩
  · exact ⟨mn_sLI, o146_1⟩
  · exact ⟨mn_sCV, o146_2⟩
  · exact ⟨mn_sK, o146_5⟩
  · exact ⟨mn_sB2, o146_7⟩
  · exact ⟨mn_sLR, o146_8⟩
  · exact ⟨mn_sLI, o146_9⟩
  · exact ⟨mn_sK, o146_10⟩
  · exact ⟨mn_sB2, o146_11⟩
  · exact ⟨mn_sCV, o146_12⟩
  · exact ⟨mn_sK, o146_15⟩
  · exact ⟨mn_sB2, o146_17⟩
  · exact ⟨mn_sB2, o146_18⟩
  · exact ⟨mn_sLR, o146_19⟩
  · exact ⟨mn_sLI, o146_20⟩
  · exact ⟨mn_sK, o146_21⟩
  · exact ⟨mn_sB2, o146_22⟩
  · exact ⟨mn_sCV, o146_23⟩
  · exact ⟨mn_sX, ok_X⟩
theorem oc146_1 : ∀ pc, Mnp (c146_1 pc) ∧ Okp RX9 cX9_wordAt 2 (some .int) "wordAt" false pc (c146_1 pc) := by
  intro pc
  unfold c146_1
  split
  · exact ⟨mn_sK, o146_26⟩
  · exact ⟨mn_sB2, o146_28⟩
  · exact ⟨mn_sB2, o146_29⟩
  · exact ⟨mn_sLR, o146_30⟩
  · exact ⟨mn_sLI, o146_31⟩
  · exact ⟨mn_sK, o146_32⟩
  · exact ⟨mn_sB2, o146_33⟩
  · exact ⟨mn_sCV, o146_34⟩
  · exact ⟨mn_sB2, o146_37⟩
  · exact ⟨mn_sRI, o146_38⟩
  · exact ⟨mn_sX, ok_X⟩
theorem oc146 : ∀ pc, Mnp (c146 pc) ∧ Okp RX9 cX9_wordAt 2 (some .int) "wordAt" false pc (c146 pc) := by
  intro pc
  unfold c146
  split
  · exact oc146_0 pc
  · exact oc146_1 pc
  · exact ⟨mn_sX, ok_X⟩
theorem o147_0 : Okp RX9 cX9_lengthOfInstruction 4 (some .int) "lengthOfInstruction" false 0 (sLR 0 1) := ok_aload_n (by decide +kernel : decode cX9_lengthOfInstruction 0 = .ok (.aload_n 0, 1)) rfl
theorem o147_1 : Okp RX9 cX9_lengthOfInstruction 4 (some .int) "lengthOfInstruction" false 1 (sLI 1 2) := ok_iload_n (by decide +kernel : decode cX9_lengthOfInstruction 1 = .ok (.iload_n 1, 1)) rfl
theorem o147_2 : Okp RX9 cX9_lengthOfInstruction 4 (some .int) "lengthOfInstruction" false 2 (sCV false 145 2 10 5) := ok_cv (by decide +kernel : decode cX9_lengthOfInstruction 2 = .ok (.invokevirtual 58, 3)) mw_X9_58 rfl (by decide) wm_X9_byteAt wse_X9_byteAt (by decide) rfl
theorem o147_5 : Okp RX9 cX9_lengthOfInstruction 4 (some .int) "lengthOfInstruction" false 5 (sSI 2 6) := ok_istore_n (by decide +kernel : decode cX9_lengthOfInstruction 5 = .ok (.istore_n 2, 1)) rfl (by decide) (by decide)
theorem o147_6 : Okp RX9 cX9_lengthOfInstruction 4 (some .int) "lengthOfInstruction" false 6 (sLI 2 7) := ok_iload_n (by decide +kernel : decode cX9_lengthOfInstruction 6 = .ok (.iload_n 2, 1)) rfl
theorem o147_7 : Okp RX9 cX9_lengthOfInstruction 4 (some .int) "lengthOfInstruction" false 7 (sGS 10) := ok_getstatic (by decide +kernel : decode cX9_lengthOfInstruction 7 = .ok (.getstatic 62, 3)) ws_X9_62 (Or.inr ⟨_, rfl⟩)
theorem o147_10 : Okp RX9 cX9_lengthOfInstruction 4 (some .int) "lengthOfInstruction" false 10 (sLen 11) := ok_alen (by decide +kernel : decode cX9_lengthOfInstruction 10 = .ok (.arraylength, 1))
theorem o147_11 : Okp RX9 cX9_lengthOfInstruction 4 (some .int) "lengthOfInstruction" false 11 (sI2 3 22 14) := ok_icmp_ge (by decide +kernel : decode cX9_lengthOfInstruction 11 = .ok (.if_icmp .ge 11, 3)) (by decide)
theorem o147_14 : Okp RX9 cX9_lengthOfInstruction 4 (some .int) "lengthOfInstruction" false 14 (sGS 17) := ok_getstatic (by decide +kernel : decode cX9_lengthOfInstruction 14 = .ok (.getstatic 62, 3)) ws_X9_62 (Or.inr ⟨_, rfl⟩)
theorem o147_17 : Okp RX9 cX9_lengthOfInstruction 4 (some .int) "lengthOfInstruction" false 17 (sLI 2 18) := ok_iload_n (by decide +kernel : decode cX9_lengthOfInstruction 17 = .ok (.iload_n 2, 1)) rfl
theorem o147_18 : Okp RX9 cX9_lengthOfInstruction 4 (some .int) "lengthOfInstruction" false 18 (sIA 19) := ok_iaload (by decide +kernel : decode cX9_lengthOfInstruction 18 = .ok (.iaload, 1))
theorem o147_19 : Okp RX9 cX9_lengthOfInstruction 4 (some .int) "lengthOfInstruction" false 19 (sGo 23) := ok_goto (by decide +kernel : decode cX9_lengthOfInstruction 19 = .ok (.goto 4, 3)) (by decide)
theorem o147_22 : Okp RX9 cX9_lengthOfInstruction 4 (some .int) "lengthOfInstruction" false 22 (sK 0 23) := ok_iconst (by decide +kernel : decode cX9_lengthOfInstruction 22 = .ok (.iconst 0, 1)) (by decide)
theorem o147_23 : Okp RX9 cX9_lengthOfInstruction 4 (some .int) "lengthOfInstruction" false 23 (sSI 3 24) := ok_istore_n (by decide +kernel : decode cX9_lengthOfInstruction 23 = .ok (.istore_n 3, 1)) rfl (by decide) (by decide)
theorem o147_24 : Okp RX9 cX9_lengthOfInstruction 4 (some .int) "lengthOfInstruction" false 24 (sLI 3 25) := ok_iload_n (by decide +kernel : decode cX9_lengthOfInstruction 24 = .ok (.iload_n 3, 1)) rfl
theorem o147_25 : Okp RX9 cX9_lengthOfInstruction 4 (some .int) "lengthOfInstruction" false 25 (sSw [(0, 60), (1, 62), (10, 64)] 74) := ok_lsw (by decide +kernel : decode cX9_lengthOfInstruction 25 = .ok (.lookupswitch 49 #[(0, 35), (1, 37), (10, 39)], 35)) (by decide) (by decide) (by decide)
theorem o147_60 : Okp RX9 cX9_lengthOfInstruction 4 (some .int) "lengthOfInstruction" false 60 (sK 1 61) := ok_iconst (by decide +kernel : decode cX9_lengthOfInstruction 60 = .ok (.iconst 1, 1)) (by decide)
theorem o147_61 : Okp RX9 cX9_lengthOfInstruction 4 (some .int) "lengthOfInstruction" false 61 sRI := ok_iret rfl (by decide +kernel : decode cX9_lengthOfInstruction 61 = .ok (.ireturn, 1))
theorem o147_62 : Okp RX9 cX9_lengthOfInstruction 4 (some .int) "lengthOfInstruction" false 62 (sK 5 63) := ok_iconst (by decide +kernel : decode cX9_lengthOfInstruction 62 = .ok (.iconst 5, 1)) (by decide)
theorem o147_63 : Okp RX9 cX9_lengthOfInstruction 4 (some .int) "lengthOfInstruction" false 63 sRI := ok_iret rfl (by decide +kernel : decode cX9_lengthOfInstruction 63 = .ok (.ireturn, 1))
theorem o147_64 : Okp RX9 cX9_lengthOfInstruction 4 (some .int) "lengthOfInstruction" false 64 (sK 2 65) := ok_iconst (by decide +kernel : decode cX9_lengthOfInstruction 64 = .ok (.iconst 2, 1)) (by decide)
theorem o147_65 : Okp RX9 cX9_lengthOfInstruction 4 (some .int) "lengthOfInstruction" false 65 (sLR 0 66) := ok_aload_n (by decide +kernel : decode cX9_lengthOfInstruction 65 = .ok (.aload_n 0, 1)) rfl
theorem o147_66 : Okp RX9 cX9_lengthOfInstruction 4 (some .int) "lengthOfInstruction" false 66 (sLI 1 67) := ok_iload_n (by decide +kernel : decode cX9_lengthOfInstruction 66 = .ok (.iload_n 1, 1)) rfl
theorem o147_67 : Okp RX9 cX9_lengthOfInstruction 4 (some .int) "lengthOfInstruction" false 67 (sK 1 68) := ok_iconst (by decide +kernel : decode cX9_lengthOfInstruction 67 = .ok (.iconst 1, 1)) (by decide)
theorem o147_68 : Okp RX9 cX9_lengthOfInstruction 4 (some .int) "lengthOfInstruction" false 68 (sB2 fAdd 69) := ok_iadd (by decide +kernel : decode cX9_lengthOfInstruction 68 = .ok (.iadd, 1))
theorem o147_69 : Okp RX9 cX9_lengthOfInstruction 4 (some .int) "lengthOfInstruction" false 69 (sCV false 145 2 10 72) := ok_cv (by decide +kernel : decode cX9_lengthOfInstruction 69 = .ok (.invokevirtual 58, 3)) mw_X9_58 rfl (by decide) wm_X9_byteAt wse_X9_byteAt (by decide) rfl
theorem o147_72 : Okp RX9 cX9_lengthOfInstruction 4 (some .int) "lengthOfInstruction" false 72 (sB2 fAdd 73) := ok_iadd (by decide +kernel : decode cX9_lengthOfInstruction 72 = .ok (.iadd, 1))
theorem o147_73 : Okp RX9 cX9_lengthOfInstruction 4 (some .int) "lengthOfInstruction" false 73 sRI := ok_iret rfl (by decide +kernel : decode cX9_lengthOfInstruction 73 = .ok (.ireturn, 1))
theorem o147_74 : Okp RX9 cX9_lengthOfInstruction 4 (some .int) "lengthOfInstruction" false 74 (sK 2 75) := ok_iconst (by decide +kernel : decode cX9_lengthOfInstruction 74 = .ok (.iconst 2, 1)) (by decide)
theorem o147_75 : Okp RX9 cX9_lengthOfInstruction 4 (some .int) "lengthOfInstruction" false 75 sRI := ok_iret rfl (by decide +kernel : decode cX9_lengthOfInstruction 75 = .ok (.ireturn, 1))
theorem oc147_0 : ∀ pc, Mnp (c147_0 pc) ∧ Okp RX9 cX9_lengthOfInstruction 4 (some .int) "lengthOfInstruction" false pc (c147_0 pc) := by
  intro pc
  unfold c147_0
  split
  · exact ⟨mn_sLR, o147_0⟩
  · exact ⟨mn_sLI, o147_1⟩
  · exact ⟨mn_sCV, o147_2⟩
  · exact ⟨mn_sSI, o147_5⟩
  · exact ⟨mn_sLI, o147_6⟩
  · exact ⟨mn_sGS, o147_7⟩
  · exact ⟨mn_sLen, o147_10⟩
  · exact ⟨mn_sI2, o147_11⟩
  · exact ⟨mn_sGS, o147_14⟩
  · exact ⟨mn_sLI, o147_17⟩
  · exact ⟨mn_sIA, o147_18⟩
  · exact ⟨mn_sGo, o147_19⟩
  · exact ⟨mn_sK, o147_22⟩
  · exact ⟨mn_sSI, o147_23⟩
  · exact ⟨mn_sX, ok_X⟩
theorem oc147_1 : ∀ pc, Mnp (c147_1 pc) ∧ Okp RX9 cX9_lengthOfInstruction 4 (some .int) "lengthOfInstruction" false pc (c147_1 pc) := by
  intro pc
  unfold c147_1
  split
  · exact ⟨mn_sLI, o147_24⟩
  · exact ⟨mn_sSw, o147_25⟩
  · exact ⟨mn_sX, ok_X⟩
theorem oc147_2 : ∀ pc, Mnp (c147_2 pc) ∧ Okp RX9 cX9_lengthOfInstruction 4 (some .int) "lengthOfInstruction" false pc (c147_2 pc) := by
  intro pc
  unfold c147_2
  split
  · exact ⟨mn_sK, o147_60⟩
  · exact ⟨mn_sRI, o147_61⟩
  · exact ⟨mn_sK, o147_62⟩
  · exact ⟨mn_sRI, o147_63⟩
  · exact ⟨mn_sK, o147_64⟩
  · exact ⟨mn_sLR, o147_65⟩
  · exact ⟨mn_sLI, o147_66⟩
  · exact ⟨mn_sK, o147_67⟩
  · exact ⟨mn_sB2, o147_68⟩
  · exact ⟨mn_sCV, o147_69⟩
  · exact ⟨mn_sX, ok_X⟩
theorem oc147_3 : ∀ pc, Mnp (c147_3 pc) ∧ Okp RX9 cX9_lengthOfInstruction 4 (some .int) "lengthOfInstruction" false pc (c147_3 pc) := by
  intro pc
  unfold c147_3
  split
  · exact ⟨mn_sB2, o147_72⟩
  · exact ⟨mn_sRI, o147_73⟩
  · exact ⟨mn_sK, o147_74⟩
  · exact ⟨mn_sRI, o147_75⟩
  · exact ⟨mn_sX, ok_X⟩
theorem oc147 : ∀ pc, Mnp (c147 pc) ∧ Okp RX9 cX9_lengthOfInstruction 4 (some .int) "lengthOfInstruction" false pc (c147 pc) := by
  intro pc
  unfold c147
  split
  · exact oc147_0 pc
  · exact oc147_1 pc
  · exact oc147_2 pc
  · exact oc147_3 pc
  · exact ⟨mn_sX, ok_X⟩
theorem o148_0 : Okp RX9 cX9_contractAt 2 (some (.object "SealedProcesses$Contract")) "contractAt" false 0 (sLI 1 1) := ok_iload_n (by decide +kernel : decode cX9_contractAt 0 = .ok (.iload_n 1, 1)) rfl
theorem o148_1 : Okp RX9 cX9_contractAt 2 (some (.object "SealedProcesses$Contract")) "contractAt" false 1 (sI1 2 17 4) := ok_if_lt (by decide +kernel : decode cX9_contractAt 1 = .ok (.ifCond .lt 16, 3)) (by decide)
theorem o148_4 : Okp RX9 cX9_contractAt 2 (some (.object "SealedProcesses$Contract")) "contractAt" false 4 (sLI 1 5) := ok_iload_n (by decide +kernel : decode cX9_contractAt 4 = .ok (.iload_n 1, 1)) rfl
theorem o148_5 : Okp RX9 cX9_contractAt 2 (some (.object "SealedProcesses$Contract")) "contractAt" false 5 (sLR 0 6) := ok_aload_n (by decide +kernel : decode cX9_contractAt 5 = .ok (.aload_n 0, 1)) rfl
theorem o148_6 : Okp RX9 cX9_contractAt 2 (some (.object "SealedProcesses$Contract")) "contractAt" false 6 (sGI 10 6 9) := ok_getI (by decide +kernel : decode cX9_contractAt 6 = .ok (.getfield 25, 3)) fw_X9_25 rfl
theorem o148_9 : Okp RX9 cX9_contractAt 2 (some (.object "SealedProcesses$Contract")) "contractAt" false 9 (sI2 3 17 12) := ok_icmp_ge (by decide +kernel : decode cX9_contractAt 9 = .ok (.if_icmp .ge 8, 3)) (by decide)
theorem o148_12 : Okp RX9 cX9_contractAt 2 (some (.object "SealedProcesses$Contract")) "contractAt" false 12 (sLI 1 13) := ok_iload_n (by decide +kernel : decode cX9_contractAt 12 = .ok (.iload_n 1, 1)) rfl
theorem o148_13 : Okp RX9 cX9_contractAt 2 (some (.object "SealedProcesses$Contract")) "contractAt" false 13 (sK 4 14) := ok_iconst (by decide +kernel : decode cX9_contractAt 13 = .ok (.iconst 4, 1)) (by decide)
theorem o148_14 : Okp RX9 cX9_contractAt 2 (some (.object "SealedProcesses$Contract")) "contractAt" false 14 (sI2 2 21 17) := ok_icmp_lt (by decide +kernel : decode cX9_contractAt 14 = .ok (.if_icmp .lt 7, 3)) (by decide)
theorem o148_17 : Okp RX9 cX9_contractAt 2 (some (.object "SealedProcesses$Contract")) "contractAt" false 17 (sNul 18) := ok_null (by decide +kernel : decode cX9_contractAt 17 = .ok (.aconst_null, 1))
theorem o148_18 : Okp RX9 cX9_contractAt 2 (some (.object "SealedProcesses$Contract")) "contractAt" false 18 (sGo 27) := ok_goto (by decide +kernel : decode cX9_contractAt 18 = .ok (.goto 9, 3)) (by decide)
theorem o148_21 : Okp RX9 cX9_contractAt 2 (some (.object "SealedProcesses$Contract")) "contractAt" false 21 (sLR 0 22) := ok_aload_n (by decide +kernel : decode cX9_contractAt 21 = .ok (.aload_n 0, 1)) rfl
theorem o148_22 : Okp RX9 cX9_contractAt 2 (some (.object "SealedProcesses$Contract")) "contractAt" false 22 (sGR 10 7 25) := ok_getR (by decide +kernel : decode cX9_contractAt 22 = .ok (.getfield 30, 3)) fw_X9_30 rfl
theorem o148_25 : Okp RX9 cX9_contractAt 2 (some (.object "SealedProcesses$Contract")) "contractAt" false 25 (sLI 1 26) := ok_iload_n (by decide +kernel : decode cX9_contractAt 25 = .ok (.iload_n 1, 1)) rfl
theorem o148_26 : Okp RX9 cX9_contractAt 2 (some (.object "SealedProcesses$Contract")) "contractAt" false 26 (sRA 27) := ok_aaload (by decide +kernel : decode cX9_contractAt 26 = .ok (.aaload, 1))
theorem o148_27 : Okp RX9 cX9_contractAt 2 (some (.object "SealedProcesses$Contract")) "contractAt" false 27 sRR := ok_aret rfl (Or.inl ⟨_, rfl⟩) (by decide +kernel : decode cX9_contractAt 27 = .ok (.areturn, 1))
theorem oc148_0 : ∀ pc, Mnp (c148_0 pc) ∧ Okp RX9 cX9_contractAt 2 (some (.object "SealedProcesses$Contract")) "contractAt" false pc (c148_0 pc) := by
  intro pc
  unfold c148_0
  split
  · exact ⟨mn_sLI, o148_0⟩
  · exact ⟨mn_sI1, o148_1⟩
  · exact ⟨mn_sLI, o148_4⟩
  · exact ⟨mn_sLR, o148_5⟩
  · exact ⟨mn_sGI, o148_6⟩
  · exact ⟨mn_sI2, o148_9⟩
  · exact ⟨mn_sLI, o148_12⟩
  · exact ⟨mn_sK, o148_13⟩
  · exact ⟨mn_sI2, o148_14⟩
  · exact ⟨mn_sNul, o148_17⟩
  · exact ⟨mn_sGo, o148_18⟩
  · exact ⟨mn_sLR, o148_21⟩
  · exact ⟨mn_sGR, o148_22⟩
  · exact ⟨mn_sX, ok_X⟩
theorem oc148_1 : ∀ pc, Mnp (c148_1 pc) ∧ Okp RX9 cX9_contractAt 2 (some (.object "SealedProcesses$Contract")) "contractAt" false pc (c148_1 pc) := by
  intro pc
  unfold c148_1
  split
  · exact ⟨mn_sLI, o148_25⟩
  · exact ⟨mn_sRA, o148_26⟩
  · exact ⟨mn_sRR, o148_27⟩
  · exact ⟨mn_sX, ok_X⟩
theorem oc148 : ∀ pc, Mnp (c148 pc) ∧ Okp RX9 cX9_contractAt 2 (some (.object "SealedProcesses$Contract")) "contractAt" false pc (c148 pc) := by
  intro pc
  unfold c148
  split
  · exact oc148_0 pc
  · exact oc148_1 pc
  · exact ⟨mn_sX, ok_X⟩
theorem o149_0 : Okp RX9 cX9_routineAt 2 (some (.object "SealedProcesses$Routine")) "routineAt" false 0 (sLI 1 1) := ok_iload_n (by decide +kernel : decode cX9_routineAt 0 = .ok (.iload_n 1, 1)) rfl
theorem o149_1 : Okp RX9 cX9_routineAt 2 (some (.object "SealedProcesses$Routine")) "routineAt" false 1 (sI1 2 18 4) := ok_if_lt (by decide +kernel : decode cX9_routineAt 1 = .ok (.ifCond .lt 17, 3)) (by decide)
theorem o149_4 : Okp RX9 cX9_routineAt 2 (some (.object "SealedProcesses$Routine")) "routineAt" false 4 (sLI 1 5) := ok_iload_n (by decide +kernel : decode cX9_routineAt 4 = .ok (.iload_n 1, 1)) rfl
theorem o149_5 : Okp RX9 cX9_routineAt 2 (some (.object "SealedProcesses$Routine")) "routineAt" false 5 (sLR 0 6) := ok_aload_n (by decide +kernel : decode cX9_routineAt 5 = .ok (.aload_n 0, 1)) rfl
theorem o149_6 : Okp RX9 cX9_routineAt 2 (some (.object "SealedProcesses$Routine")) "routineAt" false 6 (sGI 10 8 9) := ok_getI (by decide +kernel : decode cX9_routineAt 6 = .ok (.getfield 34, 3)) fw_X9_34 rfl
theorem o149_9 : Okp RX9 cX9_routineAt 2 (some (.object "SealedProcesses$Routine")) "routineAt" false 9 (sI2 3 18 12) := ok_icmp_ge (by decide +kernel : decode cX9_routineAt 9 = .ok (.if_icmp .ge 9, 3)) (by decide)
theorem o149_12 : Okp RX9 cX9_routineAt 2 (some (.object "SealedProcesses$Routine")) "routineAt" false 12 (sLI 1 13) := ok_iload_n (by decide +kernel : decode cX9_routineAt 12 = .ok (.iload_n 1, 1)) rfl
theorem o149_13 : Okp RX9 cX9_routineAt 2 (some (.object "SealedProcesses$Routine")) "routineAt" false 13 (sK 10 15) := ok_bipush (by decide +kernel : decode cX9_routineAt 13 = .ok (.bipush 10, 2)) (by decide)
theorem o149_15 : Okp RX9 cX9_routineAt 2 (some (.object "SealedProcesses$Routine")) "routineAt" false 15 (sI2 2 22 18) := ok_icmp_lt (by decide +kernel : decode cX9_routineAt 15 = .ok (.if_icmp .lt 7, 3)) (by decide)
theorem o149_18 : Okp RX9 cX9_routineAt 2 (some (.object "SealedProcesses$Routine")) "routineAt" false 18 (sNul 19) := ok_null (by decide +kernel : decode cX9_routineAt 18 = .ok (.aconst_null, 1))
theorem o149_19 : Okp RX9 cX9_routineAt 2 (some (.object "SealedProcesses$Routine")) "routineAt" false 19 (sGo 28) := ok_goto (by decide +kernel : decode cX9_routineAt 19 = .ok (.goto 9, 3)) (by decide)
theorem o149_22 : Okp RX9 cX9_routineAt 2 (some (.object "SealedProcesses$Routine")) "routineAt" false 22 (sLR 0 23) := ok_aload_n (by decide +kernel : decode cX9_routineAt 22 = .ok (.aload_n 0, 1)) rfl
theorem o149_23 : Okp RX9 cX9_routineAt 2 (some (.object "SealedProcesses$Routine")) "routineAt" false 23 (sGR 10 9 26) := ok_getR (by decide +kernel : decode cX9_routineAt 23 = .ok (.getfield 39, 3)) fw_X9_39 rfl
theorem o149_26 : Okp RX9 cX9_routineAt 2 (some (.object "SealedProcesses$Routine")) "routineAt" false 26 (sLI 1 27) := ok_iload_n (by decide +kernel : decode cX9_routineAt 26 = .ok (.iload_n 1, 1)) rfl
theorem o149_27 : Okp RX9 cX9_routineAt 2 (some (.object "SealedProcesses$Routine")) "routineAt" false 27 (sRA 28) := ok_aaload (by decide +kernel : decode cX9_routineAt 27 = .ok (.aaload, 1))
theorem o149_28 : Okp RX9 cX9_routineAt 2 (some (.object "SealedProcesses$Routine")) "routineAt" false 28 sRR := ok_aret rfl (Or.inl ⟨_, rfl⟩) (by decide +kernel : decode cX9_routineAt 28 = .ok (.areturn, 1))
theorem oc149_0 : ∀ pc, Mnp (c149_0 pc) ∧ Okp RX9 cX9_routineAt 2 (some (.object "SealedProcesses$Routine")) "routineAt" false pc (c149_0 pc) := by
  intro pc
  unfold c149_0
  split
  · exact ⟨mn_sLI, o149_0⟩
  · exact ⟨mn_sI1, o149_1⟩
  · exact ⟨mn_sLI, o149_4⟩
  · exact ⟨mn_sLR, o149_5⟩
  · exact ⟨mn_sGI, o149_6⟩
  · exact ⟨mn_sI2, o149_9⟩
  · exact ⟨mn_sLI, o149_12⟩
  · exact ⟨mn_sK, o149_13⟩
  · exact ⟨mn_sI2, o149_15⟩
  · exact ⟨mn_sNul, o149_18⟩
  · exact ⟨mn_sGo, o149_19⟩
  · exact ⟨mn_sLR, o149_22⟩
  · exact ⟨mn_sGR, o149_23⟩
  · exact ⟨mn_sX, ok_X⟩
theorem oc149_1 : ∀ pc, Mnp (c149_1 pc) ∧ Okp RX9 cX9_routineAt 2 (some (.object "SealedProcesses$Routine")) "routineAt" false pc (c149_1 pc) := by
  intro pc
  unfold c149_1
  split
  · exact ⟨mn_sLI, o149_26⟩
  · exact ⟨mn_sRA, o149_27⟩
  · exact ⟨mn_sRR, o149_28⟩
  · exact ⟨mn_sX, ok_X⟩
theorem oc149 : ∀ pc, Mnp (c149 pc) ∧ Okp RX9 cX9_routineAt 2 (some (.object "SealedProcesses$Routine")) "routineAt" false pc (c149 pc) := by
  intro pc
  unfold c149
  split
  · exact oc149_0 pc
  · exact oc149_1 pc
  · exact ⟨mn_sX, ok_X⟩
theorem o150_0 : Okp RX9 cX9_setContract 3 none "setContract" false 0 (sLI 1 1) := ok_iload_n (by decide +kernel : decode cX9_setContract 0 = .ok (.iload_n 1, 1)) rfl
theorem o150_1 : Okp RX9 cX9_setContract 3 none "setContract" false 1 (sI1 2 16 4) := ok_if_lt (by decide +kernel : decode cX9_setContract 1 = .ok (.ifCond .lt 15, 3)) (by decide)
theorem o150_4 : Okp RX9 cX9_setContract 3 none "setContract" false 4 (sLI 1 5) := ok_iload_n (by decide +kernel : decode cX9_setContract 4 = .ok (.iload_n 1, 1)) rfl
theorem o150_5 : Okp RX9 cX9_setContract 3 none "setContract" false 5 (sK 4 6) := ok_iconst (by decide +kernel : decode cX9_setContract 5 = .ok (.iconst 4, 1)) (by decide)
theorem o150_6 : Okp RX9 cX9_setContract 3 none "setContract" false 6 (sI2 3 16 9) := ok_icmp_ge (by decide +kernel : decode cX9_setContract 6 = .ok (.if_icmp .ge 10, 3)) (by decide)
theorem o150_9 : Okp RX9 cX9_setContract 3 none "setContract" false 9 (sLR 0 10) := ok_aload_n (by decide +kernel : decode cX9_setContract 9 = .ok (.aload_n 0, 1)) rfl
theorem o150_10 : Okp RX9 cX9_setContract 3 none "setContract" false 10 (sGR 10 7 13) := ok_getR (by decide +kernel : decode cX9_setContract 10 = .ok (.getfield 30, 3)) fw_X9_30 rfl
theorem o150_13 : Okp RX9 cX9_setContract 3 none "setContract" false 13 (sLI 1 14) := ok_iload_n (by decide +kernel : decode cX9_setContract 13 = .ok (.iload_n 1, 1)) rfl
theorem o150_14 : Okp RX9 cX9_setContract 3 none "setContract" false 14 (sLR 2 15) := ok_aload_n (by decide +kernel : decode cX9_setContract 14 = .ok (.aload_n 2, 1)) rfl
theorem o150_15 : Okp RX9 cX9_setContract 3 none "setContract" false 15 (sRS 16) := ok_aastore (by decide +kernel : decode cX9_setContract 15 = .ok (.aastore, 1))
theorem o150_16 : Okp RX9 cX9_setContract 3 none "setContract" false 16 sRV := ok_vret rfl (by decide +kernel : decode cX9_setContract 16 = .ok (.return_, 1))
theorem oc150 : ∀ pc, Mnp (c150 pc) ∧ Okp RX9 cX9_setContract 3 none "setContract" false pc (c150 pc) := by
  intro pc
  unfold c150
  split
  · exact ⟨mn_sLI, o150_0⟩
  · exact ⟨mn_sI1, o150_1⟩
  · exact ⟨mn_sLI, o150_4⟩
  · exact ⟨mn_sK, o150_5⟩
  · exact ⟨mn_sI2, o150_6⟩
  · exact ⟨mn_sLR, o150_9⟩
  · exact ⟨mn_sGR, o150_10⟩
  · exact ⟨mn_sLI, o150_13⟩
  · exact ⟨mn_sLR, o150_14⟩
  · exact ⟨mn_sRS, o150_15⟩
  · exact ⟨mn_sRV, o150_16⟩
  · exact ⟨mn_sX, ok_X⟩
theorem o151_0 : Okp RX9 cX9_setRoutine 3 none "setRoutine" false 0 (sLI 1 1) := ok_iload_n (by decide +kernel : decode cX9_setRoutine 0 = .ok (.iload_n 1, 1)) rfl
theorem o151_1 : Okp RX9 cX9_setRoutine 3 none "setRoutine" false 1 (sI1 2 17 4) := ok_if_lt (by decide +kernel : decode cX9_setRoutine 1 = .ok (.ifCond .lt 16, 3)) (by decide)
theorem o151_4 : Okp RX9 cX9_setRoutine 3 none "setRoutine" false 4 (sLI 1 5) := ok_iload_n (by decide +kernel : decode cX9_setRoutine 4 = .ok (.iload_n 1, 1)) rfl
theorem o151_5 : Okp RX9 cX9_setRoutine 3 none "setRoutine" false 5 (sK 10 7) := ok_bipush (by decide +kernel : decode cX9_setRoutine 5 = .ok (.bipush 10, 2)) (by decide)
theorem o151_7 : Okp RX9 cX9_setRoutine 3 none "setRoutine" false 7 (sI2 3 17 10) := ok_icmp_ge (by decide +kernel : decode cX9_setRoutine 7 = .ok (.if_icmp .ge 10, 3)) (by decide)
theorem o151_10 : Okp RX9 cX9_setRoutine 3 none "setRoutine" false 10 (sLR 0 11) := ok_aload_n (by decide +kernel : decode cX9_setRoutine 10 = .ok (.aload_n 0, 1)) rfl
theorem o151_11 : Okp RX9 cX9_setRoutine 3 none "setRoutine" false 11 (sGR 10 9 14) := ok_getR (by decide +kernel : decode cX9_setRoutine 11 = .ok (.getfield 39, 3)) fw_X9_39 rfl
theorem o151_14 : Okp RX9 cX9_setRoutine 3 none "setRoutine" false 14 (sLI 1 15) := ok_iload_n (by decide +kernel : decode cX9_setRoutine 14 = .ok (.iload_n 1, 1)) rfl
theorem o151_15 : Okp RX9 cX9_setRoutine 3 none "setRoutine" false 15 (sLR 2 16) := ok_aload_n (by decide +kernel : decode cX9_setRoutine 15 = .ok (.aload_n 2, 1)) rfl
theorem o151_16 : Okp RX9 cX9_setRoutine 3 none "setRoutine" false 16 (sRS 17) := ok_aastore (by decide +kernel : decode cX9_setRoutine 16 = .ok (.aastore, 1))
theorem o151_17 : Okp RX9 cX9_setRoutine 3 none "setRoutine" false 17 sRV := ok_vret rfl (by decide +kernel : decode cX9_setRoutine 17 = .ok (.return_, 1))
theorem oc151 : ∀ pc, Mnp (c151 pc) ∧ Okp RX9 cX9_setRoutine 3 none "setRoutine" false pc (c151 pc) := by
  intro pc
  unfold c151
  split
  · exact ⟨mn_sLI, o151_0⟩
  · exact ⟨mn_sI1, o151_1⟩
  · exact ⟨mn_sLI, o151_4⟩
  · exact ⟨mn_sK, o151_5⟩
  · exact ⟨mn_sI2, o151_7⟩
  · exact ⟨mn_sLR, o151_10⟩
  · exact ⟨mn_sGR, o151_11⟩
  · exact ⟨mn_sLI, o151_14⟩
  · exact ⟨mn_sLR, o151_15⟩
  · exact ⟨mn_sRS, o151_16⟩
  · exact ⟨mn_sRV, o151_17⟩
  · exact ⟨mn_sX, ok_X⟩
theorem o152_0 : Okp RX9 cX9_sizeOfRecord 2 (some .int) "sizeOfRecord" false 0 (sLI 1 1) := ok_iload_n (by decide +kernel : decode cX9_sizeOfRecord 0 = .ok (.iload_n 1, 1)) rfl
theorem o152_1 : Okp RX9 cX9_sizeOfRecord 2 (some .int) "sizeOfRecord" false 1 (sI1 2 10 4) := ok_if_lt (by decide +kernel : decode cX9_sizeOfRecord 1 = .ok (.ifCond .lt 9, 3)) (by decide)
theorem o152_4 : Okp RX9 cX9_sizeOfRecord 2 (some .int) "sizeOfRecord" false 4 (sLI 1 5) := ok_iload_n (by decide +kernel : decode cX9_sizeOfRecord 4 = .ok (.iload_n 1, 1)) rfl
theorem o152_5 : Okp RX9 cX9_sizeOfRecord 2 (some .int) "sizeOfRecord" false 5 (sK 8 7) := ok_bipush (by decide +kernel : decode cX9_sizeOfRecord 5 = .ok (.bipush 8, 2)) (by decide)
theorem o152_7 : Okp RX9 cX9_sizeOfRecord 2 (some .int) "sizeOfRecord" false 7 (sI2 2 14 10) := ok_icmp_lt (by decide +kernel : decode cX9_sizeOfRecord 7 = .ok (.if_icmp .lt 7, 3)) (by decide)
theorem o152_10 : Okp RX9 cX9_sizeOfRecord 2 (some .int) "sizeOfRecord" false 10 (sK 0 11) := ok_iconst (by decide +kernel : decode cX9_sizeOfRecord 10 = .ok (.iconst 0, 1)) (by decide)
theorem o152_11 : Okp RX9 cX9_sizeOfRecord 2 (some .int) "sizeOfRecord" false 11 (sGo 20) := ok_goto (by decide +kernel : decode cX9_sizeOfRecord 11 = .ok (.goto 9, 3)) (by decide)
theorem o152_14 : Okp RX9 cX9_sizeOfRecord 2 (some .int) "sizeOfRecord" false 14 (sLR 0 15) := ok_aload_n (by decide +kernel : decode cX9_sizeOfRecord 14 = .ok (.aload_n 0, 1)) rfl
theorem o152_15 : Okp RX9 cX9_sizeOfRecord 2 (some .int) "sizeOfRecord" false 15 (sGR 10 3 18) := ok_getR (by decide +kernel : decode cX9_sizeOfRecord 15 = .ok (.getfield 15, 3)) fw_X9_15 rfl
theorem o152_18 : Okp RX9 cX9_sizeOfRecord 2 (some .int) "sizeOfRecord" false 18 (sLI 1 19) := ok_iload_n (by decide +kernel : decode cX9_sizeOfRecord 18 = .ok (.iload_n 1, 1)) rfl
theorem o152_19 : Okp RX9 cX9_sizeOfRecord 2 (some .int) "sizeOfRecord" false 19 (sIA 20) := ok_iaload (by decide +kernel : decode cX9_sizeOfRecord 19 = .ok (.iaload, 1))
theorem o152_20 : Okp RX9 cX9_sizeOfRecord 2 (some .int) "sizeOfRecord" false 20 sRI := ok_iret rfl (by decide +kernel : decode cX9_sizeOfRecord 20 = .ok (.ireturn, 1))
theorem oc152 : ∀ pc, Mnp (c152 pc) ∧ Okp RX9 cX9_sizeOfRecord 2 (some .int) "sizeOfRecord" false pc (c152 pc) := by
  intro pc
  unfold c152
  split
  · exact ⟨mn_sLI, o152_0⟩
  · exact ⟨mn_sI1, o152_1⟩
  · exact ⟨mn_sLI, o152_4⟩
  · exact ⟨mn_sK, o152_5⟩
  · exact ⟨mn_sI2, o152_7⟩
  · exact ⟨mn_sK, o152_10⟩
  · exact ⟨mn_sGo, o152_11⟩
  · exact ⟨mn_sLR, o152_14⟩
  · exact ⟨mn_sGR, o152_15⟩
  · exact ⟨mn_sLI, o152_18⟩
  · exact ⟨mn_sIA, o152_19⟩
  · exact ⟨mn_sRI, o152_20⟩
  · exact ⟨mn_sX, ok_X⟩
theorem o153_0 : Okp RX9 cX9_typeOfField 3 (some .int) "typeOfField" false 0 (sLI 2 1) := ok_iload_n (by decide +kernel : decode cX9_typeOfField 0 = .ok (.iload_n 2, 1)) rfl
theorem o153_1 : Okp RX9 cX9_typeOfField 3 (some .int) "typeOfField" false 1 (sI1 2 13 4) := ok_if_lt (by decide +kernel : decode cX9_typeOfField 1 = .ok (.ifCond .lt 12, 3)) (by decide)
theorem o153_4 : Okp RX9 cX9_typeOfField 3 (some .int) "typeOfField" false 4 (sLI 2 5) := ok_iload_n (by decide +kernel : decode cX9_typeOfField 4 = .ok (.iload_n 2, 1)) rfl
theorem o153_5 : Okp RX9 cX9_typeOfField 3 (some .int) "typeOfField" false 5 (sLR 0 6) := ok_aload_n (by decide +kernel : decode cX9_typeOfField 5 = .ok (.aload_n 0, 1)) rfl
theorem o153_6 : Okp RX9 cX9_typeOfField 3 (some .int) "typeOfField" false 6 (sLI 1 7) := ok_iload_n (by decide +kernel : decode cX9_typeOfField 6 = .ok (.iload_n 1, 1)) rfl
theorem o153_7 : Okp RX9 cX9_typeOfField 3 (some .int) "typeOfField" false 7 (sCV false 152 2 10 10) := ok_cv (by decide +kernel : decode cX9_typeOfField 7 = .ok (.invokevirtual 65, 3)) mw_X9_65 rfl (by decide) wm_X9_sizeOfRecord wse_X9_sizeOfRecord (by decide) rfl
theorem o153_10 : Okp RX9 cX9_typeOfField 3 (some .int) "typeOfField" false 10 (sI2 2 17 13) := ok_icmp_lt (by decide +kernel : decode cX9_typeOfField 10 = .ok (.if_icmp .lt 7, 3)) (by decide)
theorem o153_13 : Okp RX9 cX9_typeOfField 3 (some .int) "typeOfField" false 13 (sK (-1) 14) := ok_iconst (by decide +kernel : decode cX9_typeOfField 13 = .ok (.iconst (-1), 1)) (by decide)
theorem o153_14 : Okp RX9 cX9_typeOfField 3 (some .int) "typeOfField" false 14 (sGo 28) := ok_goto (by decide +kernel : decode cX9_typeOfField 14 = .ok (.goto 14, 3)) (by decide)
theorem o153_17 : Okp RX9 cX9_typeOfField 3 (some .int) "typeOfField" false 17 (sLR 0 18) := ok_aload_n (by decide +kernel : decode cX9_typeOfField 17 = .ok (.aload_n 0, 1)) rfl
theorem o153_18 : Okp RX9 cX9_typeOfField 3 (some .int) "typeOfField" false 18 (sGR 10 4 21) := ok_getR (by decide +kernel : decode cX9_typeOfField 18 = .ok (.getfield 19, 3)) fw_X9_19 rfl
theorem o153_21 : Okp RX9 cX9_typeOfField 3 (some .int) "typeOfField" false 21 (sLI 1 22) := ok_iload_n (by decide +kernel : decode cX9_typeOfField 21 = .ok (.iload_n 1, 1)) rfl
theorem o153_22 : Okp RX9 cX9_typeOfField 3 (some .int) "typeOfField" false 22 (sK 6 24) := ok_bipush (by decide +kernel : decode cX9_typeOfField 22 = .ok (.bipush 6, 2)) (by decide)
theorem o153_24 : Okp RX9 cX9_typeOfField 3 (some .int) "typeOfField" false 24 (sB2 fMul 25) := ok_imul (by decide +kernel : decode cX9_typeOfField 24 = .ok (.imul, 1))
theorem o153_25 : Okp RX9 cX9_typeOfField 3 (some .int) "typeOfField" false 25 (sLI 2 26) := ok_iload_n (by decide +kernel : decode cX9_typeOfField 25 = .ok (.iload_n 2, 1)) rfl
theorem o153_26 : Okp RX9 cX9_typeOfField 3 (some .int) "typeOfField" false 26 (sB2 fAdd 27) := ok_iadd (by decide +kernel : decode cX9_typeOfField 26 = .ok (.iadd, 1))
theorem o153_27 : Okp RX9 cX9_typeOfField 3 (some .int) "typeOfField" false 27 (sIA 28) := ok_iaload (by decide +kernel : decode cX9_typeOfField 27 = .ok (.iaload, 1))
theorem o153_28 : Okp RX9 cX9_typeOfField 3 (some .int) "typeOfField" false 28 sRI := ok_iret rfl (by decide +kernel : decode cX9_typeOfField 28 = .ok (.ireturn, 1))
theorem oc153_0 : ∀ pc, Mnp (c153_0 pc) ∧ Okp RX9 cX9_typeOfField 3 (some .int) "typeOfField" false pc (c153_0 pc) := by
  intro pc
  unfold c153_0
  split
  · exact ⟨mn_sLI, o153_0⟩
  · exact ⟨mn_sI1, o153_1⟩
  · exact ⟨mn_sLI, o153_4⟩
  · exact ⟨mn_sLR, o153_5⟩
  · exact ⟨mn_sLI, o153_6⟩
  · exact ⟨mn_sCV, o153_7⟩
  · exact ⟨mn_sI2, o153_10⟩
  · exact ⟨mn_sK, o153_13⟩
  · exact ⟨mn_sGo, o153_14⟩
  · exact ⟨mn_sLR, o153_17⟩
  · exact ⟨mn_sGR, o153_18⟩
  · exact ⟨mn_sLI, o153_21⟩
  · exact ⟨mn_sK, o153_22⟩
  · exact ⟨mn_sX, ok_X⟩
theorem oc153_1 : ∀ pc, Mnp (c153_1 pc) ∧ Okp RX9 cX9_typeOfField 3 (some .int) "typeOfField" false pc (c153_1 pc) := by
  intro pc
  unfold c153_1
  split
  · exact ⟨mn_sB2, o153_24⟩
  · exact ⟨mn_sLI, o153_25⟩
  · exact ⟨mn_sB2, o153_26⟩
  · exact ⟨mn_sIA, o153_27⟩
  · exact ⟨mn_sRI, o153_28⟩
  · exact ⟨mn_sX, ok_X⟩
theorem oc153 : ∀ pc, Mnp (c153 pc) ∧ Okp RX9 cX9_typeOfField 3 (some .int) "typeOfField" false pc (c153 pc) := by
  intro pc
  unfold c153
  split
  · exact oc153_0 pc
  · exact oc153_1 pc
  · exact ⟨mn_sX, ok_X⟩
theorem o154_0 : Okp RX9 cX9_pointersOf 2 (some .int) "pointersOf" false 0 (sLI 1 1) := ok_iload_n (by decide +kernel : decode cX9_pointersOf 0 = .ok (.iload_n 1, 1)) rfl
theorem o154_1 : Okp RX9 cX9_pointersOf 2 (some .int) "pointersOf" false 1 (sI1 2 10 4) := ok_if_lt (by decide +kernel : decode cX9_pointersOf 1 = .ok (.ifCond .lt 9, 3)) (by decide)
theorem o154_4 : Okp RX9 cX9_pointersOf 2 (some .int) "pointersOf" false 4 (sLI 1 5) := ok_iload_n (by decide +kernel : decode cX9_pointersOf 4 = .ok (.iload_n 1, 1)) rfl
theorem o154_5 : Okp RX9 cX9_pointersOf 2 (some .int) "pointersOf" false 5 (sK 8 7) := ok_bipush (by decide +kernel : decode cX9_pointersOf 5 = .ok (.bipush 8, 2)) (by decide)
theorem o154_7 : Okp RX9 cX9_pointersOf 2 (some .int) "pointersOf" false 7 (sI2 2 14 10) := ok_icmp_lt (by decide +kernel : decode cX9_pointersOf 7 = .ok (.if_icmp .lt 7, 3)) (by decide)
theorem o154_10 : Okp RX9 cX9_pointersOf 2 (some .int) "pointersOf" false 10 (sK 0 11) := ok_iconst (by decide +kernel : decode cX9_pointersOf 10 = .ok (.iconst 0, 1)) (by decide)
theorem o154_11 : Okp RX9 cX9_pointersOf 2 (some .int) "pointersOf" false 11 (sGo 20) := ok_goto (by decide +kernel : decode cX9_pointersOf 11 = .ok (.goto 9, 3)) (by decide)
theorem o154_14 : Okp RX9 cX9_pointersOf 2 (some .int) "pointersOf" false 14 (sLR 0 15) := ok_aload_n (by decide +kernel : decode cX9_pointersOf 14 = .ok (.aload_n 0, 1)) rfl
theorem o154_15 : Okp RX9 cX9_pointersOf 2 (some .int) "pointersOf" false 15 (sGR 10 5 18) := ok_getR (by decide +kernel : decode cX9_pointersOf 15 = .ok (.getfield 22, 3)) fw_X9_22 rfl
theorem o154_18 : Okp RX9 cX9_pointersOf 2 (some .int) "pointersOf" false 18 (sLI 1 19) := ok_iload_n (by decide +kernel : decode cX9_pointersOf 18 = .ok (.iload_n 1, 1)) rfl
theorem o154_19 : Okp RX9 cX9_pointersOf 2 (some .int) "pointersOf" false 19 (sIA 20) := ok_iaload (by decide +kernel : decode cX9_pointersOf 19 = .ok (.iaload, 1))
theorem o154_20 : Okp RX9 cX9_pointersOf 2 (some .int) "pointersOf" false 20 sRI := ok_iret rfl (by decide +kernel : decode cX9_pointersOf 20 = .ok (.ireturn, 1))
theorem oc154 : ∀ pc, Mnp (c154 pc) ∧ Okp RX9 cX9_pointersOf 2 (some .int) "pointersOf" false pc (c154 pc) := by
  intro pc
  unfold c154
  split
  · exact ⟨mn_sLI, o154_0⟩
  · exact ⟨mn_sI1, o154_1⟩
  · exact ⟨mn_sLI, o154_4⟩
  · exact ⟨mn_sK, o154_5⟩
  · exact ⟨mn_sI2, o154_7⟩
  · exact ⟨mn_sK, o154_10⟩
  · exact ⟨mn_sGo, o154_11⟩
  · exact ⟨mn_sLR, o154_14⟩
  · exact ⟨mn_sGR, o154_15⟩
  · exact ⟨mn_sLI, o154_18⟩
  · exact ⟨mn_sIA, o154_19⟩
  · exact ⟨mn_sRI, o154_20⟩
  · exact ⟨mn_sX, ok_X⟩
theorem o155_0 : Okp RX9 cX9_setSize 3 none "setSize" false 0 (sLI 1 1) := ok_iload_n (by decide +kernel : decode cX9_setSize 0 = .ok (.iload_n 1, 1)) rfl
theorem o155_1 : Okp RX9 cX9_setSize 3 none "setSize" false 1 (sI1 2 17 4) := ok_if_lt (by decide +kernel : decode cX9_setSize 1 = .ok (.ifCond .lt 16, 3)) (by decide)
theorem o155_4 : Okp RX9 cX9_setSize 3 none "setSize" false 4 (sLI 1 5) := ok_iload_n (by decide +kernel : decode cX9_setSize 4 = .ok (.iload_n 1, 1)) rfl
theorem o155_5 : Okp RX9 cX9_setSize 3 none "setSize" false 5 (sK 8 7) := ok_bipush (by decide +kernel : decode cX9_setSize 5 = .ok (.bipush 8, 2)) (by decide)
theorem o155_7 : Okp RX9 cX9_setSize 3 none "setSize" false 7 (sI2 3 17 10) := ok_icmp_ge (by decide +kernel : decode cX9_setSize 7 = .ok (.if_icmp .ge 10, 3)) (by decide)
theorem o155_10 : Okp RX9 cX9_setSize 3 none "setSize" false 10 (sLR 0 11) := ok_aload_n (by decide +kernel : decode cX9_setSize 10 = .ok (.aload_n 0, 1)) rfl
theorem o155_11 : Okp RX9 cX9_setSize 3 none "setSize" false 11 (sGR 10 3 14) := ok_getR (by decide +kernel : decode cX9_setSize 11 = .ok (.getfield 15, 3)) fw_X9_15 rfl
theorem o155_14 : Okp RX9 cX9_setSize 3 none "setSize" false 14 (sLI 1 15) := ok_iload_n (by decide +kernel : decode cX9_setSize 14 = .ok (.iload_n 1, 1)) rfl
theorem o155_15 : Okp RX9 cX9_setSize 3 none "setSize" false 15 (sLI 2 16) := ok_iload_n (by decide +kernel : decode cX9_setSize 15 = .ok (.iload_n 2, 1)) rfl
theorem o155_16 : Okp RX9 cX9_setSize 3 none "setSize" false 16 (sIS 17) := ok_iastore (by decide +kernel : decode cX9_setSize 16 = .ok (.iastore, 1))
theorem o155_17 : Okp RX9 cX9_setSize 3 none "setSize" false 17 sRV := ok_vret rfl (by decide +kernel : decode cX9_setSize 17 = .ok (.return_, 1))
theorem oc155 : ∀ pc, Mnp (c155 pc) ∧ Okp RX9 cX9_setSize 3 none "setSize" false pc (c155 pc) := by
  intro pc
  unfold c155
  split
  · exact ⟨mn_sLI, o155_0⟩
  · exact ⟨mn_sI1, o155_1⟩
  · exact ⟨mn_sLI, o155_4⟩
  · exact ⟨mn_sK, o155_5⟩
  · exact ⟨mn_sI2, o155_7⟩
  · exact ⟨mn_sLR, o155_10⟩
  · exact ⟨mn_sGR, o155_11⟩
  · exact ⟨mn_sLI, o155_14⟩
  · exact ⟨mn_sLI, o155_15⟩
  · exact ⟨mn_sIS, o155_16⟩
  · exact ⟨mn_sRV, o155_17⟩
  · exact ⟨mn_sX, ok_X⟩
theorem o156_0 : Okp RX9 cX9_setField 4 none "setField" false 0 (sLI 1 1) := ok_iload_n (by decide +kernel : decode cX9_setField 0 = .ok (.iload_n 1, 1)) rfl
theorem o156_1 : Okp RX9 cX9_setField 4 none "setField" false 1 (sI1 2 55 4) := ok_if_lt (by decide +kernel : decode cX9_setField 1 = .ok (.ifCond .lt 54, 3)) (by decide)
theorem o156_4 : Okp RX9 cX9_setField 4 none "setField" false 4 (sLI 1 5) := ok_iload_n (by decide +kernel : decode cX9_setField 4 = .ok (.iload_n 1, 1)) rfl
theorem o156_5 : Okp RX9 cX9_setField 4 none "setField" false 5 (sK 8 7) := ok_bipush (by decide +kernel : decode cX9_setField 5 = .ok (.bipush 8, 2)) (by decide)
theorem o156_7 : Okp RX9 cX9_setField 4 none "setField" false 7 (sI2 3 55 10) := ok_icmp_ge (by decide +kernel : decode cX9_setField 7 = .ok (.if_icmp .ge 48, 3)) (by decide)
theorem o156_10 : Okp RX9 cX9_setField 4 none "setField" false 10 (sLI 2 11) := ok_iload_n (by decide +kernel : decode cX9_setField 10 = .ok (.iload_n 2, 1)) rfl
theorem o156_11 : Okp RX9 cX9_setField 4 none "setField" false 11 (sI1 2 55 14) := ok_if_lt (by decide +kernel : decode cX9_setField 11 = .ok (.ifCond .lt 44, 3)) (by decide)
theorem o156_14 : Okp RX9 cX9_setField 4 none "setField" false 14 (sLI 2 15) := ok_iload_n (by decide +kernel : decode cX9_setField 14 = .ok (.iload_n 2, 1)) rfl
theorem o156_15 : Okp RX9 cX9_setField 4 none "setField" false 15 (sK 6 17) := ok_bipush (by decide +kernel : decode cX9_setField 15 = .ok (.bipush 6, 2)) (by decide)
theorem o156_17 : Okp RX9 cX9_setField 4 none "setField" false 17 (sI2 3 55 20) := ok_icmp_ge (by decide +kernel : decode cX9_setField 17 = .ok (.if_icmp .ge 38, 3)) (by decide)
theorem o156_20 : Okp RX9 cX9_setField 4 none "setField" false 20 (sLR 0 21) := ok_aload_n (by decide +kernel : decode cX9_setField 20 = .ok (.aload_n 0, 1)) rfl
theorem o156_21 : Okp RX9 cX9_setField 4 none "setField" false 21 (sGR 10 4 24) := ok_getR (by decide +kernel : decode cX9_setField 21 = .ok (.getfield 19, 3)) fw_X9_19 rfl
theorem o156_24 : Okp RX9 cX9_setField 4 none "setField" false 24 (sLI 1 25) := ok_iload_n (by decide +kernel : decode cX9_setField 24 = .ok (.iload_n 1, 1)) rfl
theorem o156_25 : Okp RX9 cX9_setField 4 none "setField" false 25 (sK 6 27) := ok_bipush (by decide +kernel : decode cX9_setField 25 = .ok (.bipush 6, 2)) (by decide)
theorem o156_27 : Okp RX9 cX9_setField 4 none "setField" false 27 (sB2 fMul 28) := ok_imul (by decide +kernel : decode cX9_setField 27 = .ok (.imul, 1))
theorem o156_28 : Okp RX9 cX9_setField 4 none "setField" false 28 (sLI 2 29) := ok_iload_n (by decide +kernel : decode cX9_setField 28 = .ok (.iload_n 2, 1)) rfl
theorem o156_29 : Okp RX9 cX9_setField 4 none "setField" false 29 (sB2 fAdd 30) := ok_iadd (by decide +kernel : decode cX9_setField 29 = .ok (.iadd, 1))
theorem o156_30 : Okp RX9 cX9_setField 4 none "setField" false 30 (sLI 3 31) := ok_iload_n (by decide +kernel : decode cX9_setField 30 = .ok (.iload_n 3, 1)) rfl
theorem o156_31 : Okp RX9 cX9_setField 4 none "setField" false 31 (sIS 32) := ok_iastore (by decide +kernel : decode cX9_setField 31 = .ok (.iastore, 1))
theorem o156_32 : Okp RX9 cX9_setField 4 none "setField" false 32 (sLR 0 33) := ok_aload_n (by decide +kernel : decode cX9_setField 32 = .ok (.aload_n 0, 1)) rfl
theorem o156_33 : Okp RX9 cX9_setField 4 none "setField" false 33 (sGR 10 5 36) := ok_getR (by decide +kernel : decode cX9_setField 33 = .ok (.getfield 22, 3)) fw_X9_22 rfl
theorem o156_36 : Okp RX9 cX9_setField 4 none "setField" false 36 (sLI 1 37) := ok_iload_n (by decide +kernel : decode cX9_setField 36 = .ok (.iload_n 1, 1)) rfl
theorem o156_37 : Okp RX9 cX9_setField 4 none "setField" false 37 (sDup2 38) := ok_dup2 (by decide +kernel : decode cX9_setField 37 = .ok (.dup2, 1))
theorem o156_38 : Okp RX9 cX9_setField 4 none "setField" false 38 (sIA 39) := ok_iaload (by decide +kernel : decode cX9_setField 38 = .ok (.iaload, 1))
theorem o156_39 : Okp RX9 cX9_setField 4 none "setField" false 39 (sLI 3 40) := ok_iload_n (by decide +kernel : decode cX9_setField 39 = .ok (.iload_n 3, 1)) rfl
theorem o156_40 : Okp RX9 cX9_setField 4 none "setField" false 40 (sCS false 212 1 43) := ok_cs (by decide +kernel : decode cX9_setField 40 = .ok (.invokestatic 68, 3)) mw_X9_68 wt_X11_isPointer (by decide) rfl
theorem o156_43 : Okp RX9 cX9_setField 4 none "setField" false 43 (sI1 0 52 46) := ok_if_eq (by decide +kernel : decode cX9_setField 43 = .ok (.ifCond .eq 9, 3)) (by decide)
theorem o156_46 : Okp RX9 cX9_setField 4 none "setField" false 46 (sK 1 47) := ok_iconst (by decide +kernel : decode cX9_setField 46 = .ok (.iconst 1, 1)) (by decide)
theorem o156_47 : Okp RX9 cX9_setField 4 none "setField" false 47 (sLI 2 48) := ok_iload_n (by decide +kernel : decode cX9_setField 47 = .ok (.iload_n 2, 1)) rfl
theorem o156_48 : Okp RX9 cX9_setField 4 none "setField" false 48 (sB2 fShl 49) := ok_ishl (by decide +kernel : decode cX9_setField 48 = .ok (.ishl, 1))
theorem o156_49 : Okp RX9 cX9_setField 4 none "setField" false 49 (sGo 53) := ok_goto (by decide +kernel : decode cX9_setField 49 = .ok (.goto 4, 3)) (by decide)
theorem o156_52 : Okp RX9 cX9_setField 4 none "setField" false 52 (sK 0 53) := ok_iconst (by decide +kernel : decode cX9_setField 52 = .ok (.iconst 0, 1)) (by decide)
theorem o156_53 : Okp RX9 cX9_setField 4 none "setField" false 53 (sB2 fOr 54) := ok_ior (by decide +kernel : decode cX9_setField 53 = .ok (.ior, 1))
theorem o156_54 : Okp RX9 cX9_setField 4 none "setField" false 54 (sIS 55) := ok_iastore (by decide +kernel : decode cX9_setField 54 = .ok (.iastore, 1))
theorem o156_55 : Okp RX9 cX9_setField 4 none "setField" false 55 sRV := ok_vret rfl (by decide +kernel : decode cX9_setField 55 = .ok (.return_, 1))
theorem oc156_0 : ∀ pc, Mnp (c156_0 pc) ∧ Okp RX9 cX9_setField 4 none "setField" false pc (c156_0 pc) := by
  intro pc
  unfold c156_0
  split
  · exact ⟨mn_sLI, o156_0⟩
  · exact ⟨mn_sI1, o156_1⟩
  · exact ⟨mn_sLI, o156_4⟩
  · exact ⟨mn_sK, o156_5⟩
  · exact ⟨mn_sI2, o156_7⟩
  · exact ⟨mn_sLI, o156_10⟩
  · exact ⟨mn_sI1, o156_11⟩
  · exact ⟨mn_sLI, o156_14⟩
  · exact ⟨mn_sK, o156_15⟩
  · exact ⟨mn_sI2, o156_17⟩
  · exact ⟨mn_sLR, o156_20⟩
  · exact ⟨mn_sGR, o156_21⟩
  · exact ⟨mn_sX, ok_X⟩
theorem oc156_1 : ∀ pc, Mnp (c156_1 pc) ∧ Okp RX9 cX9_setField 4 none "setField" false pc (c156_1 pc) := by
  intro pc
  unfold c156_1
  split
  · exact ⟨mn_sLI, o156_24⟩
  · exact ⟨mn_sK, o156_25⟩
  · exact ⟨mn_sB2, o156_27⟩
  · exact ⟨mn_sLI, o156_28⟩
  · exact ⟨mn_sB2, o156_29⟩
  · exact ⟨mn_sLI, o156_30⟩
  · exact ⟨mn_sIS, o156_31⟩
  · exact ⟨mn_sLR, o156_32⟩
  · exact ⟨mn_sGR, o156_33⟩
  · exact ⟨mn_sLI, o156_36⟩
  · exact ⟨mn_sDup2, o156_37⟩
  · exact ⟨mn_sIA, o156_38⟩
  · exact ⟨mn_sLI, o156_39⟩
  · exact ⟨mn_sCS, o156_40⟩
  · exact ⟨mn_sI1, o156_43⟩
  · exact ⟨mn_sK, o156_46⟩
  · exact ⟨mn_sLI, o156_47⟩
  · exact ⟨mn_sX, ok_X⟩
theorem oc156_2 : ∀ pc, Mnp (c156_2 pc) ∧ Okp RX9 cX9_setField 4 none "setField" false pc (c156_2 pc) := by
  intro pc
  unfold c156_2
  split
  · exact ⟨mn_sB2, o156_48⟩
  · exact ⟨mn_sGo, o156_49⟩
  · exact ⟨mn_sK, o156_52⟩
  · exact ⟨mn_sB2, o156_53⟩
  · exact ⟨mn_sIS, o156_54⟩
  · exact ⟨mn_sRV, o156_55⟩
  · exact ⟨mn_sX, ok_X⟩
theorem oc156 : ∀ pc, Mnp (c156 pc) ∧ Okp RX9 cX9_setField 4 none "setField" false pc (c156 pc) := by
  intro pc
  unfold c156
  split
  · exact oc156_0 pc
  · exact oc156_1 pc
  · exact oc156_2 pc
  · exact ⟨mn_sX, ok_X⟩
theorem o157_0 : Okp RX9 cX9_hasIntsAlone 3 (some .boolean) "hasIntsAlone" false 0 (sK 0 1) := ok_iconst (by decide +kernel : decode cX9_hasIntsAlone 0 = .ok (.iconst 0, 1)) (by decide)
theorem o157_1 : Okp RX9 cX9_hasIntsAlone 3 (some .boolean) "hasIntsAlone" false 1 (sSI 2 2) := ok_istore_n (by decide +kernel : decode cX9_hasIntsAlone 1 = .ok (.istore_n 2, 1)) rfl (by decide) (by decide)
theorem o157_2 : Okp RX9 cX9_hasIntsAlone 3 (some .boolean) "hasIntsAlone" false 2 (sLI 2 3) := ok_iload_n (by decide +kernel : decode cX9_hasIntsAlone 2 = .ok (.iload_n 2, 1)) rfl
theorem o157_3 : Okp RX9 cX9_hasIntsAlone 3 (some .boolean) "hasIntsAlone" false 3 (sLR 0 4) := ok_aload_n (by decide +kernel : decode cX9_hasIntsAlone 3 = .ok (.aload_n 0, 1)) rfl
theorem o157_4 : Okp RX9 cX9_hasIntsAlone 3 (some .boolean) "hasIntsAlone" false 4 (sLI 1 5) := ok_iload_n (by decide +kernel : decode cX9_hasIntsAlone 4 = .ok (.iload_n 1, 1)) rfl
theorem o157_5 : Okp RX9 cX9_hasIntsAlone 3 (some .boolean) "hasIntsAlone" false 5 (sCV false 152 2 10 8) := ok_cv (by decide +kernel : decode cX9_hasIntsAlone 5 = .ok (.invokevirtual 65, 3)) mw_X9_65 rfl (by decide) wm_X9_sizeOfRecord wse_X9_sizeOfRecord (by decide) rfl
theorem o157_8 : Okp RX9 cX9_hasIntsAlone 3 (some .boolean) "hasIntsAlone" false 8 (sI2 3 28 11) := ok_icmp_ge (by decide +kernel : decode cX9_hasIntsAlone 8 = .ok (.if_icmp .ge 20, 3)) (by decide)
theorem o157_11 : Okp RX9 cX9_hasIntsAlone 3 (some .boolean) "hasIntsAlone" false 11 (sLR 0 12) := ok_aload_n (by decide +kernel : decode cX9_hasIntsAlone 11 = .ok (.aload_n 0, 1)) rfl
theorem o157_12 : Okp RX9 cX9_hasIntsAlone 3 (some .boolean) "hasIntsAlone" false 12 (sLI 1 13) := ok_iload_n (by decide +kernel : decode cX9_hasIntsAlone 12 = .ok (.iload_n 1, 1)) rfl
theorem o157_13 : Okp RX9 cX9_hasIntsAlone 3 (some .boolean) "hasIntsAlone" false 13 (sLI 2 14) := ok_iload_n (by decide +kernel : decode cX9_hasIntsAlone 13 = .ok (.iload_n 2, 1)) rfl
theorem o157_14 : Okp RX9 cX9_hasIntsAlone 3 (some .boolean) "hasIntsAlone" false 14 (sCV false 153 3 10 17) := ok_cv (by decide +kernel : decode cX9_hasIntsAlone 14 = .ok (.invokevirtual 72, 3)) mw_X9_72 rfl (by decide) wm_X9_typeOfField wse_X9_typeOfField (by decide) rfl
theorem o157_17 : Okp RX9 cX9_hasIntsAlone 3 (some .boolean) "hasIntsAlone" false 17 (sI1 0 22 20) := ok_if_eq (by decide +kernel : decode cX9_hasIntsAlone 17 = .ok (.ifCond .eq 5, 3)) (by decide)
theorem o157_20 : Okp RX9 cX9_hasIntsAlone 3 (some .boolean) "hasIntsAlone" false 20 (sK 0 21) := ok_iconst (by decide +kernel : decode cX9_hasIntsAlone 20 = .ok (.iconst 0, 1)) (by decide)
theorem o157_21 : Okp RX9 cX9_hasIntsAlone 3 (some .boolean) "hasIntsAlone" false 21 sRZ := ok_zret rfl (by decide +kernel : decode cX9_hasIntsAlone 21 = .ok (.ireturn, 1))
theorem o157_22 : Okp RX9 cX9_hasIntsAlone 3 (some .boolean) "hasIntsAlone" false 22 (sInc 2 1 25) := ok_iinc (by decide +kernel : decode cX9_hasIntsAlone 22 = .ok (.iinc 2 1, 3)) (by decide) (by decide)
theorem o157_25 : Okp RX9 cX9_hasIntsAlone 3 (some .boolean) "hasIntsAlone" false 25 (sGo 2) := ok_goto (by decide +kernel : decode cX9_hasIntsAlone 25 = .ok (.goto (-23), 3)) (by decide)
theorem o157_28 : Okp RX9 cX9_hasIntsAlone 3 (some .boolean) "hasIntsAlone" false 28 (sK 1 29) := ok_iconst (by decide +kernel : decode cX9_hasIntsAlone 28 = .ok (.iconst 1, 1)) (by decide)
theorem o157_29 : Okp RX9 cX9_hasIntsAlone 3 (some .boolean) "hasIntsAlone" false 29 sRZ := ok_zret rfl (by decide +kernel : decode cX9_hasIntsAlone 29 = .ok (.ireturn, 1))
theorem oc157_0 : ∀ pc, Mnp (c157_0 pc) ∧ Okp RX9 cX9_hasIntsAlone 3 (some .boolean) "hasIntsAlone" false pc (c157_0 pc) := by
  intro pc
  unfold c157_0
  split
  · exact ⟨mn_sK, o157_0⟩
  · exact ⟨mn_sSI, o157_1⟩
  · exact ⟨mn_sLI, o157_2⟩
  · exact ⟨mn_sLR, o157_3⟩
  · exact ⟨mn_sLI, o157_4⟩
  · exact ⟨mn_sCV, o157_5⟩
  · exact ⟨mn_sI2, o157_8⟩
  · exact ⟨mn_sLR, o157_11⟩
  · exact ⟨mn_sLI, o157_12⟩
  · exact ⟨mn_sLI, o157_13⟩
  · exact ⟨mn_sCV, o157_14⟩
  · exact ⟨mn_sI1, o157_17⟩
  · exact ⟨mn_sK, o157_20⟩
  · exact ⟨mn_sRZ, o157_21⟩
  · exact ⟨mn_sInc, o157_22⟩
  · exact ⟨mn_sX, ok_X⟩
theorem oc157_1 : ∀ pc, Mnp (c157_1 pc) ∧ Okp RX9 cX9_hasIntsAlone 3 (some .boolean) "hasIntsAlone" false pc (c157_1 pc) := by
  intro pc
  unfold c157_1
  split
  · exact ⟨mn_sGo, o157_25⟩
  · exact ⟨mn_sK, o157_28⟩
  · exact ⟨mn_sRZ, o157_29⟩
  · exact ⟨mn_sX, ok_X⟩
theorem oc157 : ∀ pc, Mnp (c157 pc) ∧ Okp RX9 cX9_hasIntsAlone 3 (some .boolean) "hasIntsAlone" false pc (c157 pc) := by
  intro pc
  unfold c157
  split
  · exact oc157_0 pc
  · exact oc157_1 pc
  · exact ⟨mn_sX, ok_X⟩
theorem o158_0 : Okp RX10 cX10_init 1 none "<init>" false 0 (sLR 0 1) := ok_aload_n (by decide +kernel : decode cX10_init 0 = .ok (.aload_n 0, 1)) rfl
theorem o158_1 : Okp RX10 cX10_init 1 none "<init>" false 1 (sCt 4) := ok_oinit (by decide +kernel : decode cX10_init 1 = .ok (.invokespecial 3, 3)) wq_X10_3 wq_i wq_c
theorem o158_4 : Okp RX10 cX10_init 1 none "<init>" false 4 (sLR 0 5) := ok_aload_n (by decide +kernel : decode cX10_init 4 = .ok (.aload_n 0, 1)) rfl
theorem o158_5 : Okp RX10 cX10_init 1 none "<init>" false 5 (sNew 2 6 8) := ok_new (by decide +kernel : decode cX10_init 5 = .ok (.new 9, 3)) ⟨rfl, rfl, by decide, cw_X1, tyX1_ok, wl_X10_9, wn_X1, wi_SealedProcesses_Bytes, df_X1⟩
theorem o158_8 : Okp RX10 cX10_init 1 none "<init>" false 8 (sDup 9) := ok_dup (by decide +kernel : decode cX10_init 8 = .ok (.dup, 1))
theorem o158_9 : Okp RX10 cX10_init 1 none "<init>" false 9 (sCI 10 1 12) := ok_ci (by decide +kernel : decode cX10_init 9 = .ok (.invokespecial 11, 3)) mw_X10_11 rfl rfl wm_X1_init (by decide) rfl
theorem o158_12 : Okp RX10 cX10_init 1 none "<init>" false 12 (sPR 11 0 15) := ok_putR (by decide +kernel : decode cX10_init 12 = .ok (.putfield 12, 3)) fw_X10_12 ⟨⟨tyX10_ok, nmX10⟩, Or.inr ⟨rfl, rfl, rfl⟩, rfl⟩ (Or.inl ⟨_, rfl⟩) rfl
theorem o158_15 : Okp RX10 cX10_init 1 none "<init>" false 15 (sLR 0 16) := ok_aload_n (by decide +kernel : decode cX10_init 15 = .ok (.aload_n 0, 1)) rfl
theorem o158_16 : Okp RX10 cX10_init 1 none "<init>" false 16 (sK 16 18) := ok_bipush (by decide +kernel : decode cX10_init 16 = .ok (.bipush 16, 2)) (by decide)
theorem o158_18 : Okp RX10 cX10_init 1 none "<init>" false 18 (sNA 15 20) := ok_newI (by decide +kernel : decode cX10_init 18 = .ok (.newarray .int, 2)) wa_int
theorem o158_20 : Okp RX10 cX10_init 1 none "<init>" false 20 (sPR 11 1 23) := ok_putR (by decide +kernel : decode cX10_init 20 = .ok (.putfield 18, 3)) fw_X10_18 ⟨⟨tyX10_ok, nmX10⟩, Or.inr ⟨rfl, rfl, rfl⟩, rfl⟩ (Or.inr ⟨_, rfl⟩) rfl
theorem o158_23 : Okp RX10 cX10_init 1 none "<init>" false 23 (sLR 0 24) := ok_aload_n (by decide +kernel : decode cX10_init 23 = .ok (.aload_n 0, 1)) rfl
theorem o158_24 : Okp RX10 cX10_init 1 none "<init>" false 24 (sK 10 26) := ok_bipush (by decide +kernel : decode cX10_init 24 = .ok (.bipush 10, 2)) (by decide)
theorem o158_26 : Okp RX10 cX10_init 1 none "<init>" false 26 (sNA 15 28) := ok_newI (by decide +kernel : decode cX10_init 26 = .ok (.newarray .int, 2)) wa_int
theorem o158_28 : Okp RX10 cX10_init 1 none "<init>" false 28 (sPR 11 2 31) := ok_putR (by decide +kernel : decode cX10_init 28 = .ok (.putfield 22, 3)) fw_X10_22 ⟨⟨tyX10_ok, nmX10⟩, Or.inr ⟨rfl, rfl, rfl⟩, rfl⟩ (Or.inr ⟨_, rfl⟩) rfl
theorem o158_31 : Okp RX10 cX10_init 1 none "<init>" false 31 (sLR 0 32) := ok_aload_n (by decide +kernel : decode cX10_init 31 = .ok (.aload_n 0, 1)) rfl
theorem o158_32 : Okp RX10 cX10_init 1 none "<init>" false 32 (sK 240 35) := ok_sipush (by decide +kernel : decode cX10_init 32 = .ok (.sipush 240, 3)) (by decide)
theorem o158_35 : Okp RX10 cX10_init 1 none "<init>" false 35 (sNA 16 37) := ok_newZ (by decide +kernel : decode cX10_init 35 = .ok (.newarray .boolean, 2)) wa_boolean
theorem o158_37 : Okp RX10 cX10_init 1 none "<init>" false 37 (sPR 11 3 40) := ok_putR (by decide +kernel : decode cX10_init 37 = .ok (.putfield 25, 3)) fw_X10_25 ⟨⟨tyX10_ok, nmX10⟩, Or.inr ⟨rfl, rfl, rfl⟩, rfl⟩ (Or.inr ⟨_, rfl⟩) rfl
theorem o158_40 : Okp RX10 cX10_init 1 none "<init>" false 40 (sLR 0 41) := ok_aload_n (by decide +kernel : decode cX10_init 40 = .ok (.aload_n 0, 1)) rfl
theorem o158_41 : Okp RX10 cX10_init 1 none "<init>" false 41 (sK 0 42) := ok_iconst (by decide +kernel : decode cX10_init 41 = .ok (.iconst 0, 1)) (by decide)
theorem o158_42 : Okp RX10 cX10_init 1 none "<init>" false 42 (sPI 11 4 45) := ok_putI (by decide +kernel : decode cX10_init 42 = .ok (.putfield 29, 3)) fw_X10_29 ⟨⟨tyX10_ok, nmX10⟩, Or.inl rfl, rfl⟩ rfl
theorem o158_45 : Okp RX10 cX10_init 1 none "<init>" false 45 (sLR 0 46) := ok_aload_n (by decide +kernel : decode cX10_init 45 = .ok (.aload_n 0, 1)) rfl
theorem o158_46 : Okp RX10 cX10_init 1 none "<init>" false 46 (sK 0 47) := ok_iconst (by decide +kernel : decode cX10_init 46 = .ok (.iconst 0, 1)) (by decide)
theorem o158_47 : Okp RX10 cX10_init 1 none "<init>" false 47 (sPZ 11 5 50) := ok_putZ (by decide +kernel : decode cX10_init 47 = .ok (.putfield 33, 3)) fw_X10_33 ⟨⟨tyX10_ok, nmX10⟩, Or.inl rfl, rfl⟩ rfl
theorem o158_50 : Okp RX10 cX10_init 1 none "<init>" false 50 (sLR 0 51) := ok_aload_n (by decide +kernel : decode cX10_init 50 = .ok (.aload_n 0, 1)) rfl
theorem o158_51 : Okp RX10 cX10_init 1 none "<init>" false 51 (sK 0 52) := ok_iconst (by decide +kernel : decode cX10_init 51 = .ok (.iconst 0, 1)) (by decide)
theorem o158_52 : Okp RX10 cX10_init 1 none "<init>" false 52 (sPZ 11 6 55) := ok_putZ (by decide +kernel : decode cX10_init 52 = .ok (.putfield 37, 3)) fw_X10_37 ⟨⟨tyX10_ok, nmX10⟩, Or.inl rfl, rfl⟩ rfl
theorem o158_55 : Okp RX10 cX10_init 1 none "<init>" false 55 (sLR 0 56) := ok_aload_n (by decide +kernel : decode cX10_init 55 = .ok (.aload_n 0, 1)) rfl
theorem o158_56 : Okp RX10 cX10_init 1 none "<init>" false 56 (sNul 57) := ok_null (by decide +kernel : decode cX10_init 56 = .ok (.aconst_null, 1))
theorem o158_57 : Okp RX10 cX10_init 1 none "<init>" false 57 (sPR 11 7 60) := ok_putR (by decide +kernel : decode cX10_init 57 = .ok (.putfield 40, 3)) fw_X10_40 ⟨⟨tyX10_ok, nmX10⟩, Or.inl rfl, rfl⟩ (Or.inl ⟨_, rfl⟩) rfl
theorem o158_60 : Okp RX10 cX10_init 1 none "<init>" false 60 (sLR 0 61) := ok_aload_n (by decide +kernel : decode cX10_init 60 = .ok (.aload_n 0, 1)) rfl
theorem o158_61 : Okp RX10 cX10_init 1 none "<init>" false 61 (sNul 62) := ok_null (by decide +kernel : decode cX10_init 61 = .ok (.aconst_null, 1))
theorem o158_62 : Okp RX10 cX10_init 1 none "<init>" false 62 (sPR 11 8 65) := ok_putR (by decide +kernel : decode cX10_init 62 = .ok (.putfield 44, 3)) fw_X10_44 ⟨⟨tyX10_ok, nmX10⟩, Or.inl rfl, rfl⟩ (Or.inl ⟨_, rfl⟩) rfl
theorem o158_65 : Okp RX10 cX10_init 1 none "<init>" false 65 sRV := ok_vret rfl (by decide +kernel : decode cX10_init 65 = .ok (.return_, 1))
theorem oc158_0 : ∀ pc, Mnp (c158_0 pc) ∧ Okp RX10 cX10_init 1 none "<init>" false pc (c158_0 pc) := by
  intro pc
  unfold c158_0
  split
  · exact ⟨mn_sLR, o158_0⟩
  · exact ⟨mn_sCt, o158_1⟩
  · exact ⟨mn_sLR, o158_4⟩
  · exact ⟨mn_sNew, o158_5⟩
  · exact ⟨mn_sDup, o158_8⟩
  · exact ⟨mn_sCI, o158_9⟩
  · exact ⟨mn_sPR, o158_12⟩
  · exact ⟨mn_sLR, o158_15⟩
  · exact ⟨mn_sK, o158_16⟩
  · exact ⟨mn_sNA, o158_18⟩
  · exact ⟨mn_sPR, o158_20⟩
  · exact ⟨mn_sLR, o158_23⟩
  · exact ⟨mn_sX, ok_X⟩
theorem oc158_1 : ∀ pc, Mnp (c158_1 pc) ∧ Okp RX10 cX10_init 1 none "<init>" false pc (c158_1 pc) := by
  intro pc
  unfold c158_1
  split
  · exact ⟨mn_sK, o158_24⟩
  · exact ⟨mn_sNA, o158_26⟩
  · exact ⟨mn_sPR, o158_28⟩
  · exact ⟨mn_sLR, o158_31⟩
  · exact ⟨mn_sK, o158_32⟩
  · exact ⟨mn_sNA, o158_35⟩
  · exact ⟨mn_sPR, o158_37⟩
  · exact ⟨mn_sLR, o158_40⟩
  · exact ⟨mn_sK, o158_41⟩
  · exact ⟨mn_sPI, o158_42⟩
  · exact ⟨mn_sLR, o158_45⟩
  · exact ⟨mn_sK, o158_46⟩
  · exact ⟨mn_sPZ, o158_47⟩
  · exact ⟨mn_sX, ok_X⟩
theorem oc158_2 : ∀ pc, Mnp (c158_2 pc) ∧ Okp RX10 cX10_init 1 none "<init>" false pc (c158_2 pc) := by
  intro pc
  unfold c158_2
  split
  · exact ⟨mn_sLR, o158_50⟩
  · exact ⟨mn_sK, o158_51⟩
  · exact ⟨mn_sPZ, o158_52⟩
  · exact ⟨mn_sLR, o158_55⟩
  · exact ⟨mn_sNul, o158_56⟩
  · exact ⟨mn_sPR, o158_57⟩
  · exact ⟨mn_sLR, o158_60⟩
  · exact ⟨mn_sNul, o158_61⟩
  · exact ⟨mn_sPR, o158_62⟩
  · exact ⟨mn_sRV, o158_65⟩
  · exact ⟨mn_sX, ok_X⟩
theorem oc158 : ∀ pc, Mnp (c158 pc) ∧ Okp RX10 cX10_init 1 none "<init>" false pc (c158 pc) := by
  intro pc
  unfold c158
  split
  · exact oc158_0 pc
  · exact oc158_1 pc
  · exact oc158_2 pc
  · exact ⟨mn_sX, ok_X⟩
theorem o159_0 : Okp RX10 cX10_verify 3 (some (.object "SealedProcesses$Bytes")) "verify" false 0 (sLR 0 1) := ok_aload_n (by decide +kernel : decode cX10_verify 0 = .ok (.aload_n 0, 1)) rfl
theorem o159_1 : Okp RX10 cX10_verify 3 (some (.object "SealedProcesses$Bytes")) "verify" false 1 (sGR 11 0 4) := ok_getR (by decide +kernel : decode cX10_verify 1 = .ok (.getfield 12, 3)) fw_X10_12 rfl
theorem o159_4 : Okp RX10 cX10_verify 3 (some (.object "SealedProcesses$Bytes")) "verify" false 4 (sLR 1 5) := ok_aload_n (by decide +kernel : decode cX10_verify 4 = .ok (.aload_n 1, 1)) rfl
theorem o159_5 : Okp RX10 cX10_verify 3 (some (.object "SealedProcesses$Bytes")) "verify" false 5 (sGR 10 0 8) := ok_getR (by decide +kernel : decode cX10_verify 5 = .ok (.getfield 48, 3)) fw_X10_48 rfl
theorem o159_8 : Okp RX10 cX10_verify 3 (some (.object "SealedProcesses$Bytes")) "verify" false 8 (sLR 1 9) := ok_aload_n (by decide +kernel : decode cX10_verify 8 = .ok (.aload_n 1, 1)) rfl
theorem o159_9 : Okp RX10 cX10_verify 3 (some (.object "SealedProcesses$Bytes")) "verify" false 9 (sGI 10 1 12) := ok_getI (by decide +kernel : decode cX10_verify 9 = .ok (.getfield 53, 3)) fw_X10_53 rfl
theorem o159_12 : Okp RX10 cX10_verify 3 (some (.object "SealedProcesses$Bytes")) "verify" false 12 (sCV false 11 3 2 15) := ok_cv (by decide +kernel : decode cX10_verify 12 = .ok (.invokevirtual 56, 3)) mw_X10_56 rfl (by decide) wm_X1_startOver wse_X1_startOver (by decide) rfl
theorem o159_15 : Okp RX10 cX10_verify 3 (some (.object "SealedProcesses$Bytes")) "verify" false 15 (sLR 0 16) := ok_aload_n (by decide +kernel : decode cX10_verify 15 = .ok (.aload_n 0, 1)) rfl
theorem o159_16 : Okp RX10 cX10_verify 3 (some (.object "SealedProcesses$Bytes")) "verify" false 16 (sLR 1 17) := ok_aload_n (by decide +kernel : decode cX10_verify 16 = .ok (.aload_n 1, 1)) rfl
theorem o159_17 : Okp RX10 cX10_verify 3 (some (.object "SealedProcesses$Bytes")) "verify" false 17 (sPR 11 7 20) := ok_putR (by decide +kernel : decode cX10_verify 17 = .ok (.putfield 40, 3)) fw_X10_40 ⟨⟨tyX10_ok, nmX10⟩, Or.inl rfl, rfl⟩ (Or.inl ⟨_, rfl⟩) rfl
theorem o159_20 : Okp RX10 cX10_verify 3 (some (.object "SealedProcesses$Bytes")) "verify" false 20 (sK 0 21) := ok_iconst (by decide +kernel : decode cX10_verify 20 = .ok (.iconst 0, 1)) (by decide)
theorem o159_21 : Okp RX10 cX10_verify 3 (some (.object "SealedProcesses$Bytes")) "verify" false 21 (sSI 2 22) := ok_istore_n (by decide +kernel : decode cX10_verify 21 = .ok (.istore_n 2, 1)) rfl (by decide) (by decide)
theorem o159_22 : Okp RX10 cX10_verify 3 (some (.object "SealedProcesses$Bytes")) "verify" false 22 (sLI 2 23) := ok_iload_n (by decide +kernel : decode cX10_verify 22 = .ok (.iload_n 2, 1)) rfl
theorem o159_23 : Okp RX10 cX10_verify 3 (some (.object "SealedProcesses$Bytes")) "verify" false 23 (sLR 1 24) := ok_aload_n (by decide +kernel : decode cX10_verify 23 = .ok (.aload_n 1, 1)) rfl
theorem o159_24 : Okp RX10 cX10_verify 3 (some (.object "SealedProcesses$Bytes")) "verify" false 24 (sGI 10 8 27) := ok_getI (by decide +kernel : decode cX10_verify 24 = .ok (.getfield 60, 3)) fw_X10_60 rfl
theorem o159_27 : Okp RX10 cX10_verify 3 (some (.object "SealedProcesses$Bytes")) "verify" false 27 (sI2 3 84 30) := ok_icmp_ge (by decide +kernel : decode cX10_verify 27 = .ok (.if_icmp .ge 57, 3)) (by decide)
theorem o159_30 : Okp RX10 cX10_verify 3 (some (.object "SealedProcesses$Bytes")) "verify" false 30 (sLR 0 31) := ok_aload_n (by decide +kernel : decode cX10_verify 30 = .ok (.aload_n 0, 1)) rfl
theorem o159_31 : Okp RX10 cX10_verify 3 (some (.object "SealedProcesses$Bytes")) "verify" false 31 (sGR 11 0 34) := ok_getR (by decide +kernel : decode cX10_verify 31 = .ok (.getfield 12, 3)) fw_X10_12 rfl
theorem o159_34 : Okp RX10 cX10_verify 3 (some (.object "SealedProcesses$Bytes")) "verify" false 34 (sCV false 12 1 2 37) := ok_cv (by decide +kernel : decode cX10_verify 34 = .ok (.invokevirtual 63, 3)) mw_X10_63 rfl (by decide) wm_X1_isRight wse_X1_isRight (by decide) rfl
theorem o159_37 : Okp RX10 cX10_verify 3 (some (.object "SealedProcesses$Bytes")) "verify" false 37 (sI1 0 84 40) := ok_if_eq (by decide +kernel : decode cX10_verify 37 = .ok (.ifCond .eq 47, 3)) (by decide)
theorem o159_40 : Okp RX10 cX10_verify 3 (some (.object "SealedProcesses$Bytes")) "verify" false 40 (sLR 0 41) := ok_aload_n (by decide +kernel : decode cX10_verify 40 = .ok (.aload_n 0, 1)) rfl
theorem o159_41 : Okp RX10 cX10_verify 3 (some (.object "SealedProcesses$Bytes")) "verify" false 41 (sLR 1 42) := ok_aload_n (by decide +kernel : decode cX10_verify 41 = .ok (.aload_n 1, 1)) rfl
theorem o159_42 : Okp RX10 cX10_verify 3 (some (.object "SealedProcesses$Bytes")) "verify" false 42 (sLI 2 43) := ok_iload_n (by decide +kernel : decode cX10_verify 42 = .ok (.iload_n 2, 1)) rfl
theorem o159_43 : Okp RX10 cX10_verify 3 (some (.object "SealedProcesses$Bytes")) "verify" false 43 (sCV false 149 2 10 46) := ok_cv (by decide +kernel : decode cX10_verify 43 = .ok (.invokevirtual 67, 3)) mw_X10_67 rfl (by decide) wm_X9_routineAt wse_X9_routineAt (by decide) rfl
theorem o159_46 : Okp RX10 cX10_verify 3 (some (.object "SealedProcesses$Bytes")) "verify" false 46 (sPR 11 8 49) := ok_putR (by decide +kernel : decode cX10_verify 46 = .ok (.putfield 44, 3)) fw_X10_44 ⟨⟨tyX10_ok, nmX10⟩, Or.inl rfl, rfl⟩ (Or.inl ⟨_, rfl⟩) rfl
theorem o159_49 : Okp RX10 cX10_verify 3 (some (.object "SealedProcesses$Bytes")) "verify" false 49 (sLR 0 50) := ok_aload_n (by decide +kernel : decode cX10_verify 49 = .ok (.aload_n 0, 1)) rfl
theorem o159_50 : Okp RX10 cX10_verify 3 (some (.object "SealedProcesses$Bytes")) "verify" false 50 (sGR 11 8 53) := ok_getR (by decide +kernel : decode cX10_verify 50 = .ok (.getfield 44, 3)) fw_X10_44 rfl
theorem o159_53 : Okp RX10 cX10_verify 3 (some (.object "SealedProcesses$Bytes")) "verify" false 53 (sNl 78 56) := ok_ifnull (by decide +kernel : decode cX10_verify 53 = .ok (.ifnull 25, 3)) (by decide)
theorem o159_56 : Okp RX10 cX10_verify 3 (some (.object "SealedProcesses$Bytes")) "verify" false 56 (sLR 0 57) := ok_aload_n (by decide +kernel : decode cX10_verify 56 = .ok (.aload_n 0, 1)) rfl
theorem o159_57 : Okp RX10 cX10_verify 3 (some (.object "SealedProcesses$Bytes")) "verify" false 57 (sCV false 160 1 11 60) := ok_cv (by decide +kernel : decode cX10_verify 57 = .ok (.invokevirtual 71, 3)) mw_X10_71 rfl (by decide) wm_X10_isRoutineRight wse_X10_isRoutineRight (by decide) rfl
theorem o159_60 : Okp RX10 cX10_verify 3 (some (.object "SealedProcesses$Bytes")) "verify" false 60 (sI1 1 78 63) := ok_if_ne (by decide +kernel : decode cX10_verify 60 = .ok (.ifCond .ne 18, 3)) (by decide)
theorem o159_63 : Okp RX10 cX10_verify 3 (some (.object "SealedProcesses$Bytes")) "verify" false 63 (sLR 0 64) := ok_aload_n (by decide +kernel : decode cX10_verify 63 = .ok (.aload_n 0, 1)) rfl
theorem o159_64 : Okp RX10 cX10_verify 3 (some (.object "SealedProcesses$Bytes")) "verify" false 64 (sGR 11 0 67) := ok_getR (by decide +kernel : decode cX10_verify 64 = .ok (.getfield 12, 3)) fw_X10_12 rfl
theorem o159_67 : Okp RX10 cX10_verify 3 (some (.object "SealedProcesses$Bytes")) "verify" false 67 (sK 2 68) := ok_iconst (by decide +kernel : decode cX10_verify 67 = .ok (.iconst 2, 1)) (by decide)
theorem o159_68 : Okp RX10 cX10_verify 3 (some (.object "SealedProcesses$Bytes")) "verify" false 68 (sLR 0 69) := ok_aload_n (by decide +kernel : decode cX10_verify 68 = .ok (.aload_n 0, 1)) rfl
theorem o159_69 : Okp RX10 cX10_verify 3 (some (.object "SealedProcesses$Bytes")) "verify" false 69 (sGR 11 8 72) := ok_getR (by decide +kernel : decode cX10_verify 69 = .ok (.getfield 44, 3)) fw_X10_44 rfl
theorem o159_72 : Okp RX10 cX10_verify 3 (some (.object "SealedProcesses$Bytes")) "verify" false 72 (sGI 8 5 75) := ok_getI (by decide +kernel : decode cX10_verify 72 = .ok (.getfield 74, 3)) fw_X10_74 rfl
theorem o159_75 : Okp RX10 cX10_verify 3 (some (.object "SealedProcesses$Bytes")) "verify" false 75 (sCV false 13 3 2 78) := ok_cv (by decide +kernel : decode cX10_verify 75 = .ok (.invokevirtual 79, 3)) mw_X10_79 rfl (by decide) wm_X1_fail wse_X1_fail (by decide) rfl
theorem o159_78 : Okp RX10 cX10_verify 3 (some (.object "SealedProcesses$Bytes")) "verify" false 78 (sInc 2 1 81) := ok_iinc (by decide +kernel : decode cX10_verify 78 = .ok (.iinc 2 1, 3)) (by decide) (by decide)
theorem o159_81 : Okp RX10 cX10_verify 3 (some (.object "SealedProcesses$Bytes")) "verify" false 81 (sGo 22) := ok_goto (by decide +kernel : decode cX10_verify 81 = .ok (.goto (-59), 3)) (by decide)
theorem o159_84 : Okp RX10 cX10_verify 3 (some (.object "SealedProcesses$Bytes")) "verify" false 84 (sLR 0 85) := ok_aload_n (by decide +kernel : decode cX10_verify 84 = .ok (.aload_n 0, 1)) rfl
theorem o159_85 : Okp RX10 cX10_verify 3 (some (.object "SealedProcesses$Bytes")) "verify" false 85 (sNul 86) := ok_null (by decide +kernel : decode cX10_verify 85 = .ok (.aconst_null, 1))
theorem o159_86 : Okp RX10 cX10_verify 3 (some (.object "SealedProcesses$Bytes")) "verify" false 86 (sPR 11 7 89) := ok_putR (by decide +kernel : decode cX10_verify 86 = .ok (.putfield 40, 3)) fw_X10_40 ⟨⟨tyX10_ok, nmX10⟩, Or.inl rfl, rfl⟩ (Or.inl ⟨_, rfl⟩) rfl
theorem o159_89 : Okp RX10 cX10_verify 3 (some (.object "SealedProcesses$Bytes")) "verify" false 89 (sLR 0 90) := ok_aload_n (by decide +kernel : decode cX10_verify 89 = .ok (.aload_n 0, 1)) rfl
theorem o159_90 : Okp RX10 cX10_verify 3 (some (.object "SealedProcesses$Bytes")) "verify" false 90 (sNul 91) := ok_null (by decide +kernel : decode cX10_verify 90 = .ok (.aconst_null, 1))
theorem o159_91 : Okp RX10 cX10_verify 3 (some (.object "SealedProcesses$Bytes")) "verify" false 91 (sPR 11 8 94) := ok_putR (by decide +kernel : decode cX10_verify 91 = .ok (.putfield 44, 3)) fw_X10_44 ⟨⟨tyX10_ok, nmX10⟩, Or.inl rfl, rfl⟩ (Or.inl ⟨_, rfl⟩) rfl
theorem o159_94 : Okp RX10 cX10_verify 3 (some (.object "SealedProcesses$Bytes")) "verify" false 94 (sLR 0 95) := ok_aload_n (by decide +kernel : decode cX10_verify 94 = .ok (.aload_n 0, 1)) rfl
theorem o159_95 : Okp RX10 cX10_verify 3 (some (.object "SealedProcesses$Bytes")) "verify" false 95 (sGR 11 0 98) := ok_getR (by decide +kernel : decode cX10_verify 95 = .ok (.getfield 12, 3)) fw_X10_12 rfl
theorem o159_98 : Okp RX10 cX10_verify 3 (some (.object "SealedProcesses$Bytes")) "verify" false 98 sRR := ok_aret rfl (Or.inl ⟨_, rfl⟩) (by decide +kernel : decode cX10_verify 98 = .ok (.areturn, 1))
theorem oc159_0 : ∀ pc, Mnp (c159_0 pc) ∧ Okp RX10 cX10_verify 3 (some (.object "SealedProcesses$Bytes")) "verify" false pc (c159_0 pc) := by
  intro pc
  unfold c159_0
  split
  · exact ⟨mn_sLR, o159_0⟩
  · exact ⟨mn_sGR, o159_1⟩
  · exact ⟨mn_sLR, o159_4⟩
  · exact ⟨mn_sGR, o159_5⟩
  · exact ⟨mn_sLR, o159_8⟩
  · exact ⟨mn_sGI, o159_9⟩
  · exact ⟨mn_sCV, o159_12⟩
  · exact ⟨mn_sLR, o159_15⟩
  · exact ⟨mn_sLR, o159_16⟩
  · exact ⟨mn_sPR, o159_17⟩
  · exact ⟨mn_sK, o159_20⟩
  · exact ⟨mn_sSI, o159_21⟩
  · exact ⟨mn_sLI, o159_22⟩
  · exact ⟨mn_sLR, o159_23⟩
  · exact ⟨mn_sX, ok_X⟩
theorem oc159_1 : ∀ pc, Mnp (c159_1 pc) ∧ Okp RX10 cX10_verify 3 (some (.object "SealedProcesses$Bytes")) "verify" false pc (c159_1 pc) := by
  intro pc
  unfold c159_1
  split
  · exact ⟨mn_sGI, o159_24⟩
  · exact ⟨mn_sI2, o159_27⟩
  · exact ⟨mn_sLR, o159_30⟩
  · exact ⟨mn_sGR, o159_31⟩
  · exact ⟨mn_sCV, o159_34⟩
  · exact ⟨mn_sI1, o159_37⟩
  · exact ⟨mn_sLR, o159_40⟩
  · exact ⟨mn_sLR, o159_41⟩
  · exact ⟨mn_sLI, o159_42⟩
  · exact ⟨mn_sCV, o159_43⟩
  · exact ⟨mn_sPR, o159_46⟩
  · exact ⟨mn_sX, ok_X⟩
theorem oc159_2 : ∀ pc, Mnp (c159_2 pc) ∧ Okp RX10 cX10_verify 3 (some (.object "SealedProcesses$Bytes")) "verify" false pc (c159_2 pc) := by
  intro pc
  unfold c159_2
  split
  · exact ⟨mn_sLR, o159_49⟩
  · exact ⟨mn_sGR, o159_50⟩
  · exact ⟨mn_sNl, o159_53⟩
  · exact ⟨mn_sLR, o159_56⟩
  · exact ⟨mn_sCV, o159_57⟩
  · exact ⟨mn_sI1, o159_60⟩
  · exact ⟨mn_sLR, o159_63⟩
  · exact ⟨mn_sGR, o159_64⟩
  · exact ⟨mn_sK, o159_67⟩
  · exact ⟨mn_sLR, o159_68⟩
  · exact ⟨mn_sGR, o159_69⟩
  · exact ⟨mn_sX, ok_X⟩
theorem oc159_3 : ∀ pc, Mnp (c159_3 pc) ∧ Okp RX10 cX10_verify 3 (some (.object "SealedProcesses$Bytes")) "verify" false pc (c159_3 pc) := by
  intro pc
  unfold c159_3
  split
  · exact ⟨mn_sGI, o159_72⟩
  · exact ⟨mn_sCV, o159_75⟩
  · exact ⟨mn_sInc, o159_78⟩
  · exact ⟨mn_sGo, o159_81⟩
  · exact ⟨mn_sLR, o159_84⟩
  · exact ⟨mn_sNul, o159_85⟩
  · exact ⟨mn_sPR, o159_86⟩
  · exact ⟨mn_sLR, o159_89⟩
  · exact ⟨mn_sNul, o159_90⟩
  · exact ⟨mn_sPR, o159_91⟩
  · exact ⟨mn_sLR, o159_94⟩
  · exact ⟨mn_sGR, o159_95⟩
  · exact ⟨mn_sX, ok_X⟩
theorem oc159_4 : ∀ pc, Mnp (c159_4 pc) ∧ Okp RX10 cX10_verify 3 (some (.object "SealedProcesses$Bytes")) "verify" false pc (c159_4 pc) := by
  intro pc
  unfold c159_4
  split
  · exact ⟨mn_sRR, o159_98⟩
  · exact ⟨mn_sX, ok_X⟩
theorem oc159 : ∀ pc, Mnp (c159 pc) ∧ Okp RX10 cX10_verify 3 (some (.object "SealedProcesses$Bytes")) "verify" false pc (c159 pc) := by
  intro pc
  unfold c159
  split
  · exact oc159_0 pc
  · exact oc159_1 pc
  · exact oc159_2 pc
  · exact oc159_3 pc
  · exact oc159_4 pc
  · exact ⟨mn_sX, ok_X⟩
theorem o160_0 : Okp RX10 cX10_isRoutineRight 3 (some .boolean) "isRoutineRight" false 0 (sLR 0 1) := ok_aload_n (by decide +kernel : decode cX10_isRoutineRight 0 = .ok (.aload_n 0, 1)) rfl
theorem o160_1 : Okp RX10 cX10_isRoutineRight 3 (some .boolean) "isRoutineRight" false 1 (sGR 11 8 4) := ok_getR (by decide +kernel : decode cX10_isRoutineRight 1 = .ok (.getfield 44, 3)) fw_X10_44 rfl
theorem o160_4 : Okp RX10 cX10_isRoutineRight 3 (some .boolean) "isRoutineRight" false 4 (sCV false 110 1 8 7) := ok_cv (by decide +kernel : decode cX10_isRoutineRight 4 = .ok (.invokevirtual 83, 3)) mw_X10_83 rfl (by decide) wm_X7_prepare wse_X7_prepare (by decide) rfl
theorem o160_7 : Okp RX10 cX10_isRoutineRight 3 (some .boolean) "isRoutineRight" false 7 (sLR 0 8) := ok_aload_n (by decide +kernel : decode cX10_isRoutineRight 7 = .ok (.aload_n 0, 1)) rfl
theorem o160_8 : Okp RX10 cX10_isRoutineRight 3 (some .boolean) "isRoutineRight" false 8 (sK 0 9) := ok_iconst (by decide +kernel : decode cX10_isRoutineRight 8 = .ok (.iconst 0, 1)) (by decide)
theorem o160_9 : Okp RX10 cX10_isRoutineRight 3 (some .boolean) "isRoutineRight" false 9 (sPZ 11 5 12) := ok_putZ (by decide +kernel : decode cX10_isRoutineRight 9 = .ok (.putfield 33, 3)) fw_X10_33 ⟨⟨tyX10_ok, nmX10⟩, Or.inl rfl, rfl⟩ rfl
theorem o160_12 : Okp RX10 cX10_isRoutineRight 3 (some .boolean) "isRoutineRight" false 12 (sLR 0 13) := ok_aload_n (by decide +kernel : decode cX10_isRoutineRight 12 = .ok (.aload_n 0, 1)) rfl
theorem o160_13 : Okp RX10 cX10_isRoutineRight 3 (some .boolean) "isRoutineRight" false 13 (sK 0 14) := ok_iconst (by decide +kernel : decode cX10_isRoutineRight 13 = .ok (.iconst 0, 1)) (by decide)
theorem o160_14 : Okp RX10 cX10_isRoutineRight 3 (some .boolean) "isRoutineRight" false 14 (sPI 11 4 17) := ok_putI (by decide +kernel : decode cX10_isRoutineRight 14 = .ok (.putfield 29, 3)) fw_X10_29 ⟨⟨tyX10_ok, nmX10⟩, Or.inl rfl, rfl⟩ rfl
theorem o160_17 : Okp RX10 cX10_isRoutineRight 3 (some .boolean) "isRoutineRight" false 17 (sK 0 18) := ok_iconst (by decide +kernel : decode cX10_isRoutineRight 17 = .ok (.iconst 0, 1)) (by decide)
theorem o160_18 : Okp RX10 cX10_isRoutineRight 3 (some .boolean) "isRoutineRight" false 18 (sSI 1 19) := ok_istore_n (by decide +kernel : decode cX10_isRoutineRight 18 = .ok (.istore_n 1, 1)) rfl (by decide) (by decide)
theorem o160_19 : Okp RX10 cX10_isRoutineRight 3 (some .boolean) "isRoutineRight" false 19 (sLI 1 20) := ok_iload_n (by decide +kernel : decode cX10_isRoutineRight 19 = .ok (.iload_n 1, 1)) rfl
theorem o160_20 : Okp RX10 cX10_isRoutineRight 3 (some .boolean) "isRoutineRight" false 20 (sK 240 23) := ok_sipush (by decide +kernel : decode cX10_isRoutineRight 20 = .ok (.sipush 240, 3)) (by decide)
theorem o160_23 : Okp RX10 cX10_isRoutineRight 3 (some .boolean) "isRoutineRight" false 23 (sI2 3 39 26) := ok_icmp_ge (by decide +kernel : decode cX10_isRoutineRight 23 = .ok (.if_icmp .ge 16, 3)) (by decide)
theorem o160_26 : Okp RX10 cX10_isRoutineRight 3 (some .boolean) "isRoutineRight" false 26 (sLR 0 27) := ok_aload_n (by decide +kernel : decode cX10_isRoutineRight 26 = .ok (.aload_n 0, 1)) rfl
theorem o160_27 : Okp RX10 cX10_isRoutineRight 3 (some .boolean) "isRoutineRight" false 27 (sGR 11 3 30) := ok_getR (by decide +kernel : decode cX10_isRoutineRight 27 = .ok (.getfield 25, 3)) fw_X10_25 rfl
theorem o160_30 : Okp RX10 cX10_isRoutineRight 3 (some .boolean) "isRoutineRight" false 30 (sLI 1 31) := ok_iload_n (by decide +kernel : decode cX10_isRoutineRight 30 = .ok (.iload_n 1, 1)) rfl
theorem o160_31 : Okp RX10 cX10_isRoutineRight 3 (some .boolean) "isRoutineRight" false 31 (sK 0 32) := ok_iconst (by decide +kernel : decode cX10_isRoutineRight 31 = .ok (.iconst 0, 1)) (by decide)
theorem o160_32 : Okp RX10 cX10_isRoutineRight 3 (some .boolean) "isRoutineRight" false 32 (sBS 33) := ok_bastore (by decide +kernel : decode cX10_isRoutineRight 32 = .ok (.bastore, 1))
theorem o160_33 : Okp RX10 cX10_isRoutineRight 3 (some .boolean) "isRoutineRight" false 33 (sInc 1 1 36) := ok_iinc (by decide +kernel : decode cX10_isRoutineRight 33 = .ok (.iinc 1 1, 3)) (by decide) (by decide)
theorem o160_36 : Okp RX10 cX10_isRoutineRight 3 (some .boolean) "isRoutineRight" false 36 (sGo 19) := ok_goto (by decide +kernel : decode cX10_isRoutineRight 36 = .ok (.goto (-17), 3)) (by decide)
theorem o160_39 : Okp RX10 cX10_isRoutineRight 3 (some .boolean) "isRoutineRight" false 39 (sK 0 40) := ok_iconst (by decide +kernel : decode cX10_isRoutineRight 39 = .ok (.iconst 0, 1)) (by decide)
theorem o160_40 : Okp RX10 cX10_isRoutineRight 3 (some .boolean) "isRoutineRight" false 40 (sSI 1 41) := ok_istore_n (by decide +kernel : decode cX10_isRoutineRight 40 = .ok (.istore_n 1, 1)) rfl (by decide) (by decide)
theorem o160_41 : Okp RX10 cX10_isRoutineRight 3 (some .boolean) "isRoutineRight" false 41 (sLI 1 42) := ok_iload_n (by decide +kernel : decode cX10_isRoutineRight 41 = .ok (.iload_n 1, 1)) rfl
theorem o160_42 : Okp RX10 cX10_isRoutineRight 3 (some .boolean) "isRoutineRight" false 42 (sK 10 44) := ok_bipush (by decide +kernel : decode cX10_isRoutineRight 42 = .ok (.bipush 10, 2)) (by decide)
theorem o160_44 : Okp RX10 cX10_isRoutineRight 3 (some .boolean) "isRoutineRight" false 44 (sI2 3 83 47) := ok_icmp_ge (by decide +kernel : decode cX10_isRoutineRight 44 = .ok (.if_icmp .ge 39, 3)) (by decide)
theorem o160_47 : Okp RX10 cX10_isRoutineRight 3 (some .boolean) "isRoutineRight" false 47 (sLR 0 48) := ok_aload_n (by decide +kernel : decode cX10_isRoutineRight 47 = .ok (.aload_n 0, 1)) rfl
theorem o160_48 : Okp RX10 cX10_isRoutineRight 3 (some .boolean) "isRoutineRight" false 48 (sGR 11 2 51) := ok_getR (by decide +kernel : decode cX10_isRoutineRight 48 = .ok (.getfield 22, 3)) fw_X10_22 rfl
theorem o160_51 : Okp RX10 cX10_isRoutineRight 3 (some .boolean) "isRoutineRight" false 51 (sLI 1 52) := ok_iload_n (by decide +kernel : decode cX10_isRoutineRight 51 = .ok (.iload_n 1, 1)) rfl
theorem o160_52 : Okp RX10 cX10_isRoutineRight 3 (some .boolean) "isRoutineRight" false 52 (sLI 1 53) := ok_iload_n (by decide +kernel : decode cX10_isRoutineRight 52 = .ok (.iload_n 1, 1)) rfl
theorem o160_53 : Okp RX10 cX10_isRoutineRight 3 (some .boolean) "isRoutineRight" false 53 (sLR 0 54) := ok_aload_n (by decide +kernel : decode cX10_isRoutineRight 53 = .ok (.aload_n 0, 1)) rfl
theorem o160_54 : Okp RX10 cX10_isRoutineRight 3 (some .boolean) "isRoutineRight" false 54 (sGR 11 8 57) := ok_getR (by decide +kernel : decode cX10_isRoutineRight 54 = .ok (.getfield 44, 3)) fw_X10_44 rfl
theorem o160_57 : Okp RX10 cX10_isRoutineRight 3 (some .boolean) "isRoutineRight" false 57 (sGI 8 0 60) := ok_getI (by decide +kernel : decode cX10_isRoutineRight 57 = .ok (.getfield 86, 3)) fw_X10_86 rfl
theorem o160_60 : Okp RX10 cX10_isRoutineRight 3 (some .boolean) "isRoutineRight" false 60 (sI2 3 74 63) := ok_icmp_ge (by decide +kernel : decode cX10_isRoutineRight 60 = .ok (.if_icmp .ge 14, 3)) (by decide)
theorem o160_63 : Okp RX10 cX10_isRoutineRight 3 (some .boolean) "isRoutineRight" false 63 (sLR 0 64) := ok_aload_n (by decide +kernel : decode cX10_isRoutineRight 63 = .ok (.aload_n 0, 1)) rfl
theorem o160_64 : Okp RX10 cX10_isRoutineRight 3 (some .boolean) "isRoutineRight" false 64 (sGR 11 8 67) := ok_getR (by decide +kernel : decode cX10_isRoutineRight 64 = .ok (.getfield 44, 3)) fw_X10_44 rfl
theorem o160_67 : Okp RX10 cX10_isRoutineRight 3 (some .boolean) "isRoutineRight" false 67 (sLI 1 68) := ok_iload_n (by decide +kernel : decode cX10_isRoutineRight 67 = .ok (.iload_n 1, 1)) rfl
theorem o160_68 : Okp RX10 cX10_isRoutineRight 3 (some .boolean) "isRoutineRight" false 68 (sCV false 107 2 8 71) := ok_cv (by decide +kernel : decode cX10_isRoutineRight 68 = .ok (.invokevirtual 89, 3)) mw_X10_89 rfl (by decide) wm_X7_typeOfParameter wse_X7_typeOfParameter (by decide) rfl
theorem o160_71 : Okp RX10 cX10_isRoutineRight 3 (some .boolean) "isRoutineRight" false 71 (sGo 76) := ok_goto (by decide +kernel : decode cX10_isRoutineRight 71 = .ok (.goto 5, 3)) (by decide)
theorem o160_74 : Okp RX10 cX10_isRoutineRight 3 (some .boolean) "isRoutineRight" false 74 (sK 7 76) := ok_bipush (by decide +kernel : decode cX10_isRoutineRight 74 = .ok (.bipush 7, 2)) (by decide)
theorem o160_76 : Okp RX10 cX10_isRoutineRight 3 (some .boolean) "isRoutineRight" false 76 (sIS 77) := ok_iastore (by decide +kernel : decode cX10_isRoutineRight 76 = .ok (.iastore, 1))
theorem o160_77 : Okp RX10 cX10_isRoutineRight 3 (some .boolean) "isRoutineRight" false 77 (sInc 1 1 80) := ok_iinc (by decide +kernel : decode cX10_isRoutineRight 77 = .ok (.iinc 1 1, 3)) (by decide) (by decide)
theorem o160_80 : Okp RX10 cX10_isRoutineRight 3 (some .boolean) "isRoutineRight" false 80 (sGo 41) := ok_goto (by decide +kernel : decode cX10_isRoutineRight 80 = .ok (.goto (-39), 3)) (by decide)
theorem o160_83 : Okp RX10 cX10_isRoutineRight 3 (some .boolean) "isRoutineRight" false 83 (sLR 0 84) := ok_aload_n (by decide +kernel : decode cX10_isRoutineRight 83 = .ok (.aload_n 0, 1)) rfl
theorem o160_84 : Okp RX10 cX10_isRoutineRight 3 (some .boolean) "isRoutineRight" false 84 (sK 0 85) := ok_iconst (by decide +kernel : decode cX10_isRoutineRight 84 = .ok (.iconst 0, 1)) (by decide)
theorem o160_85 : Okp RX10 cX10_isRoutineRight 3 (some .boolean) "isRoutineRight" false 85 (sCV false 162 2 11 88) := ok_cv (by decide +kernel : decode cX10_isRoutineRight 85 = .ok (.invokevirtual 93, 3)) mw_X10_93 rfl (by decide) wm_X10_arriveAt wse_X10_arriveAt (by decide) rfl
theorem o160_88 : Okp RX10 cX10_isRoutineRight 3 (some .boolean) "isRoutineRight" false 88 (sK 0 89) := ok_iconst (by decide +kernel : decode cX10_isRoutineRight 88 = .ok (.iconst 0, 1)) (by decide)
theorem o160_89 : Okp RX10 cX10_isRoutineRight 3 (some .boolean) "isRoutineRight" false 89 (sSI 1 90) := ok_istore_n (by decide +kernel : decode cX10_isRoutineRight 89 = .ok (.istore_n 1, 1)) rfl (by decide) (by decide)
theorem o160_90 : Okp RX10 cX10_isRoutineRight 3 (some .boolean) "isRoutineRight" false 90 (sLI 1 91) := ok_iload_n (by decide +kernel : decode cX10_isRoutineRight 90 = .ok (.iload_n 1, 1)) rfl
theorem o160_91 : Okp RX10 cX10_isRoutineRight 3 (some .boolean) "isRoutineRight" false 91 (sK 12721 94) := ok_sipush (by decide +kernel : decode cX10_isRoutineRight 91 = .ok (.sipush 12721, 3)) (by decide)
theorem o160_94 : Okp RX10 cX10_isRoutineRight 3 (some .boolean) "isRoutineRight" false 94 (sI2 3 181 97) := ok_icmp_ge (by decide +kernel : decode cX10_isRoutineRight 94 = .ok (.if_icmp .ge 87, 3)) (by decide)
theorem o160_97 : Okp RX10 cX10_isRoutineRight 3 (some .boolean) "isRoutineRight" false 97 (sLR 0 98) := ok_aload_n (by decide +kernel : decode cX10_isRoutineRight 97 = .ok (.aload_n 0, 1)) rfl
theorem o160_98 : Okp RX10 cX10_isRoutineRight 3 (some .boolean) "isRoutineRight" false 98 (sGI 11 6 101) := ok_getI (by decide +kernel : decode cX10_isRoutineRight 98 = .ok (.getfield 37, 3)) fw_X10_37 rfl
theorem o160_101 : Okp RX10 cX10_isRoutineRight 3 (some .boolean) "isRoutineRight" false 101 (sI1 0 181 104) := ok_if_eq (by decide +kernel : decode cX10_isRoutineRight 101 = .ok (.ifCond .eq 80, 3)) (by decide)
theorem o160_104 : Okp RX10 cX10_isRoutineRight 3 (some .boolean) "isRoutineRight" false 104 (sLR 0 105) := ok_aload_n (by decide +kernel : decode cX10_isRoutineRight 104 = .ok (.aload_n 0, 1)) rfl
theorem o160_105 : Okp RX10 cX10_isRoutineRight 3 (some .boolean) "isRoutineRight" false 105 (sGI 11 5 108) := ok_getI (by decide +kernel : decode cX10_isRoutineRight 105 = .ok (.getfield 33, 3)) fw_X10_33 rfl
theorem o160_108 : Okp RX10 cX10_isRoutineRight 3 (some .boolean) "isRoutineRight" false 108 (sI1 1 181 111) := ok_if_ne (by decide +kernel : decode cX10_isRoutineRight 108 = .ok (.ifCond .ne 73, 3)) (by decide)
theorem o160_111 : Okp RX10 cX10_isRoutineRight 3 (some .boolean) "isRoutineRight" false 111 (sLR 0 112) := ok_aload_n (by decide +kernel : decode cX10_isRoutineRight 111 = .ok (.aload_n 0, 1)) rfl
theorem o160_112 : Okp RX10 cX10_isRoutineRight 3 (some .boolean) "isRoutineRight" false 112 (sK 0 113) := ok_iconst (by decide +kernel : decode cX10_isRoutineRight 112 = .ok (.iconst 0, 1)) (by decide)
theorem o160_113 : Okp RX10 cX10_isRoutineRight 3 (some .boolean) "isRoutineRight" false 113 (sPZ 11 6 116) := ok_putZ (by decide +kernel : decode cX10_isRoutineRight 113 = .ok (.putfield 37, 3)) fw_X10_37 ⟨⟨tyX10_ok, nmX10⟩, Or.inl rfl, rfl⟩ rfl
theorem o160_116 : Okp RX10 cX10_isRoutineRight 3 (some .boolean) "isRoutineRight" false 116 (sK 0 117) := ok_iconst (by decide +kernel : decode cX10_isRoutineRight 116 = .ok (.iconst 0, 1)) (by decide)
theorem o160_117 : Okp RX10 cX10_isRoutineRight 3 (some .boolean) "isRoutineRight" false 117 (sSI 2 118) := ok_istore_n (by decide +kernel : decode cX10_isRoutineRight 117 = .ok (.istore_n 2, 1)) rfl (by decide) (by decide)
theorem o160_118 : Okp RX10 cX10_isRoutineRight 3 (some .boolean) "isRoutineRight" false 118 (sLI 2 119) := ok_iload_n (by decide +kernel : decode cX10_isRoutineRight 118 = .ok (.iload_n 2, 1)) rfl
theorem o160_119 : Okp RX10 cX10_isRoutineRight 3 (some .boolean) "isRoutineRight" false 119 (sLR 0 120) := ok_aload_n (by decide +kernel : decode cX10_isRoutineRight 119 = .ok (.aload_n 0, 1)) rfl
theorem o160_120 : Okp RX10 cX10_isRoutineRight 3 (some .boolean) "isRoutineRight" false 120 (sGR 11 8 123) := ok_getR (by decide +kernel : decode cX10_isRoutineRight 120 = .ok (.getfield 44, 3)) fw_X10_44 rfl
theorem o160_123 : Okp RX10 cX10_isRoutineRight 3 (some .boolean) "isRoutineRight" false 123 (sGI 8 4 126) := ok_getI (by decide +kernel : decode cX10_isRoutineRight 123 = .ok (.getfield 97, 3)) fw_X10_97 rfl
theorem o160_126 : Okp RX10 cX10_isRoutineRight 3 (some .boolean) "isRoutineRight" false 126 (sI2 3 175 129) := ok_icmp_ge (by decide +kernel : decode cX10_isRoutineRight 126 = .ok (.if_icmp .ge 49, 3)) (by decide)
theorem o160_129 : Okp RX10 cX10_isRoutineRight 3 (some .boolean) "isRoutineRight" false 129 (sLR 0 130) := ok_aload_n (by decide +kernel : decode cX10_isRoutineRight 129 = .ok (.aload_n 0, 1)) rfl
theorem o160_130 : Okp RX10 cX10_isRoutineRight 3 (some .boolean) "isRoutineRight" false 130 (sGI 11 5 133) := ok_getI (by decide +kernel : decode cX10_isRoutineRight 130 = .ok (.getfield 33, 3)) fw_X10_33 rfl
theorem o160_133 : Okp RX10 cX10_isRoutineRight 3 (some .boolean) "isRoutineRight" false 133 (sI1 1 175 136) := ok_if_ne (by decide +kernel : decode cX10_isRoutineRight 133 = .ok (.ifCond .ne 42, 3)) (by decide)
theorem o160_136 : Okp RX10 cX10_isRoutineRight 3 (some .boolean) "isRoutineRight" false 136 (sLI 2 137) := ok_iload_n (by decide +kernel : decode cX10_isRoutineRight 136 = .ok (.iload_n 2, 1)) rfl
theorem o160_137 : Okp RX10 cX10_isRoutineRight 3 (some .boolean) "isRoutineRight" false 137 (sK 240 140) := ok_sipush (by decide +kernel : decode cX10_isRoutineRight 137 = .ok (.sipush 240, 3)) (by decide)
theorem o160_140 : Okp RX10 cX10_isRoutineRight 3 (some .boolean) "isRoutineRight" false 140 (sI2 3 169 143) := ok_icmp_ge (by decide +kernel : decode cX10_isRoutineRight 140 = .ok (.if_icmp .ge 29, 3)) (by decide)
theorem o160_143 : Okp RX10 cX10_isRoutineRight 3 (some .boolean) "isRoutineRight" false 143 (sLR 0 144) := ok_aload_n (by decide +kernel : decode cX10_isRoutineRight 143 = .ok (.aload_n 0, 1)) rfl
theorem o160_144 : Okp RX10 cX10_isRoutineRight 3 (some .boolean) "isRoutineRight" false 144 (sGR 11 3 147) := ok_getR (by decide +kernel : decode cX10_isRoutineRight 144 = .ok (.getfield 25, 3)) fw_X10_25 rfl
theorem o160_147 : Okp RX10 cX10_isRoutineRight 3 (some .boolean) "isRoutineRight" false 147 (sLI 2 148) := ok_iload_n (by decide +kernel : decode cX10_isRoutineRight 147 = .ok (.iload_n 2, 1)) rfl
theorem o160_148 : Okp RX10 cX10_isRoutineRight 3 (some .boolean) "isRoutineRight" false 148 (sBA 149) := ok_baload (by decide +kernel : decode cX10_isRoutineRight 148 = .ok (.baload, 1))
theorem o160_149 : Okp RX10 cX10_isRoutineRight 3 (some .boolean) "isRoutineRight" false 149 (sI1 0 169 152) := ok_if_eq (by decide +kernel : decode cX10_isRoutineRight 149 = .ok (.ifCond .eq 20, 3)) (by decide)
theorem o160_152 : Okp RX10 cX10_isRoutineRight 3 (some .boolean) "isRoutineRight" false 152 (sLR 0 153) := ok_aload_n (by decide +kernel : decode cX10_isRoutineRight 152 = .ok (.aload_n 0, 1)) rfl
theorem o160_153 : Okp RX10 cX10_isRoutineRight 3 (some .boolean) "isRoutineRight" false 153 (sGR 11 3 156) := ok_getR (by decide +kernel : decode cX10_isRoutineRight 153 = .ok (.getfield 25, 3)) fw_X10_25 rfl
theorem o160_156 : Okp RX10 cX10_isRoutineRight 3 (some .boolean) "isRoutineRight" false 156 (sLI 2 157) := ok_iload_n (by decide +kernel : decode cX10_isRoutineRight 156 = .ok (.iload_n 2, 1)) rfl
theorem o160_157 : Okp RX10 cX10_isRoutineRight 3 (some .boolean) "isRoutineRight" false 157 (sK 0 158) := ok_iconst (by decide +kernel : decode cX10_isRoutineRight 157 = .ok (.iconst 0, 1)) (by decide)
theorem o160_158 : Okp RX10 cX10_isRoutineRight 3 (some .boolean) "isRoutineRight" false 158 (sBS 159) := ok_bastore (by decide +kernel : decode cX10_isRoutineRight 158 = .ok (.bastore, 1))
theorem o160_159 : Okp RX10 cX10_isRoutineRight 3 (some .boolean) "isRoutineRight" false 159 (sLR 0 160) := ok_aload_n (by decide +kernel : decode cX10_isRoutineRight 159 = .ok (.aload_n 0, 1)) rfl
theorem o160_160 : Okp RX10 cX10_isRoutineRight 3 (some .boolean) "isRoutineRight" false 160 (sLI 2 161) := ok_iload_n (by decide +kernel : decode cX10_isRoutineRight 160 = .ok (.iload_n 2, 1)) rfl
theorem o160_161 : Okp RX10 cX10_isRoutineRight 3 (some .boolean) "isRoutineRight" false 161 (sCV false 161 2 11 164) := ok_cv (by decide +kernel : decode cX10_isRoutineRight 161 = .ok (.invokevirtual 98, 3)) mw_X10_98 rfl (by decide) wm_X10_takeUp wse_X10_takeUp (by decide) rfl
theorem o160_164 : Okp RX10 cX10_isRoutineRight 3 (some .boolean) "isRoutineRight" false 164 (sLR 0 165) := ok_aload_n (by decide +kernel : decode cX10_isRoutineRight 164 = .ok (.aload_n 0, 1)) rfl
theorem o160_165 : Okp RX10 cX10_isRoutineRight 3 (some .boolean) "isRoutineRight" false 165 (sLI 2 166) := ok_iload_n (by decide +kernel : decode cX10_isRoutineRight 165 = .ok (.iload_n 2, 1)) rfl
theorem o160_166 : Okp RX10 cX10_isRoutineRight 3 (some .boolean) "isRoutineRight" false 166 (sCV false 169 2 11 169) := ok_cv (by decide +kernel : decode cX10_isRoutineRight 166 = .ok (.invokevirtual 101, 3)) mw_X10_101 rfl (by decide) wm_X10_follow wse_X10_follow (by decide) rfl
theorem o160_169 : Okp RX10 cX10_isRoutineRight 3 (some .boolean) "isRoutineRight" false 169 (sInc 2 1 172) := ok_iinc (by decide +kernel : decode cX10_isRoutineRight 169 = .ok (.iinc 2 1, 3)) (by decide) (by decide)
theorem o160_172 : Okp RX10 cX10_isRoutineRight 3 (some .boolean) "isRoutineRight" false 172 (sGo 118) := ok_goto (by decide +kernel : decode cX10_isRoutineRight 172 = .ok (.goto (-54), 3)) (by decide)
theorem o160_175 : Okp RX10 cX10_isRoutineRight 3 (some .boolean) "isRoutineRight" false 175 (sInc 1 1 178) := ok_iinc (by decide +kernel : decode cX10_isRoutineRight 175 = .ok (.iinc 1 1, 3)) (by decide) (by decide)
theorem o160_178 : Okp RX10 cX10_isRoutineRight 3 (some .boolean) "isRoutineRight" false 178 (sGo 90) := ok_goto (by decide +kernel : decode cX10_isRoutineRight 178 = .ok (.goto (-88), 3)) (by decide)
theorem o160_181 : Okp RX10 cX10_isRoutineRight 3 (some .boolean) "isRoutineRight" false 181 (sLR 0 182) := ok_aload_n (by decide +kernel : decode cX10_isRoutineRight 181 = .ok (.aload_n 0, 1)) rfl
theorem o160_182 : Okp RX10 cX10_isRoutineRight 3 (some .boolean) "isRoutineRight" false 182 (sGI 11 5 185) := ok_getI (by decide +kernel : decode cX10_isRoutineRight 182 = .ok (.getfield 33, 3)) fw_X10_33 rfl
theorem o160_185 : Okp RX10 cX10_isRoutineRight 3 (some .boolean) "isRoutineRight" false 185 (sI1 1 192 188) := ok_if_ne (by decide +kernel : decode cX10_isRoutineRight 185 = .ok (.ifCond .ne 7, 3)) (by decide)
theorem o160_188 : Okp RX10 cX10_isRoutineRight 3 (some .boolean) "isRoutineRight" false 188 (sK 1 189) := ok_iconst (by decide +kernel : decode cX10_isRoutineRight 188 = .ok (.iconst 1, 1)) (by decide)
theorem o160_189 : Okp RX10 cX10_isRoutineRight 3 (some .boolean) "isRoutineRight" false 189 (sGo 193) := ok_goto (by decide +kernel : decode cX10_isRoutineRight 189 = .ok (.goto 4, 3)) (by decide)
theorem o160_192 : Okp RX10 cX10_isRoutineRight 3 (some .boolean) "isRoutineRight" false 192 (sK 0 193) := ok_iconst (by decide +kernel : decode cX10_isRoutineRight 192 = .ok (.iconst 0, 1)) (by decide)
theorem o160_193 : Okp RX10 cX10_isRoutineRight 3 (some .boolean) "isRoutineRight" false 193 sRZ := ok_zret rfl (by decide +kernel : decode cX10_isRoutineRight 193 = .ok (.ireturn, 1))
theorem oc160_0 : ∀ pc, Mnp (c160_0 pc) ∧ Okp RX10 cX10_isRoutineRight 3 (some .boolean) "isRoutineRight" false pc (c160_0 pc) := by
  intro pc
  unfold c160_0
  split
  · exact ⟨mn_sLR, o160_0⟩
  · exact ⟨mn_sGR, o160_1⟩
  · exact ⟨mn_sCV, o160_4⟩
  · exact ⟨mn_sLR, o160_7⟩
  · exact ⟨mn_sK, o160_8⟩
  · exact ⟨mn_sPZ, o160_9⟩
  · exact ⟨mn_sLR, o160_12⟩
  · exact ⟨mn_sK, o160_13⟩
  · exact ⟨mn_sPI, o160_14⟩
  · exact ⟨mn_sK, o160_17⟩
  · exact ⟨mn_sSI, o160_18⟩
  · exact ⟨mn_sLI, o160_19⟩
  · exact ⟨mn_sK, o160_20⟩
  · exact ⟨mn_sI2, o160_23⟩
  · exact ⟨mn_sX, ok_X⟩
theorem oc160_1 : ∀ pc, Mnp (c160_1 pc) ∧ Okp RX10 cX10_isRoutineRight 3 (some .boolean) "isRoutineRight" false pc (c160_1 pc) := by
  intro pc
  unfold c160_1
  split
  · exact ⟨mn_sLR, o160_26⟩
  · exact ⟨mn_sGR, o160_27⟩
  · exact ⟨mn_sLI, o160_30⟩
  · exact ⟨mn_sK, o160_31⟩
  · exact ⟨mn_sBS, o160_32⟩
  · exact ⟨mn_sInc, o160_33⟩
  · exact ⟨mn_sGo, o160_36⟩
  · exact ⟨mn_sK, o160_39⟩
  · exact ⟨mn_sSI, o160_40⟩
  · exact ⟨mn_sLI, o160_41⟩
  · exact ⟨mn_sK, o160_42⟩
  · exact ⟨mn_sI2, o160_44⟩
  · exact ⟨mn_sLR, o160_47⟩
  · exact ⟨mn_sX, ok_X⟩
theorem oc160_2 : ∀ pc, Mnp (c160_2 pc) ∧ Okp RX10 cX10_isRoutineRight 3 (some .boolean) "isRoutineRight" false pc (c160_2 pc) := by
  intro pc
  unfold c160_2
  split
  · exact ⟨mn_sGR, o160_48⟩
  · exact ⟨mn_sLI, o160_51⟩
  · exact ⟨mn_sLI, o160_52⟩
  · exact ⟨mn_sLR, o160_53⟩
  · exact ⟨mn_sGR, o160_54⟩
  · exact ⟨mn_sGI, o160_57⟩
  · exact ⟨mn_sI2, o160_60⟩
  · exact ⟨mn_sLR, o160_63⟩
  · exact ⟨mn_sGR, o160_64⟩
  · exact ⟨mn_sLI, o160_67⟩
  · exact ⟨mn_sCV, o160_68⟩
  · exact ⟨mn_sGo, o160_71⟩
  · exact ⟨mn_sX, ok_X⟩
theorem oc160_3 : ∀ pc, Mnp (c160_3 pc) ∧ Okp RX10 cX10_isRoutineRight 3 (some .boolean) "isRoutineRight" false pc (c160_3 pc) := by
  intro pc
  unfold c160_3
  split
  · exact ⟨mn_sK, o160_74⟩
  · exact ⟨mn_sIS, o160_76⟩
  · exact ⟨mn_sInc, o160_77⟩
  · exact ⟨mn_sGo, o160_80⟩
  · exact ⟨mn_sLR, o160_83⟩
  · exact ⟨mn_sK, o160_84⟩
  · exact ⟨mn_sCV, o160_85⟩
  · exact ⟨mn_sK, o160_88⟩
  · exact ⟨mn_sSI, o160_89⟩
  · exact ⟨mn_sLI, o160_90⟩
  · exact ⟨mn_sK, o160_91⟩
  · exact ⟨mn_sI2, o160_94⟩
  · exact ⟨mn_sX, ok_X⟩
theorem oc160_4 : ∀ pc, Mnp (c160_4 pc) ∧ Okp RX10 cX10_isRoutineRight 3 (some .boolean) "isRoutineRight" false pc (c160_4 pc) := by
  intro pc
  unfold c160_4
  split
  · exact ⟨mn_sLR, o160_97⟩
  · exact ⟨mn_sGI, o160_98⟩
  · exact ⟨mn_sI1, o160_101⟩
  · exact ⟨mn_sLR, o160_104⟩
  · exact ⟨mn_sGI, o160_105⟩
  · exact ⟨mn_sI1, o160_108⟩
  · exact ⟨mn_sLR, o160_111⟩
  · exact ⟨mn_sK, o160_112⟩
  · exact ⟨mn_sPZ, o160_113⟩
  · exact ⟨mn_sK, o160_116⟩
  · exact ⟨mn_sSI, o160_117⟩
  · exact ⟨mn_sLI, o160_118⟩
  · exact ⟨mn_sLR, o160_119⟩
  · exact ⟨mn_sX, ok_X⟩
theorem oc160_5 : ∀ pc, Mnp (c160_5 pc) ∧ Okp RX10 cX10_isRoutineRight 3 (some .boolean) "isRoutineRight" false pc (c160_5 pc) := by
  intro pc
  unfold c160_5
  split
  · exact ⟨mn_sGR, o160_120⟩
  · exact ⟨mn_sGI, o160_123⟩
  · exact ⟨mn_sI2, o160_126⟩
  · exact ⟨mn_sLR, o160_129⟩
  · exact ⟨mn_sGI, o160_130⟩
  · exact ⟨mn_sI1, o160_133⟩
  · exact ⟨mn_sLI, o160_136⟩
  · exact ⟨mn_sK, o160_137⟩
  · exact ⟨mn_sI2, o160_140⟩
  · exact ⟨mn_sLR, o160_143⟩
  · exact ⟨mn_sX, ok_X⟩
theorem oc160_6 : ∀ pc, Mnp (c160_6 pc) ∧ Okp RX10 cX10_isRoutineRight 3 (some .boolean) "isRoutineRight" false pc (c160_6 pc) := by
  intro pc
  unfold c160_6
  split
  · exact ⟨mn_sGR, o160_144⟩
  · exact ⟨mn_sLI, o160_147⟩
  · exact ⟨mn_sBA, o160_148⟩
  · exact ⟨mn_sI1, o160_149⟩
  · exact ⟨mn_sLR, o160_152⟩
  · exact ⟨mn_sGR, o160_153⟩
  · exact ⟨mn_sLI, o160_156⟩
  · exact ⟨mn_sK, o160_157⟩
  · exact ⟨mn_sBS, o160_158⟩
  · exact ⟨mn_sLR, o160_159⟩
  · exact ⟨mn_sLI, o160_160⟩
  · exact ⟨mn_sCV, o160_161⟩
  · exact ⟨mn_sLR, o160_164⟩
  · exact ⟨mn_sLI, o160_165⟩
  · exact ⟨mn_sCV, o160_166⟩
  · exact ⟨mn_sX, ok_X⟩
theorem oc160_7 : ∀ pc, Mnp (c160_7 pc) ∧ Okp RX10 cX10_isRoutineRight 3 (some .boolean) "isRoutineRight" false pc (c160_7 pc) := by
  intro pc
  unfold c160_7
  split
  · exact ⟨mn_sInc, o160_169⟩
  · exact ⟨mn_sGo, o160_172⟩
  · exact ⟨mn_sInc, o160_175⟩
  · exact ⟨mn_sGo, o160_178⟩
  · exact ⟨mn_sLR, o160_181⟩
  · exact ⟨mn_sGI, o160_182⟩
  · exact ⟨mn_sI1, o160_185⟩
  · exact ⟨mn_sK, o160_188⟩
  · exact ⟨mn_sGo, o160_189⟩
  · exact ⟨mn_sX, ok_X⟩
theorem oc160_8 : ∀ pc, Mnp (c160_8 pc) ∧ Okp RX10 cX10_isRoutineRight 3 (some .boolean) "isRoutineRight" false pc (c160_8 pc) := by
  intro pc
  unfold c160_8
  split
  · exact ⟨mn_sK, o160_192⟩
  · exact ⟨mn_sRZ, o160_193⟩
  · exact ⟨mn_sX, ok_X⟩
theorem oc160 : ∀ pc, Mnp (c160 pc) ∧ Okp RX10 cX10_isRoutineRight 3 (some .boolean) "isRoutineRight" false pc (c160 pc) := by
  intro pc
  unfold c160
  split
  · exact oc160_0 pc
  · exact oc160_1 pc
  · exact oc160_2 pc
  · exact oc160_3 pc
  · exact oc160_4 pc
  · exact oc160_5 pc
  · exact oc160_6 pc
  · exact oc160_7 pc
  · exact oc160_8 pc
  · exact ⟨mn_sX, ok_X⟩
theorem o161_0 : Okp RX10 cX10_takeUp 3 none "takeUp" false 0 (sLR 0 1) := ok_aload_n (by decide +kernel : decode cX10_takeUp 0 = .ok (.aload_n 0, 1)) rfl
theorem o161_1 : Okp RX10 cX10_takeUp 3 none "takeUp" false 1 (sK 0 2) := ok_iconst (by decide +kernel : decode cX10_takeUp 1 = .ok (.iconst 0, 1)) (by decide)
theorem o161_2 : Okp RX10 cX10_takeUp 3 none "takeUp" false 2 (sLR 0 3) := ok_aload_n (by decide +kernel : decode cX10_takeUp 2 = .ok (.aload_n 0, 1)) rfl
theorem o161_3 : Okp RX10 cX10_takeUp 3 none "takeUp" false 3 (sGR 11 8 6) := ok_getR (by decide +kernel : decode cX10_takeUp 3 = .ok (.getfield 44, 3)) fw_X10_44 rfl
theorem o161_6 : Okp RX10 cX10_takeUp 3 none "takeUp" false 6 (sLI 1 7) := ok_iload_n (by decide +kernel : decode cX10_takeUp 6 = .ok (.iload_n 1, 1)) rfl
theorem o161_7 : Okp RX10 cX10_takeUp 3 none "takeUp" false 7 (sCV false 111 2 8 10) := ok_cv (by decide +kernel : decode cX10_takeUp 7 = .ok (.invokevirtual 104, 3)) mw_X10_104 rfl (by decide) wm_X7_heightAt wse_X7_heightAt (by decide) rfl
theorem o161_10 : Okp RX10 cX10_takeUp 3 none "takeUp" false 10 (sK 16 12) := ok_bipush (by decide +kernel : decode cX10_takeUp 10 = .ok (.bipush 16, 2)) (by decide)
theorem o161_12 : Okp RX10 cX10_takeUp 3 none "takeUp" false 12 (sM2 fMin 15) := ok_min (by decide +kernel : decode cX10_takeUp 12 = .ok (.invokestatic 107, 3)) wq_X10_107 wq_smin wq_im wq_cmin
theorem o161_15 : Okp RX10 cX10_takeUp 3 none "takeUp" false 15 (sM2 fMax 18) := ok_max (by decide +kernel : decode cX10_takeUp 15 = .ok (.invokestatic 113, 3)) wq_X10_113 wq_smax wq_im wq_cmax
theorem o161_18 : Okp RX10 cX10_takeUp 3 none "takeUp" false 18 (sPI 11 4 21) := ok_putI (by decide +kernel : decode cX10_takeUp 18 = .ok (.putfield 29, 3)) fw_X10_29 ⟨⟨tyX10_ok, nmX10⟩, Or.inl rfl, rfl⟩ rfl
theorem o161_21 : Okp RX10 cX10_takeUp 3 none "takeUp" false 21 (sK 0 22) := ok_iconst (by decide +kernel : decode cX10_takeUp 21 = .ok (.iconst 0, 1)) (by decide)
theorem o161_22 : Okp RX10 cX10_takeUp 3 none "takeUp" false 22 (sSI 2 23) := ok_istore_n (by decide +kernel : decode cX10_takeUp 22 = .ok (.istore_n 2, 1)) rfl (by decide) (by decide)
theorem o161_23 : Okp RX10 cX10_takeUp 3 none "takeUp" false 23 (sLI 2 24) := ok_iload_n (by decide +kernel : decode cX10_takeUp 23 = .ok (.iload_n 2, 1)) rfl
theorem o161_24 : Okp RX10 cX10_takeUp 3 none "takeUp" false 24 (sLR 0 25) := ok_aload_n (by decide +kernel : decode cX10_takeUp 24 = .ok (.aload_n 0, 1)) rfl
theorem o161_25 : Okp RX10 cX10_takeUp 3 none "takeUp" false 25 (sGI 11 4 28) := ok_getI (by decide +kernel : decode cX10_takeUp 25 = .ok (.getfield 29, 3)) fw_X10_29 rfl
theorem o161_28 : Okp RX10 cX10_takeUp 3 none "takeUp" false 28 (sI2 3 52 31) := ok_icmp_ge (by decide +kernel : decode cX10_takeUp 28 = .ok (.if_icmp .ge 24, 3)) (by decide)
theorem o161_31 : Okp RX10 cX10_takeUp 3 none "takeUp" false 31 (sLR 0 32) := ok_aload_n (by decide +kernel : decode cX10_takeUp 31 = .ok (.aload_n 0, 1)) rfl
theorem o161_32 : Okp RX10 cX10_takeUp 3 none "takeUp" false 32 (sGR 11 1 35) := ok_getR (by decide +kernel : decode cX10_takeUp 32 = .ok (.getfield 18, 3)) fw_X10_18 rfl
theorem o161_35 : Okp RX10 cX10_takeUp 3 none "takeUp" false 35 (sLI 2 36) := ok_iload_n (by decide +kernel : decode cX10_takeUp 35 = .ok (.iload_n 2, 1)) rfl
theorem o161_36 : Okp RX10 cX10_takeUp 3 none "takeUp" false 36 (sLR 0 37) := ok_aload_n (by decide +kernel : decode cX10_takeUp 36 = .ok (.aload_n 0, 1)) rfl
theorem o161_37 : Okp RX10 cX10_takeUp 3 none "takeUp" false 37 (sGR 11 8 40) := ok_getR (by decide +kernel : decode cX10_takeUp 37 = .ok (.getfield 44, 3)) fw_X10_44 rfl
theorem o161_40 : Okp RX10 cX10_takeUp 3 none "takeUp" false 40 (sLI 1 41) := ok_iload_n (by decide +kernel : decode cX10_takeUp 40 = .ok (.iload_n 1, 1)) rfl
theorem o161_41 : Okp RX10 cX10_takeUp 3 none "takeUp" false 41 (sLI 2 42) := ok_iload_n (by decide +kernel : decode cX10_takeUp 41 = .ok (.iload_n 2, 1)) rfl
theorem o161_42 : Okp RX10 cX10_takeUp 3 none "takeUp" false 42 (sCV false 113 3 8 45) := ok_cv (by decide +kernel : decode cX10_takeUp 42 = .ok (.invokevirtual 116, 3)) mw_X10_116 rfl (by decide) wm_X7_typeComing wse_X7_typeComing (by decide) rfl
theorem o161_45 : Okp RX10 cX10_takeUp 3 none "takeUp" false 45 (sIS 46) := ok_iastore (by decide +kernel : decode cX10_takeUp 45 = .ok (.iastore, 1))
theorem o161_46 : Okp RX10 cX10_takeUp 3 none "takeUp" false 46 (sInc 2 1 49) := ok_iinc (by decide +kernel : decode cX10_takeUp 46 = .ok (.iinc 2 1, 3)) (by decide) (by decide)
theorem o161_49 : Okp RX10 cX10_takeUp 3 none "takeUp" false 49 (sGo 23) := ok_goto (by decide +kernel : decode cX10_takeUp 49 = .ok (.goto (-26), 3)) (by decide)
theorem o161_52 : Okp RX10 cX10_takeUp 3 none "takeUp" false 52 (sK 0 53) := ok_iconst (by decide +kernel : decode cX10_takeUp 52 = .ok (.iconst 0, 1)) (by decide)
theorem o161_53 : Okp RX10 cX10_takeUp 3 none "takeUp" false 53 (sSI 2 54) := ok_istore_n (by decide +kernel : decode cX10_takeUp 53 = .ok (.istore_n 2, 1)) rfl (by decide) (by decide)
theorem o161_54 : Okp RX10 cX10_takeUp 3 none "takeUp" false 54 (sLI 2 55) := ok_iload_n (by decide +kernel : decode cX10_takeUp 54 = .ok (.iload_n 2, 1)) rfl
theorem o161_55 : Okp RX10 cX10_takeUp 3 none "takeUp" false 55 (sK 10 57) := ok_bipush (by decide +kernel : decode cX10_takeUp 55 = .ok (.bipush 10, 2)) (by decide)
theorem o161_57 : Okp RX10 cX10_takeUp 3 none "takeUp" false 57 (sI2 3 84 60) := ok_icmp_ge (by decide +kernel : decode cX10_takeUp 57 = .ok (.if_icmp .ge 27, 3)) (by decide)
theorem o161_60 : Okp RX10 cX10_takeUp 3 none "takeUp" false 60 (sLR 0 61) := ok_aload_n (by decide +kernel : decode cX10_takeUp 60 = .ok (.aload_n 0, 1)) rfl
theorem o161_61 : Okp RX10 cX10_takeUp 3 none "takeUp" false 61 (sGR 11 2 64) := ok_getR (by decide +kernel : decode cX10_takeUp 61 = .ok (.getfield 22, 3)) fw_X10_22 rfl
theorem o161_64 : Okp RX10 cX10_takeUp 3 none "takeUp" false 64 (sLI 2 65) := ok_iload_n (by decide +kernel : decode cX10_takeUp 64 = .ok (.iload_n 2, 1)) rfl
theorem o161_65 : Okp RX10 cX10_takeUp 3 none "takeUp" false 65 (sLR 0 66) := ok_aload_n (by decide +kernel : decode cX10_takeUp 65 = .ok (.aload_n 0, 1)) rfl
theorem o161_66 : Okp RX10 cX10_takeUp 3 none "takeUp" false 66 (sGR 11 8 69) := ok_getR (by decide +kernel : decode cX10_takeUp 66 = .ok (.getfield 44, 3)) fw_X10_44 rfl
theorem o161_69 : Okp RX10 cX10_takeUp 3 none "takeUp" false 69 (sLI 1 70) := ok_iload_n (by decide +kernel : decode cX10_takeUp 69 = .ok (.iload_n 1, 1)) rfl
theorem o161_70 : Okp RX10 cX10_takeUp 3 none "takeUp" false 70 (sK 16 72) := ok_bipush (by decide +kernel : decode cX10_takeUp 70 = .ok (.bipush 16, 2)) (by decide)
theorem o161_72 : Okp RX10 cX10_takeUp 3 none "takeUp" false 72 (sLI 2 73) := ok_iload_n (by decide +kernel : decode cX10_takeUp 72 = .ok (.iload_n 2, 1)) rfl
theorem o161_73 : Okp RX10 cX10_takeUp 3 none "takeUp" false 73 (sB2 fAdd 74) := ok_iadd (by decide +kernel : decode cX10_takeUp 73 = .ok (.iadd, 1))
theorem o161_74 : Okp RX10 cX10_takeUp 3 none "takeUp" false 74 (sCV false 113 3 8 77) := ok_cv (by decide +kernel : decode cX10_takeUp 74 = .ok (.invokevirtual 116, 3)) mw_X10_116 rfl (by decide) wm_X7_typeComing wse_X7_typeComing (by decide) rfl
theorem o161_77 : Okp RX10 cX10_takeUp 3 none "takeUp" false 77 (sIS 78) := ok_iastore (by decide +kernel : decode cX10_takeUp 77 = .ok (.iastore, 1))
theorem o161_78 : Okp RX10 cX10_takeUp 3 none "takeUp" false 78 (sInc 2 1 81) := ok_iinc (by decide +kernel : decode cX10_takeUp 78 = .ok (.iinc 2 1, 3)) (by decide) (by decide)
theorem o161_81 : Okp RX10 cX10_takeUp 3 none "takeUp" false 81 (sGo 54) := ok_goto (by decide +kernel : decode cX10_takeUp 81 = .ok (.goto (-27), 3)) (by decide)
theorem o161_84 : Okp RX10 cX10_takeUp 3 none "takeUp" false 84 sRV := ok_vret rfl (by decide +kernel : decode cX10_takeUp 84 = .ok (.return_, 1))
theorem oc161_0 : ∀ pc, Mnp (c161_0 pc) ∧ Okp RX10 cX10_takeUp 3 none "takeUp" false pc (c161_0 pc) := by
  intro pc
  unfold c161_0
  split
  · exact ⟨mn_sLR, o161_0⟩
  · exact ⟨mn_sK, o161_1⟩
  · exact ⟨mn_sLR, o161_2⟩
  · exact ⟨mn_sGR, o161_3⟩
  · exact ⟨mn_sLI, o161_6⟩
  · exact ⟨mn_sCV, o161_7⟩
  · exact ⟨mn_sK, o161_10⟩
  · exact ⟨mn_sM2, o161_12⟩
  · exact ⟨mn_sM2, o161_15⟩
  · exact ⟨mn_sPI, o161_18⟩
  · exact ⟨mn_sK, o161_21⟩
  · exact ⟨mn_sSI, o161_22⟩
  · exact ⟨mn_sLI, o161_23⟩
  · exact ⟨mn_sX, ok_X⟩
theorem oc161_1 : ∀ pc, Mnp (c161_1 pc) ∧ Okp RX10 cX10_takeUp 3 none "takeUp" false pc (c161_1 pc) := by
  intro pc
  unfold c161_1
  split
  · exact ⟨mn_sLR, o161_24⟩
  · exact ⟨mn_sGI, o161_25⟩
  · exact ⟨mn_sI2, o161_28⟩
  · exact ⟨mn_sLR, o161_31⟩
  · exact ⟨mn_sGR, o161_32⟩
  · exact ⟨mn_sLI, o161_35⟩
  · exact ⟨mn_sLR, o161_36⟩
  · exact ⟨mn_sGR, o161_37⟩
  · exact ⟨mn_sLI, o161_40⟩
  · exact ⟨mn_sLI, o161_41⟩
  · exact ⟨mn_sCV, o161_42⟩
  · exact ⟨mn_sIS, o161_45⟩
  · exact ⟨mn_sInc, o161_46⟩
  · exact ⟨mn_sX, ok_X⟩
theorem oc161_2 : ∀ pc, Mnp (c161_2 pc) ∧ Okp RX10 cX10_takeUp 3 none "takeUp" false pc (c161_2 pc) := by
  intro pc
  unfold c161_2
  split
  · exact ⟨mn_sGo, o161_49⟩
  · exact ⟨mn_sK, o161_52⟩
  · exact ⟨mn_sSI, o161_53⟩
  · exact ⟨mn_sLI, o161_54⟩
  · exact ⟨mn_sK, o161_55⟩
  · exact ⟨mn_sI2, o161_57⟩
  · exact ⟨mn_sLR, o161_60⟩
  · exact ⟨mn_sGR, o161_61⟩
  · exact ⟨mn_sLI, o161_64⟩
  · exact ⟨mn_sLR, o161_65⟩
  · exact ⟨mn_sGR, o161_66⟩
  · exact ⟨mn_sLI, o161_69⟩
  · exact ⟨mn_sK, o161_70⟩
  · exact ⟨mn_sX, ok_X⟩
theorem oc161_3 : ∀ pc, Mnp (c161_3 pc) ∧ Okp RX10 cX10_takeUp 3 none "takeUp" false pc (c161_3 pc) := by
  intro pc
  unfold c161_3
  split
  · exact ⟨mn_sLI, o161_72⟩
  · exact ⟨mn_sB2, o161_73⟩
  · exact ⟨mn_sCV, o161_74⟩
  · exact ⟨mn_sIS, o161_77⟩
  · exact ⟨mn_sInc, o161_78⟩
  · exact ⟨mn_sGo, o161_81⟩
  · exact ⟨mn_sRV, o161_84⟩
  · exact ⟨mn_sX, ok_X⟩
theorem oc161 : ∀ pc, Mnp (c161 pc) ∧ Okp RX10 cX10_takeUp 3 none "takeUp" false pc (c161 pc) := by
  intro pc
  unfold c161
  split
  · exact oc161_0 pc
  · exact oc161_1 pc
  · exact oc161_2 pc
  · exact oc161_3 pc
  · exact ⟨mn_sX, ok_X⟩
theorem o162_0 : Okp RX10 cX10_arriveAt 8 none "arriveAt" false 0 (sLR 0 1) := ok_aload_n (by decide +kernel : decode cX10_arriveAt 0 = .ok (.aload_n 0, 1)) rfl
theorem o162_1 : Okp RX10 cX10_arriveAt 8 none "arriveAt" false 1 (sGI 11 5 4) := ok_getI (by decide +kernel : decode cX10_arriveAt 1 = .ok (.getfield 33, 3)) fw_X10_33 rfl
theorem o162_4 : Okp RX10 cX10_arriveAt 8 none "arriveAt" false 4 (sI1 1 25 7) := ok_if_ne (by decide +kernel : decode cX10_arriveAt 4 = .ok (.ifCond .ne 21, 3)) (by decide)
theorem o162_7 : Okp RX10 cX10_arriveAt 8 none "arriveAt" false 7 (sLI 1 8) := ok_iload_n (by decide +kernel : decode cX10_arriveAt 7 = .ok (.iload_n 1, 1)) rfl
theorem o162_8 : Okp RX10 cX10_arriveAt 8 none "arriveAt" false 8 (sLR 0 9) := ok_aload_n (by decide +kernel : decode cX10_arriveAt 8 = .ok (.aload_n 0, 1)) rfl
theorem o162_9 : Okp RX10 cX10_arriveAt 8 none "arriveAt" false 9 (sGR 11 8 12) := ok_getR (by decide +kernel : decode cX10_arriveAt 9 = .ok (.getfield 44, 3)) fw_X10_44 rfl
theorem o162_12 : Okp RX10 cX10_arriveAt 8 none "arriveAt" false 12 (sGI 8 4 15) := ok_getI (by decide +kernel : decode cX10_arriveAt 12 = .ok (.getfield 97, 3)) fw_X10_97 rfl
theorem o162_15 : Okp RX10 cX10_arriveAt 8 none "arriveAt" false 15 (sI2 3 25 18) := ok_icmp_ge (by decide +kernel : decode cX10_arriveAt 15 = .ok (.if_icmp .ge 10, 3)) (by decide)
theorem o162_18 : Okp RX10 cX10_arriveAt 8 none "arriveAt" false 18 (sLI 1 19) := ok_iload_n (by decide +kernel : decode cX10_arriveAt 18 = .ok (.iload_n 1, 1)) rfl
theorem o162_19 : Okp RX10 cX10_arriveAt 8 none "arriveAt" false 19 (sK 240 22) := ok_sipush (by decide +kernel : decode cX10_arriveAt 19 = .ok (.sipush 240, 3)) (by decide)
theorem o162_22 : Okp RX10 cX10_arriveAt 8 none "arriveAt" false 22 (sI2 2 31 25) := ok_icmp_lt (by decide +kernel : decode cX10_arriveAt 22 = .ok (.if_icmp .lt 9, 3)) (by decide)
theorem o162_25 : Okp RX10 cX10_arriveAt 8 none "arriveAt" false 25 (sLR 0 26) := ok_aload_n (by decide +kernel : decode cX10_arriveAt 25 = .ok (.aload_n 0, 1)) rfl
theorem o162_26 : Okp RX10 cX10_arriveAt 8 none "arriveAt" false 26 (sK 1 27) := ok_iconst (by decide +kernel : decode cX10_arriveAt 26 = .ok (.iconst 1, 1)) (by decide)
theorem o162_27 : Okp RX10 cX10_arriveAt 8 none "arriveAt" false 27 (sPZ 11 5 30) := ok_putZ (by decide +kernel : decode cX10_arriveAt 27 = .ok (.putfield 33, 3)) fw_X10_33 ⟨⟨tyX10_ok, nmX10⟩, Or.inl rfl, rfl⟩ rfl
theorem o162_30 : Okp RX10 cX10_arriveAt 8 none "arriveAt" false 30 sRV := ok_vret rfl (by decide +kernel : decode cX10_arriveAt 30 = .ok (.return_, 1))
theorem o162_31 : Okp RX10 cX10_arriveAt 8 none "arriveAt" false 31 (sLR 0 32) := ok_aload_n (by decide +kernel : decode cX10_arriveAt 31 = .ok (.aload_n 0, 1)) rfl
theorem o162_32 : Okp RX10 cX10_arriveAt 8 none "arriveAt" false 32 (sGR 11 8 35) := ok_getR (by decide +kernel : decode cX10_arriveAt 32 = .ok (.getfield 44, 3)) fw_X10_44 rfl
theorem o162_35 : Okp RX10 cX10_arriveAt 8 none "arriveAt" false 35 (sLI 1 36) := ok_iload_n (by decide +kernel : decode cX10_arriveAt 35 = .ok (.iload_n 1, 1)) rfl
theorem o162_36 : Okp RX10 cX10_arriveAt 8 none "arriveAt" false 36 (sCV false 111 2 8 39) := ok_cv (by decide +kernel : decode cX10_arriveAt 36 = .ok (.invokevirtual 104, 3)) mw_X10_104 rfl (by decide) wm_X7_heightAt wse_X7_heightAt (by decide) rfl
theorem o162_39 : Okp RX10 cX10_arriveAt 8 none "arriveAt" false 39 (sI1 3 46 42) := ok_if_ge (by decide +kernel : decode cX10_arriveAt 39 = .ok (.ifCond .ge 7, 3)) (by decide)
theorem o162_42 : Okp RX10 cX10_arriveAt 8 none "arriveAt" false 42 (sK 1 43) := ok_iconst (by decide +kernel : decode cX10_arriveAt 42 = .ok (.iconst 1, 1)) (by decide)
theorem o162_43 : Okp RX10 cX10_arriveAt 8 none "arriveAt" false 43 (sGo 47) := ok_goto (by decide +kernel : decode cX10_arriveAt 43 = .ok (.goto 4, 3)) (by decide)
theorem o162_46 : Okp RX10 cX10_arriveAt 8 none "arriveAt" false 46 (sK 0 47) := ok_iconst (by decide +kernel : decode cX10_arriveAt 46 = .ok (.iconst 0, 1)) (by decide)
theorem o162_47 : Okp RX10 cX10_arriveAt 8 none "arriveAt" false 47 (sSI 2 48) := ok_istore_n (by decide +kernel : decode cX10_arriveAt 47 = .ok (.istore_n 2, 1)) rfl (by decide) (by decide)
theorem o162_48 : Okp RX10 cX10_arriveAt 8 none "arriveAt" false 48 (sLI 2 49) := ok_iload_n (by decide +kernel : decode cX10_arriveAt 48 = .ok (.iload_n 2, 1)) rfl
theorem o162_49 : Okp RX10 cX10_arriveAt 8 none "arriveAt" false 49 (sI1 0 64 52) := ok_if_eq (by decide +kernel : decode cX10_arriveAt 49 = .ok (.ifCond .eq 15, 3)) (by decide)
theorem o162_52 : Okp RX10 cX10_arriveAt 8 none "arriveAt" false 52 (sLR 0 53) := ok_aload_n (by decide +kernel : decode cX10_arriveAt 52 = .ok (.aload_n 0, 1)) rfl
theorem o162_53 : Okp RX10 cX10_arriveAt 8 none "arriveAt" false 53 (sGR 11 8 56) := ok_getR (by decide +kernel : decode cX10_arriveAt 53 = .ok (.getfield 44, 3)) fw_X10_44 rfl
theorem o162_56 : Okp RX10 cX10_arriveAt 8 none "arriveAt" false 56 (sLI 1 57) := ok_iload_n (by decide +kernel : decode cX10_arriveAt 56 = .ok (.iload_n 1, 1)) rfl
theorem o162_57 : Okp RX10 cX10_arriveAt 8 none "arriveAt" false 57 (sLR 0 58) := ok_aload_n (by decide +kernel : decode cX10_arriveAt 57 = .ok (.aload_n 0, 1)) rfl
theorem o162_58 : Okp RX10 cX10_arriveAt 8 none "arriveAt" false 58 (sGI 11 4 61) := ok_getI (by decide +kernel : decode cX10_arriveAt 58 = .ok (.getfield 29, 3)) fw_X10_29 rfl
theorem o162_61 : Okp RX10 cX10_arriveAt 8 none "arriveAt" false 61 (sCV false 112 3 8 64) := ok_cv (by decide +kernel : decode cX10_arriveAt 61 = .ok (.invokevirtual 119, 3)) mw_X10_119 rfl (by decide) wm_X7_setHeight wse_X7_setHeight (by decide) rfl
theorem o162_64 : Okp RX10 cX10_arriveAt 8 none "arriveAt" false 64 (sLR 0 65) := ok_aload_n (by decide +kernel : decode cX10_arriveAt 64 = .ok (.aload_n 0, 1)) rfl
theorem o162_65 : Okp RX10 cX10_arriveAt 8 none "arriveAt" false 65 (sGR 11 8 68) := ok_getR (by decide +kernel : decode cX10_arriveAt 65 = .ok (.getfield 44, 3)) fw_X10_44 rfl
theorem o162_68 : Okp RX10 cX10_arriveAt 8 none "arriveAt" false 68 (sLI 1 69) := ok_iload_n (by decide +kernel : decode cX10_arriveAt 68 = .ok (.iload_n 1, 1)) rfl
theorem o162_69 : Okp RX10 cX10_arriveAt 8 none "arriveAt" false 69 (sCV false 111 2 8 72) := ok_cv (by decide +kernel : decode cX10_arriveAt 69 = .ok (.invokevirtual 104, 3)) mw_X10_104 rfl (by decide) wm_X7_heightAt wse_X7_heightAt (by decide) rfl
theorem o162_72 : Okp RX10 cX10_arriveAt 8 none "arriveAt" false 72 (sLR 0 73) := ok_aload_n (by decide +kernel : decode cX10_arriveAt 72 = .ok (.aload_n 0, 1)) rfl
theorem o162_73 : Okp RX10 cX10_arriveAt 8 none "arriveAt" false 73 (sGI 11 4 76) := ok_getI (by decide +kernel : decode cX10_arriveAt 73 = .ok (.getfield 29, 3)) fw_X10_29 rfl
theorem o162_76 : Okp RX10 cX10_arriveAt 8 none "arriveAt" false 76 (sI2 0 85 79) := ok_icmp_eq (by decide +kernel : decode cX10_arriveAt 76 = .ok (.if_icmp .eq 9, 3)) (by decide)
theorem o162_79 : Okp RX10 cX10_arriveAt 8 none "arriveAt" false 79 (sLR 0 80) := ok_aload_n (by decide +kernel : decode cX10_arriveAt 79 = .ok (.aload_n 0, 1)) rfl
theorem o162_80 : Okp RX10 cX10_arriveAt 8 none "arriveAt" false 80 (sK 1 81) := ok_iconst (by decide +kernel : decode cX10_arriveAt 80 = .ok (.iconst 1, 1)) (by decide)
theorem o162_81 : Okp RX10 cX10_arriveAt 8 none "arriveAt" false 81 (sPZ 11 5 84) := ok_putZ (by decide +kernel : decode cX10_arriveAt 81 = .ok (.putfield 33, 3)) fw_X10_33 ⟨⟨tyX10_ok, nmX10⟩, Or.inl rfl, rfl⟩ rfl
theorem o162_84 : Okp RX10 cX10_arriveAt 8 none "arriveAt" false 84 sRV := ok_vret rfl (by decide +kernel : decode cX10_arriveAt 84 = .ok (.return_, 1))
theorem o162_85 : Okp RX10 cX10_arriveAt 8 none "arriveAt" false 85 (sLI 2 86) := ok_iload_n (by decide +kernel : decode cX10_arriveAt 85 = .ok (.iload_n 2, 1)) rfl
theorem o162_86 : Okp RX10 cX10_arriveAt 8 none "arriveAt" false 86 (sSI 3 87) := ok_istore_n (by decide +kernel : decode cX10_arriveAt 86 = .ok (.istore_n 3, 1)) rfl (by decide) (by decide)
theorem o162_87 : Okp RX10 cX10_arriveAt 8 none "arriveAt" false 87 (sK 0 88) := ok_iconst (by decide +kernel : decode cX10_arriveAt 87 = .ok (.iconst 0, 1)) (by decide)
theorem o162_88 : Okp RX10 cX10_arriveAt 8 none "arriveAt" false 88 (sSI 4 90) := ok_istore (by decide +kernel : decode cX10_arriveAt 88 = .ok (.istore 4, 2)) (by decide) (by decide)
theorem o162_90 : Okp RX10 cX10_arriveAt 8 none "arriveAt" false 90 (sLI 4 92) := ok_iload (by decide +kernel : decode cX10_arriveAt 90 = .ok (.iload 4, 2))
theorem o162_92 : Okp RX10 cX10_arriveAt 8 none "arriveAt" false 92 (sK 26 94) := ok_bipush (by decide +kernel : decode cX10_arriveAt 92 = .ok (.bipush 26, 2)) (by decide)
theorem o162_94 : Okp RX10 cX10_arriveAt 8 none "arriveAt" false 94 (sI2 3 250 97) := ok_icmp_ge (by decide +kernel : decode cX10_arriveAt 94 = .ok (.if_icmp .ge 156, 3)) (by decide)
theorem o162_97 : Okp RX10 cX10_arriveAt 8 none "arriveAt" false 97 (sLI 4 99) := ok_iload (by decide +kernel : decode cX10_arriveAt 97 = .ok (.iload 4, 2))
theorem o162_99 : Okp RX10 cX10_arriveAt 8 none "arriveAt" false 99 (sLR 0 100) := ok_aload_n (by decide +kernel : decode cX10_arriveAt 99 = .ok (.aload_n 0, 1)) rfl
theorem o162_100 : Okp RX10 cX10_arriveAt 8 none "arriveAt" false 100 (sGI 11 4 103) := ok_getI (by decide +kernel : decode cX10_arriveAt 100 = .ok (.getfield 29, 3)) fw_X10_29 rfl
theorem o162_103 : Okp RX10 cX10_arriveAt 8 none "arriveAt" false 103 (sI2 2 113 106) := ok_icmp_lt (by decide +kernel : decode cX10_arriveAt 103 = .ok (.if_icmp .lt 10, 3)) (by decide)
theorem o162_106 : Okp RX10 cX10_arriveAt 8 none "arriveAt" false 106 (sLI 4 108) := ok_iload (by decide +kernel : decode cX10_arriveAt 106 = .ok (.iload 4, 2))
theorem o162_108 : Okp RX10 cX10_arriveAt 8 none "arriveAt" false 108 (sK 16 110) := ok_bipush (by decide +kernel : decode cX10_arriveAt 108 = .ok (.bipush 16, 2)) (by decide)
theorem o162_110 : Okp RX10 cX10_arriveAt 8 none "arriveAt" false 110 (sI2 2 244 113) := ok_icmp_lt (by decide +kernel : decode cX10_arriveAt 110 = .ok (.if_icmp .lt 134, 3)) (by decide)
theorem o162_113 : Okp RX10 cX10_arriveAt 8 none "arriveAt" false 113 (sLI 4 115) := ok_iload (by decide +kernel : decode cX10_arriveAt 113 = .ok (.iload 4, 2))
theorem o162_115 : Okp RX10 cX10_arriveAt 8 none "arriveAt" false 115 (sK 16 117) := ok_bipush (by decide +kernel : decode cX10_arriveAt 115 = .ok (.bipush 16, 2)) (by decide)
theorem o162_117 : Okp RX10 cX10_arriveAt 8 none "arriveAt" false 117 (sI2 3 130 120) := ok_icmp_ge (by decide +kernel : decode cX10_arriveAt 117 = .ok (.if_icmp .ge 13, 3)) (by decide)
theorem o162_120 : Okp RX10 cX10_arriveAt 8 none "arriveAt" false 120 (sLR 0 121) := ok_aload_n (by decide +kernel : decode cX10_arriveAt 120 = .ok (.aload_n 0, 1)) rfl
theorem o162_121 : Okp RX10 cX10_arriveAt 8 none "arriveAt" false 121 (sGR 11 1 124) := ok_getR (by decide +kernel : decode cX10_arriveAt 121 = .ok (.getfield 18, 3)) fw_X10_18 rfl
theorem o162_124 : Okp RX10 cX10_arriveAt 8 none "arriveAt" false 124 (sLI 4 126) := ok_iload (by decide +kernel : decode cX10_arriveAt 124 = .ok (.iload 4, 2))
theorem o162_126 : Okp RX10 cX10_arriveAt 8 none "arriveAt" false 126 (sIA 127) := ok_iaload (by decide +kernel : decode cX10_arriveAt 126 = .ok (.iaload, 1))
theorem o162_127 : Okp RX10 cX10_arriveAt 8 none "arriveAt" false 127 (sGo 140) := ok_goto (by decide +kernel : decode cX10_arriveAt 127 = .ok (.goto 13, 3)) (by decide)
theorem o162_130 : Okp RX10 cX10_arriveAt 8 none "arriveAt" false 130 (sLR 0 131) := ok_aload_n (by decide +kernel : decode cX10_arriveAt 130 = .ok (.aload_n 0, 1)) rfl
theorem o162_131 : Okp RX10 cX10_arriveAt 8 none "arriveAt" false 131 (sGR 11 2 134) := ok_getR (by decide +kernel : decode cX10_arriveAt 131 = .ok (.getfield 22, 3)) fw_X10_22 rfl
theorem o162_134 : Okp RX10 cX10_arriveAt 8 none "arriveAt" false 134 (sLI 4 136) := ok_iload (by decide +kernel : decode cX10_arriveAt 134 = .ok (.iload 4, 2))
theorem o162_136 : Okp RX10 cX10_arriveAt 8 none "arriveAt" false 136 (sK 16 138) := ok_bipush (by decide +kernel : decode cX10_arriveAt 136 = .ok (.bipush 16, 2)) (by decide)
theorem o162_138 : Okp RX10 cX10_arriveAt 8 none "arriveAt" false 138 (sB2 fSub 139) := ok_isub (by decide +kernel : decode cX10_arriveAt 138 = .ok (.isub, 1))
theorem o162_139 : Okp RX10 cX10_arriveAt 8 none "arriveAt" false 139 (sIA 140) := ok_iaload (by decide +kernel : decode cX10_arriveAt 139 = .ok (.iaload, 1))
theorem o162_140 : Okp RX10 cX10_arriveAt 8 none "arriveAt" false 140 (sSI 5 142) := ok_istore (by decide +kernel : decode cX10_arriveAt 140 = .ok (.istore 5, 2)) (by decide) (by decide)
theorem o162_142 : Okp RX10 cX10_arriveAt 8 none "arriveAt" false 142 (sLI 2 143) := ok_iload_n (by decide +kernel : decode cX10_arriveAt 142 = .ok (.iload_n 2, 1)) rfl
theorem o162_143 : Okp RX10 cX10_arriveAt 8 none "arriveAt" false 143 (sI1 0 151 146) := ok_if_eq (by decide +kernel : decode cX10_arriveAt 143 = .ok (.ifCond .eq 8, 3)) (by decide)
theorem o162_146 : Okp RX10 cX10_arriveAt 8 none "arriveAt" false 146 (sLI 5 148) := ok_iload (by decide +kernel : decode cX10_arriveAt 146 = .ok (.iload 5, 2))
theorem o162_148 : Okp RX10 cX10_arriveAt 8 none "arriveAt" false 148 (sGo 161) := ok_goto (by decide +kernel : decode cX10_arriveAt 148 = .ok (.goto 13, 3)) (by decide)
theorem o162_151 : Okp RX10 cX10_arriveAt 8 none "arriveAt" false 151 (sLR 0 152) := ok_aload_n (by decide +kernel : decode cX10_arriveAt 151 = .ok (.aload_n 0, 1)) rfl
theorem o162_152 : Okp RX10 cX10_arriveAt 8 none "arriveAt" false 152 (sGR 11 8 155) := ok_getR (by decide +kernel : decode cX10_arriveAt 152 = .ok (.getfield 44, 3)) fw_X10_44 rfl
theorem o162_155 : Okp RX10 cX10_arriveAt 8 none "arriveAt" false 155 (sLI 1 156) := ok_iload_n (by decide +kernel : decode cX10_arriveAt 155 = .ok (.iload_n 1, 1)) rfl
theorem o162_156 : Okp RX10 cX10_arriveAt 8 none "arriveAt" false 156 (sLI 4 158) := ok_iload (by decide +kernel : decode cX10_arriveAt 156 = .ok (.iload 4, 2))
theorem o162_158 : Okp RX10 cX10_arriveAt 8 none "arriveAt" false 158 (sCV false 113 3 8 161) := ok_cv (by decide +kernel : decode cX10_arriveAt 158 = .ok (.invokevirtual 116, 3)) mw_X10_116 rfl (by decide) wm_X7_typeComing wse_X7_typeComing (by decide) rfl
theorem o162_161 : Okp RX10 cX10_arriveAt 8 none "arriveAt" false 161 (sSI 6 163) := ok_istore (by decide +kernel : decode cX10_arriveAt 161 = .ok (.istore 6, 2)) (by decide) (by decide)
theorem o162_163 : Okp RX10 cX10_arriveAt 8 none "arriveAt" false 163 (sLI 6 165) := ok_iload (by decide +kernel : decode cX10_arriveAt 163 = .ok (.iload 6, 2))
theorem o162_165 : Okp RX10 cX10_arriveAt 8 none "arriveAt" false 165 (sLI 5 167) := ok_iload (by decide +kernel : decode cX10_arriveAt 165 = .ok (.iload 5, 2))
theorem o162_167 : Okp RX10 cX10_arriveAt 8 none "arriveAt" false 167 (sCS false 163 2 170) := ok_cs (by decide +kernel : decode cX10_arriveAt 167 = .ok (.invokestatic 122, 3)) mw_X10_122 wt_X10_join (by decide) rfl
theorem o162_170 : Okp RX10 cX10_arriveAt 8 none "arriveAt" false 170 (sSI 7 172) := ok_istore (by decide +kernel : decode cX10_arriveAt 170 = .ok (.istore 7, 2)) (by decide) (by decide)
theorem o162_172 : Okp RX10 cX10_arriveAt 8 none "arriveAt" false 172 (sLI 7 174) := ok_iload (by decide +kernel : decode cX10_arriveAt 172 = .ok (.iload 7, 2))
theorem o162_174 : Okp RX10 cX10_arriveAt 8 none "arriveAt" false 174 (sK (-2) 176) := ok_bipush (by decide +kernel : decode cX10_arriveAt 174 = .ok (.bipush (-2), 2)) (by decide)
theorem o162_176 : Okp RX10 cX10_arriveAt 8 none "arriveAt" false 176 (sI2 1 215 179) := ok_icmp_ne (by decide +kernel : decode cX10_arriveAt 176 = .ok (.if_icmp .ne 39, 3)) (by decide)
theorem o162_179 : Okp RX10 cX10_arriveAt 8 none "arriveAt" false 179 (sLR 0 180) := ok_aload_n (by decide +kernel : decode cX10_arriveAt 179 = .ok (.aload_n 0, 1)) rfl
theorem o162_180 : Okp RX10 cX10_arriveAt 8 none "arriveAt" false 180 (sLI 4 182) := ok_iload (by decide +kernel : decode cX10_arriveAt 180 = .ok (.iload 4, 2))
theorem o162_182 : Okp RX10 cX10_arriveAt 8 none "arriveAt" false 182 (sK 16 184) := ok_bipush (by decide +kernel : decode cX10_arriveAt 182 = .ok (.bipush 16, 2)) (by decide)
theorem o162_184 : Okp RX10 cX10_arriveAt 8 none "arriveAt" false 184 (sI2 2 207 187) := ok_icmp_lt (by decide +kernel : decode cX10_arriveAt 184 = .ok (.if_icmp .lt 23, 3)) (by decide)
theorem o162_187 : Okp RX10 cX10_arriveAt 8 none "arriveAt" false 187 (sLI 6 189) := ok_iload (by decide +kernel : decode cX10_arriveAt 187 = .ok (.iload 6, 2))
theorem o162_189 : Okp RX10 cX10_arriveAt 8 none "arriveAt" false 189 (sCS false 211 1 192) := ok_cs (by decide +kernel : decode cX10_arriveAt 189 = .ok (.invokestatic 125, 3)) mw_X10_125 wt_X11_isLinear (by decide) rfl
theorem o162_192 : Okp RX10 cX10_arriveAt 8 none "arriveAt" false 192 (sI1 1 207 195) := ok_if_ne (by decide +kernel : decode cX10_arriveAt 192 = .ok (.ifCond .ne 15, 3)) (by decide)
theorem o162_195 : Okp RX10 cX10_arriveAt 8 none "arriveAt" false 195 (sLI 5 197) := ok_iload (by decide +kernel : decode cX10_arriveAt 195 = .ok (.iload 5, 2))
theorem o162_197 : Okp RX10 cX10_arriveAt 8 none "arriveAt" false 197 (sCS false 211 1 200) := ok_cs (by decide +kernel : decode cX10_arriveAt 197 = .ok (.invokestatic 125, 3)) mw_X10_125 wt_X11_isLinear (by decide) rfl
theorem o162_200 : Okp RX10 cX10_arriveAt 8 none "arriveAt" false 200 (sI1 1 207 203) := ok_if_ne (by decide +kernel : decode cX10_arriveAt 200 = .ok (.ifCond .ne 7, 3)) (by decide)
theorem o162_203 : Okp RX10 cX10_arriveAt 8 none "arriveAt" false 203 (sK 1 204) := ok_iconst (by decide +kernel : decode cX10_arriveAt 203 = .ok (.iconst 1, 1)) (by decide)
theorem o162_204 : Okp RX10 cX10_arriveAt 8 none "arriveAt" false 204 (sGo 208) := ok_goto (by decide +kernel : decode cX10_arriveAt 204 = .ok (.goto 4, 3)) (by decide)
theorem o162_207 : Okp RX10 cX10_arriveAt 8 none "arriveAt" false 207 (sK 0 208) := ok_iconst (by decide +kernel : decode cX10_arriveAt 207 = .ok (.iconst 0, 1)) (by decide)
theorem o162_208 : Okp RX10 cX10_arriveAt 8 none "arriveAt" false 208 (sCV false 166 2 11 211) := ok_cv (by decide +kernel : decode cX10_arriveAt 208 = .ok (.invokevirtual 129, 3)) mw_X10_129 rfl (by decide) wm_X10_want wse_X10_want (by decide) rfl
theorem o162_211 : Okp RX10 cX10_arriveAt 8 none "arriveAt" false 211 (sK 7 213) := ok_bipush (by decide +kernel : decode cX10_arriveAt 211 = .ok (.bipush 7, 2)) (by decide)
theorem o162_213 : Okp RX10 cX10_arriveAt 8 none "arriveAt" false 213 (sSI 7 215) := ok_istore (by decide +kernel : decode cX10_arriveAt 213 = .ok (.istore 7, 2)) (by decide) (by decide)
theorem o162_215 : Okp RX10 cX10_arriveAt 8 none "arriveAt" false 215 (sLR 0 216) := ok_aload_n (by decide +kernel : decode cX10_arriveAt 215 = .ok (.aload_n 0, 1)) rfl
theorem o162_216 : Okp RX10 cX10_arriveAt 8 none "arriveAt" false 216 (sGR 11 8 219) := ok_getR (by decide +kernel : decode cX10_arriveAt 216 = .ok (.getfield 44, 3)) fw_X10_44 rfl
theorem o162_219 : Okp RX10 cX10_arriveAt 8 none "arriveAt" false 219 (sLI 1 220) := ok_iload_n (by decide +kernel : decode cX10_arriveAt 219 = .ok (.iload_n 1, 1)) rfl
theorem o162_220 : Okp RX10 cX10_arriveAt 8 none "arriveAt" false 220 (sLI 4 222) := ok_iload (by decide +kernel : decode cX10_arriveAt 220 = .ok (.iload 4, 2))
theorem o162_222 : Okp RX10 cX10_arriveAt 8 none "arriveAt" false 222 (sLI 7 224) := ok_iload (by decide +kernel : decode cX10_arriveAt 222 = .ok (.iload 7, 2))
theorem o162_224 : Okp RX10 cX10_arriveAt 8 none "arriveAt" false 224 (sCV false 114 4 8 227) := ok_cv (by decide +kernel : decode cX10_arriveAt 224 = .ok (.invokevirtual 133, 3)) mw_X10_133 rfl (by decide) wm_X7_setComing wse_X7_setComing (by decide) rfl
theorem o162_227 : Okp RX10 cX10_arriveAt 8 none "arriveAt" false 227 (sLI 3 228) := ok_iload_n (by decide +kernel : decode cX10_arriveAt 227 = .ok (.iload_n 3, 1)) rfl
theorem o162_228 : Okp RX10 cX10_arriveAt 8 none "arriveAt" false 228 (sI1 1 238 231) := ok_if_ne (by decide +kernel : decode cX10_arriveAt 228 = .ok (.ifCond .ne 10, 3)) (by decide)
theorem o162_231 : Okp RX10 cX10_arriveAt 8 none "arriveAt" false 231 (sLI 7 233) := ok_iload (by decide +kernel : decode cX10_arriveAt 231 = .ok (.iload 7, 2))
theorem o162_233 : Okp RX10 cX10_arriveAt 8 none "arriveAt" false 233 (sLI 6 235) := ok_iload (by decide +kernel : decode cX10_arriveAt 233 = .ok (.iload 6, 2))
theorem o162_235 : Okp RX10 cX10_arriveAt 8 none "arriveAt" false 235 (sI2 0 242 238) := ok_icmp_eq (by decide +kernel : decode cX10_arriveAt 235 = .ok (.if_icmp .eq 7, 3)) (by decide)
theorem o162_238 : Okp RX10 cX10_arriveAt 8 none "arriveAt" false 238 (sK 1 239) := ok_iconst (by decide +kernel : decode cX10_arriveAt 238 = .ok (.iconst 1, 1)) (by decide)
theorem o162_239 : Okp RX10 cX10_arriveAt 8 none "arriveAt" false 239 (sGo 243) := ok_goto (by decide +kernel : decode cX10_arriveAt 239 = .ok (.goto 4, 3)) (by decide)
theorem o162_242 : Okp RX10 cX10_arriveAt 8 none "arriveAt" false 242 (sK 0 243) := ok_iconst (by decide +kernel : decode cX10_arriveAt 242 = .ok (.iconst 0, 1)) (by decide)
theorem o162_243 : Okp RX10 cX10_arriveAt 8 none "arriveAt" false 243 (sSI 3 244) := ok_istore_n (by decide +kernel : decode cX10_arriveAt 243 = .ok (.istore_n 3, 1)) rfl (by decide) (by decide)
theorem o162_244 : Okp RX10 cX10_arriveAt 8 none "arriveAt" false 244 (sInc 4 1 247) := ok_iinc (by decide +kernel : decode cX10_arriveAt 244 = .ok (.iinc 4 1, 3)) (by decide) (by decide)
theorem o162_247 : Okp RX10 cX10_arriveAt 8 none "arriveAt" false 247 (sGo 90) := ok_goto (by decide +kernel : decode cX10_arriveAt 247 = .ok (.goto (-157), 3)) (by decide)
theorem o162_250 : Okp RX10 cX10_arriveAt 8 none "arriveAt" false 250 (sLI 3 251) := ok_iload_n (by decide +kernel : decode cX10_arriveAt 250 = .ok (.iload_n 3, 1)) rfl
theorem o162_251 : Okp RX10 cX10_arriveAt 8 none "arriveAt" false 251 (sI1 0 266 254) := ok_if_eq (by decide +kernel : decode cX10_arriveAt 251 = .ok (.ifCond .eq 15, 3)) (by decide)
theorem o162_254 : Okp RX10 cX10_arriveAt 8 none "arriveAt" false 254 (sLR 0 255) := ok_aload_n (by decide +kernel : decode cX10_arriveAt 254 = .ok (.aload_n 0, 1)) rfl
theorem o162_255 : Okp RX10 cX10_arriveAt 8 none "arriveAt" false 255 (sGR 11 3 258) := ok_getR (by decide +kernel : decode cX10_arriveAt 255 = .ok (.getfield 25, 3)) fw_X10_25 rfl
theorem o162_258 : Okp RX10 cX10_arriveAt 8 none "arriveAt" false 258 (sLI 1 259) := ok_iload_n (by decide +kernel : decode cX10_arriveAt 258 = .ok (.iload_n 1, 1)) rfl
theorem o162_259 : Okp RX10 cX10_arriveAt 8 none "arriveAt" false 259 (sK 1 260) := ok_iconst (by decide +kernel : decode cX10_arriveAt 259 = .ok (.iconst 1, 1)) (by decide)
theorem o162_260 : Okp RX10 cX10_arriveAt 8 none "arriveAt" false 260 (sBS 261) := ok_bastore (by decide +kernel : decode cX10_arriveAt 260 = .ok (.bastore, 1))
theorem o162_261 : Okp RX10 cX10_arriveAt 8 none "arriveAt" false 261 (sLR 0 262) := ok_aload_n (by decide +kernel : decode cX10_arriveAt 261 = .ok (.aload_n 0, 1)) rfl
theorem o162_262 : Okp RX10 cX10_arriveAt 8 none "arriveAt" false 262 (sK 1 263) := ok_iconst (by decide +kernel : decode cX10_arriveAt 262 = .ok (.iconst 1, 1)) (by decide)
theorem o162_263 : Okp RX10 cX10_arriveAt 8 none "arriveAt" false 263 (sPZ 11 6 266) := ok_putZ (by decide +kernel : decode cX10_arriveAt 263 = .ok (.putfield 37, 3)) fw_X10_37 ⟨⟨tyX10_ok, nmX10⟩, Or.inl rfl, rfl⟩ rfl
theorem o162_266 : Okp RX10 cX10_arriveAt 8 none "arriveAt" false 266 sRV := ok_vret rfl (by decide +kernel : decode cX10_arriveAt 266 = .ok (.return_, 1))
theorem oc162_0 : ∀ pc, Mnp (c162_0 pc) ∧ Okp RX10 cX10_arriveAt 8 none "arriveAt" false pc (c162_0 pc) := by
  intro pc
  unfold c162_0
  split
  · exact ⟨mn_sLR, o162_0⟩
  · exact ⟨mn_sGI, o162_1⟩
  · exact ⟨mn_sI1, o162_4⟩
  · exact ⟨mn_sLI, o162_7⟩
  · exact ⟨mn_sLR, o162_8⟩
  · exact ⟨mn_sGR, o162_9⟩
  · exact ⟨mn_sGI, o162_12⟩
  · exact ⟨mn_sI2, o162_15⟩
  · exact ⟨mn_sLI, o162_18⟩
  · exact ⟨mn_sK, o162_19⟩
  · exact ⟨mn_sI2, o162_22⟩
  · exact ⟨mn_sX, ok_X⟩
theorem oc162_1 : ∀ pc, Mnp (c162_1 pc) ∧ Okp RX10 cX10_arriveAt 8 none "arriveAt" false pc (c162_1 pc) := by
  intro pc
  unfold c162_1
  split
  · exact ⟨mn_sLR, o162_25⟩
  · exact ⟨mn_sK, o162_26⟩
  · exact ⟨mn_sPZ, o162_27⟩
  · exact ⟨mn_sRV, o162_30⟩
  · exact ⟨mn_sLR, o162_31⟩
  · exact ⟨mn_sGR, o162_32⟩
  · exact ⟨mn_sLI, o162_35⟩
  · exact ⟨mn_sCV, o162_36⟩
  · exact ⟨mn_sI1, o162_39⟩
  · exact ⟨mn_sK, o162_42⟩
  · exact ⟨mn_sGo, o162_43⟩
  · exact ⟨mn_sK, o162_46⟩
  · exact ⟨mn_sSI, o162_47⟩
  · exact ⟨mn_sX, ok_X⟩
theorem oc162_2 : ∀ pc, Mnp (c162_2 pc) ∧ Okp RX10 cX10_arriveAt 8 none "arriveAt" false pc (c162_2 pc) := by
  intro pc
  unfold c162_2
  split
  · exact ⟨mn_sLI, o162_48⟩
  · exact ⟨mn_sI1, o162_49⟩
  · exact ⟨mn_sLR, o162_52⟩
  · exact ⟨mn_sGR, o162_53⟩
  · exact ⟨mn_sLI, o162_56⟩
  · exact ⟨mn_sLR, o162_57⟩
  · exact ⟨mn_sGI, o162_58⟩
  · exact ⟨mn_sCV, o162_61⟩
  · exact ⟨mn_sLR, o162_64⟩
  · exact ⟨mn_sGR, o162_65⟩
  · exact ⟨mn_sLI, o162_68⟩
  · exact ⟨mn_sCV, o162_69⟩
  · exact ⟨mn_sX, ok_X⟩
theorem oc162_3 : ∀ pc, Mnp (c162_3 pc) ∧ Okp RX10 cX10_arriveAt 8 none "arriveAt" false pc (c162_3 pc) := by
  intro pc
  unfold c162_3
  split
  · exact ⟨mn_sLR, o162_72⟩
  · exact ⟨mn_sGI, o162_73⟩
  · exact ⟨mn_sI2, o162_76⟩
  · exact ⟨mn_sLR, o162_79⟩
  · exact ⟨mn_sK, o162_80⟩
  · exact ⟨mn_sPZ, o162_81⟩
  · exact ⟨mn_sRV, o162_84⟩
  · exact ⟨mn_sLI, o162_85⟩
  · exact ⟨mn_sSI, o162_86⟩
  · exact ⟨mn_sK, o162_87⟩
  · exact ⟨mn_sSI, o162_88⟩
  · exact ⟨mn_sLI, o162_90⟩
  · exact ⟨mn_sK, o162_92⟩
  · exact ⟨mn_sI2, o162_94⟩
  · exact ⟨mn_sX, ok_X⟩
theorem oc162_4 : ∀ pc, Mnp (c162_4 pc) ∧ Okp RX10 cX10_arriveAt 8 none "arriveAt" false pc (c162_4 pc) := by
  intro pc
  unfold c162_4
  split
  · exact ⟨mn_sLI, o162_97⟩
  · exact ⟨mn_sLR, o162_99⟩
  · exact ⟨mn_sGI, o162_100⟩
  · exact ⟨mn_sI2, o162_103⟩
  · exact ⟨mn_sLI, o162_106⟩
  · exact ⟨mn_sK, o162_108⟩
  · exact ⟨mn_sI2, o162_110⟩
  · exact ⟨mn_sLI, o162_113⟩
  · exact ⟨mn_sK, o162_115⟩
  · exact ⟨mn_sI2, o162_117⟩
  · exact ⟨mn_sX, ok_X⟩
theorem oc162_5 : ∀ pc, Mnp (c162_5 pc) ∧ Okp RX10 cX10_arriveAt 8 none "arriveAt" false pc (c162_5 pc) := by
  intro pc
  unfold c162_5
  split
  · exact ⟨mn_sLR, o162_120⟩
  · exact ⟨mn_sGR, o162_121⟩
  · exact ⟨mn_sLI, o162_124⟩
  · exact ⟨mn_sIA, o162_126⟩
  · exact ⟨mn_sGo, o162_127⟩
  · exact ⟨mn_sLR, o162_130⟩
  · exact ⟨mn_sGR, o162_131⟩
  · exact ⟨mn_sLI, o162_134⟩
  · exact ⟨mn_sK, o162_136⟩
  · exact ⟨mn_sB2, o162_138⟩
  · exact ⟨mn_sIA, o162_139⟩
  · exact ⟨mn_sSI, o162_140⟩
  · exact ⟨mn_sLI, o162_142⟩
  · exact ⟨mn_sI1, o162_143⟩
  · exact ⟨mn_sX, ok_X⟩
theorem oc162_6 : ∀ pc, Mnp (c162_6 pc) ∧ Okp RX10 cX10_arriveAt 8 none "arriveAt" false pc (c162_6 pc) := by
  intro pc
  unfold c162_6
  split
  · exact ⟨mn_sLI, o162_146⟩
  · exact ⟨mn_sGo, o162_148⟩
  · exact ⟨mn_sLR, o162_151⟩
  · exact ⟨mn_sGR, o162_152⟩
  · exact ⟨mn_sLI, o162_155⟩
  · exact ⟨mn_sLI, o162_156⟩
  · exact ⟨mn_sCV, o162_158⟩
  · exact ⟨mn_sSI, o162_161⟩
  · exact ⟨mn_sLI, o162_163⟩
  · exact ⟨mn_sLI, o162_165⟩
  · exact ⟨mn_sCS, o162_167⟩
  · exact ⟨mn_sX, ok_X⟩
theorem oc162_7 : ∀ pc, Mnp (c162_7 pc) ∧ Okp RX10 cX10_arriveAt 8 none "arriveAt" false pc (c162_7 pc) := by
  intro pc
  unfold c162_7
  split
  · exact ⟨mn_sSI, o162_170⟩
  · exact ⟨mn_sLI, o162_172⟩
  · exact ⟨mn_sK, o162_174⟩
  · exact ⟨mn_sI2, o162_176⟩
  · exact ⟨mn_sLR, o162_179⟩
  · exact ⟨mn_sLI, o162_180⟩
  · exact ⟨mn_sK, o162_182⟩
  · exact ⟨mn_sI2, o162_184⟩
  · exact ⟨mn_sLI, o162_187⟩
  · exact ⟨mn_sCS, o162_189⟩
  · exact ⟨mn_sX, ok_X⟩
theorem oc162_8 : ∀ pc, Mnp (c162_8 pc) ∧ Okp RX10 cX10_arriveAt 8 none "arriveAt" false pc (c162_8 pc) := by
  intro pc
  unfold c162_8
  split
  · exact ⟨mn_sI1, o162_192⟩
  · exact ⟨mn_sLI, o162_195⟩
  · exact ⟨mn_sCS, o162_197⟩
  · exact ⟨mn_sI1, o162_200⟩
  · exact ⟨mn_sK, o162_203⟩
  · exact ⟨mn_sGo, o162_204⟩
  · exact ⟨mn_sK, o162_207⟩
  · exact ⟨mn_sCV, o162_208⟩
  · exact ⟨mn_sK, o162_211⟩
  · exact ⟨mn_sSI, o162_213⟩
  · exact ⟨mn_sLR, o162_215⟩
  · exact ⟨mn_sX, ok_X⟩
theorem oc162_9 : ∀ pc, Mnp (c162_9 pc) ∧ Okp RX10 cX10_arriveAt 8 none "arriveAt" false pc (c162_9 pc) := by
  intro pc
  unfold c162_9
  split
  · exact ⟨mn_sGR, o162_216⟩
  · exact ⟨mn_sLI, o162_219⟩
  · exact ⟨mn_sLI, o162_220⟩
  · exact ⟨mn_sLI, o162_222⟩
  · exact ⟨mn_sCV, o162_224⟩
  · exact ⟨mn_sLI, o162_227⟩
  · exact ⟨mn_sI1, o162_228⟩
  · exact ⟨mn_sLI, o162_231⟩
  · exact ⟨mn_sLI, o162_233⟩
  · exact ⟨mn_sI2, o162_235⟩
  · exact ⟨mn_sK, o162_238⟩
  · exact ⟨mn_sGo, o162_239⟩
  · exact ⟨mn_sX, ok_X⟩
theorem oc162_10 : ∀ pc, Mnp (c162_10 pc) ∧ Okp RX10 cX10_arriveAt 8 none "arriveAt" false pc (c162_10 pc) := by
  intro pc
  unfold c162_10
  split
  · exact ⟨mn_sK, o162_242⟩
  · exact ⟨mn_sSI, o162_243⟩
  · exact ⟨mn_sInc, o162_244⟩
  · exact ⟨mn_sGo, o162_247⟩
  · exact ⟨mn_sLI, o162_250⟩
  · exact ⟨mn_sI1, o162_251⟩
  · exact ⟨mn_sLR, o162_254⟩
  · exact ⟨mn_sGR, o162_255⟩
  · exact ⟨mn_sLI, o162_258⟩
  · exact ⟨mn_sK, o162_259⟩
  · exact ⟨mn_sBS, o162_260⟩
  · exact ⟨mn_sLR, o162_261⟩
  · exact ⟨mn_sK, o162_262⟩
  · exact ⟨mn_sPZ, o162_263⟩
  · exact ⟨mn_sX, ok_X⟩
theorem oc162_11 : ∀ pc, Mnp (c162_11 pc) ∧ Okp RX10 cX10_arriveAt 8 none "arriveAt" false pc (c162_11 pc) := by
  intro pc
  unfold c162_11
  split
  · exact ⟨mn_sRV, o162_266⟩
  · exact ⟨mn_sX, ok_X⟩
theorem oc162 : ∀ pc, Mnp (c162 pc) ∧ Okp RX10 cX10_arriveAt 8 none "arriveAt" false pc (c162 pc) := by
  intro pc
  unfold c162
  split
  · exact oc162_0 pc
  · exact oc162_1 pc
  · exact oc162_2 pc
  · exact oc162_3 pc
  · exact oc162_4 pc
  · exact oc162_5 pc
  · exact oc162_6 pc
  · exact oc162_7 pc
  · exact oc162_8 pc
  · exact oc162_9 pc
  · exact oc162_10 pc
  · exact oc162_11 pc
  · exact ⟨mn_sX, ok_X⟩
theorem o163_0 : Okp RX10 cX10_join 4 (some .int) "join" false 0 (sLI 0 1) := ok_iload_n (by decide +kernel : decode cX10_join 0 = .ok (.iload_n 0, 1)) rfl
theorem o163_1 : Okp RX10 cX10_join 4 (some .int) "join" false 1 (sK 15 3) := ok_bipush (by decide +kernel : decode cX10_join 1 = .ok (.bipush 15, 2)) (by decide)
theorem o163_3 : Okp RX10 cX10_join 4 (some .int) "join" false 3 (sB2 fAnd 4) := ok_iand (by decide +kernel : decode cX10_join 3 = .ok (.iand, 1))
theorem o163_4 : Okp RX10 cX10_join 4 (some .int) "join" false 4 (sSI 2 5) := ok_istore_n (by decide +kernel : decode cX10_join 4 = .ok (.istore_n 2, 1)) rfl (by decide) (by decide)
theorem o163_5 : Okp RX10 cX10_join 4 (some .int) "join" false 5 (sLI 1 6) := ok_iload_n (by decide +kernel : decode cX10_join 5 = .ok (.iload_n 1, 1)) rfl
theorem o163_6 : Okp RX10 cX10_join 4 (some .int) "join" false 6 (sK 15 8) := ok_bipush (by decide +kernel : decode cX10_join 6 = .ok (.bipush 15, 2)) (by decide)
theorem o163_8 : Okp RX10 cX10_join 4 (some .int) "join" false 8 (sB2 fAnd 9) := ok_iand (by decide +kernel : decode cX10_join 8 = .ok (.iand, 1))
theorem o163_9 : Okp RX10 cX10_join 4 (some .int) "join" false 9 (sSI 3 10) := ok_istore_n (by decide +kernel : decode cX10_join 9 = .ok (.istore_n 3, 1)) rfl (by decide) (by decide)
theorem o163_10 : Okp RX10 cX10_join 4 (some .int) "join" false 10 (sLI 0 11) := ok_iload_n (by decide +kernel : decode cX10_join 10 = .ok (.iload_n 0, 1)) rfl
theorem o163_11 : Okp RX10 cX10_join 4 (some .int) "join" false 11 (sLI 1 12) := ok_iload_n (by decide +kernel : decode cX10_join 11 = .ok (.iload_n 1, 1)) rfl
theorem o163_12 : Okp RX10 cX10_join 4 (some .int) "join" false 12 (sI2 0 31 15) := ok_icmp_eq (by decide +kernel : decode cX10_join 12 = .ok (.if_icmp .eq 19, 3)) (by decide)
theorem o163_15 : Okp RX10 cX10_join 4 (some .int) "join" false 15 (sLI 1 16) := ok_iload_n (by decide +kernel : decode cX10_join 15 = .ok (.iload_n 1, 1)) rfl
theorem o163_16 : Okp RX10 cX10_join 4 (some .int) "join" false 16 (sK 6 18) := ok_bipush (by decide +kernel : decode cX10_join 16 = .ok (.bipush 6, 2)) (by decide)
theorem o163_18 : Okp RX10 cX10_join 4 (some .int) "join" false 18 (sI2 1 33 21) := ok_icmp_ne (by decide +kernel : decode cX10_join 18 = .ok (.if_icmp .ne 15, 3)) (by decide)
theorem o163_21 : Okp RX10 cX10_join 4 (some .int) "join" false 21 (sLI 2 22) := ok_iload_n (by decide +kernel : decode cX10_join 21 = .ok (.iload_n 2, 1)) rfl
theorem o163_22 : Okp RX10 cX10_join 4 (some .int) "join" false 22 (sK 1 23) := ok_iconst (by decide +kernel : decode cX10_join 22 = .ok (.iconst 1, 1)) (by decide)
theorem o163_23 : Okp RX10 cX10_join 4 (some .int) "join" false 23 (sI2 2 33 26) := ok_icmp_lt (by decide +kernel : decode cX10_join 23 = .ok (.if_icmp .lt 10, 3)) (by decide)
theorem o163_26 : Okp RX10 cX10_join 4 (some .int) "join" false 26 (sLI 2 27) := ok_iload_n (by decide +kernel : decode cX10_join 26 = .ok (.iload_n 2, 1)) rfl
theorem o163_27 : Okp RX10 cX10_join 4 (some .int) "join" false 27 (sK 3 28) := ok_iconst (by decide +kernel : decode cX10_join 27 = .ok (.iconst 3, 1)) (by decide)
theorem o163_28 : Okp RX10 cX10_join 4 (some .int) "join" false 28 (sI2 4 33 31) := ok_icmp_gt (by decide +kernel : decode cX10_join 28 = .ok (.if_icmp .gt 5, 3)) (by decide)
theorem o163_31 : Okp RX10 cX10_join 4 (some .int) "join" false 31 (sLI 0 32) := ok_iload_n (by decide +kernel : decode cX10_join 31 = .ok (.iload_n 0, 1)) rfl
theorem o163_32 : Okp RX10 cX10_join 4 (some .int) "join" false 32 sRI := ok_iret rfl (by decide +kernel : decode cX10_join 32 = .ok (.ireturn, 1))
theorem o163_33 : Okp RX10 cX10_join 4 (some .int) "join" false 33 (sLI 0 34) := ok_iload_n (by decide +kernel : decode cX10_join 33 = .ok (.iload_n 0, 1)) rfl
theorem o163_34 : Okp RX10 cX10_join 4 (some .int) "join" false 34 (sK 6 36) := ok_bipush (by decide +kernel : decode cX10_join 34 = .ok (.bipush 6, 2)) (by decide)
theorem o163_36 : Okp RX10 cX10_join 4 (some .int) "join" false 36 (sI2 1 53 39) := ok_icmp_ne (by decide +kernel : decode cX10_join 36 = .ok (.if_icmp .ne 17, 3)) (by decide)
theorem o163_39 : Okp RX10 cX10_join 4 (some .int) "join" false 39 (sLI 3 40) := ok_iload_n (by decide +kernel : decode cX10_join 39 = .ok (.iload_n 3, 1)) rfl
theorem o163_40 : Okp RX10 cX10_join 4 (some .int) "join" false 40 (sK 1 41) := ok_iconst (by decide +kernel : decode cX10_join 40 = .ok (.iconst 1, 1)) (by decide)
theorem o163_41 : Okp RX10 cX10_join 4 (some .int) "join" false 41 (sI2 2 53 44) := ok_icmp_lt (by decide +kernel : decode cX10_join 41 = .ok (.if_icmp .lt 12, 3)) (by decide)
theorem o163_44 : Okp RX10 cX10_join 4 (some .int) "join" false 44 (sLI 3 45) := ok_iload_n (by decide +kernel : decode cX10_join 44 = .ok (.iload_n 3, 1)) rfl
theorem o163_45 : Okp RX10 cX10_join 4 (some .int) "join" false 45 (sK 3 46) := ok_iconst (by decide +kernel : decode cX10_join 45 = .ok (.iconst 3, 1)) (by decide)
theorem o163_46 : Okp RX10 cX10_join 4 (some .int) "join" false 46 (sI2 4 53 49) := ok_icmp_gt (by decide +kernel : decode cX10_join 46 = .ok (.if_icmp .gt 7, 3)) (by decide)
theorem o163_49 : Okp RX10 cX10_join 4 (some .int) "join" false 49 (sLI 1 50) := ok_iload_n (by decide +kernel : decode cX10_join 49 = .ok (.iload_n 1, 1)) rfl
theorem o163_50 : Okp RX10 cX10_join 4 (some .int) "join" false 50 (sGo 55) := ok_goto (by decide +kernel : decode cX10_join 50 = .ok (.goto 5, 3)) (by decide)
theorem o163_53 : Okp RX10 cX10_join 4 (some .int) "join" false 53 (sK (-2) 55) := ok_bipush (by decide +kernel : decode cX10_join 53 = .ok (.bipush (-2), 2)) (by decide)
theorem o163_55 : Okp RX10 cX10_join 4 (some .int) "join" false 55 sRI := ok_iret rfl (by decide +kernel : decode cX10_join 55 = .ok (.ireturn, 1))
theorem oc163_0 : ∀ pc, Mnp (c163_0 pc) ∧ Okp RX10 cX10_join 4 (some .int) "join" false pc (c163_0 pc) := by
  intro pc
  unfold c163_0
  split
  · exact ⟨mn_sLI, o163_0⟩
  · exact ⟨mn_sK, o163_1⟩
  · exact ⟨mn_sB2, o163_3⟩
  · exact ⟨mn_sSI, o163_4⟩
  · exact ⟨mn_sLI, o163_5⟩
  · exact ⟨mn_sK, o163_6⟩
  · exact ⟨mn_sB2, o163_8⟩
  · exact ⟨mn_sSI, o163_9⟩
  · exact ⟨mn_sLI, o163_10⟩
  · exact ⟨mn_sLI, o163_11⟩
  · exact ⟨mn_sI2, o163_12⟩
  · exact ⟨mn_sLI, o163_15⟩
  · exact ⟨mn_sK, o163_16⟩
  · exact ⟨mn_sI2, o163_18⟩
  · exact ⟨mn_sLI, o163_21⟩
  · exact ⟨mn_sK, o163_22⟩
  · exact ⟨mn_sI2, o163_23⟩
  · exact ⟨mn_sX, ok_X⟩
theorem oc163_1 : ∀ pc, Mnp (c163_1 pc) ∧ Okp RX10 cX10_join 4 (some .int) "join" false pc (c163_1 pc) := by
  intro pc
  unfold c163_1
  split
  · exact ⟨mn_sLI, o163_26⟩
  · exact ⟨mn_sK, o163_27⟩
  · exact ⟨mn_sI2, o163_28⟩
  · exact ⟨mn_sLI, o163_31⟩
  · exact ⟨mn_sRI, o163_32⟩
  · exact ⟨mn_sLI, o163_33⟩
  · exact ⟨mn_sK, o163_34⟩
  · exact ⟨mn_sI2, o163_36⟩
  · exact ⟨mn_sLI, o163_39⟩
  · exact ⟨mn_sK, o163_40⟩
  · exact ⟨mn_sI2, o163_41⟩
  · exact ⟨mn_sLI, o163_44⟩
  · exact ⟨mn_sK, o163_45⟩
  · exact ⟨mn_sI2, o163_46⟩
  · exact ⟨mn_sX, ok_X⟩
theorem oc163_2 : ∀ pc, Mnp (c163_2 pc) ∧ Okp RX10 cX10_join 4 (some .int) "join" false pc (c163_2 pc) := by
  intro pc
  unfold c163_2
  split
  · exact ⟨mn_sLI, o163_49⟩
  · exact ⟨mn_sGo, o163_50⟩
  · exact ⟨mn_sK, o163_53⟩
  · exact ⟨mn_sRI, o163_55⟩
  · exact ⟨mn_sX, ok_X⟩
theorem oc163 : ∀ pc, Mnp (c163 pc) ∧ Okp RX10 cX10_join 4 (some .int) "join" false pc (c163 pc) := by
  intro pc
  unfold c163
  split
  · exact oc163_0 pc
  · exact oc163_1 pc
  · exact oc163_2 pc
  · exact ⟨mn_sX, ok_X⟩
theorem o164_0 : Okp RX10 cX10_push 2 none "push" false 0 (sLR 0 1) := ok_aload_n (by decide +kernel : decode cX10_push 0 = .ok (.aload_n 0, 1)) rfl
theorem o164_1 : Okp RX10 cX10_push 2 none "push" false 1 (sGI 11 4 4) := ok_getI (by decide +kernel : decode cX10_push 1 = .ok (.getfield 29, 3)) fw_X10_29 rfl
theorem o164_4 : Okp RX10 cX10_push 2 none "push" false 4 (sK 16 6) := ok_bipush (by decide +kernel : decode cX10_push 4 = .ok (.bipush 16, 2)) (by decide)
theorem o164_6 : Okp RX10 cX10_push 2 none "push" false 6 (sI2 2 15 9) := ok_icmp_lt (by decide +kernel : decode cX10_push 6 = .ok (.if_icmp .lt 9, 3)) (by decide)
theorem o164_9 : Okp RX10 cX10_push 2 none "push" false 9 (sLR 0 10) := ok_aload_n (by decide +kernel : decode cX10_push 9 = .ok (.aload_n 0, 1)) rfl
theorem o164_10 : Okp RX10 cX10_push 2 none "push" false 10 (sK 1 11) := ok_iconst (by decide +kernel : decode cX10_push 10 = .ok (.iconst 1, 1)) (by decide)
theorem o164_11 : Okp RX10 cX10_push 2 none "push" false 11 (sPZ 11 5 14) := ok_putZ (by decide +kernel : decode cX10_push 11 = .ok (.putfield 33, 3)) fw_X10_33 ⟨⟨tyX10_ok, nmX10⟩, Or.inl rfl, rfl⟩ rfl
theorem o164_14 : Okp RX10 cX10_push 2 none "push" false 14 sRV := ok_vret rfl (by decide +kernel : decode cX10_push 14 = .ok (.return_, 1))
theorem o164_15 : Okp RX10 cX10_push 2 none "push" false 15 (sLR 0 16) := ok_aload_n (by decide +kernel : decode cX10_push 15 = .ok (.aload_n 0, 1)) rfl
theorem o164_16 : Okp RX10 cX10_push 2 none "push" false 16 (sGR 11 1 19) := ok_getR (by decide +kernel : decode cX10_push 16 = .ok (.getfield 18, 3)) fw_X10_18 rfl
theorem o164_19 : Okp RX10 cX10_push 2 none "push" false 19 (sLR 0 20) := ok_aload_n (by decide +kernel : decode cX10_push 19 = .ok (.aload_n 0, 1)) rfl
theorem o164_20 : Okp RX10 cX10_push 2 none "push" false 20 (sGI 11 4 23) := ok_getI (by decide +kernel : decode cX10_push 20 = .ok (.getfield 29, 3)) fw_X10_29 rfl
theorem o164_23 : Okp RX10 cX10_push 2 none "push" false 23 (sLI 1 24) := ok_iload_n (by decide +kernel : decode cX10_push 23 = .ok (.iload_n 1, 1)) rfl
theorem o164_24 : Okp RX10 cX10_push 2 none "push" false 24 (sIS 25) := ok_iastore (by decide +kernel : decode cX10_push 24 = .ok (.iastore, 1))
theorem o164_25 : Okp RX10 cX10_push 2 none "push" false 25 (sLR 0 26) := ok_aload_n (by decide +kernel : decode cX10_push 25 = .ok (.aload_n 0, 1)) rfl
theorem o164_26 : Okp RX10 cX10_push 2 none "push" false 26 (sDup 27) := ok_dup (by decide +kernel : decode cX10_push 26 = .ok (.dup, 1))
theorem o164_27 : Okp RX10 cX10_push 2 none "push" false 27 (sGI 11 4 30) := ok_getI (by decide +kernel : decode cX10_push 27 = .ok (.getfield 29, 3)) fw_X10_29 rfl
theorem o164_30 : Okp RX10 cX10_push 2 none "push" false 30 (sK 1 31) := ok_iconst (by decide +kernel : decode cX10_push 30 = .ok (.iconst 1, 1)) (by decide)
theorem o164_31 : Okp RX10 cX10_push 2 none "push" false 31 (sB2 fAdd 32) := ok_iadd (by decide +kernel : decode cX10_push 31 = .ok (.iadd, 1))
theorem o164_32 : Okp RX10 cX10_push 2 none "push" false 32 (sPI 11 4 35) := ok_putI (by decide +kernel : decode cX10_push 32 = .ok (.putfield 29, 3)) fw_X10_29 ⟨⟨tyX10_ok, nmX10⟩, Or.inl rfl, rfl⟩ rfl
theorem o164_35 : Okp RX10 cX10_push 2 none "push" false 35 sRV := ok_vret rfl (by decide +kernel : decode cX10_push 35 = .ok (.return_, 1))
theorem oc164_0 : ∀ pc, Mnp (c164_0 pc) ∧ Okp RX10 cX10_push 2 none "push" false pc (c164_0 pc) := by
  intro pc
  unfold c164_0
  split
  · exact ⟨mn_sLR, o164_0⟩
  · exact ⟨mn_sGI, o164_1⟩
  · exact ⟨mn_sK, o164_4⟩
  · exact ⟨mn_sI2, o164_6⟩
  · exact ⟨mn_sLR, o164_9⟩
  · exact ⟨mn_sK, o164_10⟩
  · exact ⟨mn_sPZ, o164_11⟩
  · exact ⟨mn_sRV, o164_14⟩
  · exact ⟨mn_sLR, o164_15⟩
  · exact ⟨mn_sGR, o164_16⟩
  · exact ⟨mn_sLR, o164_19⟩
  · exact ⟨mn_sGI, o164_20⟩
  · exact ⟨mn_sLI, o164_23⟩
  · exact ⟨mn_sX, ok_X⟩
theorem oc164_1 : ∀ pc, Mnp (c164_1 pc) ∧ Okp RX10 cX10_push 2 none "push" false pc (c164_1 pc) := by
  intro pc
  unfold c164_1
  split
  · exact ⟨mn_sIS, o164_24⟩
  · exact ⟨mn_sLR, o164_25⟩
  · exact ⟨mn_sDup, o164_26⟩
  · exact ⟨mn_sGI, o164_27⟩
  · exact ⟨mn_sK, o164_30⟩
  · exact ⟨mn_sB2, o164_31⟩
  · exact ⟨mn_sPI, o164_32⟩
  · exact ⟨mn_sRV, o164_35⟩
  · exact ⟨mn_sX, ok_X⟩
theorem oc164 : ∀ pc, Mnp (c164 pc) ∧ Okp RX10 cX10_push 2 none "push" false pc (c164 pc) := by
  intro pc
  unfold c164
  split
  · exact oc164_0 pc
  · exact oc164_1 pc
  · exact ⟨mn_sX, ok_X⟩
theorem o165_0 : Okp RX10 cX10_pop 1 (some .int) "pop" false 0 (sLR 0 1) := ok_aload_n (by decide +kernel : decode cX10_pop 0 = .ok (.aload_n 0, 1)) rfl
theorem o165_1 : Okp RX10 cX10_pop 1 (some .int) "pop" false 1 (sGI 11 4 4) := ok_getI (by decide +kernel : decode cX10_pop 1 = .ok (.getfield 29, 3)) fw_X10_29 rfl
theorem o165_4 : Okp RX10 cX10_pop 1 (some .int) "pop" false 4 (sI1 4 15 7) := ok_if_gt (by decide +kernel : decode cX10_pop 4 = .ok (.ifCond .gt 11, 3)) (by decide)
theorem o165_7 : Okp RX10 cX10_pop 1 (some .int) "pop" false 7 (sLR 0 8) := ok_aload_n (by decide +kernel : decode cX10_pop 7 = .ok (.aload_n 0, 1)) rfl
theorem o165_8 : Okp RX10 cX10_pop 1 (some .int) "pop" false 8 (sK 1 9) := ok_iconst (by decide +kernel : decode cX10_pop 8 = .ok (.iconst 1, 1)) (by decide)
theorem o165_9 : Okp RX10 cX10_pop 1 (some .int) "pop" false 9 (sPZ 11 5 12) := ok_putZ (by decide +kernel : decode cX10_pop 9 = .ok (.putfield 33, 3)) fw_X10_33 ⟨⟨tyX10_ok, nmX10⟩, Or.inl rfl, rfl⟩ rfl
theorem o165_12 : Okp RX10 cX10_pop 1 (some .int) "pop" false 12 (sK 7 14) := ok_bipush (by decide +kernel : decode cX10_pop 12 = .ok (.bipush 7, 2)) (by decide)
theorem o165_14 : Okp RX10 cX10_pop 1 (some .int) "pop" false 14 sRI := ok_iret rfl (by decide +kernel : decode cX10_pop 14 = .ok (.ireturn, 1))
theorem o165_15 : Okp RX10 cX10_pop 1 (some .int) "pop" false 15 (sLR 0 16) := ok_aload_n (by decide +kernel : decode cX10_pop 15 = .ok (.aload_n 0, 1)) rfl
theorem o165_16 : Okp RX10 cX10_pop 1 (some .int) "pop" false 16 (sDup 17) := ok_dup (by decide +kernel : decode cX10_pop 16 = .ok (.dup, 1))
theorem o165_17 : Okp RX10 cX10_pop 1 (some .int) "pop" false 17 (sGI 11 4 20) := ok_getI (by decide +kernel : decode cX10_pop 17 = .ok (.getfield 29, 3)) fw_X10_29 rfl
theorem o165_20 : Okp RX10 cX10_pop 1 (some .int) "pop" false 20 (sK 1 21) := ok_iconst (by decide +kernel : decode cX10_pop 20 = .ok (.iconst 1, 1)) (by decide)
theorem o165_21 : Okp RX10 cX10_pop 1 (some .int) "pop" false 21 (sB2 fSub 22) := ok_isub (by decide +kernel : decode cX10_pop 21 = .ok (.isub, 1))
theorem o165_22 : Okp RX10 cX10_pop 1 (some .int) "pop" false 22 (sPI 11 4 25) := ok_putI (by decide +kernel : decode cX10_pop 22 = .ok (.putfield 29, 3)) fw_X10_29 ⟨⟨tyX10_ok, nmX10⟩, Or.inl rfl, rfl⟩ rfl
theorem o165_25 : Okp RX10 cX10_pop 1 (some .int) "pop" false 25 (sLR 0 26) := ok_aload_n (by decide +kernel : decode cX10_pop 25 = .ok (.aload_n 0, 1)) rfl
theorem o165_26 : Okp RX10 cX10_pop 1 (some .int) "pop" false 26 (sGR 11 1 29) := ok_getR (by decide +kernel : decode cX10_pop 26 = .ok (.getfield 18, 3)) fw_X10_18 rfl
theorem o165_29 : Okp RX10 cX10_pop 1 (some .int) "pop" false 29 (sLR 0 30) := ok_aload_n (by decide +kernel : decode cX10_pop 29 = .ok (.aload_n 0, 1)) rfl
theorem o165_30 : Okp RX10 cX10_pop 1 (some .int) "pop" false 30 (sGI 11 4 33) := ok_getI (by decide +kernel : decode cX10_pop 30 = .ok (.getfield 29, 3)) fw_X10_29 rfl
theorem o165_33 : Okp RX10 cX10_pop 1 (some .int) "pop" false 33 (sIA 34) := ok_iaload (by decide +kernel : decode cX10_pop 33 = .ok (.iaload, 1))
theorem o165_34 : Okp RX10 cX10_pop 1 (some .int) "pop" false 34 sRI := ok_iret rfl (by decide +kernel : decode cX10_pop 34 = .ok (.ireturn, 1))
theorem oc165_0 : ∀ pc, Mnp (c165_0 pc) ∧ Okp RX10 cX10_pop 1 (some .int) "pop" false pc (c165_0 pc) := by
  intro pc
  unfold c165_0
  split
  · exact ⟨mn_sLR, o165_0⟩
  · exact ⟨mn_sGI, o165_1⟩
  · exact ⟨mn_sI1, o165_4⟩
  · exact ⟨mn_sLR, o165_7⟩
  · exact ⟨mn_sK, o165_8⟩
  · exact ⟨mn_sPZ, o165_9⟩
  · exact ⟨mn_sK, o165_12⟩
  · exact ⟨mn_sRI, o165_14⟩
  · exact ⟨mn_sLR, o165_15⟩
  · exact ⟨mn_sDup, o165_16⟩
  · exact ⟨mn_sGI, o165_17⟩
  · exact ⟨mn_sK, o165_20⟩
  · exact ⟨mn_sB2, o165_21⟩
  · exact ⟨mn_sPI, o165_22⟩
  · exact ⟨mn_sX, ok_X⟩
theorem oc165_1 : ∀ pc, Mnp (c165_1 pc) ∧ Okp RX10 cX10_pop 1 (some .int) "pop" false pc (c165_1 pc) := by
  intro pc
  unfold c165_1
  split
  · exact ⟨mn_sLR, o165_25⟩
  · exact ⟨mn_sGR, o165_26⟩
  · exact ⟨mn_sLR, o165_29⟩
  · exact ⟨mn_sGI, o165_30⟩
  · exact ⟨mn_sIA, o165_33⟩
  · exact ⟨mn_sRI, o165_34⟩
  · exact ⟨mn_sX, ok_X⟩
theorem oc165 : ∀ pc, Mnp (c165 pc) ∧ Okp RX10 cX10_pop 1 (some .int) "pop" false pc (c165 pc) := by
  intro pc
  unfold c165
  split
  · exact oc165_0 pc
  · exact oc165_1 pc
  · exact ⟨mn_sX, ok_X⟩
theorem o166_0 : Okp RX10 cX10_want 2 none "want" false 0 (sLI 1 1) := ok_iload_n (by decide +kernel : decode cX10_want 0 = .ok (.iload_n 1, 1)) rfl
theorem o166_1 : Okp RX10 cX10_want 2 none "want" false 1 (sI1 1 9 4) := ok_if_ne (by decide +kernel : decode cX10_want 1 = .ok (.ifCond .ne 8, 3)) (by decide)
theorem o166_4 : Okp RX10 cX10_want 2 none "want" false 4 (sLR 0 5) := ok_aload_n (by decide +kernel : decode cX10_want 4 = .ok (.aload_n 0, 1)) rfl
theorem o166_5 : Okp RX10 cX10_want 2 none "want" false 5 (sK 1 6) := ok_iconst (by decide +kernel : decode cX10_want 5 = .ok (.iconst 1, 1)) (by decide)
theorem o166_6 : Okp RX10 cX10_want 2 none "want" false 6 (sPZ 11 5 9) := ok_putZ (by decide +kernel : decode cX10_want 6 = .ok (.putfield 33, 3)) fw_X10_33 ⟨⟨tyX10_ok, nmX10⟩, Or.inl rfl, rfl⟩ rfl
theorem o166_9 : Okp RX10 cX10_want 2 none "want" false 9 sRV := ok_vret rfl (by decide +kernel : decode cX10_want 9 = .ok (.return_, 1))
theorem oc166 : ∀ pc, Mnp (c166 pc) ∧ Okp RX10 cX10_want 2 none "want" false pc (c166 pc) := by
  intro pc
  unfold c166
  split
  · exact ⟨mn_sLI, o166_0⟩
  · exact ⟨mn_sI1, o166_1⟩
  · exact ⟨mn_sLR, o166_4⟩
  · exact ⟨mn_sK, o166_5⟩
  · exact ⟨mn_sPZ, o166_6⟩
  · exact ⟨mn_sRV, o166_9⟩
  · exact ⟨mn_sX, ok_X⟩
theorem o167_0 : Okp RX10 cX10_popInt 1 none "popInt" false 0 (sLR 0 1) := ok_aload_n (by decide +kernel : decode cX10_popInt 0 = .ok (.aload_n 0, 1)) rfl
theorem o167_1 : Okp RX10 cX10_popInt 1 none "popInt" false 1 (sLR 0 2) := ok_aload_n (by decide +kernel : decode cX10_popInt 1 = .ok (.aload_n 0, 1)) rfl
theorem o167_2 : Okp RX10 cX10_popInt 1 none "popInt" false 2 (sCV false 165 1 11 5) := ok_cv (by decide +kernel : decode cX10_popInt 2 = .ok (.invokevirtual 137, 3)) mw_X10_137 rfl (by decide) wm_X10_pop wse_X10_pop (by decide) rfl
theorem o167_5 : Okp RX10 cX10_popInt 1 none "popInt" false 5 (sI1 1 12 8) := ok_if_ne (by decide +kernel : decode cX10_popInt 5 = .ok (.ifCond .ne 7, 3)) (by decide)
theorem o167_8 : Okp RX10 cX10_popInt 1 none "popInt" false 8 (sK 1 9) := ok_iconst (by decide +kernel : decode cX10_popInt 8 = .ok (.iconst 1, 1)) (by decide)
theorem o167_9 : Okp RX10 cX10_popInt 1 none "popInt" false 9 (sGo 13) := ok_goto (by decide +kernel : decode cX10_popInt 9 = .ok (.goto 4, 3)) (by decide)
theorem o167_12 : Okp RX10 cX10_popInt 1 none "popInt" false 12 (sK 0 13) := ok_iconst (by decide +kernel : decode cX10_popInt 12 = .ok (.iconst 0, 1)) (by decide)
theorem o167_13 : Okp RX10 cX10_popInt 1 none "popInt" false 13 (sCV false 166 2 11 16) := ok_cv (by decide +kernel : decode cX10_popInt 13 = .ok (.invokevirtual 129, 3)) mw_X10_129 rfl (by decide) wm_X10_want wse_X10_want (by decide) rfl
theorem o167_16 : Okp RX10 cX10_popInt 1 none "popInt" false 16 sRV := ok_vret rfl (by decide +kernel : decode cX10_popInt 16 = .ok (.return_, 1))
theorem oc167 : ∀ pc, Mnp (c167 pc) ∧ Okp RX10 cX10_popInt 1 none "popInt" false pc (c167 pc) := by
  intro pc
  unfold c167
  split
  · exact ⟨mn_sLR, o167_0⟩
  · exact ⟨mn_sLR, o167_1⟩
  · exact ⟨mn_sCV, o167_2⟩
  · exact ⟨mn_sI1, o167_5⟩
  · exact ⟨mn_sK, o167_8⟩
  · exact ⟨mn_sGo, o167_9⟩
  · exact ⟨mn_sK, o167_12⟩
  · exact ⟨mn_sCV, o167_13⟩
  · exact ⟨mn_sRV, o167_16⟩
  · exact ⟨mn_sX, ok_X⟩
theorem o168_0 : Okp RX10 cX10_operandOf 2 (some .int) "operandOf" false 0 (sLR 0 1) := ok_aload_n (by decide +kernel : decode cX10_operandOf 0 = .ok (.aload_n 0, 1)) rfl
theorem o168_1 : Okp RX10 cX10_operandOf 2 (some .int) "operandOf" false 1 (sGR 11 7 4) := ok_getR (by decide +kernel : decode cX10_operandOf 1 = .ok (.getfield 40, 3)) fw_X10_40 rfl
theorem o168_4 : Okp RX10 cX10_operandOf 2 (some .int) "operandOf" false 4 (sLR 0 5) := ok_aload_n (by decide +kernel : decode cX10_operandOf 4 = .ok (.aload_n 0, 1)) rfl
theorem o168_5 : Okp RX10 cX10_operandOf 2 (some .int) "operandOf" false 5 (sGR 11 8 8) := ok_getR (by decide +kernel : decode cX10_operandOf 5 = .ok (.getfield 44, 3)) fw_X10_44 rfl
theorem o168_8 : Okp RX10 cX10_operandOf 2 (some .int) "operandOf" false 8 (sGI 8 5 11) := ok_getI (by decide +kernel : decode cX10_operandOf 8 = .ok (.getfield 74, 3)) fw_X10_74 rfl
theorem o168_11 : Okp RX10 cX10_operandOf 2 (some .int) "operandOf" false 11 (sLI 1 12) := ok_iload_n (by decide +kernel : decode cX10_operandOf 11 = .ok (.iload_n 1, 1)) rfl
theorem o168_12 : Okp RX10 cX10_operandOf 2 (some .int) "operandOf" false 12 (sB2 fAdd 13) := ok_iadd (by decide +kernel : decode cX10_operandOf 12 = .ok (.iadd, 1))
theorem o168_13 : Okp RX10 cX10_operandOf 2 (some .int) "operandOf" false 13 (sK 1 14) := ok_iconst (by decide +kernel : decode cX10_operandOf 13 = .ok (.iconst 1, 1)) (by decide)
theorem o168_14 : Okp RX10 cX10_operandOf 2 (some .int) "operandOf" false 14 (sB2 fAdd 15) := ok_iadd (by decide +kernel : decode cX10_operandOf 14 = .ok (.iadd, 1))
theorem o168_15 : Okp RX10 cX10_operandOf 2 (some .int) "operandOf" false 15 (sCV false 145 2 10 18) := ok_cv (by decide +kernel : decode cX10_operandOf 15 = .ok (.invokevirtual 141, 3)) mw_X10_141 rfl (by decide) wm_X9_byteAt wse_X9_byteAt (by decide) rfl
theorem o168_18 : Okp RX10 cX10_operandOf 2 (some .int) "operandOf" false 18 sRI := ok_iret rfl (by decide +kernel : decode cX10_operandOf 18 = .ok (.ireturn, 1))
theorem oc168 : ∀ pc, Mnp (c168 pc) ∧ Okp RX10 cX10_operandOf 2 (some .int) "operandOf" false pc (c168 pc) := by
  intro pc
  unfold c168
  split
  · exact ⟨mn_sLR, o168_0⟩
  · exact ⟨mn_sGR, o168_1⟩
  · exact ⟨mn_sLR, o168_4⟩
  · exact ⟨mn_sGR, o168_5⟩
  · exact ⟨mn_sGI, o168_8⟩
  · exact ⟨mn_sLI, o168_11⟩
  · exact ⟨mn_sB2, o168_12⟩
  · exact ⟨mn_sK, o168_13⟩
  · exact ⟨mn_sB2, o168_14⟩
  · exact ⟨mn_sCV, o168_15⟩
  · exact ⟨mn_sRI, o168_18⟩
  · exact ⟨mn_sX, ok_X⟩
theorem o169_0 : Okp RX10 cX10_follow 4 none "follow" false 0 (sLR 0 1) := ok_aload_n (by decide +kernel : decode cX10_follow 0 = .ok (.aload_n 0, 1)) rfl
theorem o169_1 : Okp RX10 cX10_follow 4 none "follow" false 1 (sGR 11 7 4) := ok_getR (by decide +kernel : decode cX10_follow 1 = .ok (.getfield 40, 3)) fw_X10_40 rfl
theorem o169_4 : Okp RX10 cX10_follow 4 none "follow" false 4 (sLR 0 5) := ok_aload_n (by decide +kernel : decode cX10_follow 4 = .ok (.aload_n 0, 1)) rfl
theorem o169_5 : Okp RX10 cX10_follow 4 none "follow" false 5 (sGR 11 8 8) := ok_getR (by decide +kernel : decode cX10_follow 5 = .ok (.getfield 44, 3)) fw_X10_44 rfl
theorem o169_8 : Okp RX10 cX10_follow 4 none "follow" false 8 (sGI 8 5 11) := ok_getI (by decide +kernel : decode cX10_follow 8 = .ok (.getfield 74, 3)) fw_X10_74 rfl
theorem o169_11 : Okp RX10 cX10_follow 4 none "follow" false 11 (sLI 1 12) := ok_iload_n (by decide +kernel : decode cX10_follow 11 = .ok (.iload_n 1, 1)) rfl
theorem o169_12 : Okp RX10 cX10_follow 4 none "follow" false 12 (sB2 fAdd 13) := ok_iadd (by decide +kernel : decode cX10_follow 12 = .ok (.iadd, 1))
theorem o169_13 : Okp RX10 cX10_follow 4 none "follow" false 13 (sCV false 145 2 10 16) := ok_cv (by decide +kernel : decode cX10_follow 13 = .ok (.invokevirtual 141, 3)) mw_X10_141 rfl (by decide) wm_X9_byteAt wse_X9_byteAt (by decide) rfl
theorem o169_16 : Okp RX10 cX10_follow 4 none "follow" false 16 (sSI 2 17) := ok_istore_n (by decide +kernel : decode cX10_follow 16 = .ok (.istore_n 2, 1)) rfl (by decide) (by decide)
theorem o169_17 : Okp RX10 cX10_follow 4 none "follow" false 17 (sLI 2 18) := ok_iload_n (by decide +kernel : decode cX10_follow 17 = .ok (.iload_n 2, 1)) rfl
theorem o169_18 : Okp RX10 cX10_follow 4 none "follow" false 18 (sK 6 20) := ok_bipush (by decide +kernel : decode cX10_follow 18 = .ok (.bipush 6, 2)) (by decide)
theorem o169_20 : Okp RX10 cX10_follow 4 none "follow" false 20 (sI2 4 37 23) := ok_icmp_gt (by decide +kernel : decode cX10_follow 20 = .ok (.if_icmp .gt 17, 3)) (by decide)
theorem o169_23 : Okp RX10 cX10_follow 4 none "follow" false 23 (sLR 0 24) := ok_aload_n (by decide +kernel : decode cX10_follow 23 = .ok (.aload_n 0, 1)) rfl
theorem o169_24 : Okp RX10 cX10_follow 4 none "follow" false 24 (sLI 2 25) := ok_iload_n (by decide +kernel : decode cX10_follow 24 = .ok (.iload_n 2, 1)) rfl
theorem o169_25 : Okp RX10 cX10_follow 4 none "follow" false 25 (sLR 0 26) := ok_aload_n (by decide +kernel : decode cX10_follow 25 = .ok (.aload_n 0, 1)) rfl
theorem o169_26 : Okp RX10 cX10_follow 4 none "follow" false 26 (sLI 1 27) := ok_iload_n (by decide +kernel : decode cX10_follow 26 = .ok (.iload_n 1, 1)) rfl
theorem o169_27 : Okp RX10 cX10_follow 4 none "follow" false 27 (sCV false 168 2 11 30) := ok_cv (by decide +kernel : decode cX10_follow 27 = .ok (.invokevirtual 144, 3)) mw_X10_144 rfl (by decide) wm_X10_operandOf wse_X10_operandOf (by decide) rfl
theorem o169_30 : Okp RX10 cX10_follow 4 none "follow" false 30 (sCV false 170 3 11 33) := ok_cv (by decide +kernel : decode cX10_follow 30 = .ok (.invokevirtual 147, 3)) mw_X10_147 rfl (by decide) wm_X10_followMove wse_X10_followMove (by decide) rfl
theorem o169_33 : Okp RX10 cX10_follow 4 none "follow" false 33 (sSI 3 34) := ok_istore_n (by decide +kernel : decode cX10_follow 33 = .ok (.istore_n 3, 1)) rfl (by decide) (by decide)
theorem o169_34 : Okp RX10 cX10_follow 4 none "follow" false 34 (sGo 130) := ok_goto (by decide +kernel : decode cX10_follow 34 = .ok (.goto 96, 3)) (by decide)
theorem o169_37 : Okp RX10 cX10_follow 4 none "follow" false 37 (sLI 2 38) := ok_iload_n (by decide +kernel : decode cX10_follow 37 = .ok (.iload_n 2, 1)) rfl
theorem o169_38 : Okp RX10 cX10_follow 4 none "follow" false 38 (sK 21 40) := ok_bipush (by decide +kernel : decode cX10_follow 38 = .ok (.bipush 21, 2)) (by decide)
theorem o169_40 : Okp RX10 cX10_follow 4 none "follow" false 40 (sI2 4 57 43) := ok_icmp_gt (by decide +kernel : decode cX10_follow 40 = .ok (.if_icmp .gt 17, 3)) (by decide)
theorem o169_43 : Okp RX10 cX10_follow 4 none "follow" false 43 (sLR 0 44) := ok_aload_n (by decide +kernel : decode cX10_follow 43 = .ok (.aload_n 0, 1)) rfl
theorem o169_44 : Okp RX10 cX10_follow 4 none "follow" false 44 (sLI 2 45) := ok_iload_n (by decide +kernel : decode cX10_follow 44 = .ok (.iload_n 2, 1)) rfl
theorem o169_45 : Okp RX10 cX10_follow 4 none "follow" false 45 (sLR 0 46) := ok_aload_n (by decide +kernel : decode cX10_follow 45 = .ok (.aload_n 0, 1)) rfl
theorem o169_46 : Okp RX10 cX10_follow 4 none "follow" false 46 (sLI 1 47) := ok_iload_n (by decide +kernel : decode cX10_follow 46 = .ok (.iload_n 1, 1)) rfl
theorem o169_47 : Okp RX10 cX10_follow 4 none "follow" false 47 (sCV false 168 2 11 50) := ok_cv (by decide +kernel : decode cX10_follow 47 = .ok (.invokevirtual 144, 3)) mw_X10_144 rfl (by decide) wm_X10_operandOf wse_X10_operandOf (by decide) rfl
theorem o169_50 : Okp RX10 cX10_follow 4 none "follow" false 50 (sCV false 172 3 11 53) := ok_cv (by decide +kernel : decode cX10_follow 50 = .ok (.invokevirtual 151, 3)) mw_X10_151 rfl (by decide) wm_X10_followInts wse_X10_followInts (by decide) rfl
theorem o169_53 : Okp RX10 cX10_follow 4 none "follow" false 53 (sSI 3 54) := ok_istore_n (by decide +kernel : decode cX10_follow 53 = .ok (.istore_n 3, 1)) rfl (by decide) (by decide)
theorem o169_54 : Okp RX10 cX10_follow 4 none "follow" false 54 (sGo 130) := ok_goto (by decide +kernel : decode cX10_follow 54 = .ok (.goto 76, 3)) (by decide)
theorem o169_57 : Okp RX10 cX10_follow 4 none "follow" false 57 (sLI 2 58) := ok_iload_n (by decide +kernel : decode cX10_follow 57 = .ok (.iload_n 2, 1)) rfl
theorem o169_58 : Okp RX10 cX10_follow 4 none "follow" false 58 (sK 29 60) := ok_bipush (by decide +kernel : decode cX10_follow 58 = .ok (.bipush 29, 2)) (by decide)
theorem o169_60 : Okp RX10 cX10_follow 4 none "follow" false 60 (sI2 4 77 63) := ok_icmp_gt (by decide +kernel : decode cX10_follow 60 = .ok (.if_icmp .gt 17, 3)) (by decide)
theorem o169_63 : Okp RX10 cX10_follow 4 none "follow" false 63 (sLR 0 64) := ok_aload_n (by decide +kernel : decode cX10_follow 63 = .ok (.aload_n 0, 1)) rfl
theorem o169_64 : Okp RX10 cX10_follow 4 none "follow" false 64 (sLI 2 65) := ok_iload_n (by decide +kernel : decode cX10_follow 64 = .ok (.iload_n 2, 1)) rfl
theorem o169_65 : Okp RX10 cX10_follow 4 none "follow" false 65 (sLR 0 66) := ok_aload_n (by decide +kernel : decode cX10_follow 65 = .ok (.aload_n 0, 1)) rfl
theorem o169_66 : Okp RX10 cX10_follow 4 none "follow" false 66 (sLI 1 67) := ok_iload_n (by decide +kernel : decode cX10_follow 66 = .ok (.iload_n 1, 1)) rfl
theorem o169_67 : Okp RX10 cX10_follow 4 none "follow" false 67 (sCV false 168 2 11 70) := ok_cv (by decide +kernel : decode cX10_follow 67 = .ok (.invokevirtual 144, 3)) mw_X10_144 rfl (by decide) wm_X10_operandOf wse_X10_operandOf (by decide) rfl
theorem o169_70 : Okp RX10 cX10_follow 4 none "follow" false 70 (sCV false 173 3 11 73) := ok_cv (by decide +kernel : decode cX10_follow 70 = .ok (.invokevirtual 154, 3)) mw_X10_154 rfl (by decide) wm_X10_followHeap wse_X10_followHeap (by decide) rfl
theorem o169_73 : Okp RX10 cX10_follow 4 none "follow" false 73 (sSI 3 74) := ok_istore_n (by decide +kernel : decode cX10_follow 73 = .ok (.istore_n 3, 1)) rfl (by decide) (by decide)
theorem o169_74 : Okp RX10 cX10_follow 4 none "follow" false 74 (sGo 130) := ok_goto (by decide +kernel : decode cX10_follow 74 = .ok (.goto 56, 3)) (by decide)
theorem o169_77 : Okp RX10 cX10_follow 4 none "follow" false 77 (sLI 2 78) := ok_iload_n (by decide +kernel : decode cX10_follow 77 = .ok (.iload_n 2, 1)) rfl
theorem o169_78 : Okp RX10 cX10_follow 4 none "follow" false 78 (sK 31 80) := ok_bipush (by decide +kernel : decode cX10_follow 78 = .ok (.bipush 31, 2)) (by decide)
theorem o169_80 : Okp RX10 cX10_follow 4 none "follow" false 80 (sI2 5 89 83) := ok_icmp_le (by decide +kernel : decode cX10_follow 80 = .ok (.if_icmp .le 9, 3)) (by decide)
theorem o169_83 : Okp RX10 cX10_follow 4 none "follow" false 83 (sLI 2 84) := ok_iload_n (by decide +kernel : decode cX10_follow 83 = .ok (.iload_n 2, 1)) rfl
theorem o169_84 : Okp RX10 cX10_follow 4 none "follow" false 84 (sK 40 86) := ok_bipush (by decide +kernel : decode cX10_follow 84 = .ok (.bipush 40, 2)) (by decide)
theorem o169_86 : Okp RX10 cX10_follow 4 none "follow" false 86 (sI2 2 103 89) := ok_icmp_lt (by decide +kernel : decode cX10_follow 86 = .ok (.if_icmp .lt 17, 3)) (by decide)
theorem o169_89 : Okp RX10 cX10_follow 4 none "follow" false 89 (sLR 0 90) := ok_aload_n (by decide +kernel : decode cX10_follow 89 = .ok (.aload_n 0, 1)) rfl
theorem o169_90 : Okp RX10 cX10_follow 4 none "follow" false 90 (sLI 2 91) := ok_iload_n (by decide +kernel : decode cX10_follow 90 = .ok (.iload_n 2, 1)) rfl
theorem o169_91 : Okp RX10 cX10_follow 4 none "follow" false 91 (sLR 0 92) := ok_aload_n (by decide +kernel : decode cX10_follow 91 = .ok (.aload_n 0, 1)) rfl
theorem o169_92 : Okp RX10 cX10_follow 4 none "follow" false 92 (sLI 1 93) := ok_iload_n (by decide +kernel : decode cX10_follow 92 = .ok (.iload_n 1, 1)) rfl
theorem o169_93 : Okp RX10 cX10_follow 4 none "follow" false 93 (sCV false 168 2 11 96) := ok_cv (by decide +kernel : decode cX10_follow 93 = .ok (.invokevirtual 144, 3)) mw_X10_144 rfl (by decide) wm_X10_operandOf wse_X10_operandOf (by decide) rfl
theorem o169_96 : Okp RX10 cX10_follow 4 none "follow" false 96 (sCV false 176 3 11 99) := ok_cv (by decide +kernel : decode cX10_follow 96 = .ok (.invokevirtual 157, 3)) mw_X10_157 rfl (by decide) wm_X10_followFlow wse_X10_followFlow (by decide) rfl
theorem o169_99 : Okp RX10 cX10_follow 4 none "follow" false 99 (sSI 3 100) := ok_istore_n (by decide +kernel : decode cX10_follow 99 = .ok (.istore_n 3, 1)) rfl (by decide) (by decide)
theorem o169_100 : Okp RX10 cX10_follow 4 none "follow" false 100 (sGo 130) := ok_goto (by decide +kernel : decode cX10_follow 100 = .ok (.goto 30, 3)) (by decide)
theorem o169_103 : Okp RX10 cX10_follow 4 none "follow" false 103 (sLI 2 104) := ok_iload_n (by decide +kernel : decode cX10_follow 103 = .ok (.iload_n 2, 1)) rfl
theorem o169_104 : Okp RX10 cX10_follow 4 none "follow" false 104 (sK 35 106) := ok_bipush (by decide +kernel : decode cX10_follow 104 = .ok (.bipush 35, 2)) (by decide)
theorem o169_106 : Okp RX10 cX10_follow 4 none "follow" false 106 (sI2 4 123 109) := ok_icmp_gt (by decide +kernel : decode cX10_follow 106 = .ok (.if_icmp .gt 17, 3)) (by decide)
theorem o169_109 : Okp RX10 cX10_follow 4 none "follow" false 109 (sLR 0 110) := ok_aload_n (by decide +kernel : decode cX10_follow 109 = .ok (.aload_n 0, 1)) rfl
theorem o169_110 : Okp RX10 cX10_follow 4 none "follow" false 110 (sLI 2 111) := ok_iload_n (by decide +kernel : decode cX10_follow 110 = .ok (.iload_n 2, 1)) rfl
theorem o169_111 : Okp RX10 cX10_follow 4 none "follow" false 111 (sLR 0 112) := ok_aload_n (by decide +kernel : decode cX10_follow 111 = .ok (.aload_n 0, 1)) rfl
theorem o169_112 : Okp RX10 cX10_follow 4 none "follow" false 112 (sLI 1 113) := ok_iload_n (by decide +kernel : decode cX10_follow 112 = .ok (.iload_n 1, 1)) rfl
theorem o169_113 : Okp RX10 cX10_follow 4 none "follow" false 113 (sCV false 168 2 11 116) := ok_cv (by decide +kernel : decode cX10_follow 113 = .ok (.invokevirtual 144, 3)) mw_X10_144 rfl (by decide) wm_X10_operandOf wse_X10_operandOf (by decide) rfl
theorem o169_116 : Okp RX10 cX10_follow 4 none "follow" false 116 (sCV false 180 3 11 119) := ok_cv (by decide +kernel : decode cX10_follow 116 = .ok (.invokevirtual 160, 3)) mw_X10_160 rfl (by decide) wm_X10_followBlock wse_X10_followBlock (by decide) rfl
theorem o169_119 : Okp RX10 cX10_follow 4 none "follow" false 119 (sSI 3 120) := ok_istore_n (by decide +kernel : decode cX10_follow 119 = .ok (.istore_n 3, 1)) rfl (by decide) (by decide)
theorem o169_120 : Okp RX10 cX10_follow 4 none "follow" false 120 (sGo 130) := ok_goto (by decide +kernel : decode cX10_follow 120 = .ok (.goto 10, 3)) (by decide)
theorem o169_123 : Okp RX10 cX10_follow 4 none "follow" false 123 (sLR 0 124) := ok_aload_n (by decide +kernel : decode cX10_follow 123 = .ok (.aload_n 0, 1)) rfl
theorem o169_124 : Okp RX10 cX10_follow 4 none "follow" false 124 (sLI 2 125) := ok_iload_n (by decide +kernel : decode cX10_follow 124 = .ok (.iload_n 2, 1)) rfl
theorem o169_125 : Okp RX10 cX10_follow 4 none "follow" false 125 (sLI 1 126) := ok_iload_n (by decide +kernel : decode cX10_follow 125 = .ok (.iload_n 1, 1)) rfl
theorem o169_126 : Okp RX10 cX10_follow 4 none "follow" false 126 (sCV false 181 3 11 129) := ok_cv (by decide +kernel : decode cX10_follow 126 = .ok (.invokevirtual 163, 3)) mw_X10_163 rfl (by decide) wm_X10_followEnd wse_X10_followEnd (by decide) rfl
theorem o169_129 : Okp RX10 cX10_follow 4 none "follow" false 129 (sSI 3 130) := ok_istore_n (by decide +kernel : decode cX10_follow 129 = .ok (.istore_n 3, 1)) rfl (by decide) (by decide)
theorem o169_130 : Okp RX10 cX10_follow 4 none "follow" false 130 (sLI 3 131) := ok_iload_n (by decide +kernel : decode cX10_follow 130 = .ok (.iload_n 3, 1)) rfl
theorem o169_131 : Okp RX10 cX10_follow 4 none "follow" false 131 (sI1 0 156 134) := ok_if_eq (by decide +kernel : decode cX10_follow 131 = .ok (.ifCond .eq 25, 3)) (by decide)
theorem o169_134 : Okp RX10 cX10_follow 4 none "follow" false 134 (sLR 0 135) := ok_aload_n (by decide +kernel : decode cX10_follow 134 = .ok (.aload_n 0, 1)) rfl
theorem o169_135 : Okp RX10 cX10_follow 4 none "follow" false 135 (sLI 1 136) := ok_iload_n (by decide +kernel : decode cX10_follow 135 = .ok (.iload_n 1, 1)) rfl
theorem o169_136 : Okp RX10 cX10_follow 4 none "follow" false 136 (sLR 0 137) := ok_aload_n (by decide +kernel : decode cX10_follow 136 = .ok (.aload_n 0, 1)) rfl
theorem o169_137 : Okp RX10 cX10_follow 4 none "follow" false 137 (sGR 11 7 140) := ok_getR (by decide +kernel : decode cX10_follow 137 = .ok (.getfield 40, 3)) fw_X10_40 rfl
theorem o169_140 : Okp RX10 cX10_follow 4 none "follow" false 140 (sLR 0 141) := ok_aload_n (by decide +kernel : decode cX10_follow 140 = .ok (.aload_n 0, 1)) rfl
theorem o169_141 : Okp RX10 cX10_follow 4 none "follow" false 141 (sGR 11 8 144) := ok_getR (by decide +kernel : decode cX10_follow 141 = .ok (.getfield 44, 3)) fw_X10_44 rfl
theorem o169_144 : Okp RX10 cX10_follow 4 none "follow" false 144 (sGI 8 5 147) := ok_getI (by decide +kernel : decode cX10_follow 144 = .ok (.getfield 74, 3)) fw_X10_74 rfl
theorem o169_147 : Okp RX10 cX10_follow 4 none "follow" false 147 (sLI 1 148) := ok_iload_n (by decide +kernel : decode cX10_follow 147 = .ok (.iload_n 1, 1)) rfl
theorem o169_148 : Okp RX10 cX10_follow 4 none "follow" false 148 (sB2 fAdd 149) := ok_iadd (by decide +kernel : decode cX10_follow 148 = .ok (.iadd, 1))
theorem o169_149 : Okp RX10 cX10_follow 4 none "follow" false 149 (sCV false 147 2 10 152) := ok_cv (by decide +kernel : decode cX10_follow 149 = .ok (.invokevirtual 166, 3)) mw_X10_166 rfl (by decide) wm_X9_lengthOfInstruction wse_X9_lengthOfInstruction (by decide) rfl
theorem o169_152 : Okp RX10 cX10_follow 4 none "follow" false 152 (sB2 fAdd 153) := ok_iadd (by decide +kernel : decode cX10_follow 152 = .ok (.iadd, 1))
theorem o169_153 : Okp RX10 cX10_follow 4 none "follow" false 153 (sCV false 162 2 11 156) := ok_cv (by decide +kernel : decode cX10_follow 153 = .ok (.invokevirtual 93, 3)) mw_X10_93 rfl (by decide) wm_X10_arriveAt wse_X10_arriveAt (by decide) rfl
theorem o169_156 : Okp RX10 cX10_follow 4 none "follow" false 156 sRV := ok_vret rfl (by decide +kernel : decode cX10_follow 156 = .ok (.return_, 1))
theorem oc169_0 : ∀ pc, Mnp (c169_0 pc) ∧ Okp RX10 cX10_follow 4 none "follow" false pc (c169_0 pc) := by
  intro pc
  unfold c169_0
  split
  · exact ⟨mn_sLR, o169_0⟩
  · exact ⟨mn_sGR, o169_1⟩
  · exact ⟨mn_sLR, o169_4⟩
  · exact ⟨mn_sGR, o169_5⟩
  · exact ⟨mn_sGI, o169_8⟩
  · exact ⟨mn_sLI, o169_11⟩
  · exact ⟨mn_sB2, o169_12⟩
  · exact ⟨mn_sCV, o169_13⟩
  · exact ⟨mn_sSI, o169_16⟩
  · exact ⟨mn_sLI, o169_17⟩
  · exact ⟨mn_sK, o169_18⟩
  · exact ⟨mn_sI2, o169_20⟩
  · exact ⟨mn_sLR, o169_23⟩
  · exact ⟨mn_sX, ok_X⟩
theorem oc169_1 : ∀ pc, Mnp (c169_1 pc) ∧ Okp RX10 cX10_follow 4 none "follow" false pc (c169_1 pc) := by
  intro pc
  unfold c169_1
  split
  · exact ⟨mn_sLI, o169_24⟩
  · exact ⟨mn_sLR, o169_25⟩
  · exact ⟨mn_sLI, o169_26⟩
  · exact ⟨mn_sCV, o169_27⟩
  · exact ⟨mn_sCV, o169_30⟩
  · exact ⟨mn_sSI, o169_33⟩
  · exact ⟨mn_sGo, o169_34⟩
  · exact ⟨mn_sLI, o169_37⟩
  · exact ⟨mn_sK, o169_38⟩
  · exact ⟨mn_sI2, o169_40⟩
  · exact ⟨mn_sLR, o169_43⟩
  · exact ⟨mn_sLI, o169_44⟩
  · exact ⟨mn_sLR, o169_45⟩
  · exact ⟨mn_sLI, o169_46⟩
  · exact ⟨mn_sCV, o169_47⟩
  · exact ⟨mn_sX, ok_X⟩
theorem oc169_2 : ∀ pc, Mnp (c169_2 pc) ∧ Okp RX10 cX10_follow 4 none "follow" false pc (c169_2 pc) := by
  intro pc
  unfold c169_2
  split
  · exact ⟨mn_sCV, o169_50⟩
  · exact ⟨mn_sSI, o169_53⟩
  · exact ⟨mn_sGo, o169_54⟩
  · exact ⟨mn_sLI, o169_57⟩
  · exact ⟨mn_sK, o169_58⟩
  · exact ⟨mn_sI2, o169_60⟩
  · exact ⟨mn_sLR, o169_63⟩
  · exact ⟨mn_sLI, o169_64⟩
  · exact ⟨mn_sLR, o169_65⟩
  · exact ⟨mn_sLI, o169_66⟩
  · exact ⟨mn_sCV, o169_67⟩
  · exact ⟨mn_sCV, o169_70⟩
  · exact ⟨mn_sX, ok_X⟩
theorem oc169_3 : ∀ pc, Mnp (c169_3 pc) ∧ Okp RX10 cX10_follow 4 none "follow" false pc (c169_3 pc) := by
  intro pc
  unfold c169_3
  split
  · exact ⟨mn_sSI, o169_73⟩
  · exact ⟨mn_sGo, o169_74⟩
  · exact ⟨mn_sLI, o169_77⟩
  · exact ⟨mn_sK, o169_78⟩
  · exact ⟨mn_sI2, o169_80⟩
  · exact ⟨mn_sLI, o169_83⟩
  · exact ⟨mn_sK, o169_84⟩
  · exact ⟨mn_sI2, o169_86⟩
  · exact ⟨mn_sLR, o169_89⟩
  · exact ⟨mn_sLI, o169_90⟩
  · exact ⟨mn_sLR, o169_91⟩
  · exact ⟨mn_sLI, o169_92⟩
  · exact ⟨mn_sCV, o169_93⟩
  · exact ⟨mn_sX, ok_X⟩
theorem oc169_4 : ∀ pc, Mnp (c169_4 pc) ∧ Okp RX10 cX10_follow 4 none "follow" false pc (c169_4 pc) := by
  intro pc
  unfold c169_4
  split
  · exact ⟨mn_sCV, o169_96⟩
  · exact ⟨mn_sSI, o169_99⟩
  · exact ⟨mn_sGo, o169_100⟩
  · exact ⟨mn_sLI, o169_103⟩
  · exact ⟨mn_sK, o169_104⟩
  · exact ⟨mn_sI2, o169_106⟩
  · exact ⟨mn_sLR, o169_109⟩
  · exact ⟨mn_sLI, o169_110⟩
  · exact ⟨mn_sLR, o169_111⟩
  · exact ⟨mn_sLI, o169_112⟩
  · exact ⟨mn_sCV, o169_113⟩
  · exact ⟨mn_sCV, o169_116⟩
  · exact ⟨mn_sSI, o169_119⟩
  · exact ⟨mn_sX, ok_X⟩
theorem oc169_5 : ∀ pc, Mnp (c169_5 pc) ∧ Okp RX10 cX10_follow 4 none "follow" false pc (c169_5 pc) := by
  intro pc
  unfold c169_5
  split
  · exact ⟨mn_sGo, o169_120⟩
  · exact ⟨mn_sLR, o169_123⟩
  · exact ⟨mn_sLI, o169_124⟩
  · exact ⟨mn_sLI, o169_125⟩
  · exact ⟨mn_sCV, o169_126⟩
  · exact ⟨mn_sSI, o169_129⟩
  · exact ⟨mn_sLI, o169_130⟩
  · exact ⟨mn_sI1, o169_131⟩
  · exact ⟨mn_sLR, o169_134⟩
  · exact ⟨mn_sLI, o169_135⟩
  · exact ⟨mn_sLR, o169_136⟩
  · exact ⟨mn_sGR, o169_137⟩
  · exact ⟨mn_sLR, o169_140⟩
  · exact ⟨mn_sGR, o169_141⟩
  · exact ⟨mn_sX, ok_X⟩
theorem oc169_6 : ∀ pc, Mnp (c169_6 pc) ∧ Okp RX10 cX10_follow 4 none "follow" false pc (c169_6 pc) := by
  intro pc
  unfold c169_6
  split
  · exact ⟨mn_sGI, o169_144⟩
  · exact ⟨mn_sLI, o169_147⟩
  · exact ⟨mn_sB2, o169_148⟩
  · exact ⟨mn_sCV, o169_149⟩
  · exact ⟨mn_sB2, o169_152⟩
  · exact ⟨mn_sCV, o169_153⟩
  · exact ⟨mn_sRV, o169_156⟩
  · exact ⟨mn_sX, ok_X⟩
theorem oc169 : ∀ pc, Mnp (c169 pc) ∧ Okp RX10 cX10_follow 4 none "follow" false pc (c169 pc) := by
  intro pc
  unfold c169
  split
  · exact oc169_0 pc
  · exact oc169_1 pc
  · exact oc169_2 pc
  · exact oc169_3 pc
  · exact oc169_4 pc
  · exact oc169_5 pc
  · exact oc169_6 pc
  · exact ⟨mn_sX, ok_X⟩
