theorem o273_0 : Okp RX12 cX12_manifest 5 none "manifest" false 0 (sLR 0 1) := ok_aload_n (by decide +kernel : decode cX12_manifest 0 = .ok (.aload_n 0, 1)) rfl
theorem o273_1 : Okp RX12 cX12_manifest 5 none "manifest" false 1 (sK 83 3) := ok_bipush (by decide +kernel : decode cX12_manifest 1 = .ok (.bipush 83, 2)) (by decide)
theorem o273_3 : Okp RX12 cX12_manifest 5 none "manifest" false 3 (sCV false 222 2 13 6) := ok_cvT (by decide +kernel : decode cX12_manifest 3 = .ok (.invokevirtual 262, 3)) mw_X12_262 rfl rfl (by decide) wm_X12_must wse_X12_must (by decide)
theorem o273_6 : Okp RX12 cX12_manifest 5 none "manifest" false 6 (sLR 0 7) := ok_aload_n (by decide +kernel : decode cX12_manifest 6 = .ok (.aload_n 0, 1)) rfl
theorem o273_7 : Okp RX12 cX12_manifest 5 none "manifest" false 7 (sK 70 9) := ok_bipush (by decide +kernel : decode cX12_manifest 7 = .ok (.bipush 70, 2)) (by decide)
theorem o273_9 : Okp RX12 cX12_manifest 5 none "manifest" false 9 (sCV false 222 2 13 12) := ok_cvT (by decide +kernel : decode cX12_manifest 9 = .ok (.invokevirtual 262, 3)) mw_X12_262 rfl rfl (by decide) wm_X12_must wse_X12_must (by decide)
theorem o273_12 : Okp RX12 cX12_manifest 5 none "manifest" false 12 (sLR 0 13) := ok_aload_n (by decide +kernel : decode cX12_manifest 12 = .ok (.aload_n 0, 1)) rfl
theorem o273_13 : Okp RX12 cX12_manifest 5 none "manifest" false 13 (sLR 0 14) := ok_aload_n (by decide +kernel : decode cX12_manifest 13 = .ok (.aload_n 0, 1)) rfl
theorem o273_14 : Okp RX12 cX12_manifest 5 none "manifest" false 14 (sK 1 15) := ok_iconst (by decide +kernel : decode cX12_manifest 14 = .ok (.iconst 1, 1)) (by decide)
theorem o273_15 : Okp RX12 cX12_manifest 5 none "manifest" false 15 (sK 6 17) := ok_bipush (by decide +kernel : decode cX12_manifest 15 = .ok (.bipush 6, 2)) (by decide)
theorem o273_17 : Okp RX12 cX12_manifest 5 none "manifest" false 17 (sCV false 221 3 13 20) := ok_cvT (by decide +kernel : decode cX12_manifest 17 = .ok (.invokevirtual 254, 3)) mw_X12_254 rfl rfl (by decide) wm_X12_number wse_X12_number (by decide)
theorem o273_20 : Okp RX12 cX12_manifest 5 none "manifest" false 20 (sPI 13 48 23) := ok_putI (by decide +kernel : decode cX12_manifest 20 = .ok (.putfield 432, 3)) fw_X12_432 ⟨⟨tyX12_ok, nmX12⟩, Or.inl rfl, rfl⟩ rfl
theorem o273_23 : Okp RX12 cX12_manifest 5 none "manifest" false 23 (sLR 0 24) := ok_aload_n (by decide +kernel : decode cX12_manifest 23 = .ok (.aload_n 0, 1)) rfl
theorem o273_24 : Okp RX12 cX12_manifest 5 none "manifest" false 24 (sK 0 25) := ok_iconst (by decide +kernel : decode cX12_manifest 24 = .ok (.iconst 0, 1)) (by decide)
theorem o273_25 : Okp RX12 cX12_manifest 5 none "manifest" false 25 (sPI 13 49 28) := ok_putI (by decide +kernel : decode cX12_manifest 25 = .ok (.putfield 435, 3)) fw_X12_435 ⟨⟨tyX12_ok, nmX12⟩, Or.inl rfl, rfl⟩ rfl
theorem o273_28 : Okp RX12 cX12_manifest 5 none "manifest" false 28 (sK 0 29) := ok_iconst (by decide +kernel : decode cX12_manifest 28 = .ok (.iconst 0, 1)) (by decide)
theorem o273_29 : Okp RX12 cX12_manifest 5 none "manifest" false 29 (sSI 1 30) := ok_istore_n (by decide +kernel : decode cX12_manifest 29 = .ok (.istore_n 1, 1)) rfl (by decide) (by decide)
theorem o273_30 : Okp RX12 cX12_manifest 5 none "manifest" false 30 (sLI 1 31) := ok_iload_n (by decide +kernel : decode cX12_manifest 30 = .ok (.iload_n 1, 1)) rfl
theorem o273_31 : Okp RX12 cX12_manifest 5 none "manifest" false 31 (sK 8 33) := ok_bipush (by decide +kernel : decode cX12_manifest 31 = .ok (.bipush 8, 2)) (by decide)
theorem o273_33 : Okp RX12 cX12_manifest 5 none "manifest" false 33 (sI2 3 49 36) := ok_icmp_ge (by decide +kernel : decode cX12_manifest 33 = .ok (.if_icmp .ge 16, 3)) (by decide)
theorem o273_36 : Okp RX12 cX12_manifest 5 none "manifest" false 36 (sLR 0 37) := ok_aload_n (by decide +kernel : decode cX12_manifest 36 = .ok (.aload_n 0, 1)) rfl
theorem o273_37 : Okp RX12 cX12_manifest 5 none "manifest" false 37 (sGR 13 43 40) := ok_getR (by decide +kernel : decode cX12_manifest 37 = .ok (.getfield 113, 3)) fw_X12_113 rfl
theorem o273_40 : Okp RX12 cX12_manifest 5 none "manifest" false 40 (sLI 1 41) := ok_iload_n (by decide +kernel : decode cX12_manifest 40 = .ok (.iload_n 1, 1)) rfl
theorem o273_41 : Okp RX12 cX12_manifest 5 none "manifest" false 41 (sK 0 42) := ok_iconst (by decide +kernel : decode cX12_manifest 41 = .ok (.iconst 0, 1)) (by decide)
theorem o273_42 : Okp RX12 cX12_manifest 5 none "manifest" false 42 (sIS 43) := ok_iastore (by decide +kernel : decode cX12_manifest 42 = .ok (.iastore, 1))
theorem o273_43 : Okp RX12 cX12_manifest 5 none "manifest" false 43 (sInc 1 1 46) := ok_iinc (by decide +kernel : decode cX12_manifest 43 = .ok (.iinc 1 1, 3)) (by decide) (by decide)
theorem o273_46 : Okp RX12 cX12_manifest 5 none "manifest" false 46 (sGo 30) := ok_goto (by decide +kernel : decode cX12_manifest 46 = .ok (.goto (-16), 3)) (by decide)
theorem o273_49 : Okp RX12 cX12_manifest 5 none "manifest" false 49 (sK 0 50) := ok_iconst (by decide +kernel : decode cX12_manifest 49 = .ok (.iconst 0, 1)) (by decide)
theorem o273_50 : Okp RX12 cX12_manifest 5 none "manifest" false 50 (sSI 1 51) := ok_istore_n (by decide +kernel : decode cX12_manifest 50 = .ok (.istore_n 1, 1)) rfl (by decide) (by decide)
theorem o273_51 : Okp RX12 cX12_manifest 5 none "manifest" false 51 (sLI 1 52) := ok_iload_n (by decide +kernel : decode cX12_manifest 51 = .ok (.iload_n 1, 1)) rfl
theorem o273_52 : Okp RX12 cX12_manifest 5 none "manifest" false 52 (sLR 0 53) := ok_aload_n (by decide +kernel : decode cX12_manifest 52 = .ok (.aload_n 0, 1)) rfl
theorem o273_53 : Okp RX12 cX12_manifest 5 none "manifest" false 53 (sGI 13 48 56) := ok_getI (by decide +kernel : decode cX12_manifest 53 = .ok (.getfield 432, 3)) fw_X12_432 rfl
theorem o273_56 : Okp RX12 cX12_manifest 5 none "manifest" false 56 (sI2 3 203 59) := ok_icmp_ge (by decide +kernel : decode cX12_manifest 56 = .ok (.if_icmp .ge 147, 3)) (by decide)
theorem o273_59 : Okp RX12 cX12_manifest 5 none "manifest" false 59 (sLR 0 60) := ok_aload_n (by decide +kernel : decode cX12_manifest 59 = .ok (.aload_n 0, 1)) rfl
theorem o273_60 : Okp RX12 cX12_manifest 5 none "manifest" false 60 (sK 0 61) := ok_iconst (by decide +kernel : decode cX12_manifest 60 = .ok (.iconst 0, 1)) (by decide)
theorem o273_61 : Okp RX12 cX12_manifest 5 none "manifest" false 61 (sK 255 64) := ok_sipush (by decide +kernel : decode cX12_manifest 61 = .ok (.sipush 255, 3)) (by decide)
theorem o273_64 : Okp RX12 cX12_manifest 5 none "manifest" false 64 (sCV false 221 3 13 67) := ok_cvT (by decide +kernel : decode cX12_manifest 64 = .ok (.invokevirtual 254, 3)) mw_X12_254 rfl rfl (by decide) wm_X12_number wse_X12_number (by decide)
theorem o273_67 : Okp RX12 cX12_manifest 5 none "manifest" false 67 (sSI 2 68) := ok_istore_n (by decide +kernel : decode cX12_manifest 67 = .ok (.istore_n 2, 1)) rfl (by decide) (by decide)
theorem o273_68 : Okp RX12 cX12_manifest 5 none "manifest" false 68 (sLR 0 69) := ok_aload_n (by decide +kernel : decode cX12_manifest 68 = .ok (.aload_n 0, 1)) rfl
theorem o273_69 : Okp RX12 cX12_manifest 5 none "manifest" false 69 (sLI 2 70) := ok_iload_n (by decide +kernel : decode cX12_manifest 69 = .ok (.iload_n 2, 1)) rfl
theorem o273_70 : Okp RX12 cX12_manifest 5 none "manifest" false 70 (sCV false 268 2 13 73) := ok_cv (by decide +kernel : decode cX12_manifest 70 = .ok (.invokevirtual 421, 3)) mw_X12_421 rfl (by decide) wm_X12_isModule wse_X12_isModule (by decide) rfl
theorem o273_73 : Okp RX12 cX12_manifest 5 none "manifest" false 73 (sI1 1 87 76) := ok_if_ne (by decide +kernel : decode cX12_manifest 73 = .ok (.ifCond .ne 14, 3)) (by decide)
theorem o273_76 : Okp RX12 cX12_manifest 5 none "manifest" false 76 (sLR 0 77) := ok_aload_n (by decide +kernel : decode cX12_manifest 76 = .ok (.aload_n 0, 1)) rfl
theorem o273_77 : Okp RX12 cX12_manifest 5 none "manifest" false 77 (sK 3 78) := ok_iconst (by decide +kernel : decode cX12_manifest 77 = .ok (.iconst 3, 1)) (by decide)
theorem o273_78 : Okp RX12 cX12_manifest 5 none "manifest" false 78 (sLR 0 79) := ok_aload_n (by decide +kernel : decode cX12_manifest 78 = .ok (.aload_n 0, 1)) rfl
theorem o273_79 : Okp RX12 cX12_manifest 5 none "manifest" false 79 (sGI 13 26 82) := ok_getI (by decide +kernel : decode cX12_manifest 79 = .ok (.getfield 243, 3)) fw_X12_243 rfl
theorem o273_82 : Okp RX12 cX12_manifest 5 none "manifest" false 82 (sK 1 83) := ok_iconst (by decide +kernel : decode cX12_manifest 82 = .ok (.iconst 1, 1)) (by decide)
theorem o273_83 : Okp RX12 cX12_manifest 5 none "manifest" false 83 (sB2 fSub 84) := ok_isub (by decide +kernel : decode cX12_manifest 83 = .ok (.isub, 1))
theorem o273_84 : Okp RX12 cX12_manifest 5 none "manifest" false 84 (sCV false 218 3 13 87) := ok_cvT (by decide +kernel : decode cX12_manifest 84 = .ok (.invokevirtual 250, 3)) mw_X12_250 rfl rfl (by decide) wm_X12_fails wse_X12_fails (by decide)
theorem o273_87 : Okp RX12 cX12_manifest 5 none "manifest" false 87 (sLR 0 88) := ok_aload_n (by decide +kernel : decode cX12_manifest 87 = .ok (.aload_n 0, 1)) rfl
theorem o273_88 : Okp RX12 cX12_manifest 5 none "manifest" false 88 (sK 0 89) := ok_iconst (by decide +kernel : decode cX12_manifest 88 = .ok (.iconst 0, 1)) (by decide)
theorem o273_89 : Okp RX12 cX12_manifest 5 none "manifest" false 89 (sK 255 92) := ok_sipush (by decide +kernel : decode cX12_manifest 89 = .ok (.sipush 255, 3)) (by decide)
theorem o273_92 : Okp RX12 cX12_manifest 5 none "manifest" false 92 (sCV false 221 3 13 95) := ok_cvT (by decide +kernel : decode cX12_manifest 92 = .ok (.invokevirtual 254, 3)) mw_X12_254 rfl rfl (by decide) wm_X12_number wse_X12_number (by decide)
theorem o273_95 : Okp RX12 cX12_manifest 5 none "manifest" false 95 (sSI 3 96) := ok_istore_n (by decide +kernel : decode cX12_manifest 95 = .ok (.istore_n 3, 1)) rfl (by decide) (by decide)
theorem o273_96 : Okp RX12 cX12_manifest 5 none "manifest" false 96 (sLI 3 97) := ok_iload_n (by decide +kernel : decode cX12_manifest 96 = .ok (.iload_n 3, 1)) rfl
theorem o273_97 : Okp RX12 cX12_manifest 5 none "manifest" false 97 (sLR 0 98) := ok_aload_n (by decide +kernel : decode cX12_manifest 97 = .ok (.aload_n 0, 1)) rfl
theorem o273_98 : Okp RX12 cX12_manifest 5 none "manifest" false 98 (sGR 13 7 101) := ok_getR (by decide +kernel : decode cX12_manifest 98 = .ok (.getfield 26, 3)) fw_X12_26 rfl
theorem o273_101 : Okp RX12 cX12_manifest 5 none "manifest" false 101 (sLI 2 102) := ok_iload_n (by decide +kernel : decode cX12_manifest 101 = .ok (.iload_n 2, 1)) rfl
theorem o273_102 : Okp RX12 cX12_manifest 5 none "manifest" false 102 (sIA 103) := ok_iaload (by decide +kernel : decode cX12_manifest 102 = .ok (.iaload, 1))
theorem o273_103 : Okp RX12 cX12_manifest 5 none "manifest" false 103 (sI2 3 120 106) := ok_icmp_ge (by decide +kernel : decode cX12_manifest 103 = .ok (.if_icmp .ge 17, 3)) (by decide)
theorem o273_106 : Okp RX12 cX12_manifest 5 none "manifest" false 106 (sLR 0 107) := ok_aload_n (by decide +kernel : decode cX12_manifest 106 = .ok (.aload_n 0, 1)) rfl
theorem o273_107 : Okp RX12 cX12_manifest 5 none "manifest" false 107 (sLI 2 108) := ok_iload_n (by decide +kernel : decode cX12_manifest 107 = .ok (.iload_n 2, 1)) rfl
theorem o273_108 : Okp RX12 cX12_manifest 5 none "manifest" false 108 (sK 10 110) := ok_bipush (by decide +kernel : decode cX12_manifest 108 = .ok (.bipush 10, 2)) (by decide)
theorem o273_110 : Okp RX12 cX12_manifest 5 none "manifest" false 110 (sLI 2 111) := ok_iload_n (by decide +kernel : decode cX12_manifest 110 = .ok (.iload_n 2, 1)) rfl
theorem o273_111 : Okp RX12 cX12_manifest 5 none "manifest" false 111 (sB2 fMul 112) := ok_imul (by decide +kernel : decode cX12_manifest 111 = .ok (.imul, 1))
theorem o273_112 : Okp RX12 cX12_manifest 5 none "manifest" false 112 (sLI 3 113) := ok_iload_n (by decide +kernel : decode cX12_manifest 112 = .ok (.iload_n 3, 1)) rfl
theorem o273_113 : Okp RX12 cX12_manifest 5 none "manifest" false 113 (sB2 fAdd 114) := ok_iadd (by decide +kernel : decode cX12_manifest 113 = .ok (.iadd, 1))
theorem o273_114 : Okp RX12 cX12_manifest 5 none "manifest" false 114 (sCV false 274 3 13 117) := ok_cv (by decide +kernel : decode cX12_manifest 114 = .ok (.invokevirtual 438, 3)) mw_X12_438 rfl (by decide) wm_X12_canBoot wse_X12_canBoot (by decide) rfl
theorem o273_117 : Okp RX12 cX12_manifest 5 none "manifest" false 117 (sI1 1 131 120) := ok_if_ne (by decide +kernel : decode cX12_manifest 117 = .ok (.ifCond .ne 14, 3)) (by decide)
theorem o273_120 : Okp RX12 cX12_manifest 5 none "manifest" false 120 (sLR 0 121) := ok_aload_n (by decide +kernel : decode cX12_manifest 120 = .ok (.aload_n 0, 1)) rfl
theorem o273_121 : Okp RX12 cX12_manifest 5 none "manifest" false 121 (sK 4 122) := ok_iconst (by decide +kernel : decode cX12_manifest 121 = .ok (.iconst 4, 1)) (by decide)
theorem o273_122 : Okp RX12 cX12_manifest 5 none "manifest" false 122 (sLR 0 123) := ok_aload_n (by decide +kernel : decode cX12_manifest 122 = .ok (.aload_n 0, 1)) rfl
theorem o273_123 : Okp RX12 cX12_manifest 5 none "manifest" false 123 (sGI 13 26 126) := ok_getI (by decide +kernel : decode cX12_manifest 123 = .ok (.getfield 243, 3)) fw_X12_243 rfl
theorem o273_126 : Okp RX12 cX12_manifest 5 none "manifest" false 126 (sK 1 127) := ok_iconst (by decide +kernel : decode cX12_manifest 126 = .ok (.iconst 1, 1)) (by decide)
theorem o273_127 : Okp RX12 cX12_manifest 5 none "manifest" false 127 (sB2 fSub 128) := ok_isub (by decide +kernel : decode cX12_manifest 127 = .ok (.isub, 1))
theorem o273_128 : Okp RX12 cX12_manifest 5 none "manifest" false 128 (sCV false 218 3 13 131) := ok_cvT (by decide +kernel : decode cX12_manifest 128 = .ok (.invokevirtual 250, 3)) mw_X12_250 rfl rfl (by decide) wm_X12_fails wse_X12_fails (by decide)
theorem o273_131 : Okp RX12 cX12_manifest 5 none "manifest" false 131 (sLR 0 132) := ok_aload_n (by decide +kernel : decode cX12_manifest 131 = .ok (.aload_n 0, 1)) rfl
theorem o273_132 : Okp RX12 cX12_manifest 5 none "manifest" false 132 (sGR 13 39 135) := ok_getR (by decide +kernel : decode cX12_manifest 132 = .ok (.getfield 101, 3)) fw_X12_101 rfl
theorem o273_135 : Okp RX12 cX12_manifest 5 none "manifest" false 135 (sLI 1 136) := ok_iload_n (by decide +kernel : decode cX12_manifest 135 = .ok (.iload_n 1, 1)) rfl
theorem o273_136 : Okp RX12 cX12_manifest 5 none "manifest" false 136 (sLI 2 137) := ok_iload_n (by decide +kernel : decode cX12_manifest 136 = .ok (.iload_n 2, 1)) rfl
theorem o273_137 : Okp RX12 cX12_manifest 5 none "manifest" false 137 (sIS 138) := ok_iastore (by decide +kernel : decode cX12_manifest 137 = .ok (.iastore, 1))
theorem o273_138 : Okp RX12 cX12_manifest 5 none "manifest" false 138 (sLR 0 139) := ok_aload_n (by decide +kernel : decode cX12_manifest 138 = .ok (.aload_n 0, 1)) rfl
theorem o273_139 : Okp RX12 cX12_manifest 5 none "manifest" false 139 (sGR 13 40 142) := ok_getR (by decide +kernel : decode cX12_manifest 139 = .ok (.getfield 104, 3)) fw_X12_104 rfl
theorem o273_142 : Okp RX12 cX12_manifest 5 none "manifest" false 142 (sLI 1 143) := ok_iload_n (by decide +kernel : decode cX12_manifest 142 = .ok (.iload_n 1, 1)) rfl
theorem o273_143 : Okp RX12 cX12_manifest 5 none "manifest" false 143 (sLI 3 144) := ok_iload_n (by decide +kernel : decode cX12_manifest 143 = .ok (.iload_n 3, 1)) rfl
theorem o273_144 : Okp RX12 cX12_manifest 5 none "manifest" false 144 (sIS 145) := ok_iastore (by decide +kernel : decode cX12_manifest 144 = .ok (.iastore, 1))
theorem o273_145 : Okp RX12 cX12_manifest 5 none "manifest" false 145 (sLR 0 146) := ok_aload_n (by decide +kernel : decode cX12_manifest 145 = .ok (.aload_n 0, 1)) rfl
theorem o273_146 : Okp RX12 cX12_manifest 5 none "manifest" false 146 (sGR 13 41 149) := ok_getR (by decide +kernel : decode cX12_manifest 146 = .ok (.getfield 107, 3)) fw_X12_107 rfl
theorem o273_149 : Okp RX12 cX12_manifest 5 none "manifest" false 149 (sLI 1 150) := ok_iload_n (by decide +kernel : decode cX12_manifest 149 = .ok (.iload_n 1, 1)) rfl
theorem o273_150 : Okp RX12 cX12_manifest 5 none "manifest" false 150 (sLR 0 151) := ok_aload_n (by decide +kernel : decode cX12_manifest 150 = .ok (.aload_n 0, 1)) rfl
theorem o273_151 : Okp RX12 cX12_manifest 5 none "manifest" false 151 (sK 1 152) := ok_iconst (by decide +kernel : decode cX12_manifest 151 = .ok (.iconst 1, 1)) (by decide)
theorem o273_152 : Okp RX12 cX12_manifest 5 none "manifest" false 152 (sK 64 154) := ok_bipush (by decide +kernel : decode cX12_manifest 152 = .ok (.bipush 64, 2)) (by decide)
theorem o273_154 : Okp RX12 cX12_manifest 5 none "manifest" false 154 (sCV false 221 3 13 157) := ok_cvT (by decide +kernel : decode cX12_manifest 154 = .ok (.invokevirtual 254, 3)) mw_X12_254 rfl rfl (by decide) wm_X12_number wse_X12_number (by decide)
theorem o273_157 : Okp RX12 cX12_manifest 5 none "manifest" false 157 (sIS 158) := ok_iastore (by decide +kernel : decode cX12_manifest 157 = .ok (.iastore, 1))
theorem o273_158 : Okp RX12 cX12_manifest 5 none "manifest" false 158 (sK 0 159) := ok_iconst (by decide +kernel : decode cX12_manifest 158 = .ok (.iconst 0, 1)) (by decide)
theorem o273_159 : Okp RX12 cX12_manifest 5 none "manifest" false 159 (sSI 4 161) := ok_istore (by decide +kernel : decode cX12_manifest 159 = .ok (.istore 4, 2)) (by decide) (by decide)
theorem o273_161 : Okp RX12 cX12_manifest 5 none "manifest" false 161 (sLI 4 163) := ok_iload (by decide +kernel : decode cX12_manifest 161 = .ok (.iload 4, 2))
theorem o273_163 : Okp RX12 cX12_manifest 5 none "manifest" false 163 (sLR 0 164) := ok_aload_n (by decide +kernel : decode cX12_manifest 163 = .ok (.aload_n 0, 1)) rfl
theorem o273_164 : Okp RX12 cX12_manifest 5 none "manifest" false 164 (sGR 13 16 167) := ok_getR (by decide +kernel : decode cX12_manifest 164 = .ok (.getfield 54, 3)) fw_X12_54 rfl
theorem o273_167 : Okp RX12 cX12_manifest 5 none "manifest" false 167 (sK 10 169) := ok_bipush (by decide +kernel : decode cX12_manifest 167 = .ok (.bipush 10, 2)) (by decide)
theorem o273_169 : Okp RX12 cX12_manifest 5 none "manifest" false 169 (sLI 2 170) := ok_iload_n (by decide +kernel : decode cX12_manifest 169 = .ok (.iload_n 2, 1)) rfl
theorem o273_170 : Okp RX12 cX12_manifest 5 none "manifest" false 170 (sB2 fMul 171) := ok_imul (by decide +kernel : decode cX12_manifest 170 = .ok (.imul, 1))
theorem o273_171 : Okp RX12 cX12_manifest 5 none "manifest" false 171 (sLI 3 172) := ok_iload_n (by decide +kernel : decode cX12_manifest 171 = .ok (.iload_n 3, 1)) rfl
theorem o273_172 : Okp RX12 cX12_manifest 5 none "manifest" false 172 (sB2 fAdd 173) := ok_iadd (by decide +kernel : decode cX12_manifest 172 = .ok (.iadd, 1))
theorem o273_173 : Okp RX12 cX12_manifest 5 none "manifest" false 173 (sIA 174) := ok_iaload (by decide +kernel : decode cX12_manifest 173 = .ok (.iaload, 1))
theorem o273_174 : Okp RX12 cX12_manifest 5 none "manifest" false 174 (sI2 3 197 177) := ok_icmp_ge (by decide +kernel : decode cX12_manifest 174 = .ok (.if_icmp .ge 23, 3)) (by decide)
theorem o273_177 : Okp RX12 cX12_manifest 5 none "manifest" false 177 (sLR 0 178) := ok_aload_n (by decide +kernel : decode cX12_manifest 177 = .ok (.aload_n 0, 1)) rfl
theorem o273_178 : Okp RX12 cX12_manifest 5 none "manifest" false 178 (sLI 1 179) := ok_iload_n (by decide +kernel : decode cX12_manifest 178 = .ok (.iload_n 1, 1)) rfl
theorem o273_179 : Okp RX12 cX12_manifest 5 none "manifest" false 179 (sLI 2 180) := ok_iload_n (by decide +kernel : decode cX12_manifest 179 = .ok (.iload_n 2, 1)) rfl
theorem o273_180 : Okp RX12 cX12_manifest 5 none "manifest" false 180 (sK 10 182) := ok_bipush (by decide +kernel : decode cX12_manifest 180 = .ok (.bipush 10, 2)) (by decide)
theorem o273_182 : Okp RX12 cX12_manifest 5 none "manifest" false 182 (sLI 2 183) := ok_iload_n (by decide +kernel : decode cX12_manifest 182 = .ok (.iload_n 2, 1)) rfl
theorem o273_183 : Okp RX12 cX12_manifest 5 none "manifest" false 183 (sB2 fMul 184) := ok_imul (by decide +kernel : decode cX12_manifest 183 = .ok (.imul, 1))
theorem o273_184 : Okp RX12 cX12_manifest 5 none "manifest" false 184 (sLI 3 185) := ok_iload_n (by decide +kernel : decode cX12_manifest 184 = .ok (.iload_n 3, 1)) rfl
theorem o273_185 : Okp RX12 cX12_manifest 5 none "manifest" false 185 (sB2 fAdd 186) := ok_iadd (by decide +kernel : decode cX12_manifest 185 = .ok (.iadd, 1))
theorem o273_186 : Okp RX12 cX12_manifest 5 none "manifest" false 186 (sLI 4 188) := ok_iload (by decide +kernel : decode cX12_manifest 186 = .ok (.iload 4, 2))
theorem o273_188 : Okp RX12 cX12_manifest 5 none "manifest" false 188 (sCV false 275 5 13 191) := ok_cvT (by decide +kernel : decode cX12_manifest 188 = .ok (.invokevirtual 441, 3)) mw_X12_441 rfl rfl (by decide) wm_X12_parameter wse_X12_parameter (by decide)
theorem o273_191 : Okp RX12 cX12_manifest 5 none "manifest" false 191 (sInc 4 1 194) := ok_iinc (by decide +kernel : decode cX12_manifest 191 = .ok (.iinc 4 1, 3)) (by decide) (by decide)
theorem o273_194 : Okp RX12 cX12_manifest 5 none "manifest" false 194 (sGo 161) := ok_goto (by decide +kernel : decode cX12_manifest 194 = .ok (.goto (-33), 3)) (by decide)
theorem o273_197 : Okp RX12 cX12_manifest 5 none "manifest" false 197 (sInc 1 1 200) := ok_iinc (by decide +kernel : decode cX12_manifest 197 = .ok (.iinc 1 1, 3)) (by decide) (by decide)
theorem o273_200 : Okp RX12 cX12_manifest 5 none "manifest" false 200 (sGo 51) := ok_goto (by decide +kernel : decode cX12_manifest 200 = .ok (.goto (-149), 3)) (by decide)
theorem o273_203 : Okp RX12 cX12_manifest 5 none "manifest" false 203 (sLR 0 204) := ok_aload_n (by decide +kernel : decode cX12_manifest 203 = .ok (.aload_n 0, 1)) rfl
theorem o273_204 : Okp RX12 cX12_manifest 5 none "manifest" false 204 (sGI 13 26 207) := ok_getI (by decide +kernel : decode cX12_manifest 204 = .ok (.getfield 243, 3)) fw_X12_243 rfl
theorem o273_207 : Okp RX12 cX12_manifest 5 none "manifest" false 207 (sLR 0 208) := ok_aload_n (by decide +kernel : decode cX12_manifest 207 = .ok (.aload_n 0, 1)) rfl
theorem o273_208 : Okp RX12 cX12_manifest 5 none "manifest" false 208 (sGR 13 4 211) := ok_getR (by decide +kernel : decode cX12_manifest 208 = .ok (.getfield 16, 3)) fw_X12_16 rfl
theorem o273_211 : Okp RX12 cX12_manifest 5 none "manifest" false 211 (sK 12 213) := ok_bipush (by decide +kernel : decode cX12_manifest 211 = .ok (.bipush 12, 2)) (by decide)
theorem o273_213 : Okp RX12 cX12_manifest 5 none "manifest" false 213 (sIA 214) := ok_iaload (by decide +kernel : decode cX12_manifest 213 = .ok (.iaload, 1))
theorem o273_214 : Okp RX12 cX12_manifest 5 none "manifest" false 214 (sI2 3 226 217) := ok_icmp_ge (by decide +kernel : decode cX12_manifest 214 = .ok (.if_icmp .ge 12, 3)) (by decide)
theorem o273_217 : Okp RX12 cX12_manifest 5 none "manifest" false 217 (sLR 0 218) := ok_aload_n (by decide +kernel : decode cX12_manifest 217 = .ok (.aload_n 0, 1)) rfl
theorem o273_218 : Okp RX12 cX12_manifest 5 none "manifest" false 218 (sK 1 219) := ok_iconst (by decide +kernel : decode cX12_manifest 218 = .ok (.iconst 1, 1)) (by decide)
theorem o273_219 : Okp RX12 cX12_manifest 5 none "manifest" false 219 (sLR 0 220) := ok_aload_n (by decide +kernel : decode cX12_manifest 219 = .ok (.aload_n 0, 1)) rfl
theorem o273_220 : Okp RX12 cX12_manifest 5 none "manifest" false 220 (sGI 13 26 223) := ok_getI (by decide +kernel : decode cX12_manifest 220 = .ok (.getfield 243, 3)) fw_X12_243 rfl
theorem o273_223 : Okp RX12 cX12_manifest 5 none "manifest" false 223 (sCV false 218 3 13 226) := ok_cvT (by decide +kernel : decode cX12_manifest 223 = .ok (.invokevirtual 250, 3)) mw_X12_250 rfl rfl (by decide) wm_X12_fails wse_X12_fails (by decide)
theorem o273_226 : Okp RX12 cX12_manifest 5 none "manifest" false 226 (sK 0 227) := ok_iconst (by decide +kernel : decode cX12_manifest 226 = .ok (.iconst 0, 1)) (by decide)
theorem o273_227 : Okp RX12 cX12_manifest 5 none "manifest" false 227 (sSI 1 228) := ok_istore_n (by decide +kernel : decode cX12_manifest 227 = .ok (.istore_n 1, 1)) rfl (by decide) (by decide)
theorem o273_228 : Okp RX12 cX12_manifest 5 none "manifest" false 228 (sLI 1 229) := ok_iload_n (by decide +kernel : decode cX12_manifest 228 = .ok (.iload_n 1, 1)) rfl
theorem o273_229 : Okp RX12 cX12_manifest 5 none "manifest" false 229 (sK 8 231) := ok_bipush (by decide +kernel : decode cX12_manifest 229 = .ok (.bipush 8, 2)) (by decide)
theorem o273_231 : Okp RX12 cX12_manifest 5 none "manifest" false 231 (sI2 3 260 234) := ok_icmp_ge (by decide +kernel : decode cX12_manifest 231 = .ok (.if_icmp .ge 29, 3)) (by decide)
theorem o273_234 : Okp RX12 cX12_manifest 5 none "manifest" false 234 (sLR 0 235) := ok_aload_n (by decide +kernel : decode cX12_manifest 234 = .ok (.aload_n 0, 1)) rfl
theorem o273_235 : Okp RX12 cX12_manifest 5 none "manifest" false 235 (sGR 13 43 238) := ok_getR (by decide +kernel : decode cX12_manifest 235 = .ok (.getfield 113, 3)) fw_X12_113 rfl
theorem o273_238 : Okp RX12 cX12_manifest 5 none "manifest" false 238 (sLI 1 239) := ok_iload_n (by decide +kernel : decode cX12_manifest 238 = .ok (.iload_n 1, 1)) rfl
theorem o273_239 : Okp RX12 cX12_manifest 5 none "manifest" false 239 (sIA 240) := ok_iaload (by decide +kernel : decode cX12_manifest 239 = .ok (.iaload, 1))
theorem o273_240 : Okp RX12 cX12_manifest 5 none "manifest" false 240 (sK 1 241) := ok_iconst (by decide +kernel : decode cX12_manifest 240 = .ok (.iconst 1, 1)) (by decide)
theorem o273_241 : Okp RX12 cX12_manifest 5 none "manifest" false 241 (sI2 1 254 244) := ok_icmp_ne (by decide +kernel : decode cX12_manifest 241 = .ok (.if_icmp .ne 13, 3)) (by decide)
theorem o273_244 : Okp RX12 cX12_manifest 5 none "manifest" false 244 (sLR 0 245) := ok_aload_n (by decide +kernel : decode cX12_manifest 244 = .ok (.aload_n 0, 1)) rfl
theorem o273_245 : Okp RX12 cX12_manifest 5 none "manifest" false 245 (sK 6 247) := ok_bipush (by decide +kernel : decode cX12_manifest 245 = .ok (.bipush 6, 2)) (by decide)
theorem o273_247 : Okp RX12 cX12_manifest 5 none "manifest" false 247 (sLR 0 248) := ok_aload_n (by decide +kernel : decode cX12_manifest 247 = .ok (.aload_n 0, 1)) rfl
theorem o273_248 : Okp RX12 cX12_manifest 5 none "manifest" false 248 (sGI 13 26 251) := ok_getI (by decide +kernel : decode cX12_manifest 248 = .ok (.getfield 243, 3)) fw_X12_243 rfl
theorem o273_251 : Okp RX12 cX12_manifest 5 none "manifest" false 251 (sCV false 218 3 13 254) := ok_cvT (by decide +kernel : decode cX12_manifest 251 = .ok (.invokevirtual 250, 3)) mw_X12_250 rfl rfl (by decide) wm_X12_fails wse_X12_fails (by decide)
theorem o273_254 : Okp RX12 cX12_manifest 5 none "manifest" false 254 (sInc 1 1 257) := ok_iinc (by decide +kernel : decode cX12_manifest 254 = .ok (.iinc 1 1, 3)) (by decide) (by decide)
theorem o273_257 : Okp RX12 cX12_manifest 5 none "manifest" false 257 (sGo 228) := ok_goto (by decide +kernel : decode cX12_manifest 257 = .ok (.goto (-29), 3)) (by decide)
theorem o273_260 : Okp RX12 cX12_manifest 5 none "manifest" false 260 sRV := ok_vret rfl (by decide +kernel : decode cX12_manifest 260 = .ok (.return_, 1))
theorem oc273_0 : ∀ pc, Mnp (c273_0 pc) ∧ Okp RX12 cX12_manifest 5 none "manifest" false pc (c273_0 pc) := by
  intro pc
  unfold c273_0
  split
  · exact ⟨mn_sLR, o273_0⟩
  · exact ⟨mn_sK, o273_1⟩
  · exact ⟨mn_sCV, o273_3⟩
  · exact ⟨mn_sLR, o273_6⟩
  · exact ⟨mn_sK, o273_7⟩
  · exact ⟨mn_sCV, o273_9⟩
  · exact ⟨mn_sLR, o273_12⟩
  · exact ⟨mn_sLR, o273_13⟩
  · exact ⟨mn_sK, o273_14⟩
  · exact ⟨mn_sK, o273_15⟩
  · exact ⟨mn_sCV, o273_17⟩
  · exact ⟨mn_sPI, o273_20⟩
  · exact ⟨mn_sLR, o273_23⟩
  · exact ⟨mn_sX, ok_X⟩
theorem oc273_1 : ∀ pc, Mnp (c273_1 pc) ∧ Okp RX12 cX12_manifest 5 none "manifest" false pc (c273_1 pc) := by
  intro pc
  unfold c273_1
  split
  · exact ⟨mn_sK, o273_24⟩
  · exact ⟨mn_sPI, o273_25⟩
  · exact ⟨mn_sK, o273_28⟩
  · exact ⟨mn_sSI, o273_29⟩
  · exact ⟨mn_sLI, o273_30⟩
  · exact ⟨mn_sK, o273_31⟩
  · exact ⟨mn_sI2, o273_33⟩
  · exact ⟨mn_sLR, o273_36⟩
  · exact ⟨mn_sGR, o273_37⟩
  · exact ⟨mn_sLI, o273_40⟩
  · exact ⟨mn_sK, o273_41⟩
  · exact ⟨mn_sIS, o273_42⟩
  · exact ⟨mn_sInc, o273_43⟩
  · exact ⟨mn_sGo, o273_46⟩
  · exact ⟨mn_sX, ok_X⟩
theorem oc273_2 : ∀ pc, Mnp (c273_2 pc) ∧ Okp RX12 cX12_manifest 5 none "manifest" false pc (c273_2 pc) := by
  intro pc
  unfold c273_2
  split
  · exact ⟨mn_sK, o273_49⟩
  · exact ⟨mn_sSI, o273_50⟩
  · exact ⟨mn_sLI, o273_51⟩
  · exact ⟨mn_sLR, o273_52⟩
  · exact ⟨mn_sGI, o273_53⟩
  · exact ⟨mn_sI2, o273_56⟩
  · exact ⟨mn_sLR, o273_59⟩
  · exact ⟨mn_sK, o273_60⟩
  · exact ⟨mn_sK, o273_61⟩
  · exact ⟨mn_sCV, o273_64⟩
  · exact ⟨mn_sSI, o273_67⟩
  · exact ⟨mn_sLR, o273_68⟩
  · exact ⟨mn_sLI, o273_69⟩
  · exact ⟨mn_sCV, o273_70⟩
  · exact ⟨mn_sX, ok_X⟩
theorem oc273_3 : ∀ pc, Mnp (c273_3 pc) ∧ Okp RX12 cX12_manifest 5 none "manifest" false pc (c273_3 pc) := by
  intro pc
  unfold c273_3
  split
  · exact ⟨mn_sI1, o273_73⟩
  · exact ⟨mn_sLR, o273_76⟩
  · exact ⟨mn_sK, o273_77⟩
  · exact ⟨mn_sLR, o273_78⟩
  · exact ⟨mn_sGI, o273_79⟩
  · exact ⟨mn_sK, o273_82⟩
  · exact ⟨mn_sB2, o273_83⟩
  · exact ⟨mn_sCV, o273_84⟩
  · exact ⟨mn_sLR, o273_87⟩
  · exact ⟨mn_sK, o273_88⟩
  · exact ⟨mn_sK, o273_89⟩
  · exact ⟨mn_sCV, o273_92⟩
  · exact ⟨mn_sSI, o273_95⟩
  · exact ⟨mn_sX, ok_X⟩
theorem oc273_4 : ∀ pc, Mnp (c273_4 pc) ∧ Okp RX12 cX12_manifest 5 none "manifest" false pc (c273_4 pc) := by
  intro pc
  unfold c273_4
  split
  · exact ⟨mn_sLI, o273_96⟩
  · exact ⟨mn_sLR, o273_97⟩
  · exact ⟨mn_sGR, o273_98⟩
  · exact ⟨mn_sLI, o273_101⟩
  · exact ⟨mn_sIA, o273_102⟩
  · exact ⟨mn_sI2, o273_103⟩
  · exact ⟨mn_sLR, o273_106⟩
  · exact ⟨mn_sLI, o273_107⟩
  · exact ⟨mn_sK, o273_108⟩
  · exact ⟨mn_sLI, o273_110⟩
  · exact ⟨mn_sB2, o273_111⟩
  · exact ⟨mn_sLI, o273_112⟩
  · exact ⟨mn_sB2, o273_113⟩
  · exact ⟨mn_sCV, o273_114⟩
  · exact ⟨mn_sI1, o273_117⟩
  · exact ⟨mn_sX, ok_X⟩
theorem oc273_5 : ∀ pc, Mnp (c273_5 pc) ∧ Okp RX12 cX12_manifest 5 none "manifest" false pc (c273_5 pc) := by
  intro pc
  unfold c273_5
  split
  · exact ⟨mn_sLR, o273_120⟩
  · exact ⟨mn_sK, o273_121⟩
  · exact ⟨mn_sLR, o273_122⟩
  · exact ⟨mn_sGI, o273_123⟩
  · exact ⟨mn_sK, o273_126⟩
  · exact ⟨mn_sB2, o273_127⟩
  · exact ⟨mn_sCV, o273_128⟩
  · exact ⟨mn_sLR, o273_131⟩
  · exact ⟨mn_sGR, o273_132⟩
  · exact ⟨mn_sLI, o273_135⟩
  · exact ⟨mn_sLI, o273_136⟩
  · exact ⟨mn_sIS, o273_137⟩
  · exact ⟨mn_sLR, o273_138⟩
  · exact ⟨mn_sGR, o273_139⟩
  · exact ⟨mn_sLI, o273_142⟩
  · exact ⟨mn_sLI, o273_143⟩
  · exact ⟨mn_sX, ok_X⟩
theorem oc273_6 : ∀ pc, Mnp (c273_6 pc) ∧ Okp RX12 cX12_manifest 5 none "manifest" false pc (c273_6 pc) := by
  intro pc
  unfold c273_6
  split
  · exact ⟨mn_sIS, o273_144⟩
  · exact ⟨mn_sLR, o273_145⟩
  · exact ⟨mn_sGR, o273_146⟩
  · exact ⟨mn_sLI, o273_149⟩
  · exact ⟨mn_sLR, o273_150⟩
  · exact ⟨mn_sK, o273_151⟩
  · exact ⟨mn_sK, o273_152⟩
  · exact ⟨mn_sCV, o273_154⟩
  · exact ⟨mn_sIS, o273_157⟩
  · exact ⟨mn_sK, o273_158⟩
  · exact ⟨mn_sSI, o273_159⟩
  · exact ⟨mn_sLI, o273_161⟩
  · exact ⟨mn_sLR, o273_163⟩
  · exact ⟨mn_sGR, o273_164⟩
  · exact ⟨mn_sK, o273_167⟩
  · exact ⟨mn_sX, ok_X⟩
theorem oc273_7 : ∀ pc, Mnp (c273_7 pc) ∧ Okp RX12 cX12_manifest 5 none "manifest" false pc (c273_7 pc) := by
  intro pc
  unfold c273_7
  split
  · exact ⟨mn_sLI, o273_169⟩
  · exact ⟨mn_sB2, o273_170⟩
  · exact ⟨mn_sLI, o273_171⟩
  · exact ⟨mn_sB2, o273_172⟩
  · exact ⟨mn_sIA, o273_173⟩
  · exact ⟨mn_sI2, o273_174⟩
  · exact ⟨mn_sLR, o273_177⟩
  · exact ⟨mn_sLI, o273_178⟩
  · exact ⟨mn_sLI, o273_179⟩
  · exact ⟨mn_sK, o273_180⟩
  · exact ⟨mn_sLI, o273_182⟩
  · exact ⟨mn_sB2, o273_183⟩
  · exact ⟨mn_sLI, o273_184⟩
  · exact ⟨mn_sB2, o273_185⟩
  · exact ⟨mn_sLI, o273_186⟩
  · exact ⟨mn_sCV, o273_188⟩
  · exact ⟨mn_sInc, o273_191⟩
  · exact ⟨mn_sX, ok_X⟩
theorem oc273_8 : ∀ pc, Mnp (c273_8 pc) ∧ Okp RX12 cX12_manifest 5 none "manifest" false pc (c273_8 pc) := by
  intro pc
  unfold c273_8
  split
  · exact ⟨mn_sGo, o273_194⟩
  · exact ⟨mn_sInc, o273_197⟩
  · exact ⟨mn_sGo, o273_200⟩
  · exact ⟨mn_sLR, o273_203⟩
  · exact ⟨mn_sGI, o273_204⟩
  · exact ⟨mn_sLR, o273_207⟩
  · exact ⟨mn_sGR, o273_208⟩
  · exact ⟨mn_sK, o273_211⟩
  · exact ⟨mn_sIA, o273_213⟩
  · exact ⟨mn_sI2, o273_214⟩
  · exact ⟨mn_sX, ok_X⟩
theorem oc273_9 : ∀ pc, Mnp (c273_9 pc) ∧ Okp RX12 cX12_manifest 5 none "manifest" false pc (c273_9 pc) := by
  intro pc
  unfold c273_9
  split
  · exact ⟨mn_sLR, o273_217⟩
  · exact ⟨mn_sK, o273_218⟩
  · exact ⟨mn_sLR, o273_219⟩
  · exact ⟨mn_sGI, o273_220⟩
  · exact ⟨mn_sCV, o273_223⟩
  · exact ⟨mn_sK, o273_226⟩
  · exact ⟨mn_sSI, o273_227⟩
  · exact ⟨mn_sLI, o273_228⟩
  · exact ⟨mn_sK, o273_229⟩
  · exact ⟨mn_sI2, o273_231⟩
  · exact ⟨mn_sLR, o273_234⟩
  · exact ⟨mn_sGR, o273_235⟩
  · exact ⟨mn_sLI, o273_238⟩
  · exact ⟨mn_sIA, o273_239⟩
  · exact ⟨mn_sX, ok_X⟩
theorem oc273_10 : ∀ pc, Mnp (c273_10 pc) ∧ Okp RX12 cX12_manifest 5 none "manifest" false pc (c273_10 pc) := by
  intro pc
  unfold c273_10
  split
  · exact ⟨mn_sK, o273_240⟩
  · exact ⟨mn_sI2, o273_241⟩
  · exact ⟨mn_sLR, o273_244⟩
  · exact ⟨mn_sK, o273_245⟩
  · exact ⟨mn_sLR, o273_247⟩
  · exact ⟨mn_sGI, o273_248⟩
  · exact ⟨mn_sCV, o273_251⟩
  · exact ⟨mn_sInc, o273_254⟩
  · exact ⟨mn_sGo, o273_257⟩
  · exact ⟨mn_sRV, o273_260⟩
  · exact ⟨mn_sX, ok_X⟩
theorem oc273 : ∀ pc, Mnp (c273 pc) ∧ Okp RX12 cX12_manifest 5 none "manifest" false pc (c273 pc) := by
  intro pc
  unfold c273
  split
  · exact oc273_0 pc
  · exact oc273_1 pc
  · exact oc273_2 pc
  · exact oc273_3 pc
  · exact oc273_4 pc
  · exact oc273_5 pc
  · exact oc273_6 pc
  · exact oc273_7 pc
  · exact oc273_8 pc
  · exact oc273_9 pc
  · exact oc273_10 pc
  · exact ⟨mn_sX, ok_X⟩
theorem o274_0 : Okp RX12 cX12_canBoot 5 (some .boolean) "canBoot" false 0 (sLR 0 1) := ok_aload_n (by decide +kernel : decode cX12_canBoot 0 = .ok (.aload_n 0, 1)) rfl
theorem o274_1 : Okp RX12 cX12_canBoot 5 (some .boolean) "canBoot" false 1 (sGR 13 18 4) := ok_getR (by decide +kernel : decode cX12_canBoot 1 = .ok (.getfield 60, 3)) fw_X12_60 rfl
theorem o274_4 : Okp RX12 cX12_canBoot 5 (some .boolean) "canBoot" false 4 (sLI 2 5) := ok_iload_n (by decide +kernel : decode cX12_canBoot 4 = .ok (.iload_n 2, 1)) rfl
theorem o274_5 : Okp RX12 cX12_canBoot 5 (some .boolean) "canBoot" false 5 (sIA 6) := ok_iaload (by decide +kernel : decode cX12_canBoot 5 = .ok (.iaload, 1))
theorem o274_6 : Okp RX12 cX12_canBoot 5 (some .boolean) "canBoot" false 6 (sK (-1) 7) := ok_iconst (by decide +kernel : decode cX12_canBoot 6 = .ok (.iconst (-1), 1)) (by decide)
theorem o274_7 : Okp RX12 cX12_canBoot 5 (some .boolean) "canBoot" false 7 (sI2 0 12 10) := ok_icmp_eq (by decide +kernel : decode cX12_canBoot 7 = .ok (.if_icmp .eq 5, 3)) (by decide)
theorem o274_10 : Okp RX12 cX12_canBoot 5 (some .boolean) "canBoot" false 10 (sK 0 11) := ok_iconst (by decide +kernel : decode cX12_canBoot 10 = .ok (.iconst 0, 1)) (by decide)
theorem o274_11 : Okp RX12 cX12_canBoot 5 (some .boolean) "canBoot" false 11 sRZ := ok_zret rfl (by decide +kernel : decode cX12_canBoot 11 = .ok (.ireturn, 1))
theorem o274_12 : Okp RX12 cX12_canBoot 5 (some .boolean) "canBoot" false 12 (sK 0 13) := ok_iconst (by decide +kernel : decode cX12_canBoot 12 = .ok (.iconst 0, 1)) (by decide)
theorem o274_13 : Okp RX12 cX12_canBoot 5 (some .boolean) "canBoot" false 13 (sSI 3 14) := ok_istore_n (by decide +kernel : decode cX12_canBoot 13 = .ok (.istore_n 3, 1)) rfl (by decide) (by decide)
theorem o274_14 : Okp RX12 cX12_canBoot 5 (some .boolean) "canBoot" false 14 (sLI 3 15) := ok_iload_n (by decide +kernel : decode cX12_canBoot 14 = .ok (.iload_n 3, 1)) rfl
theorem o274_15 : Okp RX12 cX12_canBoot 5 (some .boolean) "canBoot" false 15 (sLR 0 16) := ok_aload_n (by decide +kernel : decode cX12_canBoot 15 = .ok (.aload_n 0, 1)) rfl
theorem o274_16 : Okp RX12 cX12_canBoot 5 (some .boolean) "canBoot" false 16 (sGR 13 16 19) := ok_getR (by decide +kernel : decode cX12_canBoot 16 = .ok (.getfield 54, 3)) fw_X12_54 rfl
theorem o274_19 : Okp RX12 cX12_canBoot 5 (some .boolean) "canBoot" false 19 (sLI 2 20) := ok_iload_n (by decide +kernel : decode cX12_canBoot 19 = .ok (.iload_n 2, 1)) rfl
theorem o274_20 : Okp RX12 cX12_canBoot 5 (some .boolean) "canBoot" false 20 (sIA 21) := ok_iaload (by decide +kernel : decode cX12_canBoot 20 = .ok (.iaload, 1))
theorem o274_21 : Okp RX12 cX12_canBoot 5 (some .boolean) "canBoot" false 21 (sI2 3 66 24) := ok_icmp_ge (by decide +kernel : decode cX12_canBoot 21 = .ok (.if_icmp .ge 45, 3)) (by decide)
theorem o274_24 : Okp RX12 cX12_canBoot 5 (some .boolean) "canBoot" false 24 (sLR 0 25) := ok_aload_n (by decide +kernel : decode cX12_canBoot 24 = .ok (.aload_n 0, 1)) rfl
theorem o274_25 : Okp RX12 cX12_canBoot 5 (some .boolean) "canBoot" false 25 (sGR 13 17 28) := ok_getR (by decide +kernel : decode cX12_canBoot 25 = .ok (.getfield 57, 3)) fw_X12_57 rfl
theorem o274_28 : Okp RX12 cX12_canBoot 5 (some .boolean) "canBoot" false 28 (sK 4 29) := ok_iconst (by decide +kernel : decode cX12_canBoot 28 = .ok (.iconst 4, 1)) (by decide)
theorem o274_29 : Okp RX12 cX12_canBoot 5 (some .boolean) "canBoot" false 29 (sLI 2 30) := ok_iload_n (by decide +kernel : decode cX12_canBoot 29 = .ok (.iload_n 2, 1)) rfl
theorem o274_30 : Okp RX12 cX12_canBoot 5 (some .boolean) "canBoot" false 30 (sB2 fMul 31) := ok_imul (by decide +kernel : decode cX12_canBoot 30 = .ok (.imul, 1))
theorem o274_31 : Okp RX12 cX12_canBoot 5 (some .boolean) "canBoot" false 31 (sLI 3 32) := ok_iload_n (by decide +kernel : decode cX12_canBoot 31 = .ok (.iload_n 3, 1)) rfl
theorem o274_32 : Okp RX12 cX12_canBoot 5 (some .boolean) "canBoot" false 32 (sB2 fAdd 33) := ok_iadd (by decide +kernel : decode cX12_canBoot 32 = .ok (.iadd, 1))
theorem o274_33 : Okp RX12 cX12_canBoot 5 (some .boolean) "canBoot" false 33 (sIA 34) := ok_iaload (by decide +kernel : decode cX12_canBoot 33 = .ok (.iaload, 1))
theorem o274_34 : Okp RX12 cX12_canBoot 5 (some .boolean) "canBoot" false 34 (sSI 4 36) := ok_istore (by decide +kernel : decode cX12_canBoot 34 = .ok (.istore 4, 2)) (by decide) (by decide)
theorem o274_36 : Okp RX12 cX12_canBoot 5 (some .boolean) "canBoot" false 36 (sLI 4 38) := ok_iload (by decide +kernel : decode cX12_canBoot 36 = .ok (.iload 4, 2))
theorem o274_38 : Okp RX12 cX12_canBoot 5 (some .boolean) "canBoot" false 38 (sI1 0 60 41) := ok_if_eq (by decide +kernel : decode cX12_canBoot 38 = .ok (.ifCond .eq 22, 3)) (by decide)
theorem o274_41 : Okp RX12 cX12_canBoot 5 (some .boolean) "canBoot" false 41 (sLI 4 43) := ok_iload (by decide +kernel : decode cX12_canBoot 41 = .ok (.iload 4, 2))
theorem o274_43 : Okp RX12 cX12_canBoot 5 (some .boolean) "canBoot" false 43 (sCS false 224 1 46) := ok_cs (by decide +kernel : decode cX12_canBoot 43 = .ok (.invokestatic 258, 3)) mw_X12_258 wt_X12_kind (by decide) rfl
theorem o274_46 : Okp RX12 cX12_canBoot 5 (some .boolean) "canBoot" false 46 (sK 5 47) := ok_iconst (by decide +kernel : decode cX12_canBoot 46 = .ok (.iconst 5, 1)) (by decide)
theorem o274_47 : Okp RX12 cX12_canBoot 5 (some .boolean) "canBoot" false 47 (sI2 1 58 50) := ok_icmp_ne (by decide +kernel : decode cX12_canBoot 47 = .ok (.if_icmp .ne 11, 3)) (by decide)
theorem o274_50 : Okp RX12 cX12_canBoot 5 (some .boolean) "canBoot" false 50 (sLI 4 52) := ok_iload (by decide +kernel : decode cX12_canBoot 50 = .ok (.iload 4, 2))
theorem o274_52 : Okp RX12 cX12_canBoot 5 (some .boolean) "canBoot" false 52 (sCS false 226 1 55) := ok_cs (by decide +kernel : decode cX12_canBoot 52 = .ok (.invokestatic 386, 3)) mw_X12_386 wt_X12_state (by decide) rfl
theorem o274_55 : Okp RX12 cX12_canBoot 5 (some .boolean) "canBoot" false 55 (sI1 0 60 58) := ok_if_eq (by decide +kernel : decode cX12_canBoot 55 = .ok (.ifCond .eq 5, 3)) (by decide)
theorem o274_58 : Okp RX12 cX12_canBoot 5 (some .boolean) "canBoot" false 58 (sK 0 59) := ok_iconst (by decide +kernel : decode cX12_canBoot 58 = .ok (.iconst 0, 1)) (by decide)
theorem o274_59 : Okp RX12 cX12_canBoot 5 (some .boolean) "canBoot" false 59 sRZ := ok_zret rfl (by decide +kernel : decode cX12_canBoot 59 = .ok (.ireturn, 1))
theorem o274_60 : Okp RX12 cX12_canBoot 5 (some .boolean) "canBoot" false 60 (sInc 3 1 63) := ok_iinc (by decide +kernel : decode cX12_canBoot 60 = .ok (.iinc 3 1, 3)) (by decide) (by decide)
theorem o274_63 : Okp RX12 cX12_canBoot 5 (some .boolean) "canBoot" false 63 (sGo 14) := ok_goto (by decide +kernel : decode cX12_canBoot 63 = .ok (.goto (-49), 3)) (by decide)
theorem o274_66 : Okp RX12 cX12_canBoot 5 (some .boolean) "canBoot" false 66 (sK 1 67) := ok_iconst (by decide +kernel : decode cX12_canBoot 66 = .ok (.iconst 1, 1)) (by decide)
theorem o274_67 : Okp RX12 cX12_canBoot 5 (some .boolean) "canBoot" false 67 sRZ := ok_zret rfl (by decide +kernel : decode cX12_canBoot 67 = .ok (.ireturn, 1))
theorem oc274_0 : ∀ pc, Mnp (c274_0 pc) ∧ Okp RX12 cX12_canBoot 5 (some .boolean) "canBoot" false pc (c274_0 pc) := by
  intro pc
  unfold c274_0
  split
  · exact ⟨mn_sLR, o274_0⟩
  · exact ⟨mn_sGR, o274_1⟩
  · exact ⟨mn_sLI, o274_4⟩
  · exact ⟨mn_sIA, o274_5⟩
  · exact ⟨mn_sK, o274_6⟩
  · exact ⟨mn_sI2, o274_7⟩
  · exact ⟨mn_sK, o274_10⟩
  · exact ⟨mn_sRZ, o274_11⟩
  · exact ⟨mn_sK, o274_12⟩
  · exact ⟨mn_sSI, o274_13⟩
  · exact ⟨mn_sLI, o274_14⟩
  · exact ⟨mn_sLR, o274_15⟩
  · exact ⟨mn_sGR, o274_16⟩
  · exact ⟨mn_sLI, o274_19⟩
  · exact ⟨mn_sIA, o274_20⟩
  · exact ⟨mn_sI2, o274_21⟩
  · exact ⟨mn_sX, ok_X⟩
theorem oc274_1 : ∀ pc, Mnp (c274_1 pc) ∧ Okp RX12 cX12_canBoot 5 (some .boolean) "canBoot" false pc (c274_1 pc) := by
  intro pc
  unfold c274_1
  split
  · exact ⟨mn_sLR, o274_24⟩
  · exact ⟨mn_sGR, o274_25⟩
  · exact ⟨mn_sK, o274_28⟩
  · exact ⟨mn_sLI, o274_29⟩
  · exact ⟨mn_sB2, o274_30⟩
  · exact ⟨mn_sLI, o274_31⟩
  · exact ⟨mn_sB2, o274_32⟩
  · exact ⟨mn_sIA, o274_33⟩
  · exact ⟨mn_sSI, o274_34⟩
  · exact ⟨mn_sLI, o274_36⟩
  · exact ⟨mn_sI1, o274_38⟩
  · exact ⟨mn_sLI, o274_41⟩
  · exact ⟨mn_sCS, o274_43⟩
  · exact ⟨mn_sK, o274_46⟩
  · exact ⟨mn_sI2, o274_47⟩
  · exact ⟨mn_sX, ok_X⟩
theorem oc274_2 : ∀ pc, Mnp (c274_2 pc) ∧ Okp RX12 cX12_canBoot 5 (some .boolean) "canBoot" false pc (c274_2 pc) := by
  intro pc
  unfold c274_2
  split
  · exact ⟨mn_sLI, o274_50⟩
  · exact ⟨mn_sCS, o274_52⟩
  · exact ⟨mn_sI1, o274_55⟩
  · exact ⟨mn_sK, o274_58⟩
  · exact ⟨mn_sRZ, o274_59⟩
  · exact ⟨mn_sInc, o274_60⟩
  · exact ⟨mn_sGo, o274_63⟩
  · exact ⟨mn_sK, o274_66⟩
  · exact ⟨mn_sRZ, o274_67⟩
  · exact ⟨mn_sX, ok_X⟩
theorem oc274 : ∀ pc, Mnp (c274 pc) ∧ Okp RX12 cX12_canBoot 5 (some .boolean) "canBoot" false pc (c274 pc) := by
  intro pc
  unfold c274
  split
  · exact oc274_0 pc
  · exact oc274_1 pc
  · exact oc274_2 pc
  · exact ⟨mn_sX, ok_X⟩
theorem o275_0 : Okp RX12 cX12_parameter 9 none "parameter" false 0 (sLR 0 1) := ok_aload_n (by decide +kernel : decode cX12_parameter 0 = .ok (.aload_n 0, 1)) rfl
theorem o275_1 : Okp RX12 cX12_parameter 9 none "parameter" false 1 (sGR 13 17 4) := ok_getR (by decide +kernel : decode cX12_parameter 1 = .ok (.getfield 57, 3)) fw_X12_57 rfl
theorem o275_4 : Okp RX12 cX12_parameter 9 none "parameter" false 4 (sK 4 5) := ok_iconst (by decide +kernel : decode cX12_parameter 4 = .ok (.iconst 4, 1)) (by decide)
theorem o275_5 : Okp RX12 cX12_parameter 9 none "parameter" false 5 (sLI 3 6) := ok_iload_n (by decide +kernel : decode cX12_parameter 5 = .ok (.iload_n 3, 1)) rfl
theorem o275_6 : Okp RX12 cX12_parameter 9 none "parameter" false 6 (sB2 fMul 7) := ok_imul (by decide +kernel : decode cX12_parameter 6 = .ok (.imul, 1))
theorem o275_7 : Okp RX12 cX12_parameter 9 none "parameter" false 7 (sLI 4 9) := ok_iload (by decide +kernel : decode cX12_parameter 7 = .ok (.iload 4, 2))
theorem o275_9 : Okp RX12 cX12_parameter 9 none "parameter" false 9 (sB2 fAdd 10) := ok_iadd (by decide +kernel : decode cX12_parameter 9 = .ok (.iadd, 1))
theorem o275_10 : Okp RX12 cX12_parameter 9 none "parameter" false 10 (sIA 11) := ok_iaload (by decide +kernel : decode cX12_parameter 10 = .ok (.iaload, 1))
theorem o275_11 : Okp RX12 cX12_parameter 9 none "parameter" false 11 (sSI 5 13) := ok_istore (by decide +kernel : decode cX12_parameter 11 = .ok (.istore 5, 2)) (by decide) (by decide)
theorem o275_13 : Okp RX12 cX12_parameter 9 none "parameter" false 13 (sLI 5 15) := ok_iload (by decide +kernel : decode cX12_parameter 13 = .ok (.iload 5, 2))
theorem o275_15 : Okp RX12 cX12_parameter 9 none "parameter" false 15 (sI1 1 66 18) := ok_if_ne (by decide +kernel : decode cX12_parameter 15 = .ok (.ifCond .ne 51, 3)) (by decide)
theorem o275_18 : Okp RX12 cX12_parameter 9 none "parameter" false 18 (sK 0 19) := ok_iconst (by decide +kernel : decode cX12_parameter 18 = .ok (.iconst 0, 1)) (by decide)
theorem o275_19 : Okp RX12 cX12_parameter 9 none "parameter" false 19 (sSI 6 21) := ok_istore (by decide +kernel : decode cX12_parameter 19 = .ok (.istore 6, 2)) (by decide) (by decide)
theorem o275_21 : Okp RX12 cX12_parameter 9 none "parameter" false 21 (sK 0 22) := ok_iconst (by decide +kernel : decode cX12_parameter 21 = .ok (.iconst 0, 1)) (by decide)
theorem o275_22 : Okp RX12 cX12_parameter 9 none "parameter" false 22 (sSI 7 24) := ok_istore (by decide +kernel : decode cX12_parameter 22 = .ok (.istore 7, 2)) (by decide) (by decide)
theorem o275_24 : Okp RX12 cX12_parameter 9 none "parameter" false 24 (sLI 7 26) := ok_iload (by decide +kernel : decode cX12_parameter 24 = .ok (.iload 7, 2))
theorem o275_26 : Okp RX12 cX12_parameter 9 none "parameter" false 26 (sK 4 27) := ok_iconst (by decide +kernel : decode cX12_parameter 26 = .ok (.iconst 4, 1)) (by decide)
theorem o275_27 : Okp RX12 cX12_parameter 9 none "parameter" false 27 (sI2 3 52 30) := ok_icmp_ge (by decide +kernel : decode cX12_parameter 27 = .ok (.if_icmp .ge 25, 3)) (by decide)
theorem o275_30 : Okp RX12 cX12_parameter 9 none "parameter" false 30 (sLI 6 32) := ok_iload (by decide +kernel : decode cX12_parameter 30 = .ok (.iload 6, 2))
theorem o275_32 : Okp RX12 cX12_parameter 9 none "parameter" false 32 (sK 8 34) := ok_bipush (by decide +kernel : decode cX12_parameter 32 = .ok (.bipush 8, 2)) (by decide)
theorem o275_34 : Okp RX12 cX12_parameter 9 none "parameter" false 34 (sB2 fShl 35) := ok_ishl (by decide +kernel : decode cX12_parameter 34 = .ok (.ishl, 1))
theorem o275_35 : Okp RX12 cX12_parameter 9 none "parameter" false 35 (sLR 0 36) := ok_aload_n (by decide +kernel : decode cX12_parameter 35 = .ok (.aload_n 0, 1)) rfl
theorem o275_36 : Okp RX12 cX12_parameter 9 none "parameter" false 36 (sK 0 37) := ok_iconst (by decide +kernel : decode cX12_parameter 36 = .ok (.iconst 0, 1)) (by decide)
theorem o275_37 : Okp RX12 cX12_parameter 9 none "parameter" false 37 (sK 255 40) := ok_sipush (by decide +kernel : decode cX12_parameter 37 = .ok (.sipush 255, 3)) (by decide)
theorem o275_40 : Okp RX12 cX12_parameter 9 none "parameter" false 40 (sCV false 221 3 13 43) := ok_cvT (by decide +kernel : decode cX12_parameter 40 = .ok (.invokevirtual 254, 3)) mw_X12_254 rfl rfl (by decide) wm_X12_number wse_X12_number (by decide)
theorem o275_43 : Okp RX12 cX12_parameter 9 none "parameter" false 43 (sB2 fOr 44) := ok_ior (by decide +kernel : decode cX12_parameter 43 = .ok (.ior, 1))
theorem o275_44 : Okp RX12 cX12_parameter 9 none "parameter" false 44 (sSI 6 46) := ok_istore (by decide +kernel : decode cX12_parameter 44 = .ok (.istore 6, 2)) (by decide) (by decide)
theorem o275_46 : Okp RX12 cX12_parameter 9 none "parameter" false 46 (sInc 7 1 49) := ok_iinc (by decide +kernel : decode cX12_parameter 46 = .ok (.iinc 7 1, 3)) (by decide) (by decide)
theorem o275_49 : Okp RX12 cX12_parameter 9 none "parameter" false 49 (sGo 24) := ok_goto (by decide +kernel : decode cX12_parameter 49 = .ok (.goto (-25), 3)) (by decide)
theorem o275_52 : Okp RX12 cX12_parameter 9 none "parameter" false 52 (sLR 0 53) := ok_aload_n (by decide +kernel : decode cX12_parameter 52 = .ok (.aload_n 0, 1)) rfl
theorem o275_53 : Okp RX12 cX12_parameter 9 none "parameter" false 53 (sGR 13 42 56) := ok_getR (by decide +kernel : decode cX12_parameter 53 = .ok (.getfield 110, 3)) fw_X12_110 rfl
theorem o275_56 : Okp RX12 cX12_parameter 9 none "parameter" false 56 (sK 4 57) := ok_iconst (by decide +kernel : decode cX12_parameter 56 = .ok (.iconst 4, 1)) (by decide)
theorem o275_57 : Okp RX12 cX12_parameter 9 none "parameter" false 57 (sLI 1 58) := ok_iload_n (by decide +kernel : decode cX12_parameter 57 = .ok (.iload_n 1, 1)) rfl
theorem o275_58 : Okp RX12 cX12_parameter 9 none "parameter" false 58 (sB2 fMul 59) := ok_imul (by decide +kernel : decode cX12_parameter 58 = .ok (.imul, 1))
theorem o275_59 : Okp RX12 cX12_parameter 9 none "parameter" false 59 (sLI 4 61) := ok_iload (by decide +kernel : decode cX12_parameter 59 = .ok (.iload 4, 2))
theorem o275_61 : Okp RX12 cX12_parameter 9 none "parameter" false 61 (sB2 fAdd 62) := ok_iadd (by decide +kernel : decode cX12_parameter 61 = .ok (.iadd, 1))
theorem o275_62 : Okp RX12 cX12_parameter 9 none "parameter" false 62 (sLI 6 64) := ok_iload (by decide +kernel : decode cX12_parameter 62 = .ok (.iload 6, 2))
theorem o275_64 : Okp RX12 cX12_parameter 9 none "parameter" false 64 (sIS 65) := ok_iastore (by decide +kernel : decode cX12_parameter 64 = .ok (.iastore, 1))
theorem o275_65 : Okp RX12 cX12_parameter 9 none "parameter" false 65 sRV := ok_vret rfl (by decide +kernel : decode cX12_parameter 65 = .ok (.return_, 1))
theorem o275_66 : Okp RX12 cX12_parameter 9 none "parameter" false 66 (sLR 0 67) := ok_aload_n (by decide +kernel : decode cX12_parameter 66 = .ok (.aload_n 0, 1)) rfl
theorem o275_67 : Okp RX12 cX12_parameter 9 none "parameter" false 67 (sK 0 68) := ok_iconst (by decide +kernel : decode cX12_parameter 67 = .ok (.iconst 0, 1)) (by decide)
theorem o275_68 : Okp RX12 cX12_parameter 9 none "parameter" false 68 (sK 7 70) := ok_bipush (by decide +kernel : decode cX12_parameter 68 = .ok (.bipush 7, 2)) (by decide)
theorem o275_70 : Okp RX12 cX12_parameter 9 none "parameter" false 70 (sCV false 221 3 13 73) := ok_cvT (by decide +kernel : decode cX12_parameter 70 = .ok (.invokevirtual 254, 3)) mw_X12_254 rfl rfl (by decide) wm_X12_number wse_X12_number (by decide)
theorem o275_73 : Okp RX12 cX12_parameter 9 none "parameter" false 73 (sSI 6 75) := ok_istore (by decide +kernel : decode cX12_parameter 73 = .ok (.istore 6, 2)) (by decide) (by decide)
theorem o275_75 : Okp RX12 cX12_parameter 9 none "parameter" false 75 (sLR 0 76) := ok_aload_n (by decide +kernel : decode cX12_parameter 75 = .ok (.aload_n 0, 1)) rfl
theorem o275_76 : Okp RX12 cX12_parameter 9 none "parameter" false 76 (sGR 13 43 79) := ok_getR (by decide +kernel : decode cX12_parameter 76 = .ok (.getfield 113, 3)) fw_X12_113 rfl
theorem o275_79 : Okp RX12 cX12_parameter 9 none "parameter" false 79 (sLI 6 81) := ok_iload (by decide +kernel : decode cX12_parameter 79 = .ok (.iload 6, 2))
theorem o275_81 : Okp RX12 cX12_parameter 9 none "parameter" false 81 (sIA 82) := ok_iaload (by decide +kernel : decode cX12_parameter 81 = .ok (.iaload, 1))
theorem o275_82 : Okp RX12 cX12_parameter 9 none "parameter" false 82 (sK 2 83) := ok_iconst (by decide +kernel : decode cX12_parameter 82 = .ok (.iconst 2, 1)) (by decide)
theorem o275_83 : Okp RX12 cX12_parameter 9 none "parameter" false 83 (sI2 3 90 86) := ok_icmp_ge (by decide +kernel : decode cX12_parameter 83 = .ok (.if_icmp .ge 7, 3)) (by decide)
theorem o275_86 : Okp RX12 cX12_parameter 9 none "parameter" false 86 (sK 1 87) := ok_iconst (by decide +kernel : decode cX12_parameter 86 = .ok (.iconst 1, 1)) (by decide)
theorem o275_87 : Okp RX12 cX12_parameter 9 none "parameter" false 87 (sGo 91) := ok_goto (by decide +kernel : decode cX12_parameter 87 = .ok (.goto 4, 3)) (by decide)
theorem o275_90 : Okp RX12 cX12_parameter 9 none "parameter" false 90 (sK 0 91) := ok_iconst (by decide +kernel : decode cX12_parameter 90 = .ok (.iconst 0, 1)) (by decide)
theorem o275_91 : Okp RX12 cX12_parameter 9 none "parameter" false 91 (sSI 7 93) := ok_istore (by decide +kernel : decode cX12_parameter 91 = .ok (.istore 7, 2)) (by decide) (by decide)
theorem o275_93 : Okp RX12 cX12_parameter 9 none "parameter" false 93 (sLI 7 95) := ok_iload (by decide +kernel : decode cX12_parameter 93 = .ok (.iload 7, 2))
theorem o275_95 : Okp RX12 cX12_parameter 9 none "parameter" false 95 (sI1 0 185 98) := ok_if_eq (by decide +kernel : decode cX12_parameter 95 = .ok (.ifCond .eq 90, 3)) (by decide)
theorem o275_98 : Okp RX12 cX12_parameter 9 none "parameter" false 98 (sLR 0 99) := ok_aload_n (by decide +kernel : decode cX12_parameter 98 = .ok (.aload_n 0, 1)) rfl
theorem o275_99 : Okp RX12 cX12_parameter 9 none "parameter" false 99 (sGR 13 43 102) := ok_getR (by decide +kernel : decode cX12_parameter 99 = .ok (.getfield 113, 3)) fw_X12_113 rfl
theorem o275_102 : Okp RX12 cX12_parameter 9 none "parameter" false 102 (sLI 6 104) := ok_iload (by decide +kernel : decode cX12_parameter 102 = .ok (.iload 6, 2))
theorem o275_104 : Okp RX12 cX12_parameter 9 none "parameter" false 104 (sIA 105) := ok_iaload (by decide +kernel : decode cX12_parameter 104 = .ok (.iaload, 1))
theorem o275_105 : Okp RX12 cX12_parameter 9 none "parameter" false 105 (sK 1 106) := ok_iconst (by decide +kernel : decode cX12_parameter 105 = .ok (.iconst 1, 1)) (by decide)
theorem o275_106 : Okp RX12 cX12_parameter 9 none "parameter" false 106 (sI2 1 185 109) := ok_icmp_ne (by decide +kernel : decode cX12_parameter 106 = .ok (.if_icmp .ne 79, 3)) (by decide)
theorem o275_109 : Okp RX12 cX12_parameter 9 none "parameter" false 109 (sK 0 110) := ok_iconst (by decide +kernel : decode cX12_parameter 109 = .ok (.iconst 0, 1)) (by decide)
theorem o275_110 : Okp RX12 cX12_parameter 9 none "parameter" false 110 (sSI 8 112) := ok_istore (by decide +kernel : decode cX12_parameter 110 = .ok (.istore 8, 2)) (by decide) (by decide)
theorem o275_112 : Okp RX12 cX12_parameter 9 none "parameter" false 112 (sLI 8 114) := ok_iload (by decide +kernel : decode cX12_parameter 112 = .ok (.iload 8, 2))
theorem o275_114 : Okp RX12 cX12_parameter 9 none "parameter" false 114 (sLR 0 115) := ok_aload_n (by decide +kernel : decode cX12_parameter 114 = .ok (.aload_n 0, 1)) rfl
theorem o275_115 : Okp RX12 cX12_parameter 9 none "parameter" false 115 (sGR 13 50 118) := ok_getR (by decide +kernel : decode cX12_parameter 115 = .ok (.getfield 128, 3)) fw_X12_128 rfl
theorem o275_118 : Okp RX12 cX12_parameter 9 none "parameter" false 118 (sLen 119) := ok_alen (by decide +kernel : decode cX12_parameter 118 = .ok (.arraylength, 1))
theorem o275_119 : Okp RX12 cX12_parameter 9 none "parameter" false 119 (sI2 3 136 122) := ok_icmp_ge (by decide +kernel : decode cX12_parameter 119 = .ok (.if_icmp .ge 17, 3)) (by decide)
theorem o275_122 : Okp RX12 cX12_parameter 9 none "parameter" false 122 (sLR 0 123) := ok_aload_n (by decide +kernel : decode cX12_parameter 122 = .ok (.aload_n 0, 1)) rfl
theorem o275_123 : Okp RX12 cX12_parameter 9 none "parameter" false 123 (sGR 13 50 126) := ok_getR (by decide +kernel : decode cX12_parameter 123 = .ok (.getfield 128, 3)) fw_X12_128 rfl
theorem o275_126 : Okp RX12 cX12_parameter 9 none "parameter" false 126 (sLI 8 128) := ok_iload (by decide +kernel : decode cX12_parameter 126 = .ok (.iload 8, 2))
theorem o275_128 : Okp RX12 cX12_parameter 9 none "parameter" false 128 (sK 0 129) := ok_iconst (by decide +kernel : decode cX12_parameter 128 = .ok (.iconst 0, 1)) (by decide)
theorem o275_129 : Okp RX12 cX12_parameter 9 none "parameter" false 129 (sBS 130) := ok_bastore (by decide +kernel : decode cX12_parameter 129 = .ok (.bastore, 1))
theorem o275_130 : Okp RX12 cX12_parameter 9 none "parameter" false 130 (sInc 8 1 133) := ok_iinc (by decide +kernel : decode cX12_parameter 130 = .ok (.iinc 8 1, 3)) (by decide) (by decide)
theorem o275_133 : Okp RX12 cX12_parameter 9 none "parameter" false 133 (sGo 112) := ok_goto (by decide +kernel : decode cX12_parameter 133 = .ok (.goto (-21), 3)) (by decide)
theorem o275_136 : Okp RX12 cX12_parameter 9 none "parameter" false 136 (sLR 0 137) := ok_aload_n (by decide +kernel : decode cX12_parameter 136 = .ok (.aload_n 0, 1)) rfl
theorem o275_137 : Okp RX12 cX12_parameter 9 none "parameter" false 137 (sGR 13 45 140) := ok_getR (by decide +kernel : decode cX12_parameter 137 = .ok (.getfield 119, 3)) fw_X12_119 rfl
theorem o275_140 : Okp RX12 cX12_parameter 9 none "parameter" false 140 (sK 2 141) := ok_iconst (by decide +kernel : decode cX12_parameter 140 = .ok (.iconst 2, 1)) (by decide)
theorem o275_141 : Okp RX12 cX12_parameter 9 none "parameter" false 141 (sLI 6 143) := ok_iload (by decide +kernel : decode cX12_parameter 141 = .ok (.iload 6, 2))
theorem o275_143 : Okp RX12 cX12_parameter 9 none "parameter" false 143 (sB2 fMul 144) := ok_imul (by decide +kernel : decode cX12_parameter 143 = .ok (.imul, 1))
theorem o275_144 : Okp RX12 cX12_parameter 9 none "parameter" false 144 (sIA 145) := ok_iaload (by decide +kernel : decode cX12_parameter 144 = .ok (.iaload, 1))
theorem o275_145 : Okp RX12 cX12_parameter 9 none "parameter" false 145 (sLI 5 147) := ok_iload (by decide +kernel : decode cX12_parameter 145 = .ok (.iload 5, 2))
theorem o275_147 : Okp RX12 cX12_parameter 9 none "parameter" false 147 (sCS false 227 1 150) := ok_cs (by decide +kernel : decode cX12_parameter 147 = .ok (.invokestatic 399, 3)) mw_X12_399 wt_X12_side (by decide) rfl
theorem o275_150 : Okp RX12 cX12_parameter 9 none "parameter" false 150 (sI2 0 182 153) := ok_icmp_eq (by decide +kernel : decode cX12_parameter 150 = .ok (.if_icmp .eq 32, 3)) (by decide)
theorem o275_153 : Okp RX12 cX12_parameter 9 none "parameter" false 153 (sLR 0 154) := ok_aload_n (by decide +kernel : decode cX12_parameter 153 = .ok (.aload_n 0, 1)) rfl
theorem o275_154 : Okp RX12 cX12_parameter 9 none "parameter" false 154 (sLR 0 155) := ok_aload_n (by decide +kernel : decode cX12_parameter 154 = .ok (.aload_n 0, 1)) rfl
theorem o275_155 : Okp RX12 cX12_parameter 9 none "parameter" false 155 (sGR 13 44 158) := ok_getR (by decide +kernel : decode cX12_parameter 155 = .ok (.getfield 116, 3)) fw_X12_116 rfl
theorem o275_158 : Okp RX12 cX12_parameter 9 none "parameter" false 158 (sK 2 159) := ok_iconst (by decide +kernel : decode cX12_parameter 158 = .ok (.iconst 2, 1)) (by decide)
theorem o275_159 : Okp RX12 cX12_parameter 9 none "parameter" false 159 (sLI 6 161) := ok_iload (by decide +kernel : decode cX12_parameter 159 = .ok (.iload 6, 2))
theorem o275_161 : Okp RX12 cX12_parameter 9 none "parameter" false 161 (sB2 fMul 162) := ok_imul (by decide +kernel : decode cX12_parameter 161 = .ok (.imul, 1))
theorem o275_162 : Okp RX12 cX12_parameter 9 none "parameter" false 162 (sIA 163) := ok_iaload (by decide +kernel : decode cX12_parameter 162 = .ok (.iaload, 1))
theorem o275_163 : Okp RX12 cX12_parameter 9 none "parameter" false 163 (sK 4 164) := ok_iconst (by decide +kernel : decode cX12_parameter 163 = .ok (.iconst 4, 1)) (by decide)
theorem o275_164 : Okp RX12 cX12_parameter 9 none "parameter" false 164 (sLI 2 165) := ok_iload_n (by decide +kernel : decode cX12_parameter 164 = .ok (.iload_n 2, 1)) rfl
theorem o275_165 : Okp RX12 cX12_parameter 9 none "parameter" false 165 (sB2 fMul 166) := ok_imul (by decide +kernel : decode cX12_parameter 165 = .ok (.imul, 1))
theorem o275_166 : Okp RX12 cX12_parameter 9 none "parameter" false 166 (sLI 5 168) := ok_iload (by decide +kernel : decode cX12_parameter 166 = .ok (.iload 5, 2))
theorem o275_168 : Okp RX12 cX12_parameter 9 none "parameter" false 168 (sCS false 225 1 171) := ok_cs (by decide +kernel : decode cX12_parameter 168 = .ok (.invokestatic 368, 3)) mw_X12_368 wt_X12_which (by decide) rfl
theorem o275_171 : Okp RX12 cX12_parameter 9 none "parameter" false 171 (sB2 fAdd 172) := ok_iadd (by decide +kernel : decode cX12_parameter 171 = .ok (.iadd, 1))
theorem o275_172 : Okp RX12 cX12_parameter 9 none "parameter" false 172 (sCV false 276 3 13 175) := ok_cv (by decide +kernel : decode cX12_parameter 172 = .ok (.invokevirtual 444, 3)) mw_X12_444 rfl (by decide) wm_X12_alike wse_X12_alike (by decide) rfl
theorem o275_175 : Okp RX12 cX12_parameter 9 none "parameter" false 175 (sI1 0 182 178) := ok_if_eq (by decide +kernel : decode cX12_parameter 175 = .ok (.ifCond .eq 7, 3)) (by decide)
theorem o275_178 : Okp RX12 cX12_parameter 9 none "parameter" false 178 (sK 1 179) := ok_iconst (by decide +kernel : decode cX12_parameter 178 = .ok (.iconst 1, 1)) (by decide)
theorem o275_179 : Okp RX12 cX12_parameter 9 none "parameter" false 179 (sGo 183) := ok_goto (by decide +kernel : decode cX12_parameter 179 = .ok (.goto 4, 3)) (by decide)
theorem o275_182 : Okp RX12 cX12_parameter 9 none "parameter" false 182 (sK 0 183) := ok_iconst (by decide +kernel : decode cX12_parameter 182 = .ok (.iconst 0, 1)) (by decide)
theorem o275_183 : Okp RX12 cX12_parameter 9 none "parameter" false 183 (sSI 7 185) := ok_istore (by decide +kernel : decode cX12_parameter 183 = .ok (.istore 7, 2)) (by decide) (by decide)
theorem o275_185 : Okp RX12 cX12_parameter 9 none "parameter" false 185 (sLI 7 187) := ok_iload (by decide +kernel : decode cX12_parameter 185 = .ok (.iload 7, 2))
theorem o275_187 : Okp RX12 cX12_parameter 9 none "parameter" false 187 (sI1 1 201 190) := ok_if_ne (by decide +kernel : decode cX12_parameter 187 = .ok (.ifCond .ne 14, 3)) (by decide)
theorem o275_190 : Okp RX12 cX12_parameter 9 none "parameter" false 190 (sLR 0 191) := ok_aload_n (by decide +kernel : decode cX12_parameter 190 = .ok (.aload_n 0, 1)) rfl
theorem o275_191 : Okp RX12 cX12_parameter 9 none "parameter" false 191 (sK 5 192) := ok_iconst (by decide +kernel : decode cX12_parameter 191 = .ok (.iconst 5, 1)) (by decide)
theorem o275_192 : Okp RX12 cX12_parameter 9 none "parameter" false 192 (sLR 0 193) := ok_aload_n (by decide +kernel : decode cX12_parameter 192 = .ok (.aload_n 0, 1)) rfl
theorem o275_193 : Okp RX12 cX12_parameter 9 none "parameter" false 193 (sGI 13 26 196) := ok_getI (by decide +kernel : decode cX12_parameter 193 = .ok (.getfield 243, 3)) fw_X12_243 rfl
theorem o275_196 : Okp RX12 cX12_parameter 9 none "parameter" false 196 (sK 1 197) := ok_iconst (by decide +kernel : decode cX12_parameter 196 = .ok (.iconst 1, 1)) (by decide)
theorem o275_197 : Okp RX12 cX12_parameter 9 none "parameter" false 197 (sB2 fSub 198) := ok_isub (by decide +kernel : decode cX12_parameter 197 = .ok (.isub, 1))
theorem o275_198 : Okp RX12 cX12_parameter 9 none "parameter" false 198 (sCV false 218 3 13 201) := ok_cvT (by decide +kernel : decode cX12_parameter 198 = .ok (.invokevirtual 250, 3)) mw_X12_250 rfl rfl (by decide) wm_X12_fails wse_X12_fails (by decide)
theorem o275_201 : Okp RX12 cX12_parameter 9 none "parameter" false 201 (sLR 0 202) := ok_aload_n (by decide +kernel : decode cX12_parameter 201 = .ok (.aload_n 0, 1)) rfl
theorem o275_202 : Okp RX12 cX12_parameter 9 none "parameter" false 202 (sGR 13 43 205) := ok_getR (by decide +kernel : decode cX12_parameter 202 = .ok (.getfield 113, 3)) fw_X12_113 rfl
theorem o275_205 : Okp RX12 cX12_parameter 9 none "parameter" false 205 (sLI 6 207) := ok_iload (by decide +kernel : decode cX12_parameter 205 = .ok (.iload 6, 2))
theorem o275_207 : Okp RX12 cX12_parameter 9 none "parameter" false 207 (sIA 208) := ok_iaload (by decide +kernel : decode cX12_parameter 207 = .ok (.iaload, 1))
theorem o275_208 : Okp RX12 cX12_parameter 9 none "parameter" false 208 (sI1 1 232 211) := ok_if_ne (by decide +kernel : decode cX12_parameter 208 = .ok (.ifCond .ne 24, 3)) (by decide)
theorem o275_211 : Okp RX12 cX12_parameter 9 none "parameter" false 211 (sLR 0 212) := ok_aload_n (by decide +kernel : decode cX12_parameter 211 = .ok (.aload_n 0, 1)) rfl
theorem o275_212 : Okp RX12 cX12_parameter 9 none "parameter" false 212 (sGR 13 47 215) := ok_getR (by decide +kernel : decode cX12_parameter 212 = .ok (.getfield 125, 3)) fw_X12_125 rfl
theorem o275_215 : Okp RX12 cX12_parameter 9 none "parameter" false 215 (sLR 0 216) := ok_aload_n (by decide +kernel : decode cX12_parameter 215 = .ok (.aload_n 0, 1)) rfl
theorem o275_216 : Okp RX12 cX12_parameter 9 none "parameter" false 216 (sGI 13 49 219) := ok_getI (by decide +kernel : decode cX12_parameter 216 = .ok (.getfield 435, 3)) fw_X12_435 rfl
theorem o275_219 : Okp RX12 cX12_parameter 9 none "parameter" false 219 (sLI 6 221) := ok_iload (by decide +kernel : decode cX12_parameter 219 = .ok (.iload 6, 2))
theorem o275_221 : Okp RX12 cX12_parameter 9 none "parameter" false 221 (sIS 222) := ok_iastore (by decide +kernel : decode cX12_parameter 221 = .ok (.iastore, 1))
theorem o275_222 : Okp RX12 cX12_parameter 9 none "parameter" false 222 (sLR 0 223) := ok_aload_n (by decide +kernel : decode cX12_parameter 222 = .ok (.aload_n 0, 1)) rfl
theorem o275_223 : Okp RX12 cX12_parameter 9 none "parameter" false 223 (sDup 224) := ok_dup (by decide +kernel : decode cX12_parameter 223 = .ok (.dup, 1))
theorem o275_224 : Okp RX12 cX12_parameter 9 none "parameter" false 224 (sGI 13 49 227) := ok_getI (by decide +kernel : decode cX12_parameter 224 = .ok (.getfield 435, 3)) fw_X12_435 rfl
theorem o275_227 : Okp RX12 cX12_parameter 9 none "parameter" false 227 (sK 1 228) := ok_iconst (by decide +kernel : decode cX12_parameter 227 = .ok (.iconst 1, 1)) (by decide)
theorem o275_228 : Okp RX12 cX12_parameter 9 none "parameter" false 228 (sB2 fAdd 229) := ok_iadd (by decide +kernel : decode cX12_parameter 228 = .ok (.iadd, 1))
theorem o275_229 : Okp RX12 cX12_parameter 9 none "parameter" false 229 (sPI 13 49 232) := ok_putI (by decide +kernel : decode cX12_parameter 229 = .ok (.putfield 435, 3)) fw_X12_435 ⟨⟨tyX12_ok, nmX12⟩, Or.inl rfl, rfl⟩ rfl
theorem o275_232 : Okp RX12 cX12_parameter 9 none "parameter" false 232 (sK 2 233) := ok_iconst (by decide +kernel : decode cX12_parameter 232 = .ok (.iconst 2, 1)) (by decide)
theorem o275_233 : Okp RX12 cX12_parameter 9 none "parameter" false 233 (sLI 6 235) := ok_iload (by decide +kernel : decode cX12_parameter 233 = .ok (.iload 6, 2))
theorem o275_235 : Okp RX12 cX12_parameter 9 none "parameter" false 235 (sB2 fMul 236) := ok_imul (by decide +kernel : decode cX12_parameter 235 = .ok (.imul, 1))
theorem o275_236 : Okp RX12 cX12_parameter 9 none "parameter" false 236 (sLR 0 237) := ok_aload_n (by decide +kernel : decode cX12_parameter 236 = .ok (.aload_n 0, 1)) rfl
theorem o275_237 : Okp RX12 cX12_parameter 9 none "parameter" false 237 (sGR 13 43 240) := ok_getR (by decide +kernel : decode cX12_parameter 237 = .ok (.getfield 113, 3)) fw_X12_113 rfl
theorem o275_240 : Okp RX12 cX12_parameter 9 none "parameter" false 240 (sLI 6 242) := ok_iload (by decide +kernel : decode cX12_parameter 240 = .ok (.iload 6, 2))
theorem o275_242 : Okp RX12 cX12_parameter 9 none "parameter" false 242 (sIA 243) := ok_iaload (by decide +kernel : decode cX12_parameter 242 = .ok (.iaload, 1))
theorem o275_243 : Okp RX12 cX12_parameter 9 none "parameter" false 243 (sB2 fAdd 244) := ok_iadd (by decide +kernel : decode cX12_parameter 243 = .ok (.iadd, 1))
theorem o275_244 : Okp RX12 cX12_parameter 9 none "parameter" false 244 (sSI 8 246) := ok_istore (by decide +kernel : decode cX12_parameter 244 = .ok (.istore 8, 2)) (by decide) (by decide)
theorem o275_246 : Okp RX12 cX12_parameter 9 none "parameter" false 246 (sLR 0 247) := ok_aload_n (by decide +kernel : decode cX12_parameter 246 = .ok (.aload_n 0, 1)) rfl
theorem o275_247 : Okp RX12 cX12_parameter 9 none "parameter" false 247 (sGR 13 44 250) := ok_getR (by decide +kernel : decode cX12_parameter 247 = .ok (.getfield 116, 3)) fw_X12_116 rfl
theorem o275_250 : Okp RX12 cX12_parameter 9 none "parameter" false 250 (sLI 8 252) := ok_iload (by decide +kernel : decode cX12_parameter 250 = .ok (.iload 8, 2))
theorem o275_252 : Okp RX12 cX12_parameter 9 none "parameter" false 252 (sK 4 253) := ok_iconst (by decide +kernel : decode cX12_parameter 252 = .ok (.iconst 4, 1)) (by decide)
theorem o275_253 : Okp RX12 cX12_parameter 9 none "parameter" false 253 (sLI 2 254) := ok_iload_n (by decide +kernel : decode cX12_parameter 253 = .ok (.iload_n 2, 1)) rfl
theorem o275_254 : Okp RX12 cX12_parameter 9 none "parameter" false 254 (sB2 fMul 255) := ok_imul (by decide +kernel : decode cX12_parameter 254 = .ok (.imul, 1))
theorem o275_255 : Okp RX12 cX12_parameter 9 none "parameter" false 255 (sLI 5 257) := ok_iload (by decide +kernel : decode cX12_parameter 255 = .ok (.iload 5, 2))
theorem o275_257 : Okp RX12 cX12_parameter 9 none "parameter" false 257 (sCS false 225 1 260) := ok_cs (by decide +kernel : decode cX12_parameter 257 = .ok (.invokestatic 368, 3)) mw_X12_368 wt_X12_which (by decide) rfl
theorem o275_260 : Okp RX12 cX12_parameter 9 none "parameter" false 260 (sB2 fAdd 261) := ok_iadd (by decide +kernel : decode cX12_parameter 260 = .ok (.iadd, 1))
theorem o275_261 : Okp RX12 cX12_parameter 9 none "parameter" false 261 (sIS 262) := ok_iastore (by decide +kernel : decode cX12_parameter 261 = .ok (.iastore, 1))
theorem o275_262 : Okp RX12 cX12_parameter 9 none "parameter" false 262 (sLR 0 263) := ok_aload_n (by decide +kernel : decode cX12_parameter 262 = .ok (.aload_n 0, 1)) rfl
theorem o275_263 : Okp RX12 cX12_parameter 9 none "parameter" false 263 (sGR 13 45 266) := ok_getR (by decide +kernel : decode cX12_parameter 263 = .ok (.getfield 119, 3)) fw_X12_119 rfl
theorem o275_266 : Okp RX12 cX12_parameter 9 none "parameter" false 266 (sLI 8 268) := ok_iload (by decide +kernel : decode cX12_parameter 266 = .ok (.iload 8, 2))
theorem o275_268 : Okp RX12 cX12_parameter 9 none "parameter" false 268 (sLI 5 270) := ok_iload (by decide +kernel : decode cX12_parameter 268 = .ok (.iload 5, 2))
theorem o275_270 : Okp RX12 cX12_parameter 9 none "parameter" false 270 (sCS false 227 1 273) := ok_cs (by decide +kernel : decode cX12_parameter 270 = .ok (.invokestatic 399, 3)) mw_X12_399 wt_X12_side (by decide) rfl
theorem o275_273 : Okp RX12 cX12_parameter 9 none "parameter" false 273 (sIS 274) := ok_iastore (by decide +kernel : decode cX12_parameter 273 = .ok (.iastore, 1))
theorem o275_274 : Okp RX12 cX12_parameter 9 none "parameter" false 274 (sLR 0 275) := ok_aload_n (by decide +kernel : decode cX12_parameter 274 = .ok (.aload_n 0, 1)) rfl
theorem o275_275 : Okp RX12 cX12_parameter 9 none "parameter" false 275 (sGR 13 46 278) := ok_getR (by decide +kernel : decode cX12_parameter 275 = .ok (.getfield 122, 3)) fw_X12_122 rfl
theorem o275_278 : Okp RX12 cX12_parameter 9 none "parameter" false 278 (sLI 8 280) := ok_iload (by decide +kernel : decode cX12_parameter 278 = .ok (.iload 8, 2))
theorem o275_280 : Okp RX12 cX12_parameter 9 none "parameter" false 280 (sK 4 281) := ok_iconst (by decide +kernel : decode cX12_parameter 280 = .ok (.iconst 4, 1)) (by decide)
theorem o275_281 : Okp RX12 cX12_parameter 9 none "parameter" false 281 (sLI 1 282) := ok_iload_n (by decide +kernel : decode cX12_parameter 281 = .ok (.iload_n 1, 1)) rfl
theorem o275_282 : Okp RX12 cX12_parameter 9 none "parameter" false 282 (sB2 fMul 283) := ok_imul (by decide +kernel : decode cX12_parameter 282 = .ok (.imul, 1))
theorem o275_283 : Okp RX12 cX12_parameter 9 none "parameter" false 283 (sLI 4 285) := ok_iload (by decide +kernel : decode cX12_parameter 283 = .ok (.iload 4, 2))
theorem o275_285 : Okp RX12 cX12_parameter 9 none "parameter" false 285 (sB2 fAdd 286) := ok_iadd (by decide +kernel : decode cX12_parameter 285 = .ok (.iadd, 1))
theorem o275_286 : Okp RX12 cX12_parameter 9 none "parameter" false 286 (sIS 287) := ok_iastore (by decide +kernel : decode cX12_parameter 286 = .ok (.iastore, 1))
theorem o275_287 : Okp RX12 cX12_parameter 9 none "parameter" false 287 (sLR 0 288) := ok_aload_n (by decide +kernel : decode cX12_parameter 287 = .ok (.aload_n 0, 1)) rfl
theorem o275_288 : Okp RX12 cX12_parameter 9 none "parameter" false 288 (sGR 13 43 291) := ok_getR (by decide +kernel : decode cX12_parameter 288 = .ok (.getfield 113, 3)) fw_X12_113 rfl
theorem o275_291 : Okp RX12 cX12_parameter 9 none "parameter" false 291 (sLI 6 293) := ok_iload (by decide +kernel : decode cX12_parameter 291 = .ok (.iload 6, 2))
theorem o275_293 : Okp RX12 cX12_parameter 9 none "parameter" false 293 (sDup2 294) := ok_dup2 (by decide +kernel : decode cX12_parameter 293 = .ok (.dup2, 1))
theorem o275_294 : Okp RX12 cX12_parameter 9 none "parameter" false 294 (sIA 295) := ok_iaload (by decide +kernel : decode cX12_parameter 294 = .ok (.iaload, 1))
theorem o275_295 : Okp RX12 cX12_parameter 9 none "parameter" false 295 (sK 1 296) := ok_iconst (by decide +kernel : decode cX12_parameter 295 = .ok (.iconst 1, 1)) (by decide)
theorem o275_296 : Okp RX12 cX12_parameter 9 none "parameter" false 296 (sB2 fAdd 297) := ok_iadd (by decide +kernel : decode cX12_parameter 296 = .ok (.iadd, 1))
theorem o275_297 : Okp RX12 cX12_parameter 9 none "parameter" false 297 (sIS 298) := ok_iastore (by decide +kernel : decode cX12_parameter 297 = .ok (.iastore, 1))
theorem o275_298 : Okp RX12 cX12_parameter 9 none "parameter" false 298 sRV := ok_vret rfl (by decide +kernel : decode cX12_parameter 298 = .ok (.return_, 1))
theorem oc275_0 : ∀ pc, Mnp (c275_0 pc) ∧ Okp RX12 cX12_parameter 9 none "parameter" false pc (c275_0 pc) := by
  intro pc
  unfold c275_0
  split
  · exact ⟨mn_sLR, o275_0⟩
  · exact ⟨mn_sGR, o275_1⟩
  · exact ⟨mn_sK, o275_4⟩
  · exact ⟨mn_sLI, o275_5⟩
  · exact ⟨mn_sB2, o275_6⟩
  · exact ⟨mn_sLI, o275_7⟩
  · exact ⟨mn_sB2, o275_9⟩
  · exact ⟨mn_sIA, o275_10⟩
  · exact ⟨mn_sSI, o275_11⟩
  · exact ⟨mn_sLI, o275_13⟩
  · exact ⟨mn_sI1, o275_15⟩
  · exact ⟨mn_sK, o275_18⟩
  · exact ⟨mn_sSI, o275_19⟩
  · exact ⟨mn_sK, o275_21⟩
  · exact ⟨mn_sSI, o275_22⟩
  · exact ⟨mn_sX, ok_X⟩
theorem oc275_1 : ∀ pc, Mnp (c275_1 pc) ∧ Okp RX12 cX12_parameter 9 none "parameter" false pc (c275_1 pc) := by
  intro pc
  unfold c275_1
  split
  · exact ⟨mn_sLI, o275_24⟩
  · exact ⟨mn_sK, o275_26⟩
  · exact ⟨mn_sI2, o275_27⟩
  · exact ⟨mn_sLI, o275_30⟩
  · exact ⟨mn_sK, o275_32⟩
  · exact ⟨mn_sB2, o275_34⟩
  · exact ⟨mn_sLR, o275_35⟩
  · exact ⟨mn_sK, o275_36⟩
  · exact ⟨mn_sK, o275_37⟩
  · exact ⟨mn_sCV, o275_40⟩
  · exact ⟨mn_sB2, o275_43⟩
  · exact ⟨mn_sSI, o275_44⟩
  · exact ⟨mn_sInc, o275_46⟩
  · exact ⟨mn_sX, ok_X⟩
theorem oc275_2 : ∀ pc, Mnp (c275_2 pc) ∧ Okp RX12 cX12_parameter 9 none "parameter" false pc (c275_2 pc) := by
  intro pc
  unfold c275_2
  split
  · exact ⟨mn_sGo, o275_49⟩
  · exact ⟨mn_sLR, o275_52⟩
  · exact ⟨mn_sGR, o275_53⟩
  · exact ⟨mn_sK, o275_56⟩
  · exact ⟨mn_sLI, o275_57⟩
  · exact ⟨mn_sB2, o275_58⟩
  · exact ⟨mn_sLI, o275_59⟩
  · exact ⟨mn_sB2, o275_61⟩
  · exact ⟨mn_sLI, o275_62⟩
  · exact ⟨mn_sIS, o275_64⟩
  · exact ⟨mn_sRV, o275_65⟩
  · exact ⟨mn_sLR, o275_66⟩
  · exact ⟨mn_sK, o275_67⟩
  · exact ⟨mn_sK, o275_68⟩
  · exact ⟨mn_sCV, o275_70⟩
  · exact ⟨mn_sX, ok_X⟩
theorem oc275_3 : ∀ pc, Mnp (c275_3 pc) ∧ Okp RX12 cX12_parameter 9 none "parameter" false pc (c275_3 pc) := by
  intro pc
  unfold c275_3
  split
  · exact ⟨mn_sSI, o275_73⟩
  · exact ⟨mn_sLR, o275_75⟩
  · exact ⟨mn_sGR, o275_76⟩
  · exact ⟨mn_sLI, o275_79⟩
  · exact ⟨mn_sIA, o275_81⟩
  · exact ⟨mn_sK, o275_82⟩
  · exact ⟨mn_sI2, o275_83⟩
  · exact ⟨mn_sK, o275_86⟩
  · exact ⟨mn_sGo, o275_87⟩
  · exact ⟨mn_sK, o275_90⟩
  · exact ⟨mn_sSI, o275_91⟩
  · exact ⟨mn_sLI, o275_93⟩
  · exact ⟨mn_sI1, o275_95⟩
  · exact ⟨mn_sX, ok_X⟩
theorem oc275_4 : ∀ pc, Mnp (c275_4 pc) ∧ Okp RX12 cX12_parameter 9 none "parameter" false pc (c275_4 pc) := by
  intro pc
  unfold c275_4
  split
  · exact ⟨mn_sLR, o275_98⟩
  · exact ⟨mn_sGR, o275_99⟩
  · exact ⟨mn_sLI, o275_102⟩
  · exact ⟨mn_sIA, o275_104⟩
  · exact ⟨mn_sK, o275_105⟩
  · exact ⟨mn_sI2, o275_106⟩
  · exact ⟨mn_sK, o275_109⟩
  · exact ⟨mn_sSI, o275_110⟩
  · exact ⟨mn_sLI, o275_112⟩
  · exact ⟨mn_sLR, o275_114⟩
  · exact ⟨mn_sGR, o275_115⟩
  · exact ⟨mn_sLen, o275_118⟩
  · exact ⟨mn_sI2, o275_119⟩
  · exact ⟨mn_sX, ok_X⟩
theorem oc275_5 : ∀ pc, Mnp (c275_5 pc) ∧ Okp RX12 cX12_parameter 9 none "parameter" false pc (c275_5 pc) := by
  intro pc
  unfold c275_5
  split
  · exact ⟨mn_sLR, o275_122⟩
  · exact ⟨mn_sGR, o275_123⟩
  · exact ⟨mn_sLI, o275_126⟩
  · exact ⟨mn_sK, o275_128⟩
  · exact ⟨mn_sBS, o275_129⟩
  · exact ⟨mn_sInc, o275_130⟩
  · exact ⟨mn_sGo, o275_133⟩
  · exact ⟨mn_sLR, o275_136⟩
  · exact ⟨mn_sGR, o275_137⟩
  · exact ⟨mn_sK, o275_140⟩
  · exact ⟨mn_sLI, o275_141⟩
  · exact ⟨mn_sB2, o275_143⟩
  · exact ⟨mn_sX, ok_X⟩
theorem oc275_6 : ∀ pc, Mnp (c275_6 pc) ∧ Okp RX12 cX12_parameter 9 none "parameter" false pc (c275_6 pc) := by
  intro pc
  unfold c275_6
  split
  · exact ⟨mn_sIA, o275_144⟩
  · exact ⟨mn_sLI, o275_145⟩
  · exact ⟨mn_sCS, o275_147⟩
  · exact ⟨mn_sI2, o275_150⟩
  · exact ⟨mn_sLR, o275_153⟩
  · exact ⟨mn_sLR, o275_154⟩
  · exact ⟨mn_sGR, o275_155⟩
  · exact ⟨mn_sK, o275_158⟩
  · exact ⟨mn_sLI, o275_159⟩
  · exact ⟨mn_sB2, o275_161⟩
  · exact ⟨mn_sIA, o275_162⟩
  · exact ⟨mn_sK, o275_163⟩
  · exact ⟨mn_sLI, o275_164⟩
  · exact ⟨mn_sB2, o275_165⟩
  · exact ⟨mn_sLI, o275_166⟩
  · exact ⟨mn_sX, ok_X⟩
theorem oc275_7 : ∀ pc, Mnp (c275_7 pc) ∧ Okp RX12 cX12_parameter 9 none "parameter" false pc (c275_7 pc) := by
  intro pc
  unfold c275_7
  split
  · exact ⟨mn_sCS, o275_168⟩
  · exact ⟨mn_sB2, o275_171⟩
  · exact ⟨mn_sCV, o275_172⟩
  · exact ⟨mn_sI1, o275_175⟩
  · exact ⟨mn_sK, o275_178⟩
  · exact ⟨mn_sGo, o275_179⟩
  · exact ⟨mn_sK, o275_182⟩
  · exact ⟨mn_sSI, o275_183⟩
  · exact ⟨mn_sLI, o275_185⟩
  · exact ⟨mn_sI1, o275_187⟩
  · exact ⟨mn_sLR, o275_190⟩
  · exact ⟨mn_sK, o275_191⟩
  · exact ⟨mn_sX, ok_X⟩
theorem oc275_8 : ∀ pc, Mnp (c275_8 pc) ∧ Okp RX12 cX12_parameter 9 none "parameter" false pc (c275_8 pc) := by
  intro pc
  unfold c275_8
  split
  · exact ⟨mn_sLR, o275_192⟩
  · exact ⟨mn_sGI, o275_193⟩
  · exact ⟨mn_sK, o275_196⟩
  · exact ⟨mn_sB2, o275_197⟩
  · exact ⟨mn_sCV, o275_198⟩
  · exact ⟨mn_sLR, o275_201⟩
  · exact ⟨mn_sGR, o275_202⟩
  · exact ⟨mn_sLI, o275_205⟩
  · exact ⟨mn_sIA, o275_207⟩
  · exact ⟨mn_sI1, o275_208⟩
  · exact ⟨mn_sLR, o275_211⟩
  · exact ⟨mn_sGR, o275_212⟩
  · exact ⟨mn_sLR, o275_215⟩
  · exact ⟨mn_sX, ok_X⟩
theorem oc275_9 : ∀ pc, Mnp (c275_9 pc) ∧ Okp RX12 cX12_parameter 9 none "parameter" false pc (c275_9 pc) := by
  intro pc
  unfold c275_9
  split
  · exact ⟨mn_sGI, o275_216⟩
  · exact ⟨mn_sLI, o275_219⟩
  · exact ⟨mn_sIS, o275_221⟩
  · exact ⟨mn_sLR, o275_222⟩
  · exact ⟨mn_sDup, o275_223⟩
  · exact ⟨mn_sGI, o275_224⟩
  · exact ⟨mn_sK, o275_227⟩
  · exact ⟨mn_sB2, o275_228⟩
  · exact ⟨mn_sPI, o275_229⟩
  · exact ⟨mn_sK, o275_232⟩
  · exact ⟨mn_sLI, o275_233⟩
  · exact ⟨mn_sB2, o275_235⟩
  · exact ⟨mn_sLR, o275_236⟩
  · exact ⟨mn_sGR, o275_237⟩
  · exact ⟨mn_sX, ok_X⟩
theorem oc275_10 : ∀ pc, Mnp (c275_10 pc) ∧ Okp RX12 cX12_parameter 9 none "parameter" false pc (c275_10 pc) := by
  intro pc
  unfold c275_10
  split
  · exact ⟨mn_sLI, o275_240⟩
  · exact ⟨mn_sIA, o275_242⟩
  · exact ⟨mn_sB2, o275_243⟩
  · exact ⟨mn_sSI, o275_244⟩
  · exact ⟨mn_sLR, o275_246⟩
  · exact ⟨mn_sGR, o275_247⟩
  · exact ⟨mn_sLI, o275_250⟩
  · exact ⟨mn_sK, o275_252⟩
  · exact ⟨mn_sLI, o275_253⟩
  · exact ⟨mn_sB2, o275_254⟩
  · exact ⟨mn_sLI, o275_255⟩
  · exact ⟨mn_sCS, o275_257⟩
  · exact ⟨mn_sB2, o275_260⟩
  · exact ⟨mn_sIS, o275_261⟩
  · exact ⟨mn_sLR, o275_262⟩
  · exact ⟨mn_sGR, o275_263⟩
  · exact ⟨mn_sX, ok_X⟩
theorem oc275_11 : ∀ pc, Mnp (c275_11 pc) ∧ Okp RX12 cX12_parameter 9 none "parameter" false pc (c275_11 pc) := by
  intro pc
  unfold c275_11
  split
  · exact ⟨mn_sLI, o275_266⟩
  · exact ⟨mn_sLI, o275_268⟩
  · exact ⟨mn_sCS, o275_270⟩
  · exact ⟨mn_sIS, o275_273⟩
  · exact ⟨mn_sLR, o275_274⟩
  · exact ⟨mn_sGR, o275_275⟩
  · exact ⟨mn_sLI, o275_278⟩
  · exact ⟨mn_sK, o275_280⟩
  · exact ⟨mn_sLI, o275_281⟩
  · exact ⟨mn_sB2, o275_282⟩
  · exact ⟨mn_sLI, o275_283⟩
  · exact ⟨mn_sB2, o275_285⟩
  · exact ⟨mn_sIS, o275_286⟩
  · exact ⟨mn_sLR, o275_287⟩
  · exact ⟨mn_sX, ok_X⟩
theorem oc275_12 : ∀ pc, Mnp (c275_12 pc) ∧ Okp RX12 cX12_parameter 9 none "parameter" false pc (c275_12 pc) := by
  intro pc
  unfold c275_12
  split
  · exact ⟨mn_sGR, o275_288⟩
  · exact ⟨mn_sLI, o275_291⟩
  · exact ⟨mn_sDup2, o275_293⟩
  · exact ⟨mn_sIA, o275_294⟩
  · exact ⟨mn_sK, o275_295⟩
  · exact ⟨mn_sB2, o275_296⟩
  · exact ⟨mn_sIS, o275_297⟩
  · exact ⟨mn_sRV, o275_298⟩
  · exact ⟨mn_sX, ok_X⟩
theorem oc275 : ∀ pc, Mnp (c275 pc) ∧ Okp RX12 cX12_parameter 9 none "parameter" false pc (c275 pc) := by
  intro pc
  unfold c275
  split
  · exact oc275_0 pc
  · exact oc275_1 pc
  · exact oc275_2 pc
  · exact oc275_3 pc
  · exact oc275_4 pc
  · exact oc275_5 pc
  · exact oc275_6 pc
  · exact oc275_7 pc
  · exact oc275_8 pc
  · exact oc275_9 pc
  · exact oc275_10 pc
  · exact oc275_11 pc
  · exact oc275_12 pc
  · exact ⟨mn_sX, ok_X⟩
theorem o276_0 : Okp RX12 cX12_alike 7 (some .boolean) "alike" false 0 (sLR 0 1) := ok_aload_n (by decide +kernel : decode cX12_alike 0 = .ok (.aload_n 0, 1)) rfl
theorem o276_1 : Okp RX12 cX12_alike 7 (some .boolean) "alike" false 1 (sGR 13 50 4) := ok_getR (by decide +kernel : decode cX12_alike 1 = .ok (.getfield 128, 3)) fw_X12_128 rfl
theorem o276_4 : Okp RX12 cX12_alike 7 (some .boolean) "alike" false 4 (sK 48 6) := ok_bipush (by decide +kernel : decode cX12_alike 4 = .ok (.bipush 48, 2)) (by decide)
theorem o276_6 : Okp RX12 cX12_alike 7 (some .boolean) "alike" false 6 (sLI 1 7) := ok_iload_n (by decide +kernel : decode cX12_alike 6 = .ok (.iload_n 1, 1)) rfl
theorem o276_7 : Okp RX12 cX12_alike 7 (some .boolean) "alike" false 7 (sB2 fMul 8) := ok_imul (by decide +kernel : decode cX12_alike 7 = .ok (.imul, 1))
theorem o276_8 : Okp RX12 cX12_alike 7 (some .boolean) "alike" false 8 (sLI 2 9) := ok_iload_n (by decide +kernel : decode cX12_alike 8 = .ok (.iload_n 2, 1)) rfl
theorem o276_9 : Okp RX12 cX12_alike 7 (some .boolean) "alike" false 9 (sB2 fAdd 10) := ok_iadd (by decide +kernel : decode cX12_alike 9 = .ok (.iadd, 1))
theorem o276_10 : Okp RX12 cX12_alike 7 (some .boolean) "alike" false 10 (sBA 11) := ok_baload (by decide +kernel : decode cX12_alike 10 = .ok (.baload, 1))
theorem o276_11 : Okp RX12 cX12_alike 7 (some .boolean) "alike" false 11 (sI1 0 16 14) := ok_if_eq (by decide +kernel : decode cX12_alike 11 = .ok (.ifCond .eq 5, 3)) (by decide)
theorem o276_14 : Okp RX12 cX12_alike 7 (some .boolean) "alike" false 14 (sK 1 15) := ok_iconst (by decide +kernel : decode cX12_alike 14 = .ok (.iconst 1, 1)) (by decide)
theorem o276_15 : Okp RX12 cX12_alike 7 (some .boolean) "alike" false 15 sRZ := ok_zret rfl (by decide +kernel : decode cX12_alike 15 = .ok (.ireturn, 1))
theorem o276_16 : Okp RX12 cX12_alike 7 (some .boolean) "alike" false 16 (sLR 0 17) := ok_aload_n (by decide +kernel : decode cX12_alike 16 = .ok (.aload_n 0, 1)) rfl
theorem o276_17 : Okp RX12 cX12_alike 7 (some .boolean) "alike" false 17 (sGR 13 50 20) := ok_getR (by decide +kernel : decode cX12_alike 17 = .ok (.getfield 128, 3)) fw_X12_128 rfl
theorem o276_20 : Okp RX12 cX12_alike 7 (some .boolean) "alike" false 20 (sK 48 22) := ok_bipush (by decide +kernel : decode cX12_alike 20 = .ok (.bipush 48, 2)) (by decide)
theorem o276_22 : Okp RX12 cX12_alike 7 (some .boolean) "alike" false 22 (sLI 1 23) := ok_iload_n (by decide +kernel : decode cX12_alike 22 = .ok (.iload_n 1, 1)) rfl
theorem o276_23 : Okp RX12 cX12_alike 7 (some .boolean) "alike" false 23 (sB2 fMul 24) := ok_imul (by decide +kernel : decode cX12_alike 23 = .ok (.imul, 1))
theorem o276_24 : Okp RX12 cX12_alike 7 (some .boolean) "alike" false 24 (sLI 2 25) := ok_iload_n (by decide +kernel : decode cX12_alike 24 = .ok (.iload_n 2, 1)) rfl
theorem o276_25 : Okp RX12 cX12_alike 7 (some .boolean) "alike" false 25 (sB2 fAdd 26) := ok_iadd (by decide +kernel : decode cX12_alike 25 = .ok (.iadd, 1))
theorem o276_26 : Okp RX12 cX12_alike 7 (some .boolean) "alike" false 26 (sK 1 27) := ok_iconst (by decide +kernel : decode cX12_alike 26 = .ok (.iconst 1, 1)) (by decide)
theorem o276_27 : Okp RX12 cX12_alike 7 (some .boolean) "alike" false 27 (sBS 28) := ok_bastore (by decide +kernel : decode cX12_alike 27 = .ok (.bastore, 1))
theorem o276_28 : Okp RX12 cX12_alike 7 (some .boolean) "alike" false 28 (sLR 0 29) := ok_aload_n (by decide +kernel : decode cX12_alike 28 = .ok (.aload_n 0, 1)) rfl
theorem o276_29 : Okp RX12 cX12_alike 7 (some .boolean) "alike" false 29 (sGR 13 11 32) := ok_getR (by decide +kernel : decode cX12_alike 29 = .ok (.getfield 39, 3)) fw_X12_39 rfl
theorem o276_32 : Okp RX12 cX12_alike 7 (some .boolean) "alike" false 32 (sLI 1 33) := ok_iload_n (by decide +kernel : decode cX12_alike 32 = .ok (.iload_n 1, 1)) rfl
theorem o276_33 : Okp RX12 cX12_alike 7 (some .boolean) "alike" false 33 (sIA 34) := ok_iaload (by decide +kernel : decode cX12_alike 33 = .ok (.iaload, 1))
theorem o276_34 : Okp RX12 cX12_alike 7 (some .boolean) "alike" false 34 (sLR 0 35) := ok_aload_n (by decide +kernel : decode cX12_alike 34 = .ok (.aload_n 0, 1)) rfl
theorem o276_35 : Okp RX12 cX12_alike 7 (some .boolean) "alike" false 35 (sGR 13 11 38) := ok_getR (by decide +kernel : decode cX12_alike 35 = .ok (.getfield 39, 3)) fw_X12_39 rfl
theorem o276_38 : Okp RX12 cX12_alike 7 (some .boolean) "alike" false 38 (sLI 2 39) := ok_iload_n (by decide +kernel : decode cX12_alike 38 = .ok (.iload_n 2, 1)) rfl
theorem o276_39 : Okp RX12 cX12_alike 7 (some .boolean) "alike" false 39 (sIA 40) := ok_iaload (by decide +kernel : decode cX12_alike 39 = .ok (.iaload, 1))
theorem o276_40 : Okp RX12 cX12_alike 7 (some .boolean) "alike" false 40 (sI2 0 45 43) := ok_icmp_eq (by decide +kernel : decode cX12_alike 40 = .ok (.if_icmp .eq 5, 3)) (by decide)
theorem o276_43 : Okp RX12 cX12_alike 7 (some .boolean) "alike" false 43 (sK 0 44) := ok_iconst (by decide +kernel : decode cX12_alike 43 = .ok (.iconst 0, 1)) (by decide)
theorem o276_44 : Okp RX12 cX12_alike 7 (some .boolean) "alike" false 44 sRZ := ok_zret rfl (by decide +kernel : decode cX12_alike 44 = .ok (.ireturn, 1))
theorem o276_45 : Okp RX12 cX12_alike 7 (some .boolean) "alike" false 45 (sK 0 46) := ok_iconst (by decide +kernel : decode cX12_alike 45 = .ok (.iconst 0, 1)) (by decide)
theorem o276_46 : Okp RX12 cX12_alike 7 (some .boolean) "alike" false 46 (sSI 3 47) := ok_istore_n (by decide +kernel : decode cX12_alike 46 = .ok (.istore_n 3, 1)) rfl (by decide) (by decide)
theorem o276_47 : Okp RX12 cX12_alike 7 (some .boolean) "alike" false 47 (sLI 3 48) := ok_iload_n (by decide +kernel : decode cX12_alike 47 = .ok (.iload_n 3, 1)) rfl
theorem o276_48 : Okp RX12 cX12_alike 7 (some .boolean) "alike" false 48 (sLR 0 49) := ok_aload_n (by decide +kernel : decode cX12_alike 48 = .ok (.aload_n 0, 1)) rfl
theorem o276_49 : Okp RX12 cX12_alike 7 (some .boolean) "alike" false 49 (sGR 13 11 52) := ok_getR (by decide +kernel : decode cX12_alike 49 = .ok (.getfield 39, 3)) fw_X12_39 rfl
theorem o276_52 : Okp RX12 cX12_alike 7 (some .boolean) "alike" false 52 (sLI 1 53) := ok_iload_n (by decide +kernel : decode cX12_alike 52 = .ok (.iload_n 1, 1)) rfl
theorem o276_53 : Okp RX12 cX12_alike 7 (some .boolean) "alike" false 53 (sIA 54) := ok_iaload (by decide +kernel : decode cX12_alike 53 = .ok (.iaload, 1))
theorem o276_54 : Okp RX12 cX12_alike 7 (some .boolean) "alike" false 54 (sI2 3 202 57) := ok_icmp_ge (by decide +kernel : decode cX12_alike 54 = .ok (.if_icmp .ge 148, 3)) (by decide)
theorem o276_57 : Okp RX12 cX12_alike 7 (some .boolean) "alike" false 57 (sK 8 59) := ok_bipush (by decide +kernel : decode cX12_alike 57 = .ok (.bipush 8, 2)) (by decide)
theorem o276_59 : Okp RX12 cX12_alike 7 (some .boolean) "alike" false 59 (sLI 1 60) := ok_iload_n (by decide +kernel : decode cX12_alike 59 = .ok (.iload_n 1, 1)) rfl
theorem o276_60 : Okp RX12 cX12_alike 7 (some .boolean) "alike" false 60 (sB2 fMul 61) := ok_imul (by decide +kernel : decode cX12_alike 60 = .ok (.imul, 1))
theorem o276_61 : Okp RX12 cX12_alike 7 (some .boolean) "alike" false 61 (sLI 3 62) := ok_iload_n (by decide +kernel : decode cX12_alike 61 = .ok (.iload_n 3, 1)) rfl
theorem o276_62 : Okp RX12 cX12_alike 7 (some .boolean) "alike" false 62 (sB2 fAdd 63) := ok_iadd (by decide +kernel : decode cX12_alike 62 = .ok (.iadd, 1))
theorem o276_63 : Okp RX12 cX12_alike 7 (some .boolean) "alike" false 63 (sSI 4 65) := ok_istore (by decide +kernel : decode cX12_alike 63 = .ok (.istore 4, 2)) (by decide) (by decide)
theorem o276_65 : Okp RX12 cX12_alike 7 (some .boolean) "alike" false 65 (sK 8 67) := ok_bipush (by decide +kernel : decode cX12_alike 65 = .ok (.bipush 8, 2)) (by decide)
theorem o276_67 : Okp RX12 cX12_alike 7 (some .boolean) "alike" false 67 (sLI 2 68) := ok_iload_n (by decide +kernel : decode cX12_alike 67 = .ok (.iload_n 2, 1)) rfl
theorem o276_68 : Okp RX12 cX12_alike 7 (some .boolean) "alike" false 68 (sB2 fMul 69) := ok_imul (by decide +kernel : decode cX12_alike 68 = .ok (.imul, 1))
theorem o276_69 : Okp RX12 cX12_alike 7 (some .boolean) "alike" false 69 (sLI 3 70) := ok_iload_n (by decide +kernel : decode cX12_alike 69 = .ok (.iload_n 3, 1)) rfl
theorem o276_70 : Okp RX12 cX12_alike 7 (some .boolean) "alike" false 70 (sB2 fAdd 71) := ok_iadd (by decide +kernel : decode cX12_alike 70 = .ok (.iadd, 1))
theorem o276_71 : Okp RX12 cX12_alike 7 (some .boolean) "alike" false 71 (sSI 5 73) := ok_istore (by decide +kernel : decode cX12_alike 71 = .ok (.istore 5, 2)) (by decide) (by decide)
theorem o276_73 : Okp RX12 cX12_alike 7 (some .boolean) "alike" false 73 (sLR 0 74) := ok_aload_n (by decide +kernel : decode cX12_alike 73 = .ok (.aload_n 0, 1)) rfl
theorem o276_74 : Okp RX12 cX12_alike 7 (some .boolean) "alike" false 74 (sGR 13 12 77) := ok_getR (by decide +kernel : decode cX12_alike 74 = .ok (.getfield 42, 3)) fw_X12_42 rfl
theorem o276_77 : Okp RX12 cX12_alike 7 (some .boolean) "alike" false 77 (sLI 4 79) := ok_iload (by decide +kernel : decode cX12_alike 77 = .ok (.iload 4, 2))
theorem o276_79 : Okp RX12 cX12_alike 7 (some .boolean) "alike" false 79 (sIA 80) := ok_iaload (by decide +kernel : decode cX12_alike 79 = .ok (.iaload, 1))
theorem o276_80 : Okp RX12 cX12_alike 7 (some .boolean) "alike" false 80 (sLR 0 81) := ok_aload_n (by decide +kernel : decode cX12_alike 80 = .ok (.aload_n 0, 1)) rfl
theorem o276_81 : Okp RX12 cX12_alike 7 (some .boolean) "alike" false 81 (sGR 13 12 84) := ok_getR (by decide +kernel : decode cX12_alike 81 = .ok (.getfield 42, 3)) fw_X12_42 rfl
theorem o276_84 : Okp RX12 cX12_alike 7 (some .boolean) "alike" false 84 (sLI 5 86) := ok_iload (by decide +kernel : decode cX12_alike 84 = .ok (.iload 5, 2))
theorem o276_86 : Okp RX12 cX12_alike 7 (some .boolean) "alike" false 86 (sIA 87) := ok_iaload (by decide +kernel : decode cX12_alike 86 = .ok (.iaload, 1))
theorem o276_87 : Okp RX12 cX12_alike 7 (some .boolean) "alike" false 87 (sI2 1 107 90) := ok_icmp_ne (by decide +kernel : decode cX12_alike 87 = .ok (.if_icmp .ne 20, 3)) (by decide)
theorem o276_90 : Okp RX12 cX12_alike 7 (some .boolean) "alike" false 90 (sLR 0 91) := ok_aload_n (by decide +kernel : decode cX12_alike 90 = .ok (.aload_n 0, 1)) rfl
theorem o276_91 : Okp RX12 cX12_alike 7 (some .boolean) "alike" false 91 (sGR 13 13 94) := ok_getR (by decide +kernel : decode cX12_alike 91 = .ok (.getfield 45, 3)) fw_X12_45 rfl
theorem o276_94 : Okp RX12 cX12_alike 7 (some .boolean) "alike" false 94 (sLI 4 96) := ok_iload (by decide +kernel : decode cX12_alike 94 = .ok (.iload 4, 2))
theorem o276_96 : Okp RX12 cX12_alike 7 (some .boolean) "alike" false 96 (sIA 97) := ok_iaload (by decide +kernel : decode cX12_alike 96 = .ok (.iaload, 1))
theorem o276_97 : Okp RX12 cX12_alike 7 (some .boolean) "alike" false 97 (sLR 0 98) := ok_aload_n (by decide +kernel : decode cX12_alike 97 = .ok (.aload_n 0, 1)) rfl
theorem o276_98 : Okp RX12 cX12_alike 7 (some .boolean) "alike" false 98 (sGR 13 13 101) := ok_getR (by decide +kernel : decode cX12_alike 98 = .ok (.getfield 45, 3)) fw_X12_45 rfl
theorem o276_101 : Okp RX12 cX12_alike 7 (some .boolean) "alike" false 101 (sLI 5 103) := ok_iload (by decide +kernel : decode cX12_alike 101 = .ok (.iload 5, 2))
theorem o276_103 : Okp RX12 cX12_alike 7 (some .boolean) "alike" false 103 (sIA 104) := ok_iaload (by decide +kernel : decode cX12_alike 103 = .ok (.iaload, 1))
theorem o276_104 : Okp RX12 cX12_alike 7 (some .boolean) "alike" false 104 (sI2 0 109 107) := ok_icmp_eq (by decide +kernel : decode cX12_alike 104 = .ok (.if_icmp .eq 5, 3)) (by decide)
theorem o276_107 : Okp RX12 cX12_alike 7 (some .boolean) "alike" false 107 (sK 0 108) := ok_iconst (by decide +kernel : decode cX12_alike 107 = .ok (.iconst 0, 1)) (by decide)
theorem o276_108 : Okp RX12 cX12_alike 7 (some .boolean) "alike" false 108 sRZ := ok_zret rfl (by decide +kernel : decode cX12_alike 108 = .ok (.ireturn, 1))
theorem o276_109 : Okp RX12 cX12_alike 7 (some .boolean) "alike" false 109 (sK 0 110) := ok_iconst (by decide +kernel : decode cX12_alike 109 = .ok (.iconst 0, 1)) (by decide)
theorem o276_110 : Okp RX12 cX12_alike 7 (some .boolean) "alike" false 110 (sSI 6 112) := ok_istore (by decide +kernel : decode cX12_alike 110 = .ok (.istore 6, 2)) (by decide) (by decide)
theorem o276_112 : Okp RX12 cX12_alike 7 (some .boolean) "alike" false 112 (sLI 6 114) := ok_iload (by decide +kernel : decode cX12_alike 112 = .ok (.iload 6, 2))
theorem o276_114 : Okp RX12 cX12_alike 7 (some .boolean) "alike" false 114 (sLR 0 115) := ok_aload_n (by decide +kernel : decode cX12_alike 114 = .ok (.aload_n 0, 1)) rfl
theorem o276_115 : Okp RX12 cX12_alike 7 (some .boolean) "alike" false 115 (sGR 13 13 118) := ok_getR (by decide +kernel : decode cX12_alike 115 = .ok (.getfield 45, 3)) fw_X12_45 rfl
theorem o276_118 : Okp RX12 cX12_alike 7 (some .boolean) "alike" false 118 (sLI 4 120) := ok_iload (by decide +kernel : decode cX12_alike 118 = .ok (.iload 4, 2))
theorem o276_120 : Okp RX12 cX12_alike 7 (some .boolean) "alike" false 120 (sIA 121) := ok_iaload (by decide +kernel : decode cX12_alike 120 = .ok (.iaload, 1))
theorem o276_121 : Okp RX12 cX12_alike 7 (some .boolean) "alike" false 121 (sI2 3 196 124) := ok_icmp_ge (by decide +kernel : decode cX12_alike 121 = .ok (.if_icmp .ge 75, 3)) (by decide)
theorem o276_124 : Okp RX12 cX12_alike 7 (some .boolean) "alike" false 124 (sLR 0 125) := ok_aload_n (by decide +kernel : decode cX12_alike 124 = .ok (.aload_n 0, 1)) rfl
theorem o276_125 : Okp RX12 cX12_alike 7 (some .boolean) "alike" false 125 (sGR 13 15 128) := ok_getR (by decide +kernel : decode cX12_alike 125 = .ok (.getfield 51, 3)) fw_X12_51 rfl
theorem o276_128 : Okp RX12 cX12_alike 7 (some .boolean) "alike" false 128 (sK 4 129) := ok_iconst (by decide +kernel : decode cX12_alike 128 = .ok (.iconst 4, 1)) (by decide)
theorem o276_129 : Okp RX12 cX12_alike 7 (some .boolean) "alike" false 129 (sLI 4 131) := ok_iload (by decide +kernel : decode cX12_alike 129 = .ok (.iload 4, 2))
theorem o276_131 : Okp RX12 cX12_alike 7 (some .boolean) "alike" false 131 (sB2 fMul 132) := ok_imul (by decide +kernel : decode cX12_alike 131 = .ok (.imul, 1))
theorem o276_132 : Okp RX12 cX12_alike 7 (some .boolean) "alike" false 132 (sLI 6 134) := ok_iload (by decide +kernel : decode cX12_alike 132 = .ok (.iload 6, 2))
theorem o276_134 : Okp RX12 cX12_alike 7 (some .boolean) "alike" false 134 (sB2 fAdd 135) := ok_iadd (by decide +kernel : decode cX12_alike 134 = .ok (.iadd, 1))
theorem o276_135 : Okp RX12 cX12_alike 7 (some .boolean) "alike" false 135 (sIA 136) := ok_iaload (by decide +kernel : decode cX12_alike 135 = .ok (.iaload, 1))
theorem o276_136 : Okp RX12 cX12_alike 7 (some .boolean) "alike" false 136 (sLR 0 137) := ok_aload_n (by decide +kernel : decode cX12_alike 136 = .ok (.aload_n 0, 1)) rfl
theorem o276_137 : Okp RX12 cX12_alike 7 (some .boolean) "alike" false 137 (sGR 13 15 140) := ok_getR (by decide +kernel : decode cX12_alike 137 = .ok (.getfield 51, 3)) fw_X12_51 rfl
theorem o276_140 : Okp RX12 cX12_alike 7 (some .boolean) "alike" false 140 (sK 4 141) := ok_iconst (by decide +kernel : decode cX12_alike 140 = .ok (.iconst 4, 1)) (by decide)
theorem o276_141 : Okp RX12 cX12_alike 7 (some .boolean) "alike" false 141 (sLI 5 143) := ok_iload (by decide +kernel : decode cX12_alike 141 = .ok (.iload 5, 2))
theorem o276_143 : Okp RX12 cX12_alike 7 (some .boolean) "alike" false 143 (sB2 fMul 144) := ok_imul (by decide +kernel : decode cX12_alike 143 = .ok (.imul, 1))
theorem o276_144 : Okp RX12 cX12_alike 7 (some .boolean) "alike" false 144 (sLI 6 146) := ok_iload (by decide +kernel : decode cX12_alike 144 = .ok (.iload 6, 2))
theorem o276_146 : Okp RX12 cX12_alike 7 (some .boolean) "alike" false 146 (sB2 fAdd 147) := ok_iadd (by decide +kernel : decode cX12_alike 146 = .ok (.iadd, 1))
theorem o276_147 : Okp RX12 cX12_alike 7 (some .boolean) "alike" false 147 (sIA 148) := ok_iaload (by decide +kernel : decode cX12_alike 147 = .ok (.iaload, 1))
theorem o276_148 : Okp RX12 cX12_alike 7 (some .boolean) "alike" false 148 (sI2 1 188 151) := ok_icmp_ne (by decide +kernel : decode cX12_alike 148 = .ok (.if_icmp .ne 40, 3)) (by decide)
theorem o276_151 : Okp RX12 cX12_alike 7 (some .boolean) "alike" false 151 (sLR 0 152) := ok_aload_n (by decide +kernel : decode cX12_alike 151 = .ok (.aload_n 0, 1)) rfl
theorem o276_152 : Okp RX12 cX12_alike 7 (some .boolean) "alike" false 152 (sLI 1 153) := ok_iload_n (by decide +kernel : decode cX12_alike 152 = .ok (.iload_n 1, 1)) rfl
theorem o276_153 : Okp RX12 cX12_alike 7 (some .boolean) "alike" false 153 (sK 4 154) := ok_iconst (by decide +kernel : decode cX12_alike 153 = .ok (.iconst 4, 1)) (by decide)
theorem o276_154 : Okp RX12 cX12_alike 7 (some .boolean) "alike" false 154 (sD2 fDiv 155) := ok_idiv (by decide +kernel : decode cX12_alike 154 = .ok (.idiv, 1))
theorem o276_155 : Okp RX12 cX12_alike 7 (some .boolean) "alike" false 155 (sLR 0 156) := ok_aload_n (by decide +kernel : decode cX12_alike 155 = .ok (.aload_n 0, 1)) rfl
theorem o276_156 : Okp RX12 cX12_alike 7 (some .boolean) "alike" false 156 (sGR 13 14 159) := ok_getR (by decide +kernel : decode cX12_alike 156 = .ok (.getfield 48, 3)) fw_X12_48 rfl
theorem o276_159 : Okp RX12 cX12_alike 7 (some .boolean) "alike" false 159 (sK 4 160) := ok_iconst (by decide +kernel : decode cX12_alike 159 = .ok (.iconst 4, 1)) (by decide)
theorem o276_160 : Okp RX12 cX12_alike 7 (some .boolean) "alike" false 160 (sLI 4 162) := ok_iload (by decide +kernel : decode cX12_alike 160 = .ok (.iload 4, 2))
theorem o276_162 : Okp RX12 cX12_alike 7 (some .boolean) "alike" false 162 (sB2 fMul 163) := ok_imul (by decide +kernel : decode cX12_alike 162 = .ok (.imul, 1))
theorem o276_163 : Okp RX12 cX12_alike 7 (some .boolean) "alike" false 163 (sLI 6 165) := ok_iload (by decide +kernel : decode cX12_alike 163 = .ok (.iload 6, 2))
theorem o276_165 : Okp RX12 cX12_alike 7 (some .boolean) "alike" false 165 (sB2 fAdd 166) := ok_iadd (by decide +kernel : decode cX12_alike 165 = .ok (.iadd, 1))
theorem o276_166 : Okp RX12 cX12_alike 7 (some .boolean) "alike" false 166 (sIA 167) := ok_iaload (by decide +kernel : decode cX12_alike 166 = .ok (.iaload, 1))
theorem o276_167 : Okp RX12 cX12_alike 7 (some .boolean) "alike" false 167 (sLI 2 168) := ok_iload_n (by decide +kernel : decode cX12_alike 167 = .ok (.iload_n 2, 1)) rfl
theorem o276_168 : Okp RX12 cX12_alike 7 (some .boolean) "alike" false 168 (sK 4 169) := ok_iconst (by decide +kernel : decode cX12_alike 168 = .ok (.iconst 4, 1)) (by decide)
theorem o276_169 : Okp RX12 cX12_alike 7 (some .boolean) "alike" false 169 (sD2 fDiv 170) := ok_idiv (by decide +kernel : decode cX12_alike 169 = .ok (.idiv, 1))
theorem o276_170 : Okp RX12 cX12_alike 7 (some .boolean) "alike" false 170 (sLR 0 171) := ok_aload_n (by decide +kernel : decode cX12_alike 170 = .ok (.aload_n 0, 1)) rfl
theorem o276_171 : Okp RX12 cX12_alike 7 (some .boolean) "alike" false 171 (sGR 13 14 174) := ok_getR (by decide +kernel : decode cX12_alike 171 = .ok (.getfield 48, 3)) fw_X12_48 rfl
theorem o276_174 : Okp RX12 cX12_alike 7 (some .boolean) "alike" false 174 (sK 4 175) := ok_iconst (by decide +kernel : decode cX12_alike 174 = .ok (.iconst 4, 1)) (by decide)
theorem o276_175 : Okp RX12 cX12_alike 7 (some .boolean) "alike" false 175 (sLI 5 177) := ok_iload (by decide +kernel : decode cX12_alike 175 = .ok (.iload 5, 2))
theorem o276_177 : Okp RX12 cX12_alike 7 (some .boolean) "alike" false 177 (sB2 fMul 178) := ok_imul (by decide +kernel : decode cX12_alike 177 = .ok (.imul, 1))
theorem o276_178 : Okp RX12 cX12_alike 7 (some .boolean) "alike" false 178 (sLI 6 180) := ok_iload (by decide +kernel : decode cX12_alike 178 = .ok (.iload 6, 2))
theorem o276_180 : Okp RX12 cX12_alike 7 (some .boolean) "alike" false 180 (sB2 fAdd 181) := ok_iadd (by decide +kernel : decode cX12_alike 180 = .ok (.iadd, 1))
theorem o276_181 : Okp RX12 cX12_alike 7 (some .boolean) "alike" false 181 (sIA 182) := ok_iaload (by decide +kernel : decode cX12_alike 181 = .ok (.iaload, 1))
theorem o276_182 : Okp RX12 cX12_alike 7 (some .boolean) "alike" false 182 (sCV false 277 5 13 185) := ok_cv (by decide +kernel : decode cX12_alike 182 = .ok (.invokevirtual 447, 3)) mw_X12_447 rfl (by decide) wm_X12_alikeLoads wse_X12_alikeLoads (by decide) rfl
theorem o276_185 : Okp RX12 cX12_alike 7 (some .boolean) "alike" false 185 (sI1 1 190 188) := ok_if_ne (by decide +kernel : decode cX12_alike 185 = .ok (.ifCond .ne 5, 3)) (by decide)
theorem o276_188 : Okp RX12 cX12_alike 7 (some .boolean) "alike" false 188 (sK 0 189) := ok_iconst (by decide +kernel : decode cX12_alike 188 = .ok (.iconst 0, 1)) (by decide)
theorem o276_189 : Okp RX12 cX12_alike 7 (some .boolean) "alike" false 189 sRZ := ok_zret rfl (by decide +kernel : decode cX12_alike 189 = .ok (.ireturn, 1))
theorem o276_190 : Okp RX12 cX12_alike 7 (some .boolean) "alike" false 190 (sInc 6 1 193) := ok_iinc (by decide +kernel : decode cX12_alike 190 = .ok (.iinc 6 1, 3)) (by decide) (by decide)
theorem o276_193 : Okp RX12 cX12_alike 7 (some .boolean) "alike" false 193 (sGo 112) := ok_goto (by decide +kernel : decode cX12_alike 193 = .ok (.goto (-81), 3)) (by decide)
theorem o276_196 : Okp RX12 cX12_alike 7 (some .boolean) "alike" false 196 (sInc 3 1 199) := ok_iinc (by decide +kernel : decode cX12_alike 196 = .ok (.iinc 3 1, 3)) (by decide) (by decide)
theorem o276_199 : Okp RX12 cX12_alike 7 (some .boolean) "alike" false 199 (sGo 47) := ok_goto (by decide +kernel : decode cX12_alike 199 = .ok (.goto (-152), 3)) (by decide)
theorem o276_202 : Okp RX12 cX12_alike 7 (some .boolean) "alike" false 202 (sK 1 203) := ok_iconst (by decide +kernel : decode cX12_alike 202 = .ok (.iconst 1, 1)) (by decide)
theorem o276_203 : Okp RX12 cX12_alike 7 (some .boolean) "alike" false 203 sRZ := ok_zret rfl (by decide +kernel : decode cX12_alike 203 = .ok (.ireturn, 1))
theorem oc276_0 : ∀ pc, Mnp (c276_0 pc) ∧ Okp RX12 cX12_alike 7 (some .boolean) "alike" false pc (c276_0 pc) := by
  intro pc
  unfold c276_0
  split
  · exact ⟨mn_sLR, o276_0⟩
  · exact ⟨mn_sGR, o276_1⟩
  · exact ⟨mn_sK, o276_4⟩
  · exact ⟨mn_sLI, o276_6⟩
  · exact ⟨mn_sB2, o276_7⟩
  · exact ⟨mn_sLI, o276_8⟩
  · exact ⟨mn_sB2, o276_9⟩
  · exact ⟨mn_sBA, o276_10⟩
  · exact ⟨mn_sI1, o276_11⟩
  · exact ⟨mn_sK, o276_14⟩
  · exact ⟨mn_sRZ, o276_15⟩
  · exact ⟨mn_sLR, o276_16⟩
  · exact ⟨mn_sGR, o276_17⟩
  · exact ⟨mn_sK, o276_20⟩
  · exact ⟨mn_sLI, o276_22⟩
  · exact ⟨mn_sB2, o276_23⟩
  · exact ⟨mn_sX, ok_X⟩
theorem oc276_1 : ∀ pc, Mnp (c276_1 pc) ∧ Okp RX12 cX12_alike 7 (some .boolean) "alike" false pc (c276_1 pc) := by
  intro pc
  unfold c276_1
  split
  · exact ⟨mn_sLI, o276_24⟩
  · exact ⟨mn_sB2, o276_25⟩
  · exact ⟨mn_sK, o276_26⟩
  · exact ⟨mn_sBS, o276_27⟩
  · exact ⟨mn_sLR, o276_28⟩
  · exact ⟨mn_sGR, o276_29⟩
  · exact ⟨mn_sLI, o276_32⟩
  · exact ⟨mn_sIA, o276_33⟩
  · exact ⟨mn_sLR, o276_34⟩
  · exact ⟨mn_sGR, o276_35⟩
  · exact ⟨mn_sLI, o276_38⟩
  · exact ⟨mn_sIA, o276_39⟩
  · exact ⟨mn_sI2, o276_40⟩
  · exact ⟨mn_sK, o276_43⟩
  · exact ⟨mn_sRZ, o276_44⟩
  · exact ⟨mn_sK, o276_45⟩
  · exact ⟨mn_sSI, o276_46⟩
  · exact ⟨mn_sLI, o276_47⟩
  · exact ⟨mn_sX, ok_X⟩
theorem oc276_2 : ∀ pc, Mnp (c276_2 pc) ∧ Okp RX12 cX12_alike 7 (some .boolean) "alike" false pc (c276_2 pc) := by
  intro pc
  unfold c276_2
  split
  · exact ⟨mn_sLR, o276_48⟩
  · exact ⟨mn_sGR, o276_49⟩
  · exact ⟨mn_sLI, o276_52⟩
  · exact ⟨mn_sIA, o276_53⟩
  · exact ⟨mn_sI2, o276_54⟩
  · exact ⟨mn_sK, o276_57⟩
  · exact ⟨mn_sLI, o276_59⟩
  · exact ⟨mn_sB2, o276_60⟩
  · exact ⟨mn_sLI, o276_61⟩
  · exact ⟨mn_sB2, o276_62⟩
  · exact ⟨mn_sSI, o276_63⟩
  · exact ⟨mn_sK, o276_65⟩
  · exact ⟨mn_sLI, o276_67⟩
  · exact ⟨mn_sB2, o276_68⟩
  · exact ⟨mn_sLI, o276_69⟩
  · exact ⟨mn_sB2, o276_70⟩
  · exact ⟨mn_sSI, o276_71⟩
  · exact ⟨mn_sX, ok_X⟩
theorem oc276_3 : ∀ pc, Mnp (c276_3 pc) ∧ Okp RX12 cX12_alike 7 (some .boolean) "alike" false pc (c276_3 pc) := by
  intro pc
  unfold c276_3
  split
  · exact ⟨mn_sLR, o276_73⟩
  · exact ⟨mn_sGR, o276_74⟩
  · exact ⟨mn_sLI, o276_77⟩
  · exact ⟨mn_sIA, o276_79⟩
  · exact ⟨mn_sLR, o276_80⟩
  · exact ⟨mn_sGR, o276_81⟩
  · exact ⟨mn_sLI, o276_84⟩
  · exact ⟨mn_sIA, o276_86⟩
  · exact ⟨mn_sI2, o276_87⟩
  · exact ⟨mn_sLR, o276_90⟩
  · exact ⟨mn_sGR, o276_91⟩
  · exact ⟨mn_sLI, o276_94⟩
  · exact ⟨mn_sX, ok_X⟩
theorem oc276_4 : ∀ pc, Mnp (c276_4 pc) ∧ Okp RX12 cX12_alike 7 (some .boolean) "alike" false pc (c276_4 pc) := by
  intro pc
  unfold c276_4
  split
  · exact ⟨mn_sIA, o276_96⟩
  · exact ⟨mn_sLR, o276_97⟩
  · exact ⟨mn_sGR, o276_98⟩
  · exact ⟨mn_sLI, o276_101⟩
  · exact ⟨mn_sIA, o276_103⟩
  · exact ⟨mn_sI2, o276_104⟩
  · exact ⟨mn_sK, o276_107⟩
  · exact ⟨mn_sRZ, o276_108⟩
  · exact ⟨mn_sK, o276_109⟩
  · exact ⟨mn_sSI, o276_110⟩
  · exact ⟨mn_sLI, o276_112⟩
  · exact ⟨mn_sLR, o276_114⟩
  · exact ⟨mn_sGR, o276_115⟩
  · exact ⟨mn_sLI, o276_118⟩
  · exact ⟨mn_sX, ok_X⟩
theorem oc276_5 : ∀ pc, Mnp (c276_5 pc) ∧ Okp RX12 cX12_alike 7 (some .boolean) "alike" false pc (c276_5 pc) := by
  intro pc
  unfold c276_5
  split
  · exact ⟨mn_sIA, o276_120⟩
  · exact ⟨mn_sI2, o276_121⟩
  · exact ⟨mn_sLR, o276_124⟩
  · exact ⟨mn_sGR, o276_125⟩
  · exact ⟨mn_sK, o276_128⟩
  · exact ⟨mn_sLI, o276_129⟩
  · exact ⟨mn_sB2, o276_131⟩
  · exact ⟨mn_sLI, o276_132⟩
  · exact ⟨mn_sB2, o276_134⟩
  · exact ⟨mn_sIA, o276_135⟩
  · exact ⟨mn_sLR, o276_136⟩
  · exact ⟨mn_sGR, o276_137⟩
  · exact ⟨mn_sK, o276_140⟩
  · exact ⟨mn_sLI, o276_141⟩
  · exact ⟨mn_sB2, o276_143⟩
  · exact ⟨mn_sX, ok_X⟩
theorem oc276_6 : ∀ pc, Mnp (c276_6 pc) ∧ Okp RX12 cX12_alike 7 (some .boolean) "alike" false pc (c276_6 pc) := by
  intro pc
  unfold c276_6
  split
  · exact ⟨mn_sLI, o276_144⟩
  · exact ⟨mn_sB2, o276_146⟩
  · exact ⟨mn_sIA, o276_147⟩
  · exact ⟨mn_sI2, o276_148⟩
  · exact ⟨mn_sLR, o276_151⟩
  · exact ⟨mn_sLI, o276_152⟩
  · exact ⟨mn_sK, o276_153⟩
  · exact ⟨mn_sD2, o276_154⟩
  · exact ⟨mn_sLR, o276_155⟩
  · exact ⟨mn_sGR, o276_156⟩
  · exact ⟨mn_sK, o276_159⟩
  · exact ⟨mn_sLI, o276_160⟩
  · exact ⟨mn_sB2, o276_162⟩
  · exact ⟨mn_sLI, o276_163⟩
  · exact ⟨mn_sB2, o276_165⟩
  · exact ⟨mn_sIA, o276_166⟩
  · exact ⟨mn_sLI, o276_167⟩
  · exact ⟨mn_sX, ok_X⟩
theorem oc276_7 : ∀ pc, Mnp (c276_7 pc) ∧ Okp RX12 cX12_alike 7 (some .boolean) "alike" false pc (c276_7 pc) := by
  intro pc
  unfold c276_7
  split
  · exact ⟨mn_sK, o276_168⟩
  · exact ⟨mn_sD2, o276_169⟩
  · exact ⟨mn_sLR, o276_170⟩
  · exact ⟨mn_sGR, o276_171⟩
  · exact ⟨mn_sK, o276_174⟩
  · exact ⟨mn_sLI, o276_175⟩
  · exact ⟨mn_sB2, o276_177⟩
  · exact ⟨mn_sLI, o276_178⟩
  · exact ⟨mn_sB2, o276_180⟩
  · exact ⟨mn_sIA, o276_181⟩
  · exact ⟨mn_sCV, o276_182⟩
  · exact ⟨mn_sI1, o276_185⟩
  · exact ⟨mn_sK, o276_188⟩
  · exact ⟨mn_sRZ, o276_189⟩
  · exact ⟨mn_sInc, o276_190⟩
  · exact ⟨mn_sX, ok_X⟩
theorem oc276_8 : ∀ pc, Mnp (c276_8 pc) ∧ Okp RX12 cX12_alike 7 (some .boolean) "alike" false pc (c276_8 pc) := by
  intro pc
  unfold c276_8
  split
  · exact ⟨mn_sGo, o276_193⟩
  · exact ⟨mn_sInc, o276_196⟩
  · exact ⟨mn_sGo, o276_199⟩
  · exact ⟨mn_sK, o276_202⟩
  · exact ⟨mn_sRZ, o276_203⟩
  · exact ⟨mn_sX, ok_X⟩
theorem oc276 : ∀ pc, Mnp (c276 pc) ∧ Okp RX12 cX12_alike 7 (some .boolean) "alike" false pc (c276 pc) := by
  intro pc
  unfold c276
  split
  · exact oc276_0 pc
  · exact oc276_1 pc
  · exact oc276_2 pc
  · exact oc276_3 pc
  · exact oc276_4 pc
  · exact oc276_5 pc
  · exact oc276_6 pc
  · exact oc276_7 pc
  · exact oc276_8 pc
  · exact ⟨mn_sX, ok_X⟩
theorem o277_0 : Okp RX12 cX12_alikeLoads 5 (some .boolean) "alikeLoads" false 0 (sLI 2 1) := ok_iload_n (by decide +kernel : decode cX12_alikeLoads 0 = .ok (.iload_n 2, 1)) rfl
theorem o277_1 : Okp RX12 cX12_alikeLoads 5 (some .boolean) "alikeLoads" false 1 (sCS false 224 1 4) := ok_cs (by decide +kernel : decode cX12_alikeLoads 1 = .ok (.invokestatic 258, 3)) mw_X12_258 wt_X12_kind (by decide) rfl
theorem o277_4 : Okp RX12 cX12_alikeLoads 5 (some .boolean) "alikeLoads" false 4 (sLI 4 6) := ok_iload (by decide +kernel : decode cX12_alikeLoads 4 = .ok (.iload 4, 2))
theorem o277_6 : Okp RX12 cX12_alikeLoads 5 (some .boolean) "alikeLoads" false 6 (sCS false 224 1 9) := ok_cs (by decide +kernel : decode cX12_alikeLoads 6 = .ok (.invokestatic 258, 3)) mw_X12_258 wt_X12_kind (by decide) rfl
theorem o277_9 : Okp RX12 cX12_alikeLoads 5 (some .boolean) "alikeLoads" false 9 (sI2 0 14 12) := ok_icmp_eq (by decide +kernel : decode cX12_alikeLoads 9 = .ok (.if_icmp .eq 5, 3)) (by decide)
theorem o277_12 : Okp RX12 cX12_alikeLoads 5 (some .boolean) "alikeLoads" false 12 (sK 0 13) := ok_iconst (by decide +kernel : decode cX12_alikeLoads 12 = .ok (.iconst 0, 1)) (by decide)
theorem o277_13 : Okp RX12 cX12_alikeLoads 5 (some .boolean) "alikeLoads" false 13 sRZ := ok_zret rfl (by decide +kernel : decode cX12_alikeLoads 13 = .ok (.ireturn, 1))
theorem o277_14 : Okp RX12 cX12_alikeLoads 5 (some .boolean) "alikeLoads" false 14 (sLI 2 15) := ok_iload_n (by decide +kernel : decode cX12_alikeLoads 14 = .ok (.iload_n 2, 1)) rfl
theorem o277_15 : Okp RX12 cX12_alikeLoads 5 (some .boolean) "alikeLoads" false 15 (sK (-1) 16) := ok_iconst (by decide +kernel : decode cX12_alikeLoads 15 = .ok (.iconst (-1), 1)) (by decide)
theorem o277_16 : Okp RX12 cX12_alikeLoads 5 (some .boolean) "alikeLoads" false 16 (sI2 0 23 19) := ok_icmp_eq (by decide +kernel : decode cX12_alikeLoads 16 = .ok (.if_icmp .eq 7, 3)) (by decide)
theorem o277_19 : Okp RX12 cX12_alikeLoads 5 (some .boolean) "alikeLoads" false 19 (sLI 2 20) := ok_iload_n (by decide +kernel : decode cX12_alikeLoads 19 = .ok (.iload_n 2, 1)) rfl
theorem o277_20 : Okp RX12 cX12_alikeLoads 5 (some .boolean) "alikeLoads" false 20 (sI1 1 25 23) := ok_if_ne (by decide +kernel : decode cX12_alikeLoads 20 = .ok (.ifCond .ne 5, 3)) (by decide)
theorem o277_23 : Okp RX12 cX12_alikeLoads 5 (some .boolean) "alikeLoads" false 23 (sK 1 24) := ok_iconst (by decide +kernel : decode cX12_alikeLoads 23 = .ok (.iconst 1, 1)) (by decide)
theorem o277_24 : Okp RX12 cX12_alikeLoads 5 (some .boolean) "alikeLoads" false 24 sRZ := ok_zret rfl (by decide +kernel : decode cX12_alikeLoads 24 = .ok (.ireturn, 1))
theorem o277_25 : Okp RX12 cX12_alikeLoads 5 (some .boolean) "alikeLoads" false 25 (sLI 2 26) := ok_iload_n (by decide +kernel : decode cX12_alikeLoads 25 = .ok (.iload_n 2, 1)) rfl
theorem o277_26 : Okp RX12 cX12_alikeLoads 5 (some .boolean) "alikeLoads" false 26 (sCS false 224 1 29) := ok_cs (by decide +kernel : decode cX12_alikeLoads 26 = .ok (.invokestatic 258, 3)) mw_X12_258 wt_X12_kind (by decide) rfl
theorem o277_29 : Okp RX12 cX12_alikeLoads 5 (some .boolean) "alikeLoads" false 29 (sK 4 30) := ok_iconst (by decide +kernel : decode cX12_alikeLoads 29 = .ok (.iconst 4, 1)) (by decide)
theorem o277_30 : Okp RX12 cX12_alikeLoads 5 (some .boolean) "alikeLoads" false 30 (sI2 1 71 33) := ok_icmp_ne (by decide +kernel : decode cX12_alikeLoads 30 = .ok (.if_icmp .ne 41, 3)) (by decide)
theorem o277_33 : Okp RX12 cX12_alikeLoads 5 (some .boolean) "alikeLoads" false 33 (sLR 0 34) := ok_aload_n (by decide +kernel : decode cX12_alikeLoads 33 = .ok (.aload_n 0, 1)) rfl
theorem o277_34 : Okp RX12 cX12_alikeLoads 5 (some .boolean) "alikeLoads" false 34 (sGR 13 9 37) := ok_getR (by decide +kernel : decode cX12_alikeLoads 34 = .ok (.getfield 33, 3)) fw_X12_33 rfl
theorem o277_37 : Okp RX12 cX12_alikeLoads 5 (some .boolean) "alikeLoads" false 37 (sK 8 39) := ok_bipush (by decide +kernel : decode cX12_alikeLoads 37 = .ok (.bipush 8, 2)) (by decide)
theorem o277_39 : Okp RX12 cX12_alikeLoads 5 (some .boolean) "alikeLoads" false 39 (sLI 1 40) := ok_iload_n (by decide +kernel : decode cX12_alikeLoads 39 = .ok (.iload_n 1, 1)) rfl
theorem o277_40 : Okp RX12 cX12_alikeLoads 5 (some .boolean) "alikeLoads" false 40 (sB2 fMul 41) := ok_imul (by decide +kernel : decode cX12_alikeLoads 40 = .ok (.imul, 1))
theorem o277_41 : Okp RX12 cX12_alikeLoads 5 (some .boolean) "alikeLoads" false 41 (sLI 2 42) := ok_iload_n (by decide +kernel : decode cX12_alikeLoads 41 = .ok (.iload_n 2, 1)) rfl
theorem o277_42 : Okp RX12 cX12_alikeLoads 5 (some .boolean) "alikeLoads" false 42 (sCS false 225 1 45) := ok_cs (by decide +kernel : decode cX12_alikeLoads 42 = .ok (.invokestatic 368, 3)) mw_X12_368 wt_X12_which (by decide) rfl
theorem o277_45 : Okp RX12 cX12_alikeLoads 5 (some .boolean) "alikeLoads" false 45 (sB2 fAdd 46) := ok_iadd (by decide +kernel : decode cX12_alikeLoads 45 = .ok (.iadd, 1))
theorem o277_46 : Okp RX12 cX12_alikeLoads 5 (some .boolean) "alikeLoads" false 46 (sIA 47) := ok_iaload (by decide +kernel : decode cX12_alikeLoads 46 = .ok (.iaload, 1))
theorem o277_47 : Okp RX12 cX12_alikeLoads 5 (some .boolean) "alikeLoads" false 47 (sLR 0 48) := ok_aload_n (by decide +kernel : decode cX12_alikeLoads 47 = .ok (.aload_n 0, 1)) rfl
theorem o277_48 : Okp RX12 cX12_alikeLoads 5 (some .boolean) "alikeLoads" false 48 (sGR 13 9 51) := ok_getR (by decide +kernel : decode cX12_alikeLoads 48 = .ok (.getfield 33, 3)) fw_X12_33 rfl
theorem o277_51 : Okp RX12 cX12_alikeLoads 5 (some .boolean) "alikeLoads" false 51 (sK 8 53) := ok_bipush (by decide +kernel : decode cX12_alikeLoads 51 = .ok (.bipush 8, 2)) (by decide)
theorem o277_53 : Okp RX12 cX12_alikeLoads 5 (some .boolean) "alikeLoads" false 53 (sLI 3 54) := ok_iload_n (by decide +kernel : decode cX12_alikeLoads 53 = .ok (.iload_n 3, 1)) rfl
theorem o277_54 : Okp RX12 cX12_alikeLoads 5 (some .boolean) "alikeLoads" false 54 (sB2 fMul 55) := ok_imul (by decide +kernel : decode cX12_alikeLoads 54 = .ok (.imul, 1))
theorem o277_55 : Okp RX12 cX12_alikeLoads 5 (some .boolean) "alikeLoads" false 55 (sLI 4 57) := ok_iload (by decide +kernel : decode cX12_alikeLoads 55 = .ok (.iload 4, 2))
theorem o277_57 : Okp RX12 cX12_alikeLoads 5 (some .boolean) "alikeLoads" false 57 (sCS false 225 1 60) := ok_cs (by decide +kernel : decode cX12_alikeLoads 57 = .ok (.invokestatic 368, 3)) mw_X12_368 wt_X12_which (by decide) rfl
theorem o277_60 : Okp RX12 cX12_alikeLoads 5 (some .boolean) "alikeLoads" false 60 (sB2 fAdd 61) := ok_iadd (by decide +kernel : decode cX12_alikeLoads 60 = .ok (.iadd, 1))
theorem o277_61 : Okp RX12 cX12_alikeLoads 5 (some .boolean) "alikeLoads" false 61 (sIA 62) := ok_iaload (by decide +kernel : decode cX12_alikeLoads 61 = .ok (.iaload, 1))
theorem o277_62 : Okp RX12 cX12_alikeLoads 5 (some .boolean) "alikeLoads" false 62 (sI2 1 69 65) := ok_icmp_ne (by decide +kernel : decode cX12_alikeLoads 62 = .ok (.if_icmp .ne 7, 3)) (by decide)
theorem o277_65 : Okp RX12 cX12_alikeLoads 5 (some .boolean) "alikeLoads" false 65 (sK 1 66) := ok_iconst (by decide +kernel : decode cX12_alikeLoads 65 = .ok (.iconst 1, 1)) (by decide)
theorem o277_66 : Okp RX12 cX12_alikeLoads 5 (some .boolean) "alikeLoads" false 66 (sGo 70) := ok_goto (by decide +kernel : decode cX12_alikeLoads 66 = .ok (.goto 4, 3)) (by decide)
theorem o277_69 : Okp RX12 cX12_alikeLoads 5 (some .boolean) "alikeLoads" false 69 (sK 0 70) := ok_iconst (by decide +kernel : decode cX12_alikeLoads 69 = .ok (.iconst 0, 1)) (by decide)
theorem o277_70 : Okp RX12 cX12_alikeLoads 5 (some .boolean) "alikeLoads" false 70 sRZ := ok_zret rfl (by decide +kernel : decode cX12_alikeLoads 70 = .ok (.ireturn, 1))
theorem o277_71 : Okp RX12 cX12_alikeLoads 5 (some .boolean) "alikeLoads" false 71 (sLI 2 72) := ok_iload_n (by decide +kernel : decode cX12_alikeLoads 71 = .ok (.iload_n 2, 1)) rfl
theorem o277_72 : Okp RX12 cX12_alikeLoads 5 (some .boolean) "alikeLoads" false 72 (sCS false 226 1 75) := ok_cs (by decide +kernel : decode cX12_alikeLoads 72 = .ok (.invokestatic 386, 3)) mw_X12_386 wt_X12_state (by decide) rfl
theorem o277_75 : Okp RX12 cX12_alikeLoads 5 (some .boolean) "alikeLoads" false 75 (sLI 4 77) := ok_iload (by decide +kernel : decode cX12_alikeLoads 75 = .ok (.iload 4, 2))
theorem o277_77 : Okp RX12 cX12_alikeLoads 5 (some .boolean) "alikeLoads" false 77 (sCS false 226 1 80) := ok_cs (by decide +kernel : decode cX12_alikeLoads 77 = .ok (.invokestatic 386, 3)) mw_X12_386 wt_X12_state (by decide) rfl
theorem o277_80 : Okp RX12 cX12_alikeLoads 5 (some .boolean) "alikeLoads" false 80 (sI2 1 123 83) := ok_icmp_ne (by decide +kernel : decode cX12_alikeLoads 80 = .ok (.if_icmp .ne 43, 3)) (by decide)
theorem o277_83 : Okp RX12 cX12_alikeLoads 5 (some .boolean) "alikeLoads" false 83 (sLI 2 84) := ok_iload_n (by decide +kernel : decode cX12_alikeLoads 83 = .ok (.iload_n 2, 1)) rfl
theorem o277_84 : Okp RX12 cX12_alikeLoads 5 (some .boolean) "alikeLoads" false 84 (sCS false 227 1 87) := ok_cs (by decide +kernel : decode cX12_alikeLoads 84 = .ok (.invokestatic 399, 3)) mw_X12_399 wt_X12_side (by decide) rfl
theorem o277_87 : Okp RX12 cX12_alikeLoads 5 (some .boolean) "alikeLoads" false 87 (sLI 4 89) := ok_iload (by decide +kernel : decode cX12_alikeLoads 87 = .ok (.iload 4, 2))
theorem o277_89 : Okp RX12 cX12_alikeLoads 5 (some .boolean) "alikeLoads" false 89 (sCS false 227 1 92) := ok_cs (by decide +kernel : decode cX12_alikeLoads 89 = .ok (.invokestatic 399, 3)) mw_X12_399 wt_X12_side (by decide) rfl
theorem o277_92 : Okp RX12 cX12_alikeLoads 5 (some .boolean) "alikeLoads" false 92 (sI2 1 123 95) := ok_icmp_ne (by decide +kernel : decode cX12_alikeLoads 92 = .ok (.if_icmp .ne 31, 3)) (by decide)
theorem o277_95 : Okp RX12 cX12_alikeLoads 5 (some .boolean) "alikeLoads" false 95 (sLR 0 96) := ok_aload_n (by decide +kernel : decode cX12_alikeLoads 95 = .ok (.aload_n 0, 1)) rfl
theorem o277_96 : Okp RX12 cX12_alikeLoads 5 (some .boolean) "alikeLoads" false 96 (sK 4 97) := ok_iconst (by decide +kernel : decode cX12_alikeLoads 96 = .ok (.iconst 4, 1)) (by decide)
theorem o277_97 : Okp RX12 cX12_alikeLoads 5 (some .boolean) "alikeLoads" false 97 (sLI 1 98) := ok_iload_n (by decide +kernel : decode cX12_alikeLoads 97 = .ok (.iload_n 1, 1)) rfl
theorem o277_98 : Okp RX12 cX12_alikeLoads 5 (some .boolean) "alikeLoads" false 98 (sB2 fMul 99) := ok_imul (by decide +kernel : decode cX12_alikeLoads 98 = .ok (.imul, 1))
theorem o277_99 : Okp RX12 cX12_alikeLoads 5 (some .boolean) "alikeLoads" false 99 (sLI 2 100) := ok_iload_n (by decide +kernel : decode cX12_alikeLoads 99 = .ok (.iload_n 2, 1)) rfl
theorem o277_100 : Okp RX12 cX12_alikeLoads 5 (some .boolean) "alikeLoads" false 100 (sCS false 225 1 103) := ok_cs (by decide +kernel : decode cX12_alikeLoads 100 = .ok (.invokestatic 368, 3)) mw_X12_368 wt_X12_which (by decide) rfl
theorem o277_103 : Okp RX12 cX12_alikeLoads 5 (some .boolean) "alikeLoads" false 103 (sB2 fAdd 104) := ok_iadd (by decide +kernel : decode cX12_alikeLoads 103 = .ok (.iadd, 1))
theorem o277_104 : Okp RX12 cX12_alikeLoads 5 (some .boolean) "alikeLoads" false 104 (sK 4 105) := ok_iconst (by decide +kernel : decode cX12_alikeLoads 104 = .ok (.iconst 4, 1)) (by decide)
theorem o277_105 : Okp RX12 cX12_alikeLoads 5 (some .boolean) "alikeLoads" false 105 (sLI 3 106) := ok_iload_n (by decide +kernel : decode cX12_alikeLoads 105 = .ok (.iload_n 3, 1)) rfl
theorem o277_106 : Okp RX12 cX12_alikeLoads 5 (some .boolean) "alikeLoads" false 106 (sB2 fMul 107) := ok_imul (by decide +kernel : decode cX12_alikeLoads 106 = .ok (.imul, 1))
theorem o277_107 : Okp RX12 cX12_alikeLoads 5 (some .boolean) "alikeLoads" false 107 (sLI 4 109) := ok_iload (by decide +kernel : decode cX12_alikeLoads 107 = .ok (.iload 4, 2))
theorem o277_109 : Okp RX12 cX12_alikeLoads 5 (some .boolean) "alikeLoads" false 109 (sCS false 225 1 112) := ok_cs (by decide +kernel : decode cX12_alikeLoads 109 = .ok (.invokestatic 368, 3)) mw_X12_368 wt_X12_which (by decide) rfl
theorem o277_112 : Okp RX12 cX12_alikeLoads 5 (some .boolean) "alikeLoads" false 112 (sB2 fAdd 113) := ok_iadd (by decide +kernel : decode cX12_alikeLoads 112 = .ok (.iadd, 1))
theorem o277_113 : Okp RX12 cX12_alikeLoads 5 (some .boolean) "alikeLoads" false 113 (sCV false 276 3 13 116) := ok_cv (by decide +kernel : decode cX12_alikeLoads 113 = .ok (.invokevirtual 444, 3)) mw_X12_444 rfl (by decide) wm_X12_alike wse_X12_alike (by decide) rfl
theorem o277_116 : Okp RX12 cX12_alikeLoads 5 (some .boolean) "alikeLoads" false 116 (sI1 0 123 119) := ok_if_eq (by decide +kernel : decode cX12_alikeLoads 116 = .ok (.ifCond .eq 7, 3)) (by decide)
theorem o277_119 : Okp RX12 cX12_alikeLoads 5 (some .boolean) "alikeLoads" false 119 (sK 1 120) := ok_iconst (by decide +kernel : decode cX12_alikeLoads 119 = .ok (.iconst 1, 1)) (by decide)
theorem o277_120 : Okp RX12 cX12_alikeLoads 5 (some .boolean) "alikeLoads" false 120 (sGo 124) := ok_goto (by decide +kernel : decode cX12_alikeLoads 120 = .ok (.goto 4, 3)) (by decide)
theorem o277_123 : Okp RX12 cX12_alikeLoads 5 (some .boolean) "alikeLoads" false 123 (sK 0 124) := ok_iconst (by decide +kernel : decode cX12_alikeLoads 123 = .ok (.iconst 0, 1)) (by decide)
theorem o277_124 : Okp RX12 cX12_alikeLoads 5 (some .boolean) "alikeLoads" false 124 sRZ := ok_zret rfl (by decide +kernel : decode cX12_alikeLoads 124 = .ok (.ireturn, 1))
theorem oc277_0 : ∀ pc, Mnp (c277_0 pc) ∧ Okp RX12 cX12_alikeLoads 5 (some .boolean) "alikeLoads" false pc (c277_0 pc) := by
  intro pc
  unfold c277_0
  split
  · exact ⟨mn_sLI, o277_0⟩
  · exact ⟨mn_sCS, o277_1⟩
  · exact ⟨mn_sLI, o277_4⟩
  · exact ⟨mn_sCS, o277_6⟩
  · exact ⟨mn_sI2, o277_9⟩
  · exact ⟨mn_sK, o277_12⟩
  · exact ⟨mn_sRZ, o277_13⟩
  · exact ⟨mn_sLI, o277_14⟩
  · exact ⟨mn_sK, o277_15⟩
  · exact ⟨mn_sI2, o277_16⟩
  · exact ⟨mn_sLI, o277_19⟩
  · exact ⟨mn_sI1, o277_20⟩
  · exact ⟨mn_sK, o277_23⟩
  · exact ⟨mn_sX, ok_X⟩
theorem oc277_1 : ∀ pc, Mnp (c277_1 pc) ∧ Okp RX12 cX12_alikeLoads 5 (some .boolean) "alikeLoads" false pc (c277_1 pc) := by
  intro pc
  unfold c277_1
  split
  · exact ⟨mn_sRZ, o277_24⟩
  · exact ⟨mn_sLI, o277_25⟩
  · exact ⟨mn_sCS, o277_26⟩
  · exact ⟨mn_sK, o277_29⟩
  · exact ⟨mn_sI2, o277_30⟩
  · exact ⟨mn_sLR, o277_33⟩
  · exact ⟨mn_sGR, o277_34⟩
  · exact ⟨mn_sK, o277_37⟩
  · exact ⟨mn_sLI, o277_39⟩
  · exact ⟨mn_sB2, o277_40⟩
  · exact ⟨mn_sLI, o277_41⟩
  · exact ⟨mn_sCS, o277_42⟩
  · exact ⟨mn_sB2, o277_45⟩
  · exact ⟨mn_sIA, o277_46⟩
  · exact ⟨mn_sLR, o277_47⟩
  · exact ⟨mn_sX, ok_X⟩
theorem oc277_2 : ∀ pc, Mnp (c277_2 pc) ∧ Okp RX12 cX12_alikeLoads 5 (some .boolean) "alikeLoads" false pc (c277_2 pc) := by
  intro pc
  unfold c277_2
  split
  · exact ⟨mn_sGR, o277_48⟩
  · exact ⟨mn_sK, o277_51⟩
  · exact ⟨mn_sLI, o277_53⟩
  · exact ⟨mn_sB2, o277_54⟩
  · exact ⟨mn_sLI, o277_55⟩
  · exact ⟨mn_sCS, o277_57⟩
  · exact ⟨mn_sB2, o277_60⟩
  · exact ⟨mn_sIA, o277_61⟩
  · exact ⟨mn_sI2, o277_62⟩
  · exact ⟨mn_sK, o277_65⟩
  · exact ⟨mn_sGo, o277_66⟩
  · exact ⟨mn_sK, o277_69⟩
  · exact ⟨mn_sRZ, o277_70⟩
  · exact ⟨mn_sLI, o277_71⟩
  · exact ⟨mn_sX, ok_X⟩
theorem oc277_3 : ∀ pc, Mnp (c277_3 pc) ∧ Okp RX12 cX12_alikeLoads 5 (some .boolean) "alikeLoads" false pc (c277_3 pc) := by
  intro pc
  unfold c277_3
  split
  · exact ⟨mn_sCS, o277_72⟩
  · exact ⟨mn_sLI, o277_75⟩
  · exact ⟨mn_sCS, o277_77⟩
  · exact ⟨mn_sI2, o277_80⟩
  · exact ⟨mn_sLI, o277_83⟩
  · exact ⟨mn_sCS, o277_84⟩
  · exact ⟨mn_sLI, o277_87⟩
  · exact ⟨mn_sCS, o277_89⟩
  · exact ⟨mn_sI2, o277_92⟩
  · exact ⟨mn_sLR, o277_95⟩
  · exact ⟨mn_sX, ok_X⟩
theorem oc277_4 : ∀ pc, Mnp (c277_4 pc) ∧ Okp RX12 cX12_alikeLoads 5 (some .boolean) "alikeLoads" false pc (c277_4 pc) := by
  intro pc
  unfold c277_4
  split
  · exact ⟨mn_sK, o277_96⟩
  · exact ⟨mn_sLI, o277_97⟩
  · exact ⟨mn_sB2, o277_98⟩
  · exact ⟨mn_sLI, o277_99⟩
  · exact ⟨mn_sCS, o277_100⟩
  · exact ⟨mn_sB2, o277_103⟩
  · exact ⟨mn_sK, o277_104⟩
  · exact ⟨mn_sLI, o277_105⟩
  · exact ⟨mn_sB2, o277_106⟩
  · exact ⟨mn_sLI, o277_107⟩
  · exact ⟨mn_sCS, o277_109⟩
  · exact ⟨mn_sB2, o277_112⟩
  · exact ⟨mn_sCV, o277_113⟩
  · exact ⟨mn_sI1, o277_116⟩
  · exact ⟨mn_sK, o277_119⟩
  · exact ⟨mn_sX, ok_X⟩
theorem oc277_5 : ∀ pc, Mnp (c277_5 pc) ∧ Okp RX12 cX12_alikeLoads 5 (some .boolean) "alikeLoads" false pc (c277_5 pc) := by
  intro pc
  unfold c277_5
  split
  · exact ⟨mn_sGo, o277_120⟩
  · exact ⟨mn_sK, o277_123⟩
  · exact ⟨mn_sRZ, o277_124⟩
  · exact ⟨mn_sX, ok_X⟩
theorem oc277 : ∀ pc, Mnp (c277 pc) ∧ Okp RX12 cX12_alikeLoads 5 (some .boolean) "alikeLoads" false pc (c277 pc) := by
  intro pc
  unfold c277
  split
  · exact oc277_0 pc
  · exact oc277_1 pc
  · exact oc277_2 pc
  · exact oc277_3 pc
  · exact oc277_4 pc
  · exact oc277_5 pc
  · exact ⟨mn_sX, ok_X⟩
theorem o278_0 : Okp RX12 cX12_boot 3 (some .int) "boot" false 0 (sLR 0 1) := ok_aload_n (by decide +kernel : decode cX12_boot 0 = .ok (.aload_n 0, 1)) rfl
theorem o278_1 : Okp RX12 cX12_boot 3 (some .int) "boot" false 1 (sK 0 2) := ok_iconst (by decide +kernel : decode cX12_boot 1 = .ok (.iconst 0, 1)) (by decide)
theorem o278_2 : Okp RX12 cX12_boot 3 (some .int) "boot" false 2 (sPI 13 0 5) := ok_putI (by decide +kernel : decode cX12_boot 2 = .ok (.putfield 227, 3)) fw_X12_227 ⟨⟨tyX12_ok, nmX12⟩, Or.inl rfl, rfl⟩ rfl
theorem o278_5 : Okp RX12 cX12_boot 3 (some .int) "boot" false 5 (sLI 1 6) := ok_iload_n (by decide +kernel : decode cX12_boot 5 = .ok (.iload_n 1, 1)) rfl
theorem o278_6 : Okp RX12 cX12_boot 3 (some .int) "boot" false 6 (sI1 2 17 9) := ok_if_lt (by decide +kernel : decode cX12_boot 6 = .ok (.ifCond .lt 11, 3)) (by decide)
theorem o278_9 : Okp RX12 cX12_boot 3 (some .int) "boot" false 9 (sLI 1 10) := ok_iload_n (by decide +kernel : decode cX12_boot 9 = .ok (.iload_n 1, 1)) rfl
theorem o278_10 : Okp RX12 cX12_boot 3 (some .int) "boot" false 10 (sLR 0 11) := ok_aload_n (by decide +kernel : decode cX12_boot 10 = .ok (.aload_n 0, 1)) rfl
theorem o278_11 : Okp RX12 cX12_boot 3 (some .int) "boot" false 11 (sGI 13 2 14) := ok_getI (by decide +kernel : decode cX12_boot 11 = .ok (.getfield 230, 3)) fw_X12_230 rfl
theorem o278_14 : Okp RX12 cX12_boot 3 (some .int) "boot" false 14 (sI2 5 20 17) := ok_icmp_le (by decide +kernel : decode cX12_boot 14 = .ok (.if_icmp .le 6, 3)) (by decide)
theorem o278_17 : Okp RX12 cX12_boot 3 (some .int) "boot" false 17 (sK (-2) 19) := ok_bipush (by decide +kernel : decode cX12_boot 17 = .ok (.bipush (-2), 2)) (by decide)
theorem o278_19 : Okp RX12 cX12_boot 3 (some .int) "boot" false 19 sRI := ok_iret rfl (by decide +kernel : decode cX12_boot 19 = .ok (.ireturn, 1))
theorem o278_20 : Okp RX12 cX12_boot 3 (some .int) "boot" false 20 (sLR 0 21) := ok_aload_n (by decide +kernel : decode cX12_boot 20 = .ok (.aload_n 0, 1)) rfl
theorem o278_21 : Okp RX12 cX12_boot 3 (some .int) "boot" false 21 (sLI 1 22) := ok_iload_n (by decide +kernel : decode cX12_boot 21 = .ok (.iload_n 1, 1)) rfl
theorem o278_22 : Okp RX12 cX12_boot 3 (some .int) "boot" false 22 (sCV false 265 2 13 25) := ok_cv (by decide +kernel : decode cX12_boot 22 = .ok (.invokevirtual 402, 3)) mw_X12_402 rfl (by decide) wm_X12_take wse_X12_take (by decide) rfl
theorem o278_25 : Okp RX12 cX12_boot 3 (some .int) "boot" false 25 (sLR 0 26) := ok_aload_n (by decide +kernel : decode cX12_boot 25 = .ok (.aload_n 0, 1)) rfl
theorem o278_26 : Okp RX12 cX12_boot 3 (some .int) "boot" false 26 (sK 12 28) := ok_bipush (by decide +kernel : decode cX12_boot 26 = .ok (.bipush 12, 2)) (by decide)
theorem o278_28 : Okp RX12 cX12_boot 3 (some .int) "boot" false 28 (sPI 13 27 31) := ok_putI (by decide +kernel : decode cX12_boot 28 = .ok (.putfield 240, 3)) fw_X12_240 ⟨⟨tyX12_ok, nmX12⟩, Or.inl rfl, rfl⟩ rfl
theorem o278_31 : Okp RX12 cX12_boot 3 (some .int) "boot" false 31 (sLR 0 32) := ok_aload_n (by decide +kernel : decode cX12_boot 31 = .ok (.aload_n 0, 1)) rfl
theorem o278_32 : Okp RX12 cX12_boot 3 (some .int) "boot" false 32 (sCV false 273 1 13 35) := ok_cvT (by decide +kernel : decode cX12_boot 32 = .ok (.invokevirtual 451, 3)) mw_X12_451 rfl rfl (by decide) wm_X12_manifest wse_X12_manifest (by decide)
theorem o278_35 : Okp RX12 cX12_boot 3 (some .int) "boot" false 35 (sGo 41) := ok_goto (by decide +kernel : decode cX12_boot 35 = .ok (.goto 6, 3)) (by decide)
theorem o278_38 : Okp RX12 cX12_boot 3 (some .int) "boot" false 38 (sSR 2 39) := ok_astore_n (by decide +kernel : decode cX12_boot 38 = .ok (.astore_n 2, 1)) rfl (by decide) (by decide)
theorem o278_39 : Okp RX12 cX12_boot 3 (some .int) "boot" false 39 (sK (-1) 40) := ok_iconst (by decide +kernel : decode cX12_boot 39 = .ok (.iconst (-1), 1)) (by decide)
theorem o278_40 : Okp RX12 cX12_boot 3 (some .int) "boot" false 40 sRI := ok_iret rfl (by decide +kernel : decode cX12_boot 40 = .ok (.ireturn, 1))
theorem o278_41 : Okp RX12 cX12_boot 3 (some .int) "boot" false 41 (sLR 0 42) := ok_aload_n (by decide +kernel : decode cX12_boot 41 = .ok (.aload_n 0, 1)) rfl
theorem o278_42 : Okp RX12 cX12_boot 3 (some .int) "boot" false 42 (sCV false 279 1 13 45) := ok_cv (by decide +kernel : decode cX12_boot 42 = .ok (.invokevirtual 454, 3)) mw_X12_454 rfl (by decide) wm_X12_begin wse_X12_begin (by decide) rfl
theorem o278_45 : Okp RX12 cX12_boot 3 (some .int) "boot" false 45 (sLR 0 46) := ok_aload_n (by decide +kernel : decode cX12_boot 45 = .ok (.aload_n 0, 1)) rfl
theorem o278_46 : Okp RX12 cX12_boot 3 (some .int) "boot" false 46 (sGI 13 48 49) := ok_getI (by decide +kernel : decode cX12_boot 46 = .ok (.getfield 432, 3)) fw_X12_432 rfl
theorem o278_49 : Okp RX12 cX12_boot 3 (some .int) "boot" false 49 sRI := ok_iret rfl (by decide +kernel : decode cX12_boot 49 = .ok (.ireturn, 1))
theorem oc278_0 : ∀ pc, Mnp (c278_0 pc) ∧ Okp RX12 cX12_boot 3 (some .int) "boot" false pc (c278_0 pc) := by
  intro pc
  unfold c278_0
  split
  · exact ⟨mn_sLR, o278_0⟩
  · exact ⟨mn_sK, o278_1⟩
  · exact ⟨mn_sPI, o278_2⟩
  · exact ⟨mn_sLI, o278_5⟩
  · exact ⟨mn_sI1, o278_6⟩
  · exact ⟨mn_sLI, o278_9⟩
  · exact ⟨mn_sLR, o278_10⟩
  · exact ⟨mn_sGI, o278_11⟩
  · exact ⟨mn_sI2, o278_14⟩
  · exact ⟨mn_sK, o278_17⟩
  · exact ⟨mn_sRI, o278_19⟩
  · exact ⟨mn_sLR, o278_20⟩
  · exact ⟨mn_sLI, o278_21⟩
  · exact ⟨mn_sCV, o278_22⟩
  · exact ⟨mn_sX, ok_X⟩
theorem oc278_1 : ∀ pc, Mnp (c278_1 pc) ∧ Okp RX12 cX12_boot 3 (some .int) "boot" false pc (c278_1 pc) := by
  intro pc
  unfold c278_1
  split
  · exact ⟨mn_sLR, o278_25⟩
  · exact ⟨mn_sK, o278_26⟩
  · exact ⟨mn_sPI, o278_28⟩
  · exact ⟨mn_sLR, o278_31⟩
  · exact ⟨mn_sCV, o278_32⟩
  · exact ⟨mn_sGo, o278_35⟩
  · exact ⟨mn_sSR, o278_38⟩
  · exact ⟨mn_sK, o278_39⟩
  · exact ⟨mn_sRI, o278_40⟩
  · exact ⟨mn_sLR, o278_41⟩
  · exact ⟨mn_sCV, o278_42⟩
  · exact ⟨mn_sLR, o278_45⟩
  · exact ⟨mn_sGI, o278_46⟩
  · exact ⟨mn_sX, ok_X⟩
theorem oc278_2 : ∀ pc, Mnp (c278_2 pc) ∧ Okp RX12 cX12_boot 3 (some .int) "boot" false pc (c278_2 pc) := by
  intro pc
  unfold c278_2
  split
  · exact ⟨mn_sRI, o278_49⟩
  · exact ⟨mn_sX, ok_X⟩
theorem oc278 : ∀ pc, Mnp (c278 pc) ∧ Okp RX12 cX12_boot 3 (some .int) "boot" false pc (c278 pc) := by
  intro pc
  unfold c278
  split
  · exact oc278_0 pc
  · exact oc278_1 pc
  · exact oc278_2 pc
  · exact ⟨mn_sX, ok_X⟩
theorem o279_0 : Okp RX12 cX12_begin 4 none "begin" false 0 (sLR 0 1) := ok_aload_n (by decide +kernel : decode cX12_begin 0 = .ok (.aload_n 0, 1)) rfl
theorem o279_1 : Okp RX12 cX12_begin 4 none "begin" false 1 (sK 1 2) := ok_iconst (by decide +kernel : decode cX12_begin 1 = .ok (.iconst 1, 1)) (by decide)
theorem o279_2 : Okp RX12 cX12_begin 4 none "begin" false 2 (sPZ 13 51 5) := ok_putZ (by decide +kernel : decode cX12_begin 2 = .ok (.putfield 457, 3)) fw_X12_457 ⟨⟨tyX12_ok, nmX12⟩, Or.inl rfl, rfl⟩ rfl
theorem o279_5 : Okp RX12 cX12_begin 4 none "begin" false 5 (sLR 0 6) := ok_aload_n (by decide +kernel : decode cX12_begin 5 = .ok (.aload_n 0, 1)) rfl
theorem o279_6 : Okp RX12 cX12_begin 4 none "begin" false 6 (sK 0 7) := ok_iconst (by decide +kernel : decode cX12_begin 6 = .ok (.iconst 0, 1)) (by decide)
theorem o279_7 : Okp RX12 cX12_begin 4 none "begin" false 7 (sPI 13 52 10) := ok_putI (by decide +kernel : decode cX12_begin 7 = .ok (.putfield 460, 3)) fw_X12_460 ⟨⟨tyX12_ok, nmX12⟩, Or.inl rfl, rfl⟩ rfl
theorem o279_10 : Okp RX12 cX12_begin 4 none "begin" false 10 (sLR 0 11) := ok_aload_n (by decide +kernel : decode cX12_begin 10 = .ok (.aload_n 0, 1)) rfl
theorem o279_11 : Okp RX12 cX12_begin 4 none "begin" false 11 (sK 0 12) := ok_iconst (by decide +kernel : decode cX12_begin 11 = .ok (.iconst 0, 1)) (by decide)
theorem o279_12 : Okp RX12 cX12_begin 4 none "begin" false 12 (sPI 13 53 15) := ok_putI (by decide +kernel : decode cX12_begin 12 = .ok (.putfield 463, 3)) fw_X12_463 ⟨⟨tyX12_ok, nmX12⟩, Or.inl rfl, rfl⟩ rfl
theorem o279_15 : Okp RX12 cX12_begin 4 none "begin" false 15 (sLR 0 16) := ok_aload_n (by decide +kernel : decode cX12_begin 15 = .ok (.aload_n 0, 1)) rfl
theorem o279_16 : Okp RX12 cX12_begin 4 none "begin" false 16 (sK 0 17) := ok_iconst (by decide +kernel : decode cX12_begin 16 = .ok (.iconst 0, 1)) (by decide)
theorem o279_17 : Okp RX12 cX12_begin 4 none "begin" false 17 (sPI 13 54 20) := ok_putI (by decide +kernel : decode cX12_begin 17 = .ok (.putfield 466, 3)) fw_X12_466 ⟨⟨tyX12_ok, nmX12⟩, Or.inl rfl, rfl⟩ rfl
theorem o279_20 : Okp RX12 cX12_begin 4 none "begin" false 20 (sLR 0 21) := ok_aload_n (by decide +kernel : decode cX12_begin 20 = .ok (.aload_n 0, 1)) rfl
theorem o279_21 : Okp RX12 cX12_begin 4 none "begin" false 21 (sK 0 22) := ok_iconst (by decide +kernel : decode cX12_begin 21 = .ok (.iconst 0, 1)) (by decide)
theorem o279_22 : Okp RX12 cX12_begin 4 none "begin" false 22 (sPI 13 55 25) := ok_putI (by decide +kernel : decode cX12_begin 22 = .ok (.putfield 469, 3)) fw_X12_469 ⟨⟨tyX12_ok, nmX12⟩, Or.inl rfl, rfl⟩ rfl
theorem o279_25 : Okp RX12 cX12_begin 4 none "begin" false 25 (sLR 0 26) := ok_aload_n (by decide +kernel : decode cX12_begin 25 = .ok (.aload_n 0, 1)) rfl
theorem o279_26 : Okp RX12 cX12_begin 4 none "begin" false 26 (sLR 0 27) := ok_aload_n (by decide +kernel : decode cX12_begin 26 = .ok (.aload_n 0, 1)) rfl
theorem o279_27 : Okp RX12 cX12_begin 4 none "begin" false 27 (sGI 13 48 30) := ok_getI (by decide +kernel : decode cX12_begin 27 = .ok (.getfield 432, 3)) fw_X12_432 rfl
theorem o279_30 : Okp RX12 cX12_begin 4 none "begin" false 30 (sPI 13 56 33) := ok_putI (by decide +kernel : decode cX12_begin 30 = .ok (.putfield 472, 3)) fw_X12_472 ⟨⟨tyX12_ok, nmX12⟩, Or.inl rfl, rfl⟩ rfl
theorem o279_33 : Okp RX12 cX12_begin 4 none "begin" false 33 (sK 0 34) := ok_iconst (by decide +kernel : decode cX12_begin 33 = .ok (.iconst 0, 1)) (by decide)
theorem o279_34 : Okp RX12 cX12_begin 4 none "begin" false 34 (sSI 1 35) := ok_istore_n (by decide +kernel : decode cX12_begin 34 = .ok (.istore_n 1, 1)) rfl (by decide) (by decide)
theorem o279_35 : Okp RX12 cX12_begin 4 none "begin" false 35 (sLI 1 36) := ok_iload_n (by decide +kernel : decode cX12_begin 35 = .ok (.iload_n 1, 1)) rfl
theorem o279_36 : Okp RX12 cX12_begin 4 none "begin" false 36 (sK 6 38) := ok_bipush (by decide +kernel : decode cX12_begin 36 = .ok (.bipush 6, 2)) (by decide)
theorem o279_38 : Okp RX12 cX12_begin 4 none "begin" false 38 (sI2 3 65 41) := ok_icmp_ge (by decide +kernel : decode cX12_begin 38 = .ok (.if_icmp .ge 27, 3)) (by decide)
theorem o279_41 : Okp RX12 cX12_begin 4 none "begin" false 41 (sLR 0 42) := ok_aload_n (by decide +kernel : decode cX12_begin 41 = .ok (.aload_n 0, 1)) rfl
theorem o279_42 : Okp RX12 cX12_begin 4 none "begin" false 42 (sGR 13 8 45) := ok_getR (by decide +kernel : decode cX12_begin 42 = .ok (.getfield 29, 3)) fw_X12_29 rfl
theorem o279_45 : Okp RX12 cX12_begin 4 none "begin" false 45 (sLI 1 46) := ok_iload_n (by decide +kernel : decode cX12_begin 45 = .ok (.iload_n 1, 1)) rfl
theorem o279_46 : Okp RX12 cX12_begin 4 none "begin" false 46 (sBA 47) := ok_baload (by decide +kernel : decode cX12_begin 46 = .ok (.baload, 1))
theorem o279_47 : Okp RX12 cX12_begin 4 none "begin" false 47 (sI1 0 59 50) := ok_if_eq (by decide +kernel : decode cX12_begin 47 = .ok (.ifCond .eq 12, 3)) (by decide)
theorem o279_50 : Okp RX12 cX12_begin 4 none "begin" false 50 (sLR 0 51) := ok_aload_n (by decide +kernel : decode cX12_begin 50 = .ok (.aload_n 0, 1)) rfl
theorem o279_51 : Okp RX12 cX12_begin 4 none "begin" false 51 (sLI 1 52) := ok_iload_n (by decide +kernel : decode cX12_begin 51 = .ok (.iload_n 1, 1)) rfl
theorem o279_52 : Okp RX12 cX12_begin 4 none "begin" false 52 (sK 6 54) := ok_bipush (by decide +kernel : decode cX12_begin 52 = .ok (.bipush 6, 2)) (by decide)
theorem o279_54 : Okp RX12 cX12_begin 4 none "begin" false 54 (sLI 1 55) := ok_iload_n (by decide +kernel : decode cX12_begin 54 = .ok (.iload_n 1, 1)) rfl
theorem o279_55 : Okp RX12 cX12_begin 4 none "begin" false 55 (sB2 fAdd 56) := ok_iadd (by decide +kernel : decode cX12_begin 55 = .ok (.iadd, 1))
theorem o279_56 : Okp RX12 cX12_begin 4 none "begin" false 56 (sCV false 267 3 13 59) := ok_cv (by decide +kernel : decode cX12_begin 56 = .ok (.invokevirtual 414, 3)) mw_X12_414 rfl (by decide) wm_X12_copy wse_X12_copy (by decide) rfl
theorem o279_59 : Okp RX12 cX12_begin 4 none "begin" false 59 (sInc 1 1 62) := ok_iinc (by decide +kernel : decode cX12_begin 59 = .ok (.iinc 1 1, 3)) (by decide) (by decide)
theorem o279_62 : Okp RX12 cX12_begin 4 none "begin" false 62 (sGo 35) := ok_goto (by decide +kernel : decode cX12_begin 62 = .ok (.goto (-27), 3)) (by decide)
theorem o279_65 : Okp RX12 cX12_begin 4 none "begin" false 65 (sK 0 66) := ok_iconst (by decide +kernel : decode cX12_begin 65 = .ok (.iconst 0, 1)) (by decide)
theorem o279_66 : Okp RX12 cX12_begin 4 none "begin" false 66 (sSI 1 67) := ok_istore_n (by decide +kernel : decode cX12_begin 66 = .ok (.istore_n 1, 1)) rfl (by decide) (by decide)
theorem o279_67 : Okp RX12 cX12_begin 4 none "begin" false 67 (sLI 1 68) := ok_iload_n (by decide +kernel : decode cX12_begin 67 = .ok (.iload_n 1, 1)) rfl
theorem o279_68 : Okp RX12 cX12_begin 4 none "begin" false 68 (sK 128 71) := ok_sipush (by decide +kernel : decode cX12_begin 68 = .ok (.sipush 128, 3)) (by decide)
theorem o279_71 : Okp RX12 cX12_begin 4 none "begin" false 71 (sI2 3 87 74) := ok_icmp_ge (by decide +kernel : decode cX12_begin 71 = .ok (.if_icmp .ge 16, 3)) (by decide)
theorem o279_74 : Okp RX12 cX12_begin 4 none "begin" false 74 (sLR 0 75) := ok_aload_n (by decide +kernel : decode cX12_begin 74 = .ok (.aload_n 0, 1)) rfl
theorem o279_75 : Okp RX12 cX12_begin 4 none "begin" false 75 (sGR 13 79 78) := ok_getR (by decide +kernel : decode cX12_begin 75 = .ok (.getfield 197, 3)) fw_X12_197 rfl
theorem o279_78 : Okp RX12 cX12_begin 4 none "begin" false 78 (sLI 1 79) := ok_iload_n (by decide +kernel : decode cX12_begin 78 = .ok (.iload_n 1, 1)) rfl
theorem o279_79 : Okp RX12 cX12_begin 4 none "begin" false 79 (sK (-1) 80) := ok_iconst (by decide +kernel : decode cX12_begin 79 = .ok (.iconst (-1), 1)) (by decide)
theorem o279_80 : Okp RX12 cX12_begin 4 none "begin" false 80 (sIS 81) := ok_iastore (by decide +kernel : decode cX12_begin 80 = .ok (.iastore, 1))
theorem o279_81 : Okp RX12 cX12_begin 4 none "begin" false 81 (sInc 1 1 84) := ok_iinc (by decide +kernel : decode cX12_begin 81 = .ok (.iinc 1 1, 3)) (by decide) (by decide)
theorem o279_84 : Okp RX12 cX12_begin 4 none "begin" false 84 (sGo 67) := ok_goto (by decide +kernel : decode cX12_begin 84 = .ok (.goto (-17), 3)) (by decide)
theorem o279_87 : Okp RX12 cX12_begin 4 none "begin" false 87 (sK 0 88) := ok_iconst (by decide +kernel : decode cX12_begin 87 = .ok (.iconst 0, 1)) (by decide)
theorem o279_88 : Okp RX12 cX12_begin 4 none "begin" false 88 (sSI 1 89) := ok_istore_n (by decide +kernel : decode cX12_begin 88 = .ok (.istore_n 1, 1)) rfl (by decide) (by decide)
theorem o279_89 : Okp RX12 cX12_begin 4 none "begin" false 89 (sLI 1 90) := ok_iload_n (by decide +kernel : decode cX12_begin 89 = .ok (.iload_n 1, 1)) rfl
theorem o279_90 : Okp RX12 cX12_begin 4 none "begin" false 90 (sK 24 92) := ok_bipush (by decide +kernel : decode cX12_begin 90 = .ok (.bipush 24, 2)) (by decide)
theorem o279_92 : Okp RX12 cX12_begin 4 none "begin" false 92 (sI2 3 115 95) := ok_icmp_ge (by decide +kernel : decode cX12_begin 92 = .ok (.if_icmp .ge 23, 3)) (by decide)
theorem o279_95 : Okp RX12 cX12_begin 4 none "begin" false 95 (sLR 0 96) := ok_aload_n (by decide +kernel : decode cX12_begin 95 = .ok (.aload_n 0, 1)) rfl
theorem o279_96 : Okp RX12 cX12_begin 4 none "begin" false 96 (sGR 13 82 99) := ok_getR (by decide +kernel : decode cX12_begin 96 = .ok (.getfield 206, 3)) fw_X12_206 rfl
theorem o279_99 : Okp RX12 cX12_begin 4 none "begin" false 99 (sLI 1 100) := ok_iload_n (by decide +kernel : decode cX12_begin 99 = .ok (.iload_n 1, 1)) rfl
theorem o279_100 : Okp RX12 cX12_begin 4 none "begin" false 100 (sK (-1) 101) := ok_iconst (by decide +kernel : decode cX12_begin 100 = .ok (.iconst (-1), 1)) (by decide)
theorem o279_101 : Okp RX12 cX12_begin 4 none "begin" false 101 (sIS 102) := ok_iastore (by decide +kernel : decode cX12_begin 101 = .ok (.iastore, 1))
theorem o279_102 : Okp RX12 cX12_begin 4 none "begin" false 102 (sLR 0 103) := ok_aload_n (by decide +kernel : decode cX12_begin 102 = .ok (.aload_n 0, 1)) rfl
theorem o279_103 : Okp RX12 cX12_begin 4 none "begin" false 103 (sGR 13 84 106) := ok_getR (by decide +kernel : decode cX12_begin 103 = .ok (.getfield 212, 3)) fw_X12_212 rfl
theorem o279_106 : Okp RX12 cX12_begin 4 none "begin" false 106 (sLI 1 107) := ok_iload_n (by decide +kernel : decode cX12_begin 106 = .ok (.iload_n 1, 1)) rfl
theorem o279_107 : Okp RX12 cX12_begin 4 none "begin" false 107 (sK 0 108) := ok_iconst (by decide +kernel : decode cX12_begin 107 = .ok (.iconst 0, 1)) (by decide)
theorem o279_108 : Okp RX12 cX12_begin 4 none "begin" false 108 (sIS 109) := ok_iastore (by decide +kernel : decode cX12_begin 108 = .ok (.iastore, 1))
theorem o279_109 : Okp RX12 cX12_begin 4 none "begin" false 109 (sInc 1 1 112) := ok_iinc (by decide +kernel : decode cX12_begin 109 = .ok (.iinc 1 1, 3)) (by decide) (by decide)
theorem o279_112 : Okp RX12 cX12_begin 4 none "begin" false 112 (sGo 89) := ok_goto (by decide +kernel : decode cX12_begin 112 = .ok (.goto (-23), 3)) (by decide)
theorem o279_115 : Okp RX12 cX12_begin 4 none "begin" false 115 (sK 0 116) := ok_iconst (by decide +kernel : decode cX12_begin 115 = .ok (.iconst 0, 1)) (by decide)
theorem o279_116 : Okp RX12 cX12_begin 4 none "begin" false 116 (sSI 1 117) := ok_istore_n (by decide +kernel : decode cX12_begin 116 = .ok (.istore_n 1, 1)) rfl (by decide) (by decide)
theorem o279_117 : Okp RX12 cX12_begin 4 none "begin" false 117 (sLI 1 118) := ok_iload_n (by decide +kernel : decode cX12_begin 117 = .ok (.iload_n 1, 1)) rfl
theorem o279_118 : Okp RX12 cX12_begin 4 none "begin" false 118 (sK 12 120) := ok_bipush (by decide +kernel : decode cX12_begin 118 = .ok (.bipush 12, 2)) (by decide)
theorem o279_120 : Okp RX12 cX12_begin 4 none "begin" false 120 (sI2 3 136 123) := ok_icmp_ge (by decide +kernel : decode cX12_begin 120 = .ok (.if_icmp .ge 16, 3)) (by decide)
theorem o279_123 : Okp RX12 cX12_begin 4 none "begin" false 123 (sLR 0 124) := ok_aload_n (by decide +kernel : decode cX12_begin 123 = .ok (.aload_n 0, 1)) rfl
theorem o279_124 : Okp RX12 cX12_begin 4 none "begin" false 124 (sGR 13 59 127) := ok_getR (by decide +kernel : decode cX12_begin 124 = .ok (.getfield 137, 3)) fw_X12_137 rfl
theorem o279_127 : Okp RX12 cX12_begin 4 none "begin" false 127 (sLI 1 128) := ok_iload_n (by decide +kernel : decode cX12_begin 127 = .ok (.iload_n 1, 1)) rfl
theorem o279_128 : Okp RX12 cX12_begin 4 none "begin" false 128 (sK 4 129) := ok_iconst (by decide +kernel : decode cX12_begin 128 = .ok (.iconst 4, 1)) (by decide)
theorem o279_129 : Okp RX12 cX12_begin 4 none "begin" false 129 (sIS 130) := ok_iastore (by decide +kernel : decode cX12_begin 129 = .ok (.iastore, 1))
theorem o279_130 : Okp RX12 cX12_begin 4 none "begin" false 130 (sInc 1 1 133) := ok_iinc (by decide +kernel : decode cX12_begin 130 = .ok (.iinc 1 1, 3)) (by decide) (by decide)
theorem o279_133 : Okp RX12 cX12_begin 4 none "begin" false 133 (sGo 117) := ok_goto (by decide +kernel : decode cX12_begin 133 = .ok (.goto (-16), 3)) (by decide)
theorem o279_136 : Okp RX12 cX12_begin 4 none "begin" false 136 (sK 0 137) := ok_iconst (by decide +kernel : decode cX12_begin 136 = .ok (.iconst 0, 1)) (by decide)
theorem o279_137 : Okp RX12 cX12_begin 4 none "begin" false 137 (sSI 1 138) := ok_istore_n (by decide +kernel : decode cX12_begin 137 = .ok (.istore_n 1, 1)) rfl (by decide) (by decide)
theorem o279_138 : Okp RX12 cX12_begin 4 none "begin" false 138 (sLI 1 139) := ok_iload_n (by decide +kernel : decode cX12_begin 138 = .ok (.iload_n 1, 1)) rfl
theorem o279_139 : Okp RX12 cX12_begin 4 none "begin" false 139 (sLR 0 140) := ok_aload_n (by decide +kernel : decode cX12_begin 139 = .ok (.aload_n 0, 1)) rfl
theorem o279_140 : Okp RX12 cX12_begin 4 none "begin" false 140 (sGI 13 48 143) := ok_getI (by decide +kernel : decode cX12_begin 140 = .ok (.getfield 432, 3)) fw_X12_432 rfl
theorem o279_143 : Okp RX12 cX12_begin 4 none "begin" false 143 (sI2 3 254 146) := ok_icmp_ge (by decide +kernel : decode cX12_begin 143 = .ok (.if_icmp .ge 111, 3)) (by decide)
theorem o279_146 : Okp RX12 cX12_begin 4 none "begin" false 146 (sLR 0 147) := ok_aload_n (by decide +kernel : decode cX12_begin 146 = .ok (.aload_n 0, 1)) rfl
theorem o279_147 : Okp RX12 cX12_begin 4 none "begin" false 147 (sLI 1 148) := ok_iload_n (by decide +kernel : decode cX12_begin 147 = .ok (.iload_n 1, 1)) rfl
theorem o279_148 : Okp RX12 cX12_begin 4 none "begin" false 148 (sK 6 150) := ok_bipush (by decide +kernel : decode cX12_begin 148 = .ok (.bipush 6, 2)) (by decide)
theorem o279_150 : Okp RX12 cX12_begin 4 none "begin" false 150 (sLR 0 151) := ok_aload_n (by decide +kernel : decode cX12_begin 150 = .ok (.aload_n 0, 1)) rfl
theorem o279_151 : Okp RX12 cX12_begin 4 none "begin" false 151 (sGR 13 39 154) := ok_getR (by decide +kernel : decode cX12_begin 151 = .ok (.getfield 101, 3)) fw_X12_101 rfl
theorem o279_154 : Okp RX12 cX12_begin 4 none "begin" false 154 (sLI 1 155) := ok_iload_n (by decide +kernel : decode cX12_begin 154 = .ok (.iload_n 1, 1)) rfl
theorem o279_155 : Okp RX12 cX12_begin 4 none "begin" false 155 (sIA 156) := ok_iaload (by decide +kernel : decode cX12_begin 155 = .ok (.iaload, 1))
theorem o279_156 : Okp RX12 cX12_begin 4 none "begin" false 156 (sB2 fAdd 157) := ok_iadd (by decide +kernel : decode cX12_begin 156 = .ok (.iadd, 1))
theorem o279_157 : Okp RX12 cX12_begin 4 none "begin" false 157 (sLR 0 158) := ok_aload_n (by decide +kernel : decode cX12_begin 157 = .ok (.aload_n 0, 1)) rfl
theorem o279_158 : Okp RX12 cX12_begin 4 none "begin" false 158 (sGR 13 40 161) := ok_getR (by decide +kernel : decode cX12_begin 158 = .ok (.getfield 104, 3)) fw_X12_104 rfl
theorem o279_161 : Okp RX12 cX12_begin 4 none "begin" false 161 (sLI 1 162) := ok_iload_n (by decide +kernel : decode cX12_begin 161 = .ok (.iload_n 1, 1)) rfl
theorem o279_162 : Okp RX12 cX12_begin 4 none "begin" false 162 (sIA 163) := ok_iaload (by decide +kernel : decode cX12_begin 162 = .ok (.iaload, 1))
theorem o279_163 : Okp RX12 cX12_begin 4 none "begin" false 163 (sK 16 165) := ok_bipush (by decide +kernel : decode cX12_begin 163 = .ok (.bipush 16, 2)) (by decide)
theorem o279_165 : Okp RX12 cX12_begin 4 none "begin" false 165 (sLR 0 166) := ok_aload_n (by decide +kernel : decode cX12_begin 165 = .ok (.aload_n 0, 1)) rfl
theorem o279_166 : Okp RX12 cX12_begin 4 none "begin" false 166 (sGR 13 41 169) := ok_getR (by decide +kernel : decode cX12_begin 166 = .ok (.getfield 107, 3)) fw_X12_107 rfl
theorem o279_169 : Okp RX12 cX12_begin 4 none "begin" false 169 (sLI 1 170) := ok_iload_n (by decide +kernel : decode cX12_begin 169 = .ok (.iload_n 1, 1)) rfl
theorem o279_170 : Okp RX12 cX12_begin 4 none "begin" false 170 (sIA 171) := ok_iaload (by decide +kernel : decode cX12_begin 170 = .ok (.iaload, 1))
theorem o279_171 : Okp RX12 cX12_begin 4 none "begin" false 171 (sB2 fMul 172) := ok_imul (by decide +kernel : decode cX12_begin 171 = .ok (.imul, 1))
theorem o279_172 : Okp RX12 cX12_begin 4 none "begin" false 172 (sCV false 280 5 13 175) := ok_cv (by decide +kernel : decode cX12_begin 172 = .ok (.invokevirtual 475, 3)) mw_X12_475 rfl (by decide) wm_X12_start wse_X12_start (by decide) rfl
theorem o279_175 : Okp RX12 cX12_begin 4 none "begin" false 175 (sK 10 177) := ok_bipush (by decide +kernel : decode cX12_begin 175 = .ok (.bipush 10, 2)) (by decide)
theorem o279_177 : Okp RX12 cX12_begin 4 none "begin" false 177 (sLR 0 178) := ok_aload_n (by decide +kernel : decode cX12_begin 177 = .ok (.aload_n 0, 1)) rfl
theorem o279_178 : Okp RX12 cX12_begin 4 none "begin" false 178 (sGR 13 61 181) := ok_getR (by decide +kernel : decode cX12_begin 178 = .ok (.getfield 143, 3)) fw_X12_143 rfl
theorem o279_181 : Okp RX12 cX12_begin 4 none "begin" false 181 (sLI 1 182) := ok_iload_n (by decide +kernel : decode cX12_begin 181 = .ok (.iload_n 1, 1)) rfl
theorem o279_182 : Okp RX12 cX12_begin 4 none "begin" false 182 (sIA 183) := ok_iaload (by decide +kernel : decode cX12_begin 182 = .ok (.iaload, 1))
theorem o279_183 : Okp RX12 cX12_begin 4 none "begin" false 183 (sB2 fMul 184) := ok_imul (by decide +kernel : decode cX12_begin 183 = .ok (.imul, 1))
theorem o279_184 : Okp RX12 cX12_begin 4 none "begin" false 184 (sLR 0 185) := ok_aload_n (by decide +kernel : decode cX12_begin 184 = .ok (.aload_n 0, 1)) rfl
theorem o279_185 : Okp RX12 cX12_begin 4 none "begin" false 185 (sGR 13 40 188) := ok_getR (by decide +kernel : decode cX12_begin 185 = .ok (.getfield 104, 3)) fw_X12_104 rfl
theorem o279_188 : Okp RX12 cX12_begin 4 none "begin" false 188 (sLI 1 189) := ok_iload_n (by decide +kernel : decode cX12_begin 188 = .ok (.iload_n 1, 1)) rfl
theorem o279_189 : Okp RX12 cX12_begin 4 none "begin" false 189 (sIA 190) := ok_iaload (by decide +kernel : decode cX12_begin 189 = .ok (.iaload, 1))
theorem o279_190 : Okp RX12 cX12_begin 4 none "begin" false 190 (sB2 fAdd 191) := ok_iadd (by decide +kernel : decode cX12_begin 190 = .ok (.iadd, 1))
theorem o279_191 : Okp RX12 cX12_begin 4 none "begin" false 191 (sSI 2 192) := ok_istore_n (by decide +kernel : decode cX12_begin 191 = .ok (.istore_n 2, 1)) rfl (by decide) (by decide)
theorem o279_192 : Okp RX12 cX12_begin 4 none "begin" false 192 (sK 0 193) := ok_iconst (by decide +kernel : decode cX12_begin 192 = .ok (.iconst 0, 1)) (by decide)
theorem o279_193 : Okp RX12 cX12_begin 4 none "begin" false 193 (sSI 3 194) := ok_istore_n (by decide +kernel : decode cX12_begin 193 = .ok (.istore_n 3, 1)) rfl (by decide) (by decide)
theorem o279_194 : Okp RX12 cX12_begin 4 none "begin" false 194 (sLI 3 195) := ok_iload_n (by decide +kernel : decode cX12_begin 194 = .ok (.iload_n 3, 1)) rfl
theorem o279_195 : Okp RX12 cX12_begin 4 none "begin" false 195 (sLR 0 196) := ok_aload_n (by decide +kernel : decode cX12_begin 195 = .ok (.aload_n 0, 1)) rfl
theorem o279_196 : Okp RX12 cX12_begin 4 none "begin" false 196 (sGR 13 16 199) := ok_getR (by decide +kernel : decode cX12_begin 196 = .ok (.getfield 54, 3)) fw_X12_54 rfl
theorem o279_199 : Okp RX12 cX12_begin 4 none "begin" false 199 (sLI 2 200) := ok_iload_n (by decide +kernel : decode cX12_begin 199 = .ok (.iload_n 2, 1)) rfl
theorem o279_200 : Okp RX12 cX12_begin 4 none "begin" false 200 (sIA 201) := ok_iaload (by decide +kernel : decode cX12_begin 200 = .ok (.iaload, 1))
theorem o279_201 : Okp RX12 cX12_begin 4 none "begin" false 201 (sI2 3 248 204) := ok_icmp_ge (by decide +kernel : decode cX12_begin 201 = .ok (.if_icmp .ge 47, 3)) (by decide)
theorem o279_204 : Okp RX12 cX12_begin 4 none "begin" false 204 (sLR 0 205) := ok_aload_n (by decide +kernel : decode cX12_begin 204 = .ok (.aload_n 0, 1)) rfl
theorem o279_205 : Okp RX12 cX12_begin 4 none "begin" false 205 (sLI 1 206) := ok_iload_n (by decide +kernel : decode cX12_begin 205 = .ok (.iload_n 1, 1)) rfl
theorem o279_206 : Okp RX12 cX12_begin 4 none "begin" false 206 (sK 0 207) := ok_iconst (by decide +kernel : decode cX12_begin 206 = .ok (.iconst 0, 1)) (by decide)
theorem o279_207 : Okp RX12 cX12_begin 4 none "begin" false 207 (sLI 3 208) := ok_iload_n (by decide +kernel : decode cX12_begin 207 = .ok (.iload_n 3, 1)) rfl
theorem o279_208 : Okp RX12 cX12_begin 4 none "begin" false 208 (sCS false 283 3 211) := ok_cs (by decide +kernel : decode cX12_begin 208 = .ok (.invokestatic 478, 3)) mw_X12_478 wt_X12_local (by decide) rfl
theorem o279_211 : Okp RX12 cX12_begin 4 none "begin" false 211 (sLR 0 212) := ok_aload_n (by decide +kernel : decode cX12_begin 211 = .ok (.aload_n 0, 1)) rfl
theorem o279_212 : Okp RX12 cX12_begin 4 none "begin" false 212 (sGR 13 42 215) := ok_getR (by decide +kernel : decode cX12_begin 212 = .ok (.getfield 110, 3)) fw_X12_110 rfl
theorem o279_215 : Okp RX12 cX12_begin 4 none "begin" false 215 (sK 4 216) := ok_iconst (by decide +kernel : decode cX12_begin 215 = .ok (.iconst 4, 1)) (by decide)
theorem o279_216 : Okp RX12 cX12_begin 4 none "begin" false 216 (sLI 1 217) := ok_iload_n (by decide +kernel : decode cX12_begin 216 = .ok (.iload_n 1, 1)) rfl
theorem o279_217 : Okp RX12 cX12_begin 4 none "begin" false 217 (sB2 fMul 218) := ok_imul (by decide +kernel : decode cX12_begin 217 = .ok (.imul, 1))
theorem o279_218 : Okp RX12 cX12_begin 4 none "begin" false 218 (sLI 3 219) := ok_iload_n (by decide +kernel : decode cX12_begin 218 = .ok (.iload_n 3, 1)) rfl
theorem o279_219 : Okp RX12 cX12_begin 4 none "begin" false 219 (sB2 fAdd 220) := ok_iadd (by decide +kernel : decode cX12_begin 219 = .ok (.iadd, 1))
theorem o279_220 : Okp RX12 cX12_begin 4 none "begin" false 220 (sIA 221) := ok_iaload (by decide +kernel : decode cX12_begin 220 = .ok (.iaload, 1))
theorem o279_221 : Okp RX12 cX12_begin 4 none "begin" false 221 (sLR 0 222) := ok_aload_n (by decide +kernel : decode cX12_begin 221 = .ok (.aload_n 0, 1)) rfl
theorem o279_222 : Okp RX12 cX12_begin 4 none "begin" false 222 (sGR 13 17 225) := ok_getR (by decide +kernel : decode cX12_begin 222 = .ok (.getfield 57, 3)) fw_X12_57 rfl
theorem o279_225 : Okp RX12 cX12_begin 4 none "begin" false 225 (sK 4 226) := ok_iconst (by decide +kernel : decode cX12_begin 225 = .ok (.iconst 4, 1)) (by decide)
theorem o279_226 : Okp RX12 cX12_begin 4 none "begin" false 226 (sLI 2 227) := ok_iload_n (by decide +kernel : decode cX12_begin 226 = .ok (.iload_n 2, 1)) rfl
theorem o279_227 : Okp RX12 cX12_begin 4 none "begin" false 227 (sB2 fMul 228) := ok_imul (by decide +kernel : decode cX12_begin 227 = .ok (.imul, 1))
theorem o279_228 : Okp RX12 cX12_begin 4 none "begin" false 228 (sLI 3 229) := ok_iload_n (by decide +kernel : decode cX12_begin 228 = .ok (.iload_n 3, 1)) rfl
theorem o279_229 : Okp RX12 cX12_begin 4 none "begin" false 229 (sB2 fAdd 230) := ok_iadd (by decide +kernel : decode cX12_begin 229 = .ok (.iadd, 1))
theorem o279_230 : Okp RX12 cX12_begin 4 none "begin" false 230 (sIA 231) := ok_iaload (by decide +kernel : decode cX12_begin 230 = .ok (.iaload, 1))
theorem o279_231 : Okp RX12 cX12_begin 4 none "begin" false 231 (sI1 1 238 234) := ok_if_ne (by decide +kernel : decode cX12_begin 231 = .ok (.ifCond .ne 7, 3)) (by decide)
theorem o279_234 : Okp RX12 cX12_begin 4 none "begin" false 234 (sK 0 235) := ok_iconst (by decide +kernel : decode cX12_begin 234 = .ok (.iconst 0, 1)) (by decide)
theorem o279_235 : Okp RX12 cX12_begin 4 none "begin" false 235 (sGo 239) := ok_goto (by decide +kernel : decode cX12_begin 235 = .ok (.goto 4, 3)) (by decide)
theorem o279_238 : Okp RX12 cX12_begin 4 none "begin" false 238 (sK 3 239) := ok_iconst (by decide +kernel : decode cX12_begin 238 = .ok (.iconst 3, 1)) (by decide)
theorem o279_239 : Okp RX12 cX12_begin 4 none "begin" false 239 (sCV false 285 4 13 242) := ok_cv (by decide +kernel : decode cX12_begin 239 = .ok (.invokevirtual 481, 3)) mw_X12_481 rfl (by decide) wm_X12_set wse_X12_set (by decide) rfl
theorem o279_242 : Okp RX12 cX12_begin 4 none "begin" false 242 (sInc 3 1 245) := ok_iinc (by decide +kernel : decode cX12_begin 242 = .ok (.iinc 3 1, 3)) (by decide) (by decide)
theorem o279_245 : Okp RX12 cX12_begin 4 none "begin" false 245 (sGo 194) := ok_goto (by decide +kernel : decode cX12_begin 245 = .ok (.goto (-51), 3)) (by decide)
theorem o279_248 : Okp RX12 cX12_begin 4 none "begin" false 248 (sInc 1 1 251) := ok_iinc (by decide +kernel : decode cX12_begin 248 = .ok (.iinc 1 1, 3)) (by decide) (by decide)
theorem o279_251 : Okp RX12 cX12_begin 4 none "begin" false 251 (sGo 138) := ok_goto (by decide +kernel : decode cX12_begin 251 = .ok (.goto (-113), 3)) (by decide)
theorem o279_254 : Okp RX12 cX12_begin 4 none "begin" false 254 (sK 0 255) := ok_iconst (by decide +kernel : decode cX12_begin 254 = .ok (.iconst 0, 1)) (by decide)
theorem o279_255 : Okp RX12 cX12_begin 4 none "begin" false 255 (sSI 1 256) := ok_istore_n (by decide +kernel : decode cX12_begin 255 = .ok (.istore_n 1, 1)) rfl (by decide) (by decide)
theorem o279_256 : Okp RX12 cX12_begin 4 none "begin" false 256 (sLI 1 257) := ok_iload_n (by decide +kernel : decode cX12_begin 256 = .ok (.iload_n 1, 1)) rfl
theorem o279_257 : Okp RX12 cX12_begin 4 none "begin" false 257 (sLR 0 258) := ok_aload_n (by decide +kernel : decode cX12_begin 257 = .ok (.aload_n 0, 1)) rfl
theorem o279_258 : Okp RX12 cX12_begin 4 none "begin" false 258 (sGI 13 49 261) := ok_getI (by decide +kernel : decode cX12_begin 258 = .ok (.getfield 435, 3)) fw_X12_435 rfl
theorem o279_261 : Okp RX12 cX12_begin 4 none "begin" false 261 (sI2 3 372 264) := ok_icmp_ge (by decide +kernel : decode cX12_begin 261 = .ok (.if_icmp .ge 111, 3)) (by decide)
theorem o279_264 : Okp RX12 cX12_begin 4 none "begin" false 264 (sK 2 265) := ok_iconst (by decide +kernel : decode cX12_begin 264 = .ok (.iconst 2, 1)) (by decide)
theorem o279_265 : Okp RX12 cX12_begin 4 none "begin" false 265 (sLR 0 266) := ok_aload_n (by decide +kernel : decode cX12_begin 265 = .ok (.aload_n 0, 1)) rfl
theorem o279_266 : Okp RX12 cX12_begin 4 none "begin" false 266 (sGR 13 47 269) := ok_getR (by decide +kernel : decode cX12_begin 266 = .ok (.getfield 125, 3)) fw_X12_125 rfl
theorem o279_269 : Okp RX12 cX12_begin 4 none "begin" false 269 (sLI 1 270) := ok_iload_n (by decide +kernel : decode cX12_begin 269 = .ok (.iload_n 1, 1)) rfl
theorem o279_270 : Okp RX12 cX12_begin 4 none "begin" false 270 (sIA 271) := ok_iaload (by decide +kernel : decode cX12_begin 270 = .ok (.iaload, 1))
theorem o279_271 : Okp RX12 cX12_begin 4 none "begin" false 271 (sB2 fMul 272) := ok_imul (by decide +kernel : decode cX12_begin 271 = .ok (.imul, 1))
theorem o279_272 : Okp RX12 cX12_begin 4 none "begin" false 272 (sSI 2 273) := ok_istore_n (by decide +kernel : decode cX12_begin 272 = .ok (.istore_n 2, 1)) rfl (by decide) (by decide)
theorem o279_273 : Okp RX12 cX12_begin 4 none "begin" false 273 (sLI 2 274) := ok_iload_n (by decide +kernel : decode cX12_begin 273 = .ok (.iload_n 2, 1)) rfl
theorem o279_274 : Okp RX12 cX12_begin 4 none "begin" false 274 (sK 2 275) := ok_iconst (by decide +kernel : decode cX12_begin 274 = .ok (.iconst 2, 1)) (by decide)
theorem o279_275 : Okp RX12 cX12_begin 4 none "begin" false 275 (sLR 0 276) := ok_aload_n (by decide +kernel : decode cX12_begin 275 = .ok (.aload_n 0, 1)) rfl
theorem o279_276 : Okp RX12 cX12_begin 4 none "begin" false 276 (sGR 13 47 279) := ok_getR (by decide +kernel : decode cX12_begin 276 = .ok (.getfield 125, 3)) fw_X12_125 rfl
theorem o279_279 : Okp RX12 cX12_begin 4 none "begin" false 279 (sLI 1 280) := ok_iload_n (by decide +kernel : decode cX12_begin 279 = .ok (.iload_n 1, 1)) rfl
theorem o279_280 : Okp RX12 cX12_begin 4 none "begin" false 280 (sIA 281) := ok_iaload (by decide +kernel : decode cX12_begin 280 = .ok (.iaload, 1))
theorem o279_281 : Okp RX12 cX12_begin 4 none "begin" false 281 (sB2 fMul 282) := ok_imul (by decide +kernel : decode cX12_begin 281 = .ok (.imul, 1))
theorem o279_282 : Okp RX12 cX12_begin 4 none "begin" false 282 (sK 2 283) := ok_iconst (by decide +kernel : decode cX12_begin 282 = .ok (.iconst 2, 1)) (by decide)
theorem o279_283 : Okp RX12 cX12_begin 4 none "begin" false 283 (sB2 fAdd 284) := ok_iadd (by decide +kernel : decode cX12_begin 283 = .ok (.iadd, 1))
theorem o279_284 : Okp RX12 cX12_begin 4 none "begin" false 284 (sI2 3 366 287) := ok_icmp_ge (by decide +kernel : decode cX12_begin 284 = .ok (.if_icmp .ge 82, 3)) (by decide)
theorem o279_287 : Okp RX12 cX12_begin 4 none "begin" false 287 (sK 2 288) := ok_iconst (by decide +kernel : decode cX12_begin 287 = .ok (.iconst 2, 1)) (by decide)
theorem o279_288 : Okp RX12 cX12_begin 4 none "begin" false 288 (sLI 1 289) := ok_iload_n (by decide +kernel : decode cX12_begin 288 = .ok (.iload_n 1, 1)) rfl
theorem o279_289 : Okp RX12 cX12_begin 4 none "begin" false 289 (sB2 fMul 290) := ok_imul (by decide +kernel : decode cX12_begin 289 = .ok (.imul, 1))
theorem o279_290 : Okp RX12 cX12_begin 4 none "begin" false 290 (sLR 0 291) := ok_aload_n (by decide +kernel : decode cX12_begin 290 = .ok (.aload_n 0, 1)) rfl
theorem o279_291 : Okp RX12 cX12_begin 4 none "begin" false 291 (sGR 13 45 294) := ok_getR (by decide +kernel : decode cX12_begin 291 = .ok (.getfield 119, 3)) fw_X12_119 rfl
theorem o279_294 : Okp RX12 cX12_begin 4 none "begin" false 294 (sLI 2 295) := ok_iload_n (by decide +kernel : decode cX12_begin 294 = .ok (.iload_n 2, 1)) rfl
theorem o279_295 : Okp RX12 cX12_begin 4 none "begin" false 295 (sIA 296) := ok_iaload (by decide +kernel : decode cX12_begin 295 = .ok (.iaload, 1))
theorem o279_296 : Okp RX12 cX12_begin 4 none "begin" false 296 (sB2 fAdd 297) := ok_iadd (by decide +kernel : decode cX12_begin 296 = .ok (.iadd, 1))
theorem o279_297 : Okp RX12 cX12_begin 4 none "begin" false 297 (sSI 3 298) := ok_istore_n (by decide +kernel : decode cX12_begin 297 = .ok (.istore_n 3, 1)) rfl (by decide) (by decide)
theorem o279_298 : Okp RX12 cX12_begin 4 none "begin" false 298 (sLR 0 299) := ok_aload_n (by decide +kernel : decode cX12_begin 298 = .ok (.aload_n 0, 1)) rfl
theorem o279_299 : Okp RX12 cX12_begin 4 none "begin" false 299 (sGR 13 82 302) := ok_getR (by decide +kernel : decode cX12_begin 299 = .ok (.getfield 206, 3)) fw_X12_206 rfl
theorem o279_302 : Okp RX12 cX12_begin 4 none "begin" false 302 (sLI 3 303) := ok_iload_n (by decide +kernel : decode cX12_begin 302 = .ok (.iload_n 3, 1)) rfl
theorem o279_303 : Okp RX12 cX12_begin 4 none "begin" false 303 (sK 0 304) := ok_iconst (by decide +kernel : decode cX12_begin 303 = .ok (.iconst 0, 1)) (by decide)
theorem o279_304 : Okp RX12 cX12_begin 4 none "begin" false 304 (sIS 305) := ok_iastore (by decide +kernel : decode cX12_begin 304 = .ok (.iastore, 1))
theorem o279_305 : Okp RX12 cX12_begin 4 none "begin" false 305 (sLR 0 306) := ok_aload_n (by decide +kernel : decode cX12_begin 305 = .ok (.aload_n 0, 1)) rfl
theorem o279_306 : Okp RX12 cX12_begin 4 none "begin" false 306 (sGR 13 88 309) := ok_getR (by decide +kernel : decode cX12_begin 306 = .ok (.getfield 224, 3)) fw_X12_224 rfl
theorem o279_309 : Okp RX12 cX12_begin 4 none "begin" false 309 (sLI 3 310) := ok_iload_n (by decide +kernel : decode cX12_begin 309 = .ok (.iload_n 3, 1)) rfl
theorem o279_310 : Okp RX12 cX12_begin 4 none "begin" false 310 (sLR 0 311) := ok_aload_n (by decide +kernel : decode cX12_begin 310 = .ok (.aload_n 0, 1)) rfl
theorem o279_311 : Okp RX12 cX12_begin 4 none "begin" false 311 (sGR 13 44 314) := ok_getR (by decide +kernel : decode cX12_begin 311 = .ok (.getfield 116, 3)) fw_X12_116 rfl
theorem o279_314 : Okp RX12 cX12_begin 4 none "begin" false 314 (sLI 2 315) := ok_iload_n (by decide +kernel : decode cX12_begin 314 = .ok (.iload_n 2, 1)) rfl
theorem o279_315 : Okp RX12 cX12_begin 4 none "begin" false 315 (sIA 316) := ok_iaload (by decide +kernel : decode cX12_begin 315 = .ok (.iaload, 1))
theorem o279_316 : Okp RX12 cX12_begin 4 none "begin" false 316 (sK 24 318) := ok_bipush (by decide +kernel : decode cX12_begin 316 = .ok (.bipush 24, 2)) (by decide)
theorem o279_318 : Okp RX12 cX12_begin 4 none "begin" false 318 (sB2 fAdd 319) := ok_iadd (by decide +kernel : decode cX12_begin 318 = .ok (.iadd, 1))
theorem o279_319 : Okp RX12 cX12_begin 4 none "begin" false 319 (sIS 320) := ok_iastore (by decide +kernel : decode cX12_begin 319 = .ok (.iastore, 1))
theorem o279_320 : Okp RX12 cX12_begin 4 none "begin" false 320 (sLR 0 321) := ok_aload_n (by decide +kernel : decode cX12_begin 320 = .ok (.aload_n 0, 1)) rfl
theorem o279_321 : Okp RX12 cX12_begin 4 none "begin" false 321 (sGR 13 83 324) := ok_getR (by decide +kernel : decode cX12_begin 321 = .ok (.getfield 209, 3)) fw_X12_209 rfl
theorem o279_324 : Okp RX12 cX12_begin 4 none "begin" false 324 (sLI 3 325) := ok_iload_n (by decide +kernel : decode cX12_begin 324 = .ok (.iload_n 3, 1)) rfl
theorem o279_325 : Okp RX12 cX12_begin 4 none "begin" false 325 (sLR 0 326) := ok_aload_n (by decide +kernel : decode cX12_begin 325 = .ok (.aload_n 0, 1)) rfl
theorem o279_326 : Okp RX12 cX12_begin 4 none "begin" false 326 (sGR 13 46 329) := ok_getR (by decide +kernel : decode cX12_begin 326 = .ok (.getfield 122, 3)) fw_X12_122 rfl
theorem o279_329 : Okp RX12 cX12_begin 4 none "begin" false 329 (sLI 2 330) := ok_iload_n (by decide +kernel : decode cX12_begin 329 = .ok (.iload_n 2, 1)) rfl
theorem o279_330 : Okp RX12 cX12_begin 4 none "begin" false 330 (sIA 331) := ok_iaload (by decide +kernel : decode cX12_begin 330 = .ok (.iaload, 1))
theorem o279_331 : Okp RX12 cX12_begin 4 none "begin" false 331 (sK 4 332) := ok_iconst (by decide +kernel : decode cX12_begin 331 = .ok (.iconst 4, 1)) (by decide)
theorem o279_332 : Okp RX12 cX12_begin 4 none "begin" false 332 (sD2 fDiv 333) := ok_idiv (by decide +kernel : decode cX12_begin 332 = .ok (.idiv, 1))
theorem o279_333 : Okp RX12 cX12_begin 4 none "begin" false 333 (sIS 334) := ok_iastore (by decide +kernel : decode cX12_begin 333 = .ok (.iastore, 1))
theorem o279_334 : Okp RX12 cX12_begin 4 none "begin" false 334 (sLR 0 335) := ok_aload_n (by decide +kernel : decode cX12_begin 334 = .ok (.aload_n 0, 1)) rfl
theorem o279_335 : Okp RX12 cX12_begin 4 none "begin" false 335 (sLR 0 336) := ok_aload_n (by decide +kernel : decode cX12_begin 335 = .ok (.aload_n 0, 1)) rfl
theorem o279_336 : Okp RX12 cX12_begin 4 none "begin" false 336 (sGR 13 46 339) := ok_getR (by decide +kernel : decode cX12_begin 336 = .ok (.getfield 122, 3)) fw_X12_122 rfl
theorem o279_339 : Okp RX12 cX12_begin 4 none "begin" false 339 (sLI 2 340) := ok_iload_n (by decide +kernel : decode cX12_begin 339 = .ok (.iload_n 2, 1)) rfl
theorem o279_340 : Okp RX12 cX12_begin 4 none "begin" false 340 (sIA 341) := ok_iaload (by decide +kernel : decode cX12_begin 340 = .ok (.iaload, 1))
theorem o279_341 : Okp RX12 cX12_begin 4 none "begin" false 341 (sK 4 342) := ok_iconst (by decide +kernel : decode cX12_begin 341 = .ok (.iconst 4, 1)) (by decide)
theorem o279_342 : Okp RX12 cX12_begin 4 none "begin" false 342 (sD2 fDiv 343) := ok_idiv (by decide +kernel : decode cX12_begin 342 = .ok (.idiv, 1))
theorem o279_343 : Okp RX12 cX12_begin 4 none "begin" false 343 (sK 0 344) := ok_iconst (by decide +kernel : decode cX12_begin 343 = .ok (.iconst 0, 1)) (by decide)
theorem o279_344 : Okp RX12 cX12_begin 4 none "begin" false 344 (sLR 0 345) := ok_aload_n (by decide +kernel : decode cX12_begin 344 = .ok (.aload_n 0, 1)) rfl
theorem o279_345 : Okp RX12 cX12_begin 4 none "begin" false 345 (sGR 13 46 348) := ok_getR (by decide +kernel : decode cX12_begin 345 = .ok (.getfield 122, 3)) fw_X12_122 rfl
theorem o279_348 : Okp RX12 cX12_begin 4 none "begin" false 348 (sLI 2 349) := ok_iload_n (by decide +kernel : decode cX12_begin 348 = .ok (.iload_n 2, 1)) rfl
theorem o279_349 : Okp RX12 cX12_begin 4 none "begin" false 349 (sIA 350) := ok_iaload (by decide +kernel : decode cX12_begin 349 = .ok (.iaload, 1))
theorem o279_350 : Okp RX12 cX12_begin 4 none "begin" false 350 (sK 4 351) := ok_iconst (by decide +kernel : decode cX12_begin 350 = .ok (.iconst 4, 1)) (by decide)
theorem o279_351 : Okp RX12 cX12_begin 4 none "begin" false 351 (sD2 fRem 352) := ok_irem (by decide +kernel : decode cX12_begin 351 = .ok (.irem, 1))
theorem o279_352 : Okp RX12 cX12_begin 4 none "begin" false 352 (sCS false 283 3 355) := ok_cs (by decide +kernel : decode cX12_begin 352 = .ok (.invokestatic 478, 3)) mw_X12_478 wt_X12_local (by decide) rfl
theorem o279_355 : Okp RX12 cX12_begin 4 none "begin" false 355 (sLI 3 356) := ok_iload_n (by decide +kernel : decode cX12_begin 355 = .ok (.iload_n 3, 1)) rfl
theorem o279_356 : Okp RX12 cX12_begin 4 none "begin" false 356 (sK 3 357) := ok_iconst (by decide +kernel : decode cX12_begin 356 = .ok (.iconst 3, 1)) (by decide)
theorem o279_357 : Okp RX12 cX12_begin 4 none "begin" false 357 (sCV false 285 4 13 360) := ok_cv (by decide +kernel : decode cX12_begin 357 = .ok (.invokevirtual 481, 3)) mw_X12_481 rfl (by decide) wm_X12_set wse_X12_set (by decide) rfl
theorem o279_360 : Okp RX12 cX12_begin 4 none "begin" false 360 (sInc 2 1 363) := ok_iinc (by decide +kernel : decode cX12_begin 360 = .ok (.iinc 2 1, 3)) (by decide) (by decide)
theorem o279_363 : Okp RX12 cX12_begin 4 none "begin" false 363 (sGo 273) := ok_goto (by decide +kernel : decode cX12_begin 363 = .ok (.goto (-90), 3)) (by decide)
theorem o279_366 : Okp RX12 cX12_begin 4 none "begin" false 366 (sInc 1 1 369) := ok_iinc (by decide +kernel : decode cX12_begin 366 = .ok (.iinc 1 1, 3)) (by decide) (by decide)
theorem o279_369 : Okp RX12 cX12_begin 4 none "begin" false 369 (sGo 256) := ok_goto (by decide +kernel : decode cX12_begin 369 = .ok (.goto (-113), 3)) (by decide)
theorem o279_372 : Okp RX12 cX12_begin 4 none "begin" false 372 sRV := ok_vret rfl (by decide +kernel : decode cX12_begin 372 = .ok (.return_, 1))
theorem oc279_0 : ∀ pc, Mnp (c279_0 pc) ∧ Okp RX12 cX12_begin 4 none "begin" false pc (c279_0 pc) := by
  intro pc
  unfold c279_0
  split
  · exact ⟨mn_sLR, o279_0⟩
  · exact ⟨mn_sK, o279_1⟩
  · exact ⟨mn_sPZ, o279_2⟩
  · exact ⟨mn_sLR, o279_5⟩
  · exact ⟨mn_sK, o279_6⟩
  · exact ⟨mn_sPI, o279_7⟩
  · exact ⟨mn_sLR, o279_10⟩
  · exact ⟨mn_sK, o279_11⟩
  · exact ⟨mn_sPI, o279_12⟩
  · exact ⟨mn_sLR, o279_15⟩
  · exact ⟨mn_sK, o279_16⟩
  · exact ⟨mn_sPI, o279_17⟩
  · exact ⟨mn_sLR, o279_20⟩
  · exact ⟨mn_sK, o279_21⟩
  · exact ⟨mn_sPI, o279_22⟩
  · exact ⟨mn_sX, ok_X⟩
theorem oc279_1 : ∀ pc, Mnp (c279_1 pc) ∧ Okp RX12 cX12_begin 4 none "begin" false pc (c279_1 pc) := by
  intro pc
  unfold c279_1
  split
  · exact ⟨mn_sLR, o279_25⟩
  · exact ⟨mn_sLR, o279_26⟩
  · exact ⟨mn_sGI, o279_27⟩
  · exact ⟨mn_sPI, o279_30⟩
  · exact ⟨mn_sK, o279_33⟩
  · exact ⟨mn_sSI, o279_34⟩
  · exact ⟨mn_sLI, o279_35⟩
  · exact ⟨mn_sK, o279_36⟩
  · exact ⟨mn_sI2, o279_38⟩
  · exact ⟨mn_sLR, o279_41⟩
  · exact ⟨mn_sGR, o279_42⟩
  · exact ⟨mn_sLI, o279_45⟩
  · exact ⟨mn_sBA, o279_46⟩
  · exact ⟨mn_sI1, o279_47⟩
  · exact ⟨mn_sX, ok_X⟩
theorem oc279_2 : ∀ pc, Mnp (c279_2 pc) ∧ Okp RX12 cX12_begin 4 none "begin" false pc (c279_2 pc) := by
  intro pc
  unfold c279_2
  split
  · exact ⟨mn_sLR, o279_50⟩
  · exact ⟨mn_sLI, o279_51⟩
  · exact ⟨mn_sK, o279_52⟩
  · exact ⟨mn_sLI, o279_54⟩
  · exact ⟨mn_sB2, o279_55⟩
  · exact ⟨mn_sCV, o279_56⟩
  · exact ⟨mn_sInc, o279_59⟩
  · exact ⟨mn_sGo, o279_62⟩
  · exact ⟨mn_sK, o279_65⟩
  · exact ⟨mn_sSI, o279_66⟩
  · exact ⟨mn_sLI, o279_67⟩
  · exact ⟨mn_sK, o279_68⟩
  · exact ⟨mn_sI2, o279_71⟩
  · exact ⟨mn_sX, ok_X⟩
theorem oc279_3 : ∀ pc, Mnp (c279_3 pc) ∧ Okp RX12 cX12_begin 4 none "begin" false pc (c279_3 pc) := by
  intro pc
  unfold c279_3
  split
  · exact ⟨mn_sLR, o279_74⟩
  · exact ⟨mn_sGR, o279_75⟩
  · exact ⟨mn_sLI, o279_78⟩
  · exact ⟨mn_sK, o279_79⟩
  · exact ⟨mn_sIS, o279_80⟩
  · exact ⟨mn_sInc, o279_81⟩
  · exact ⟨mn_sGo, o279_84⟩
  · exact ⟨mn_sK, o279_87⟩
  · exact ⟨mn_sSI, o279_88⟩
  · exact ⟨mn_sLI, o279_89⟩
  · exact ⟨mn_sK, o279_90⟩
  · exact ⟨mn_sI2, o279_92⟩
  · exact ⟨mn_sLR, o279_95⟩
  · exact ⟨mn_sX, ok_X⟩
theorem oc279_4 : ∀ pc, Mnp (c279_4 pc) ∧ Okp RX12 cX12_begin 4 none "begin" false pc (c279_4 pc) := by
  intro pc
  unfold c279_4
  split
  · exact ⟨mn_sGR, o279_96⟩
  · exact ⟨mn_sLI, o279_99⟩
  · exact ⟨mn_sK, o279_100⟩
  · exact ⟨mn_sIS, o279_101⟩
  · exact ⟨mn_sLR, o279_102⟩
  · exact ⟨mn_sGR, o279_103⟩
  · exact ⟨mn_sLI, o279_106⟩
  · exact ⟨mn_sK, o279_107⟩
  · exact ⟨mn_sIS, o279_108⟩
  · exact ⟨mn_sInc, o279_109⟩
  · exact ⟨mn_sGo, o279_112⟩
  · exact ⟨mn_sK, o279_115⟩
  · exact ⟨mn_sSI, o279_116⟩
  · exact ⟨mn_sLI, o279_117⟩
  · exact ⟨mn_sK, o279_118⟩
  · exact ⟨mn_sX, ok_X⟩
theorem oc279_5 : ∀ pc, Mnp (c279_5 pc) ∧ Okp RX12 cX12_begin 4 none "begin" false pc (c279_5 pc) := by
  intro pc
  unfold c279_5
  split
  · exact ⟨mn_sI2, o279_120⟩
  · exact ⟨mn_sLR, o279_123⟩
  · exact ⟨mn_sGR, o279_124⟩
  · exact ⟨mn_sLI, o279_127⟩
  · exact ⟨mn_sK, o279_128⟩
  · exact ⟨mn_sIS, o279_129⟩
  · exact ⟨mn_sInc, o279_130⟩
  · exact ⟨mn_sGo, o279_133⟩
  · exact ⟨mn_sK, o279_136⟩
  · exact ⟨mn_sSI, o279_137⟩
  · exact ⟨mn_sLI, o279_138⟩
  · exact ⟨mn_sLR, o279_139⟩
  · exact ⟨mn_sGI, o279_140⟩
  · exact ⟨mn_sI2, o279_143⟩
  · exact ⟨mn_sX, ok_X⟩
theorem oc279_6 : ∀ pc, Mnp (c279_6 pc) ∧ Okp RX12 cX12_begin 4 none "begin" false pc (c279_6 pc) := by
  intro pc
  unfold c279_6
  split
  · exact ⟨mn_sLR, o279_146⟩
  · exact ⟨mn_sLI, o279_147⟩
  · exact ⟨mn_sK, o279_148⟩
  · exact ⟨mn_sLR, o279_150⟩
  · exact ⟨mn_sGR, o279_151⟩
  · exact ⟨mn_sLI, o279_154⟩
  · exact ⟨mn_sIA, o279_155⟩
  · exact ⟨mn_sB2, o279_156⟩
  · exact ⟨mn_sLR, o279_157⟩
  · exact ⟨mn_sGR, o279_158⟩
  · exact ⟨mn_sLI, o279_161⟩
  · exact ⟨mn_sIA, o279_162⟩
  · exact ⟨mn_sK, o279_163⟩
  · exact ⟨mn_sLR, o279_165⟩
  · exact ⟨mn_sGR, o279_166⟩
  · exact ⟨mn_sX, ok_X⟩
theorem oc279_7 : ∀ pc, Mnp (c279_7 pc) ∧ Okp RX12 cX12_begin 4 none "begin" false pc (c279_7 pc) := by
  intro pc
  unfold c279_7
  split
  · exact ⟨mn_sLI, o279_169⟩
  · exact ⟨mn_sIA, o279_170⟩
  · exact ⟨mn_sB2, o279_171⟩
  · exact ⟨mn_sCV, o279_172⟩
  · exact ⟨mn_sK, o279_175⟩
  · exact ⟨mn_sLR, o279_177⟩
  · exact ⟨mn_sGR, o279_178⟩
  · exact ⟨mn_sLI, o279_181⟩
  · exact ⟨mn_sIA, o279_182⟩
  · exact ⟨mn_sB2, o279_183⟩
  · exact ⟨mn_sLR, o279_184⟩
  · exact ⟨mn_sGR, o279_185⟩
  · exact ⟨mn_sLI, o279_188⟩
  · exact ⟨mn_sIA, o279_189⟩
  · exact ⟨mn_sB2, o279_190⟩
  · exact ⟨mn_sSI, o279_191⟩
  · exact ⟨mn_sX, ok_X⟩
theorem oc279_8 : ∀ pc, Mnp (c279_8 pc) ∧ Okp RX12 cX12_begin 4 none "begin" false pc (c279_8 pc) := by
  intro pc
  unfold c279_8
  split
  · exact ⟨mn_sK, o279_192⟩
  · exact ⟨mn_sSI, o279_193⟩
  · exact ⟨mn_sLI, o279_194⟩
  · exact ⟨mn_sLR, o279_195⟩
  · exact ⟨mn_sGR, o279_196⟩
  · exact ⟨mn_sLI, o279_199⟩
  · exact ⟨mn_sIA, o279_200⟩
  · exact ⟨mn_sI2, o279_201⟩
  · exact ⟨mn_sLR, o279_204⟩
  · exact ⟨mn_sLI, o279_205⟩
  · exact ⟨mn_sK, o279_206⟩
  · exact ⟨mn_sLI, o279_207⟩
  · exact ⟨mn_sCS, o279_208⟩
  · exact ⟨mn_sLR, o279_211⟩
  · exact ⟨mn_sGR, o279_212⟩
  · exact ⟨mn_sK, o279_215⟩
  · exact ⟨mn_sX, ok_X⟩
theorem oc279_9 : ∀ pc, Mnp (c279_9 pc) ∧ Okp RX12 cX12_begin 4 none "begin" false pc (c279_9 pc) := by
  intro pc
  unfold c279_9
  split
  · exact ⟨mn_sLI, o279_216⟩
  · exact ⟨mn_sB2, o279_217⟩
  · exact ⟨mn_sLI, o279_218⟩
  · exact ⟨mn_sB2, o279_219⟩
  · exact ⟨mn_sIA, o279_220⟩
  · exact ⟨mn_sLR, o279_221⟩
  · exact ⟨mn_sGR, o279_222⟩
  · exact ⟨mn_sK, o279_225⟩
  · exact ⟨mn_sLI, o279_226⟩
  · exact ⟨mn_sB2, o279_227⟩
  · exact ⟨mn_sLI, o279_228⟩
  · exact ⟨mn_sB2, o279_229⟩
  · exact ⟨mn_sIA, o279_230⟩
  · exact ⟨mn_sI1, o279_231⟩
  · exact ⟨mn_sK, o279_234⟩
  · exact ⟨mn_sGo, o279_235⟩
  · exact ⟨mn_sK, o279_238⟩
  · exact ⟨mn_sCV, o279_239⟩
  · exact ⟨mn_sX, ok_X⟩
theorem oc279_10 : ∀ pc, Mnp (c279_10 pc) ∧ Okp RX12 cX12_begin 4 none "begin" false pc (c279_10 pc) := by
  intro pc
  unfold c279_10
  split
  · exact ⟨mn_sInc, o279_242⟩
  · exact ⟨mn_sGo, o279_245⟩
  · exact ⟨mn_sInc, o279_248⟩
  · exact ⟨mn_sGo, o279_251⟩
  · exact ⟨mn_sK, o279_254⟩
  · exact ⟨mn_sSI, o279_255⟩
  · exact ⟨mn_sLI, o279_256⟩
  · exact ⟨mn_sLR, o279_257⟩
  · exact ⟨mn_sGI, o279_258⟩
  · exact ⟨mn_sI2, o279_261⟩
  · exact ⟨mn_sX, ok_X⟩
theorem oc279_11 : ∀ pc, Mnp (c279_11 pc) ∧ Okp RX12 cX12_begin 4 none "begin" false pc (c279_11 pc) := by
  intro pc
  unfold c279_11
  split
  · exact ⟨mn_sK, o279_264⟩
  · exact ⟨mn_sLR, o279_265⟩
  · exact ⟨mn_sGR, o279_266⟩
  · exact ⟨mn_sLI, o279_269⟩
  · exact ⟨mn_sIA, o279_270⟩
  · exact ⟨mn_sB2, o279_271⟩
  · exact ⟨mn_sSI, o279_272⟩
  · exact ⟨mn_sLI, o279_273⟩
  · exact ⟨mn_sK, o279_274⟩
  · exact ⟨mn_sLR, o279_275⟩
  · exact ⟨mn_sGR, o279_276⟩
  · exact ⟨mn_sLI, o279_279⟩
  · exact ⟨mn_sIA, o279_280⟩
  · exact ⟨mn_sB2, o279_281⟩
  · exact ⟨mn_sK, o279_282⟩
  · exact ⟨mn_sB2, o279_283⟩
  · exact ⟨mn_sI2, o279_284⟩
  · exact ⟨mn_sK, o279_287⟩
  · exact ⟨mn_sX, ok_X⟩
theorem oc279_12 : ∀ pc, Mnp (c279_12 pc) ∧ Okp RX12 cX12_begin 4 none "begin" false pc (c279_12 pc) := by
  intro pc
  unfold c279_12
  split
  · exact ⟨mn_sLI, o279_288⟩
  · exact ⟨mn_sB2, o279_289⟩
  · exact ⟨mn_sLR, o279_290⟩
  · exact ⟨mn_sGR, o279_291⟩
  · exact ⟨mn_sLI, o279_294⟩
  · exact ⟨mn_sIA, o279_295⟩
  · exact ⟨mn_sB2, o279_296⟩
  · exact ⟨mn_sSI, o279_297⟩
  · exact ⟨mn_sLR, o279_298⟩
  · exact ⟨mn_sGR, o279_299⟩
  · exact ⟨mn_sLI, o279_302⟩
  · exact ⟨mn_sK, o279_303⟩
  · exact ⟨mn_sIS, o279_304⟩
  · exact ⟨mn_sLR, o279_305⟩
  · exact ⟨mn_sGR, o279_306⟩
  · exact ⟨mn_sLI, o279_309⟩
  · exact ⟨mn_sLR, o279_310⟩
  · exact ⟨mn_sGR, o279_311⟩
  · exact ⟨mn_sX, ok_X⟩
theorem oc279_13 : ∀ pc, Mnp (c279_13 pc) ∧ Okp RX12 cX12_begin 4 none "begin" false pc (c279_13 pc) := by
  intro pc
  unfold c279_13
  split
  · exact ⟨mn_sLI, o279_314⟩
  · exact ⟨mn_sIA, o279_315⟩
  · exact ⟨mn_sK, o279_316⟩
  · exact ⟨mn_sB2, o279_318⟩
  · exact ⟨mn_sIS, o279_319⟩
  · exact ⟨mn_sLR, o279_320⟩
  · exact ⟨mn_sGR, o279_321⟩
  · exact ⟨mn_sLI, o279_324⟩
  · exact ⟨mn_sLR, o279_325⟩
  · exact ⟨mn_sGR, o279_326⟩
  · exact ⟨mn_sLI, o279_329⟩
  · exact ⟨mn_sIA, o279_330⟩
  · exact ⟨mn_sK, o279_331⟩
  · exact ⟨mn_sD2, o279_332⟩
  · exact ⟨mn_sIS, o279_333⟩
  · exact ⟨mn_sLR, o279_334⟩
  · exact ⟨mn_sLR, o279_335⟩
  · exact ⟨mn_sX, ok_X⟩
theorem oc279_14 : ∀ pc, Mnp (c279_14 pc) ∧ Okp RX12 cX12_begin 4 none "begin" false pc (c279_14 pc) := by
  intro pc
  unfold c279_14
  split
  · exact ⟨mn_sGR, o279_336⟩
  · exact ⟨mn_sLI, o279_339⟩
  · exact ⟨mn_sIA, o279_340⟩
  · exact ⟨mn_sK, o279_341⟩
  · exact ⟨mn_sD2, o279_342⟩
  · exact ⟨mn_sK, o279_343⟩
  · exact ⟨mn_sLR, o279_344⟩
  · exact ⟨mn_sGR, o279_345⟩
  · exact ⟨mn_sLI, o279_348⟩
  · exact ⟨mn_sIA, o279_349⟩
  · exact ⟨mn_sK, o279_350⟩
  · exact ⟨mn_sD2, o279_351⟩
  · exact ⟨mn_sCS, o279_352⟩
  · exact ⟨mn_sLI, o279_355⟩
  · exact ⟨mn_sK, o279_356⟩
  · exact ⟨mn_sCV, o279_357⟩
  · exact ⟨mn_sX, ok_X⟩
theorem oc279_15 : ∀ pc, Mnp (c279_15 pc) ∧ Okp RX12 cX12_begin 4 none "begin" false pc (c279_15 pc) := by
  intro pc
  unfold c279_15
  split
  · exact ⟨mn_sInc, o279_360⟩
  · exact ⟨mn_sGo, o279_363⟩
  · exact ⟨mn_sInc, o279_366⟩
  · exact ⟨mn_sGo, o279_369⟩
  · exact ⟨mn_sRV, o279_372⟩
  · exact ⟨mn_sX, ok_X⟩
theorem oc279 : ∀ pc, Mnp (c279 pc) ∧ Okp RX12 cX12_begin 4 none "begin" false pc (c279 pc) := by
  intro pc
  unfold c279
  split
  · exact oc279_0 pc
  · exact oc279_1 pc
  · exact oc279_2 pc
  · exact oc279_3 pc
  · exact oc279_4 pc
  · exact oc279_5 pc
  · exact oc279_6 pc
  · exact oc279_7 pc
  · exact oc279_8 pc
  · exact oc279_9 pc
  · exact oc279_10 pc
  · exact oc279_11 pc
  · exact oc279_12 pc
  · exact oc279_13 pc
  · exact oc279_14 pc
  · exact oc279_15 pc
  · exact ⟨mn_sX, ok_X⟩
theorem o280_0 : Okp RX12 cX12_start 6 none "start" false 0 (sLR 0 1) := ok_aload_n (by decide +kernel : decode cX12_start 0 = .ok (.aload_n 0, 1)) rfl
theorem o280_1 : Okp RX12 cX12_start 6 none "start" false 1 (sGR 13 59 4) := ok_getR (by decide +kernel : decode cX12_start 1 = .ok (.getfield 137, 3)) fw_X12_137 rfl
theorem o280_4 : Okp RX12 cX12_start 6 none "start" false 4 (sLI 1 5) := ok_iload_n (by decide +kernel : decode cX12_start 4 = .ok (.iload_n 1, 1)) rfl
theorem o280_5 : Okp RX12 cX12_start 6 none "start" false 5 (sK 1 6) := ok_iconst (by decide +kernel : decode cX12_start 5 = .ok (.iconst 1, 1)) (by decide)
theorem o280_6 : Okp RX12 cX12_start 6 none "start" false 6 (sIS 7) := ok_iastore (by decide +kernel : decode cX12_start 6 = .ok (.iastore, 1))
theorem o280_7 : Okp RX12 cX12_start 6 none "start" false 7 (sLR 0 8) := ok_aload_n (by decide +kernel : decode cX12_start 7 = .ok (.aload_n 0, 1)) rfl
theorem o280_8 : Okp RX12 cX12_start 6 none "start" false 8 (sGR 13 60 11) := ok_getR (by decide +kernel : decode cX12_start 8 = .ok (.getfield 140, 3)) fw_X12_140 rfl
theorem o280_11 : Okp RX12 cX12_start 6 none "start" false 11 (sLI 1 12) := ok_iload_n (by decide +kernel : decode cX12_start 11 = .ok (.iload_n 1, 1)) rfl
theorem o280_12 : Okp RX12 cX12_start 6 none "start" false 12 (sK 0 13) := ok_iconst (by decide +kernel : decode cX12_start 12 = .ok (.iconst 0, 1)) (by decide)
theorem o280_13 : Okp RX12 cX12_start 6 none "start" false 13 (sIS 14) := ok_iastore (by decide +kernel : decode cX12_start 13 = .ok (.iastore, 1))
theorem o280_14 : Okp RX12 cX12_start 6 none "start" false 14 (sLR 0 15) := ok_aload_n (by decide +kernel : decode cX12_start 14 = .ok (.aload_n 0, 1)) rfl
theorem o280_15 : Okp RX12 cX12_start 6 none "start" false 15 (sGR 13 61 18) := ok_getR (by decide +kernel : decode cX12_start 15 = .ok (.getfield 143, 3)) fw_X12_143 rfl
theorem o280_18 : Okp RX12 cX12_start 6 none "start" false 18 (sLI 1 19) := ok_iload_n (by decide +kernel : decode cX12_start 18 = .ok (.iload_n 1, 1)) rfl
theorem o280_19 : Okp RX12 cX12_start 6 none "start" false 19 (sLI 2 20) := ok_iload_n (by decide +kernel : decode cX12_start 19 = .ok (.iload_n 2, 1)) rfl
theorem o280_20 : Okp RX12 cX12_start 6 none "start" false 20 (sIS 21) := ok_iastore (by decide +kernel : decode cX12_start 20 = .ok (.iastore, 1))
theorem o280_21 : Okp RX12 cX12_start 6 none "start" false 21 (sLR 0 22) := ok_aload_n (by decide +kernel : decode cX12_start 21 = .ok (.aload_n 0, 1)) rfl
theorem o280_22 : Okp RX12 cX12_start 6 none "start" false 22 (sGR 13 62 25) := ok_getR (by decide +kernel : decode cX12_start 22 = .ok (.getfield 146, 3)) fw_X12_146 rfl
theorem o280_25 : Okp RX12 cX12_start 6 none "start" false 25 (sLI 1 26) := ok_iload_n (by decide +kernel : decode cX12_start 25 = .ok (.iload_n 1, 1)) rfl
theorem o280_26 : Okp RX12 cX12_start 6 none "start" false 26 (sLI 4 28) := ok_iload (by decide +kernel : decode cX12_start 26 = .ok (.iload 4, 2))
theorem o280_28 : Okp RX12 cX12_start 6 none "start" false 28 (sIS 29) := ok_iastore (by decide +kernel : decode cX12_start 28 = .ok (.iastore, 1))
theorem o280_29 : Okp RX12 cX12_start 6 none "start" false 29 (sLR 0 30) := ok_aload_n (by decide +kernel : decode cX12_start 29 = .ok (.aload_n 0, 1)) rfl
theorem o280_30 : Okp RX12 cX12_start 6 none "start" false 30 (sGR 13 63 33) := ok_getR (by decide +kernel : decode cX12_start 30 = .ok (.getfield 149, 3)) fw_X12_149 rfl
theorem o280_33 : Okp RX12 cX12_start 6 none "start" false 33 (sLI 1 34) := ok_iload_n (by decide +kernel : decode cX12_start 33 = .ok (.iload_n 1, 1)) rfl
theorem o280_34 : Okp RX12 cX12_start 6 none "start" false 34 (sK 0 35) := ok_iconst (by decide +kernel : decode cX12_start 34 = .ok (.iconst 0, 1)) (by decide)
theorem o280_35 : Okp RX12 cX12_start 6 none "start" false 35 (sIS 36) := ok_iastore (by decide +kernel : decode cX12_start 35 = .ok (.iastore, 1))
theorem o280_36 : Okp RX12 cX12_start 6 none "start" false 36 (sLR 0 37) := ok_aload_n (by decide +kernel : decode cX12_start 36 = .ok (.aload_n 0, 1)) rfl
theorem o280_37 : Okp RX12 cX12_start 6 none "start" false 37 (sGR 13 64 40) := ok_getR (by decide +kernel : decode cX12_start 37 = .ok (.getfield 152, 3)) fw_X12_152 rfl
theorem o280_40 : Okp RX12 cX12_start 6 none "start" false 40 (sLI 1 41) := ok_iload_n (by decide +kernel : decode cX12_start 40 = .ok (.iload_n 1, 1)) rfl
theorem o280_41 : Okp RX12 cX12_start 6 none "start" false 41 (sK 0 42) := ok_iconst (by decide +kernel : decode cX12_start 41 = .ok (.iconst 0, 1)) (by decide)
theorem o280_42 : Okp RX12 cX12_start 6 none "start" false 42 (sIS 43) := ok_iastore (by decide +kernel : decode cX12_start 42 = .ok (.iastore, 1))
theorem o280_43 : Okp RX12 cX12_start 6 none "start" false 43 (sLR 0 44) := ok_aload_n (by decide +kernel : decode cX12_start 43 = .ok (.aload_n 0, 1)) rfl
theorem o280_44 : Okp RX12 cX12_start 6 none "start" false 44 (sGR 13 78 47) := ok_getR (by decide +kernel : decode cX12_start 44 = .ok (.getfield 194, 3)) fw_X12_194 rfl
theorem o280_47 : Okp RX12 cX12_start 6 none "start" false 47 (sLI 1 48) := ok_iload_n (by decide +kernel : decode cX12_start 47 = .ok (.iload_n 1, 1)) rfl
theorem o280_48 : Okp RX12 cX12_start 6 none "start" false 48 (sK 0 49) := ok_iconst (by decide +kernel : decode cX12_start 48 = .ok (.iconst 0, 1)) (by decide)
theorem o280_49 : Okp RX12 cX12_start 6 none "start" false 49 (sIS 50) := ok_iastore (by decide +kernel : decode cX12_start 49 = .ok (.iastore, 1))
theorem o280_50 : Okp RX12 cX12_start 6 none "start" false 50 (sK 1 51) := ok_iconst (by decide +kernel : decode cX12_start 50 = .ok (.iconst 1, 1)) (by decide)
theorem o280_51 : Okp RX12 cX12_start 6 none "start" false 51 (sSI 5 53) := ok_istore (by decide +kernel : decode cX12_start 51 = .ok (.istore 5, 2)) (by decide) (by decide)
theorem o280_53 : Okp RX12 cX12_start 6 none "start" false 53 (sLI 5 55) := ok_iload (by decide +kernel : decode cX12_start 53 = .ok (.iload 5, 2))
theorem o280_55 : Okp RX12 cX12_start 6 none "start" false 55 (sK 1025 58) := ok_sipush (by decide +kernel : decode cX12_start 55 = .ok (.sipush 1025, 3)) (by decide)
theorem o280_58 : Okp RX12 cX12_start 6 none "start" false 58 (sI2 3 81 61) := ok_icmp_ge (by decide +kernel : decode cX12_start 58 = .ok (.if_icmp .ge 23, 3)) (by decide)
theorem o280_61 : Okp RX12 cX12_start 6 none "start" false 61 (sLR 0 62) := ok_aload_n (by decide +kernel : decode cX12_start 61 = .ok (.aload_n 0, 1)) rfl
theorem o280_62 : Okp RX12 cX12_start 6 none "start" false 62 (sGR 13 70 65) := ok_getR (by decide +kernel : decode cX12_start 62 = .ok (.getfield 170, 3)) fw_X12_170 rfl
theorem o280_65 : Okp RX12 cX12_start 6 none "start" false 65 (sK 1025 68) := ok_sipush (by decide +kernel : decode cX12_start 65 = .ok (.sipush 1025, 3)) (by decide)
theorem o280_68 : Okp RX12 cX12_start 6 none "start" false 68 (sLI 1 69) := ok_iload_n (by decide +kernel : decode cX12_start 68 = .ok (.iload_n 1, 1)) rfl
theorem o280_69 : Okp RX12 cX12_start 6 none "start" false 69 (sB2 fMul 70) := ok_imul (by decide +kernel : decode cX12_start 69 = .ok (.imul, 1))
theorem o280_70 : Okp RX12 cX12_start 6 none "start" false 70 (sLI 5 72) := ok_iload (by decide +kernel : decode cX12_start 70 = .ok (.iload 5, 2))
theorem o280_72 : Okp RX12 cX12_start 6 none "start" false 72 (sB2 fAdd 73) := ok_iadd (by decide +kernel : decode cX12_start 72 = .ok (.iadd, 1))
theorem o280_73 : Okp RX12 cX12_start 6 none "start" false 73 (sK 0 74) := ok_iconst (by decide +kernel : decode cX12_start 73 = .ok (.iconst 0, 1)) (by decide)
theorem o280_74 : Okp RX12 cX12_start 6 none "start" false 74 (sIS 75) := ok_iastore (by decide +kernel : decode cX12_start 74 = .ok (.iastore, 1))
theorem o280_75 : Okp RX12 cX12_start 6 none "start" false 75 (sInc 5 1 78) := ok_iinc (by decide +kernel : decode cX12_start 75 = .ok (.iinc 5 1, 3)) (by decide) (by decide)
theorem o280_78 : Okp RX12 cX12_start 6 none "start" false 78 (sGo 53) := ok_goto (by decide +kernel : decode cX12_start 78 = .ok (.goto (-25), 3)) (by decide)
theorem o280_81 : Okp RX12 cX12_start 6 none "start" false 81 (sLR 0 82) := ok_aload_n (by decide +kernel : decode cX12_start 81 = .ok (.aload_n 0, 1)) rfl
theorem o280_82 : Okp RX12 cX12_start 6 none "start" false 82 (sLI 1 83) := ok_iload_n (by decide +kernel : decode cX12_start 82 = .ok (.iload_n 1, 1)) rfl
theorem o280_83 : Okp RX12 cX12_start 6 none "start" false 83 (sLI 3 84) := ok_iload_n (by decide +kernel : decode cX12_start 83 = .ok (.iload_n 3, 1)) rfl
theorem o280_84 : Okp RX12 cX12_start 6 none "start" false 84 (sCV false 281 3 13 87) := ok_cv (by decide +kernel : decode cX12_start 84 = .ok (.invokevirtual 484, 3)) mw_X12_484 rfl (by decide) wm_X12_activate wse_X12_activate (by decide) rfl
theorem o280_87 : Okp RX12 cX12_start 6 none "start" false 87 sRV := ok_vret rfl (by decide +kernel : decode cX12_start 87 = .ok (.return_, 1))
theorem oc280_0 : ∀ pc, Mnp (c280_0 pc) ∧ Okp RX12 cX12_start 6 none "start" false pc (c280_0 pc) := by
  intro pc
  unfold c280_0
  split
  · exact ⟨mn_sLR, o280_0⟩
  · exact ⟨mn_sGR, o280_1⟩
  · exact ⟨mn_sLI, o280_4⟩
  · exact ⟨mn_sK, o280_5⟩
  · exact ⟨mn_sIS, o280_6⟩
  · exact ⟨mn_sLR, o280_7⟩
  · exact ⟨mn_sGR, o280_8⟩
  · exact ⟨mn_sLI, o280_11⟩
  · exact ⟨mn_sK, o280_12⟩
  · exact ⟨mn_sIS, o280_13⟩
  · exact ⟨mn_sLR, o280_14⟩
  · exact ⟨mn_sGR, o280_15⟩
  · exact ⟨mn_sLI, o280_18⟩
  · exact ⟨mn_sLI, o280_19⟩
  · exact ⟨mn_sIS, o280_20⟩
  · exact ⟨mn_sLR, o280_21⟩
  · exact ⟨mn_sGR, o280_22⟩
  · exact ⟨mn_sX, ok_X⟩
theorem oc280_1 : ∀ pc, Mnp (c280_1 pc) ∧ Okp RX12 cX12_start 6 none "start" false pc (c280_1 pc) := by
  intro pc
  unfold c280_1
  split
  · exact ⟨mn_sLI, o280_25⟩
  · exact ⟨mn_sLI, o280_26⟩
  · exact ⟨mn_sIS, o280_28⟩
  · exact ⟨mn_sLR, o280_29⟩
  · exact ⟨mn_sGR, o280_30⟩
  · exact ⟨mn_sLI, o280_33⟩
  · exact ⟨mn_sK, o280_34⟩
  · exact ⟨mn_sIS, o280_35⟩
  · exact ⟨mn_sLR, o280_36⟩
  · exact ⟨mn_sGR, o280_37⟩
  · exact ⟨mn_sLI, o280_40⟩
  · exact ⟨mn_sK, o280_41⟩
  · exact ⟨mn_sIS, o280_42⟩
  · exact ⟨mn_sLR, o280_43⟩
  · exact ⟨mn_sGR, o280_44⟩
  · exact ⟨mn_sLI, o280_47⟩
  · exact ⟨mn_sX, ok_X⟩
theorem oc280_2 : ∀ pc, Mnp (c280_2 pc) ∧ Okp RX12 cX12_start 6 none "start" false pc (c280_2 pc) := by
  intro pc
  unfold c280_2
  split
  · exact ⟨mn_sK, o280_48⟩
  · exact ⟨mn_sIS, o280_49⟩
  · exact ⟨mn_sK, o280_50⟩
  · exact ⟨mn_sSI, o280_51⟩
  · exact ⟨mn_sLI, o280_53⟩
  · exact ⟨mn_sK, o280_55⟩
  · exact ⟨mn_sI2, o280_58⟩
  · exact ⟨mn_sLR, o280_61⟩
  · exact ⟨mn_sGR, o280_62⟩
  · exact ⟨mn_sK, o280_65⟩
  · exact ⟨mn_sLI, o280_68⟩
  · exact ⟨mn_sB2, o280_69⟩
  · exact ⟨mn_sLI, o280_70⟩
  · exact ⟨mn_sX, ok_X⟩
theorem oc280_3 : ∀ pc, Mnp (c280_3 pc) ∧ Okp RX12 cX12_start 6 none "start" false pc (c280_3 pc) := by
  intro pc
  unfold c280_3
  split
  · exact ⟨mn_sB2, o280_72⟩
  · exact ⟨mn_sK, o280_73⟩
  · exact ⟨mn_sIS, o280_74⟩
  · exact ⟨mn_sInc, o280_75⟩
  · exact ⟨mn_sGo, o280_78⟩
  · exact ⟨mn_sLR, o280_81⟩
  · exact ⟨mn_sLI, o280_82⟩
  · exact ⟨mn_sLI, o280_83⟩
  · exact ⟨mn_sCV, o280_84⟩
  · exact ⟨mn_sRV, o280_87⟩
  · exact ⟨mn_sX, ok_X⟩
theorem oc280 : ∀ pc, Mnp (c280 pc) ∧ Okp RX12 cX12_start 6 none "start" false pc (c280 pc) := by
  intro pc
  unfold c280
  split
  · exact oc280_0 pc
  · exact oc280_1 pc
  · exact oc280_2 pc
  · exact oc280_3 pc
  · exact ⟨mn_sX, ok_X⟩
theorem o281_0 : Okp RX12 cX12_activate 5 none "activate" false 0 (sK 16 2) := ok_bipush (by decide +kernel : decode cX12_activate 0 = .ok (.bipush 16, 2)) (by decide)
theorem o281_2 : Okp RX12 cX12_activate 5 none "activate" false 2 (sLI 1 3) := ok_iload_n (by decide +kernel : decode cX12_activate 2 = .ok (.iload_n 1, 1)) rfl
theorem o281_3 : Okp RX12 cX12_activate 5 none "activate" false 3 (sB2 fMul 4) := ok_imul (by decide +kernel : decode cX12_activate 3 = .ok (.imul, 1))
theorem o281_4 : Okp RX12 cX12_activate 5 none "activate" false 4 (sLR 0 5) := ok_aload_n (by decide +kernel : decode cX12_activate 4 = .ok (.aload_n 0, 1)) rfl
theorem o281_5 : Okp RX12 cX12_activate 5 none "activate" false 5 (sGR 13 64 8) := ok_getR (by decide +kernel : decode cX12_activate 5 = .ok (.getfield 152, 3)) fw_X12_152 rfl
theorem o281_8 : Okp RX12 cX12_activate 5 none "activate" false 8 (sLI 1 9) := ok_iload_n (by decide +kernel : decode cX12_activate 8 = .ok (.iload_n 1, 1)) rfl
theorem o281_9 : Okp RX12 cX12_activate 5 none "activate" false 9 (sIA 10) := ok_iaload (by decide +kernel : decode cX12_activate 9 = .ok (.iaload, 1))
theorem o281_10 : Okp RX12 cX12_activate 5 none "activate" false 10 (sB2 fAdd 11) := ok_iadd (by decide +kernel : decode cX12_activate 10 = .ok (.iadd, 1))
theorem o281_11 : Okp RX12 cX12_activate 5 none "activate" false 11 (sSI 3 12) := ok_istore_n (by decide +kernel : decode cX12_activate 11 = .ok (.istore_n 3, 1)) rfl (by decide) (by decide)
theorem o281_12 : Okp RX12 cX12_activate 5 none "activate" false 12 (sLR 0 13) := ok_aload_n (by decide +kernel : decode cX12_activate 12 = .ok (.aload_n 0, 1)) rfl
theorem o281_13 : Okp RX12 cX12_activate 5 none "activate" false 13 (sGR 13 65 16) := ok_getR (by decide +kernel : decode cX12_activate 13 = .ok (.getfield 155, 3)) fw_X12_155 rfl
theorem o281_16 : Okp RX12 cX12_activate 5 none "activate" false 16 (sLI 3 17) := ok_iload_n (by decide +kernel : decode cX12_activate 16 = .ok (.iload_n 3, 1)) rfl
theorem o281_17 : Okp RX12 cX12_activate 5 none "activate" false 17 (sLI 2 18) := ok_iload_n (by decide +kernel : decode cX12_activate 17 = .ok (.iload_n 2, 1)) rfl
theorem o281_18 : Okp RX12 cX12_activate 5 none "activate" false 18 (sIS 19) := ok_iastore (by decide +kernel : decode cX12_activate 18 = .ok (.iastore, 1))
theorem o281_19 : Okp RX12 cX12_activate 5 none "activate" false 19 (sLR 0 20) := ok_aload_n (by decide +kernel : decode cX12_activate 19 = .ok (.aload_n 0, 1)) rfl
theorem o281_20 : Okp RX12 cX12_activate 5 none "activate" false 20 (sGR 13 66 23) := ok_getR (by decide +kernel : decode cX12_activate 20 = .ok (.getfield 158, 3)) fw_X12_158 rfl
theorem o281_23 : Okp RX12 cX12_activate 5 none "activate" false 23 (sLI 3 24) := ok_iload_n (by decide +kernel : decode cX12_activate 23 = .ok (.iload_n 3, 1)) rfl
theorem o281_24 : Okp RX12 cX12_activate 5 none "activate" false 24 (sK 0 25) := ok_iconst (by decide +kernel : decode cX12_activate 24 = .ok (.iconst 0, 1)) (by decide)
theorem o281_25 : Okp RX12 cX12_activate 5 none "activate" false 25 (sIS 26) := ok_iastore (by decide +kernel : decode cX12_activate 25 = .ok (.iastore, 1))
theorem o281_26 : Okp RX12 cX12_activate 5 none "activate" false 26 (sLR 0 27) := ok_aload_n (by decide +kernel : decode cX12_activate 26 = .ok (.aload_n 0, 1)) rfl
theorem o281_27 : Okp RX12 cX12_activate 5 none "activate" false 27 (sGR 13 67 30) := ok_getR (by decide +kernel : decode cX12_activate 27 = .ok (.getfield 161, 3)) fw_X12_161 rfl
theorem o281_30 : Okp RX12 cX12_activate 5 none "activate" false 30 (sLI 3 31) := ok_iload_n (by decide +kernel : decode cX12_activate 30 = .ok (.iload_n 3, 1)) rfl
theorem o281_31 : Okp RX12 cX12_activate 5 none "activate" false 31 (sK 0 32) := ok_iconst (by decide +kernel : decode cX12_activate 31 = .ok (.iconst 0, 1)) (by decide)
theorem o281_32 : Okp RX12 cX12_activate 5 none "activate" false 32 (sIS 33) := ok_iastore (by decide +kernel : decode cX12_activate 32 = .ok (.iastore, 1))
theorem o281_33 : Okp RX12 cX12_activate 5 none "activate" false 33 (sK 0 34) := ok_iconst (by decide +kernel : decode cX12_activate 33 = .ok (.iconst 0, 1)) (by decide)
theorem o281_34 : Okp RX12 cX12_activate 5 none "activate" false 34 (sSI 4 36) := ok_istore (by decide +kernel : decode cX12_activate 34 = .ok (.istore 4, 2)) (by decide) (by decide)
theorem o281_36 : Okp RX12 cX12_activate 5 none "activate" false 36 (sLI 4 38) := ok_iload (by decide +kernel : decode cX12_activate 36 = .ok (.iload 4, 2))
theorem o281_38 : Okp RX12 cX12_activate 5 none "activate" false 38 (sK 26 40) := ok_bipush (by decide +kernel : decode cX12_activate 38 = .ok (.bipush 26, 2)) (by decide)
theorem o281_40 : Okp RX12 cX12_activate 5 none "activate" false 40 (sI2 3 62 43) := ok_icmp_ge (by decide +kernel : decode cX12_activate 40 = .ok (.if_icmp .ge 22, 3)) (by decide)
theorem o281_43 : Okp RX12 cX12_activate 5 none "activate" false 43 (sLR 0 44) := ok_aload_n (by decide +kernel : decode cX12_activate 43 = .ok (.aload_n 0, 1)) rfl
theorem o281_44 : Okp RX12 cX12_activate 5 none "activate" false 44 (sK 26 46) := ok_bipush (by decide +kernel : decode cX12_activate 44 = .ok (.bipush 26, 2)) (by decide)
theorem o281_46 : Okp RX12 cX12_activate 5 none "activate" false 46 (sLI 3 47) := ok_iload_n (by decide +kernel : decode cX12_activate 46 = .ok (.iload_n 3, 1)) rfl
theorem o281_47 : Okp RX12 cX12_activate 5 none "activate" false 47 (sB2 fMul 48) := ok_imul (by decide +kernel : decode cX12_activate 47 = .ok (.imul, 1))
theorem o281_48 : Okp RX12 cX12_activate 5 none "activate" false 48 (sLI 4 50) := ok_iload (by decide +kernel : decode cX12_activate 48 = .ok (.iload 4, 2))
theorem o281_50 : Okp RX12 cX12_activate 5 none "activate" false 50 (sB2 fAdd 51) := ok_iadd (by decide +kernel : decode cX12_activate 50 = .ok (.iadd, 1))
theorem o281_51 : Okp RX12 cX12_activate 5 none "activate" false 51 (sK 0 52) := ok_iconst (by decide +kernel : decode cX12_activate 51 = .ok (.iconst 0, 1)) (by decide)
theorem o281_52 : Okp RX12 cX12_activate 5 none "activate" false 52 (sK 4 53) := ok_iconst (by decide +kernel : decode cX12_activate 52 = .ok (.iconst 4, 1)) (by decide)
theorem o281_53 : Okp RX12 cX12_activate 5 none "activate" false 53 (sCV false 285 4 13 56) := ok_cv (by decide +kernel : decode cX12_activate 53 = .ok (.invokevirtual 481, 3)) mw_X12_481 rfl (by decide) wm_X12_set wse_X12_set (by decide) rfl
theorem o281_56 : Okp RX12 cX12_activate 5 none "activate" false 56 (sInc 4 1 59) := ok_iinc (by decide +kernel : decode cX12_activate 56 = .ok (.iinc 4 1, 3)) (by decide) (by decide)
theorem o281_59 : Okp RX12 cX12_activate 5 none "activate" false 59 (sGo 36) := ok_goto (by decide +kernel : decode cX12_activate 59 = .ok (.goto (-23), 3)) (by decide)
theorem o281_62 : Okp RX12 cX12_activate 5 none "activate" false 62 (sLR 0 63) := ok_aload_n (by decide +kernel : decode cX12_activate 62 = .ok (.aload_n 0, 1)) rfl
theorem o281_63 : Okp RX12 cX12_activate 5 none "activate" false 63 (sGR 13 64 66) := ok_getR (by decide +kernel : decode cX12_activate 63 = .ok (.getfield 152, 3)) fw_X12_152 rfl
theorem o281_66 : Okp RX12 cX12_activate 5 none "activate" false 66 (sLI 1 67) := ok_iload_n (by decide +kernel : decode cX12_activate 66 = .ok (.iload_n 1, 1)) rfl
theorem o281_67 : Okp RX12 cX12_activate 5 none "activate" false 67 (sDup2 68) := ok_dup2 (by decide +kernel : decode cX12_activate 67 = .ok (.dup2, 1))
theorem o281_68 : Okp RX12 cX12_activate 5 none "activate" false 68 (sIA 69) := ok_iaload (by decide +kernel : decode cX12_activate 68 = .ok (.iaload, 1))
theorem o281_69 : Okp RX12 cX12_activate 5 none "activate" false 69 (sK 1 70) := ok_iconst (by decide +kernel : decode cX12_activate 69 = .ok (.iconst 1, 1)) (by decide)
theorem o281_70 : Okp RX12 cX12_activate 5 none "activate" false 70 (sB2 fAdd 71) := ok_iadd (by decide +kernel : decode cX12_activate 70 = .ok (.iadd, 1))
theorem o281_71 : Okp RX12 cX12_activate 5 none "activate" false 71 (sIS 72) := ok_iastore (by decide +kernel : decode cX12_activate 71 = .ok (.iastore, 1))
theorem o281_72 : Okp RX12 cX12_activate 5 none "activate" false 72 sRV := ok_vret rfl (by decide +kernel : decode cX12_activate 72 = .ok (.return_, 1))
theorem oc281_0 : ∀ pc, Mnp (c281_0 pc) ∧ Okp RX12 cX12_activate 5 none "activate" false pc (c281_0 pc) := by
  intro pc
  unfold c281_0
  split
  · exact ⟨mn_sK, o281_0⟩
  · exact ⟨mn_sLI, o281_2⟩
  · exact ⟨mn_sB2, o281_3⟩
  · exact ⟨mn_sLR, o281_4⟩
  · exact ⟨mn_sGR, o281_5⟩
  · exact ⟨mn_sLI, o281_8⟩
  · exact ⟨mn_sIA, o281_9⟩
  · exact ⟨mn_sB2, o281_10⟩
  · exact ⟨mn_sSI, o281_11⟩
  · exact ⟨mn_sLR, o281_12⟩
  · exact ⟨mn_sGR, o281_13⟩
  · exact ⟨mn_sLI, o281_16⟩
  · exact ⟨mn_sLI, o281_17⟩
  · exact ⟨mn_sIS, o281_18⟩
  · exact ⟨mn_sLR, o281_19⟩
  · exact ⟨mn_sGR, o281_20⟩
  · exact ⟨mn_sLI, o281_23⟩
  · exact ⟨mn_sX, ok_X⟩
theorem oc281_1 : ∀ pc, Mnp (c281_1 pc) ∧ Okp RX12 cX12_activate 5 none "activate" false pc (c281_1 pc) := by
  intro pc
  unfold c281_1
  split
  · exact ⟨mn_sK, o281_24⟩
  · exact ⟨mn_sIS, o281_25⟩
  · exact ⟨mn_sLR, o281_26⟩
  · exact ⟨mn_sGR, o281_27⟩
  · exact ⟨mn_sLI, o281_30⟩
  · exact ⟨mn_sK, o281_31⟩
  · exact ⟨mn_sIS, o281_32⟩
  · exact ⟨mn_sK, o281_33⟩
  · exact ⟨mn_sSI, o281_34⟩
  · exact ⟨mn_sLI, o281_36⟩
  · exact ⟨mn_sK, o281_38⟩
  · exact ⟨mn_sI2, o281_40⟩
  · exact ⟨mn_sLR, o281_43⟩
  · exact ⟨mn_sK, o281_44⟩
  · exact ⟨mn_sLI, o281_46⟩
  · exact ⟨mn_sB2, o281_47⟩
  · exact ⟨mn_sX, ok_X⟩
theorem oc281_2 : ∀ pc, Mnp (c281_2 pc) ∧ Okp RX12 cX12_activate 5 none "activate" false pc (c281_2 pc) := by
  intro pc
  unfold c281_2
  split
  · exact ⟨mn_sLI, o281_48⟩
  · exact ⟨mn_sB2, o281_50⟩
  · exact ⟨mn_sK, o281_51⟩
  · exact ⟨mn_sK, o281_52⟩
  · exact ⟨mn_sCV, o281_53⟩
  · exact ⟨mn_sInc, o281_56⟩
  · exact ⟨mn_sGo, o281_59⟩
  · exact ⟨mn_sLR, o281_62⟩
  · exact ⟨mn_sGR, o281_63⟩
  · exact ⟨mn_sLI, o281_66⟩
  · exact ⟨mn_sDup2, o281_67⟩
  · exact ⟨mn_sIA, o281_68⟩
  · exact ⟨mn_sK, o281_69⟩
  · exact ⟨mn_sB2, o281_70⟩
  · exact ⟨mn_sIS, o281_71⟩
  · exact ⟨mn_sX, ok_X⟩
theorem oc281_3 : ∀ pc, Mnp (c281_3 pc) ∧ Okp RX12 cX12_activate 5 none "activate" false pc (c281_3 pc) := by
  intro pc
  unfold c281_3
  split
  · exact ⟨mn_sRV, o281_72⟩
  · exact ⟨mn_sX, ok_X⟩
theorem oc281 : ∀ pc, Mnp (c281 pc) ∧ Okp RX12 cX12_activate 5 none "activate" false pc (c281 pc) := by
  intro pc
  unfold c281
  split
  · exact oc281_0 pc
  · exact oc281_1 pc
  · exact oc281_2 pc
  · exact oc281_3 pc
  · exact ⟨mn_sX, ok_X⟩
