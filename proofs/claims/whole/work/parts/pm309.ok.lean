theorem o243_0 : Okp RX12 cX12_right 4 (some .boolean) "right" false 0 (sK 0 1) := ok_iconst (by decide +kernel : decode cX12_right 0 = .ok (.iconst 0, 1)) (by decide)
theorem o243_1 : Okp RX12 cX12_right 4 (some .boolean) "right" false 1 (sSI 3 2) := ok_istore_n (by decide +kernel : decode cX12_right 1 = .ok (.istore_n 3, 1)) rfl (by decide) (by decide)
theorem o243_2 : Okp RX12 cX12_right 4 (some .boolean) "right" false 2 (sLI 3 3) := ok_iload_n (by decide +kernel : decode cX12_right 2 = .ok (.iload_n 3, 1)) rfl
theorem o243_3 : Okp RX12 cX12_right 4 (some .boolean) "right" false 3 (sK 240 6) := ok_sipush (by decide +kernel : decode cX12_right 3 = .ok (.sipush 240, 3)) (by decide)
theorem o243_6 : Okp RX12 cX12_right 4 (some .boolean) "right" false 6 (sI2 3 22 9) := ok_icmp_ge (by decide +kernel : decode cX12_right 6 = .ok (.if_icmp .ge 16, 3)) (by decide)
theorem o243_9 : Okp RX12 cX12_right 4 (some .boolean) "right" false 9 (sLR 0 10) := ok_aload_n (by decide +kernel : decode cX12_right 9 = .ok (.aload_n 0, 1)) rfl
theorem o243_10 : Okp RX12 cX12_right 4 (some .boolean) "right" false 10 (sGR 13 29 13) := ok_getR (by decide +kernel : decode cX12_right 10 = .ok (.getfield 83, 3)) fw_X12_83 rfl
theorem o243_13 : Okp RX12 cX12_right 4 (some .boolean) "right" false 13 (sLI 3 14) := ok_iload_n (by decide +kernel : decode cX12_right 13 = .ok (.iload_n 3, 1)) rfl
theorem o243_14 : Okp RX12 cX12_right 4 (some .boolean) "right" false 14 (sK 0 15) := ok_iconst (by decide +kernel : decode cX12_right 14 = .ok (.iconst 0, 1)) (by decide)
theorem o243_15 : Okp RX12 cX12_right 4 (some .boolean) "right" false 15 (sBS 16) := ok_bastore (by decide +kernel : decode cX12_right 15 = .ok (.bastore, 1))
theorem o243_16 : Okp RX12 cX12_right 4 (some .boolean) "right" false 16 (sInc 3 1 19) := ok_iinc (by decide +kernel : decode cX12_right 16 = .ok (.iinc 3 1, 3)) (by decide) (by decide)
theorem o243_19 : Okp RX12 cX12_right 4 (some .boolean) "right" false 19 (sGo 2) := ok_goto (by decide +kernel : decode cX12_right 19 = .ok (.goto (-17), 3)) (by decide)
theorem o243_22 : Okp RX12 cX12_right 4 (some .boolean) "right" false 22 (sLR 0 23) := ok_aload_n (by decide +kernel : decode cX12_right 22 = .ok (.aload_n 0, 1)) rfl
theorem o243_23 : Okp RX12 cX12_right 4 (some .boolean) "right" false 23 (sK 1 24) := ok_iconst (by decide +kernel : decode cX12_right 23 = .ok (.iconst 1, 1)) (by decide)
theorem o243_24 : Okp RX12 cX12_right 4 (some .boolean) "right" false 24 (sPZ 13 36 27) := ok_putZ (by decide +kernel : decode cX12_right 24 = .ok (.putfield 309, 3)) fw_X12_309 ⟨⟨tyX12_ok, nmX12⟩, Or.inl rfl, rfl⟩ rfl
theorem o243_27 : Okp RX12 cX12_right 4 (some .boolean) "right" false 27 (sLR 0 28) := ok_aload_n (by decide +kernel : decode cX12_right 27 = .ok (.aload_n 0, 1)) rfl
theorem o243_28 : Okp RX12 cX12_right 4 (some .boolean) "right" false 28 (sK 1 29) := ok_iconst (by decide +kernel : decode cX12_right 28 = .ok (.iconst 1, 1)) (by decide)
theorem o243_29 : Okp RX12 cX12_right 4 (some .boolean) "right" false 29 (sPZ 13 37 32) := ok_putZ (by decide +kernel : decode cX12_right 29 = .ok (.putfield 312, 3)) fw_X12_312 ⟨⟨tyX12_ok, nmX12⟩, Or.inl rfl, rfl⟩ rfl
theorem o243_32 : Okp RX12 cX12_right 4 (some .boolean) "right" false 32 (sLR 0 33) := ok_aload_n (by decide +kernel : decode cX12_right 32 = .ok (.aload_n 0, 1)) rfl
theorem o243_33 : Okp RX12 cX12_right 4 (some .boolean) "right" false 33 (sK 0 34) := ok_iconst (by decide +kernel : decode cX12_right 33 = .ok (.iconst 0, 1)) (by decide)
theorem o243_34 : Okp RX12 cX12_right 4 (some .boolean) "right" false 34 (sPI 13 35 37) := ok_putI (by decide +kernel : decode cX12_right 34 = .ok (.putfield 315, 3)) fw_X12_315 ⟨⟨tyX12_ok, nmX12⟩, Or.inl rfl, rfl⟩ rfl
theorem o243_37 : Okp RX12 cX12_right 4 (some .boolean) "right" false 37 (sK 0 38) := ok_iconst (by decide +kernel : decode cX12_right 37 = .ok (.iconst 0, 1)) (by decide)
theorem o243_38 : Okp RX12 cX12_right 4 (some .boolean) "right" false 38 (sSI 3 39) := ok_istore_n (by decide +kernel : decode cX12_right 38 = .ok (.istore_n 3, 1)) rfl (by decide) (by decide)
theorem o243_39 : Okp RX12 cX12_right 4 (some .boolean) "right" false 39 (sLI 3 40) := ok_iload_n (by decide +kernel : decode cX12_right 39 = .ok (.iload_n 3, 1)) rfl
theorem o243_40 : Okp RX12 cX12_right 4 (some .boolean) "right" false 40 (sK 10 42) := ok_bipush (by decide +kernel : decode cX12_right 40 = .ok (.bipush 10, 2)) (by decide)
theorem o243_42 : Okp RX12 cX12_right 4 (some .boolean) "right" false 42 (sI2 3 82 45) := ok_icmp_ge (by decide +kernel : decode cX12_right 42 = .ok (.if_icmp .ge 40, 3)) (by decide)
theorem o243_45 : Okp RX12 cX12_right 4 (some .boolean) "right" false 45 (sLR 0 46) := ok_aload_n (by decide +kernel : decode cX12_right 45 = .ok (.aload_n 0, 1)) rfl
theorem o243_46 : Okp RX12 cX12_right 4 (some .boolean) "right" false 46 (sGR 13 34 49) := ok_getR (by decide +kernel : decode cX12_right 46 = .ok (.getfield 98, 3)) fw_X12_98 rfl
theorem o243_49 : Okp RX12 cX12_right 4 (some .boolean) "right" false 49 (sLI 3 50) := ok_iload_n (by decide +kernel : decode cX12_right 49 = .ok (.iload_n 3, 1)) rfl
theorem o243_50 : Okp RX12 cX12_right 4 (some .boolean) "right" false 50 (sLI 3 51) := ok_iload_n (by decide +kernel : decode cX12_right 50 = .ok (.iload_n 3, 1)) rfl
theorem o243_51 : Okp RX12 cX12_right 4 (some .boolean) "right" false 51 (sLR 0 52) := ok_aload_n (by decide +kernel : decode cX12_right 51 = .ok (.aload_n 0, 1)) rfl
theorem o243_52 : Okp RX12 cX12_right 4 (some .boolean) "right" false 52 (sGR 13 16 55) := ok_getR (by decide +kernel : decode cX12_right 52 = .ok (.getfield 54, 3)) fw_X12_54 rfl
theorem o243_55 : Okp RX12 cX12_right 4 (some .boolean) "right" false 55 (sLI 2 56) := ok_iload_n (by decide +kernel : decode cX12_right 55 = .ok (.iload_n 2, 1)) rfl
theorem o243_56 : Okp RX12 cX12_right 4 (some .boolean) "right" false 56 (sIA 57) := ok_iaload (by decide +kernel : decode cX12_right 56 = .ok (.iaload, 1))
theorem o243_57 : Okp RX12 cX12_right 4 (some .boolean) "right" false 57 (sI2 3 73 60) := ok_icmp_ge (by decide +kernel : decode cX12_right 57 = .ok (.if_icmp .ge 16, 3)) (by decide)
theorem o243_60 : Okp RX12 cX12_right 4 (some .boolean) "right" false 60 (sLR 0 61) := ok_aload_n (by decide +kernel : decode cX12_right 60 = .ok (.aload_n 0, 1)) rfl
theorem o243_61 : Okp RX12 cX12_right 4 (some .boolean) "right" false 61 (sGR 13 17 64) := ok_getR (by decide +kernel : decode cX12_right 61 = .ok (.getfield 57, 3)) fw_X12_57 rfl
theorem o243_64 : Okp RX12 cX12_right 4 (some .boolean) "right" false 64 (sK 4 65) := ok_iconst (by decide +kernel : decode cX12_right 64 = .ok (.iconst 4, 1)) (by decide)
theorem o243_65 : Okp RX12 cX12_right 4 (some .boolean) "right" false 65 (sLI 2 66) := ok_iload_n (by decide +kernel : decode cX12_right 65 = .ok (.iload_n 2, 1)) rfl
theorem o243_66 : Okp RX12 cX12_right 4 (some .boolean) "right" false 66 (sB2 fMul 67) := ok_imul (by decide +kernel : decode cX12_right 66 = .ok (.imul, 1))
theorem o243_67 : Okp RX12 cX12_right 4 (some .boolean) "right" false 67 (sLI 3 68) := ok_iload_n (by decide +kernel : decode cX12_right 67 = .ok (.iload_n 3, 1)) rfl
theorem o243_68 : Okp RX12 cX12_right 4 (some .boolean) "right" false 68 (sB2 fAdd 69) := ok_iadd (by decide +kernel : decode cX12_right 68 = .ok (.iadd, 1))
theorem o243_69 : Okp RX12 cX12_right 4 (some .boolean) "right" false 69 (sIA 70) := ok_iaload (by decide +kernel : decode cX12_right 69 = .ok (.iaload, 1))
theorem o243_70 : Okp RX12 cX12_right 4 (some .boolean) "right" false 70 (sGo 75) := ok_goto (by decide +kernel : decode cX12_right 70 = .ok (.goto 5, 3)) (by decide)
theorem o243_73 : Okp RX12 cX12_right 4 (some .boolean) "right" false 73 (sK 7 75) := ok_bipush (by decide +kernel : decode cX12_right 73 = .ok (.bipush 7, 2)) (by decide)
theorem o243_75 : Okp RX12 cX12_right 4 (some .boolean) "right" false 75 (sIS 76) := ok_iastore (by decide +kernel : decode cX12_right 75 = .ok (.iastore, 1))
theorem o243_76 : Okp RX12 cX12_right 4 (some .boolean) "right" false 76 (sInc 3 1 79) := ok_iinc (by decide +kernel : decode cX12_right 76 = .ok (.iinc 3 1, 3)) (by decide) (by decide)
theorem o243_79 : Okp RX12 cX12_right 4 (some .boolean) "right" false 79 (sGo 39) := ok_goto (by decide +kernel : decode cX12_right 79 = .ok (.goto (-40), 3)) (by decide)
theorem o243_82 : Okp RX12 cX12_right 4 (some .boolean) "right" false 82 (sLR 0 83) := ok_aload_n (by decide +kernel : decode cX12_right 82 = .ok (.aload_n 0, 1)) rfl
theorem o243_83 : Okp RX12 cX12_right 4 (some .boolean) "right" false 83 (sLI 2 84) := ok_iload_n (by decide +kernel : decode cX12_right 83 = .ok (.iload_n 2, 1)) rfl
theorem o243_84 : Okp RX12 cX12_right 4 (some .boolean) "right" false 84 (sK 0 85) := ok_iconst (by decide +kernel : decode cX12_right 84 = .ok (.iconst 0, 1)) (by decide)
theorem o243_85 : Okp RX12 cX12_right 4 (some .boolean) "right" false 85 (sCV false 245 3 13 88) := ok_cv (by decide +kernel : decode cX12_right 85 = .ok (.invokevirtual 318, 3)) mw_X12_318 rfl (by decide) wm_X12_flow wse_X12_flow (by decide) rfl
theorem o243_88 : Okp RX12 cX12_right 4 (some .boolean) "right" false 88 (sLR 0 89) := ok_aload_n (by decide +kernel : decode cX12_right 88 = .ok (.aload_n 0, 1)) rfl
theorem o243_89 : Okp RX12 cX12_right 4 (some .boolean) "right" false 89 (sGI 13 36 92) := ok_getI (by decide +kernel : decode cX12_right 89 = .ok (.getfield 309, 3)) fw_X12_309 rfl
theorem o243_92 : Okp RX12 cX12_right 4 (some .boolean) "right" false 92 (sI1 0 164 95) := ok_if_eq (by decide +kernel : decode cX12_right 92 = .ok (.ifCond .eq 72, 3)) (by decide)
theorem o243_95 : Okp RX12 cX12_right 4 (some .boolean) "right" false 95 (sLR 0 96) := ok_aload_n (by decide +kernel : decode cX12_right 95 = .ok (.aload_n 0, 1)) rfl
theorem o243_96 : Okp RX12 cX12_right 4 (some .boolean) "right" false 96 (sGI 13 37 99) := ok_getI (by decide +kernel : decode cX12_right 96 = .ok (.getfield 312, 3)) fw_X12_312 rfl
theorem o243_99 : Okp RX12 cX12_right 4 (some .boolean) "right" false 99 (sI1 0 164 102) := ok_if_eq (by decide +kernel : decode cX12_right 99 = .ok (.ifCond .eq 65, 3)) (by decide)
theorem o243_102 : Okp RX12 cX12_right 4 (some .boolean) "right" false 102 (sLR 0 103) := ok_aload_n (by decide +kernel : decode cX12_right 102 = .ok (.aload_n 0, 1)) rfl
theorem o243_103 : Okp RX12 cX12_right 4 (some .boolean) "right" false 103 (sK 0 104) := ok_iconst (by decide +kernel : decode cX12_right 103 = .ok (.iconst 0, 1)) (by decide)
theorem o243_104 : Okp RX12 cX12_right 4 (some .boolean) "right" false 104 (sPZ 13 37 107) := ok_putZ (by decide +kernel : decode cX12_right 104 = .ok (.putfield 312, 3)) fw_X12_312 ⟨⟨tyX12_ok, nmX12⟩, Or.inl rfl, rfl⟩ rfl
theorem o243_107 : Okp RX12 cX12_right 4 (some .boolean) "right" false 107 (sK 0 108) := ok_iconst (by decide +kernel : decode cX12_right 107 = .ok (.iconst 0, 1)) (by decide)
theorem o243_108 : Okp RX12 cX12_right 4 (some .boolean) "right" false 108 (sSI 3 109) := ok_istore_n (by decide +kernel : decode cX12_right 108 = .ok (.istore_n 3, 1)) rfl (by decide) (by decide)
theorem o243_109 : Okp RX12 cX12_right 4 (some .boolean) "right" false 109 (sLI 3 110) := ok_iload_n (by decide +kernel : decode cX12_right 109 = .ok (.iload_n 3, 1)) rfl
theorem o243_110 : Okp RX12 cX12_right 4 (some .boolean) "right" false 110 (sLR 0 111) := ok_aload_n (by decide +kernel : decode cX12_right 110 = .ok (.aload_n 0, 1)) rfl
theorem o243_111 : Okp RX12 cX12_right 4 (some .boolean) "right" false 111 (sGR 13 20 114) := ok_getR (by decide +kernel : decode cX12_right 111 = .ok (.getfield 66, 3)) fw_X12_66 rfl
theorem o243_114 : Okp RX12 cX12_right 4 (some .boolean) "right" false 114 (sLI 2 115) := ok_iload_n (by decide +kernel : decode cX12_right 114 = .ok (.iload_n 2, 1)) rfl
theorem o243_115 : Okp RX12 cX12_right 4 (some .boolean) "right" false 115 (sIA 116) := ok_iaload (by decide +kernel : decode cX12_right 115 = .ok (.iaload, 1))
theorem o243_116 : Okp RX12 cX12_right 4 (some .boolean) "right" false 116 (sI2 3 161 119) := ok_icmp_ge (by decide +kernel : decode cX12_right 116 = .ok (.if_icmp .ge 45, 3)) (by decide)
theorem o243_119 : Okp RX12 cX12_right 4 (some .boolean) "right" false 119 (sLR 0 120) := ok_aload_n (by decide +kernel : decode cX12_right 119 = .ok (.aload_n 0, 1)) rfl
theorem o243_120 : Okp RX12 cX12_right 4 (some .boolean) "right" false 120 (sGI 13 36 123) := ok_getI (by decide +kernel : decode cX12_right 120 = .ok (.getfield 309, 3)) fw_X12_309 rfl
theorem o243_123 : Okp RX12 cX12_right 4 (some .boolean) "right" false 123 (sI1 0 161 126) := ok_if_eq (by decide +kernel : decode cX12_right 123 = .ok (.ifCond .eq 38, 3)) (by decide)
theorem o243_126 : Okp RX12 cX12_right 4 (some .boolean) "right" false 126 (sLR 0 127) := ok_aload_n (by decide +kernel : decode cX12_right 126 = .ok (.aload_n 0, 1)) rfl
theorem o243_127 : Okp RX12 cX12_right 4 (some .boolean) "right" false 127 (sGR 13 29 130) := ok_getR (by decide +kernel : decode cX12_right 127 = .ok (.getfield 83, 3)) fw_X12_83 rfl
theorem o243_130 : Okp RX12 cX12_right 4 (some .boolean) "right" false 130 (sLI 3 131) := ok_iload_n (by decide +kernel : decode cX12_right 130 = .ok (.iload_n 3, 1)) rfl
theorem o243_131 : Okp RX12 cX12_right 4 (some .boolean) "right" false 131 (sBA 132) := ok_baload (by decide +kernel : decode cX12_right 131 = .ok (.baload, 1))
theorem o243_132 : Okp RX12 cX12_right 4 (some .boolean) "right" false 132 (sI1 0 142 135) := ok_if_eq (by decide +kernel : decode cX12_right 132 = .ok (.ifCond .eq 10, 3)) (by decide)
theorem o243_135 : Okp RX12 cX12_right 4 (some .boolean) "right" false 135 (sLR 0 136) := ok_aload_n (by decide +kernel : decode cX12_right 135 = .ok (.aload_n 0, 1)) rfl
theorem o243_136 : Okp RX12 cX12_right 4 (some .boolean) "right" false 136 (sLI 1 137) := ok_iload_n (by decide +kernel : decode cX12_right 136 = .ok (.iload_n 1, 1)) rfl
theorem o243_137 : Okp RX12 cX12_right 4 (some .boolean) "right" false 137 (sLI 2 138) := ok_iload_n (by decide +kernel : decode cX12_right 137 = .ok (.iload_n 2, 1)) rfl
theorem o243_138 : Okp RX12 cX12_right 4 (some .boolean) "right" false 138 (sLI 3 139) := ok_iload_n (by decide +kernel : decode cX12_right 138 = .ok (.iload_n 3, 1)) rfl
theorem o243_139 : Okp RX12 cX12_right 4 (some .boolean) "right" false 139 (sCV false 253 4 13 142) := ok_cv (by decide +kernel : decode cX12_right 139 = .ok (.invokevirtual 321, 3)) mw_X12_321 rfl (by decide) wm_X12_step wse_X12_step (by decide) rfl
theorem o243_142 : Okp RX12 cX12_right 4 (some .boolean) "right" false 142 (sLI 3 143) := ok_iload_n (by decide +kernel : decode cX12_right 142 = .ok (.iload_n 3, 1)) rfl
theorem o243_143 : Okp RX12 cX12_right 4 (some .boolean) "right" false 143 (sLR 0 144) := ok_aload_n (by decide +kernel : decode cX12_right 143 = .ok (.aload_n 0, 1)) rfl
theorem o243_144 : Okp RX12 cX12_right 4 (some .boolean) "right" false 144 (sLI 1 145) := ok_iload_n (by decide +kernel : decode cX12_right 144 = .ok (.iload_n 1, 1)) rfl
theorem o243_145 : Okp RX12 cX12_right 4 (some .boolean) "right" false 145 (sLR 0 146) := ok_aload_n (by decide +kernel : decode cX12_right 145 = .ok (.aload_n 0, 1)) rfl
theorem o243_146 : Okp RX12 cX12_right 4 (some .boolean) "right" false 146 (sGR 13 21 149) := ok_getR (by decide +kernel : decode cX12_right 146 = .ok (.getfield 69, 3)) fw_X12_69 rfl
theorem o243_149 : Okp RX12 cX12_right 4 (some .boolean) "right" false 149 (sLI 2 150) := ok_iload_n (by decide +kernel : decode cX12_right 149 = .ok (.iload_n 2, 1)) rfl
theorem o243_150 : Okp RX12 cX12_right 4 (some .boolean) "right" false 150 (sIA 151) := ok_iaload (by decide +kernel : decode cX12_right 150 = .ok (.iaload, 1))
theorem o243_151 : Okp RX12 cX12_right 4 (some .boolean) "right" false 151 (sLI 3 152) := ok_iload_n (by decide +kernel : decode cX12_right 151 = .ok (.iload_n 3, 1)) rfl
theorem o243_152 : Okp RX12 cX12_right 4 (some .boolean) "right" false 152 (sB2 fAdd 153) := ok_iadd (by decide +kernel : decode cX12_right 152 = .ok (.iadd, 1))
theorem o243_153 : Okp RX12 cX12_right 4 (some .boolean) "right" false 153 (sCV false 240 3 13 156) := ok_cv (by decide +kernel : decode cX12_right 153 = .ok (.invokevirtual 302, 3)) mw_X12_302 rfl (by decide) wm_X12_length wse_X12_length (by decide) rfl
theorem o243_156 : Okp RX12 cX12_right 4 (some .boolean) "right" false 156 (sB2 fAdd 157) := ok_iadd (by decide +kernel : decode cX12_right 156 = .ok (.iadd, 1))
theorem o243_157 : Okp RX12 cX12_right 4 (some .boolean) "right" false 157 (sSI 3 158) := ok_istore_n (by decide +kernel : decode cX12_right 157 = .ok (.istore_n 3, 1)) rfl (by decide) (by decide)
theorem o243_158 : Okp RX12 cX12_right 4 (some .boolean) "right" false 158 (sGo 109) := ok_goto (by decide +kernel : decode cX12_right 158 = .ok (.goto (-49), 3)) (by decide)
theorem o243_161 : Okp RX12 cX12_right 4 (some .boolean) "right" false 161 (sGo 88) := ok_goto (by decide +kernel : decode cX12_right 161 = .ok (.goto (-73), 3)) (by decide)
theorem o243_164 : Okp RX12 cX12_right 4 (some .boolean) "right" false 164 (sLR 0 165) := ok_aload_n (by decide +kernel : decode cX12_right 164 = .ok (.aload_n 0, 1)) rfl
theorem o243_165 : Okp RX12 cX12_right 4 (some .boolean) "right" false 165 (sGI 13 36 168) := ok_getI (by decide +kernel : decode cX12_right 165 = .ok (.getfield 309, 3)) fw_X12_309 rfl
theorem o243_168 : Okp RX12 cX12_right 4 (some .boolean) "right" false 168 sRZ := ok_zret rfl (by decide +kernel : decode cX12_right 168 = .ok (.ireturn, 1))
theorem oc243_0 : ∀ pc, Mnp (c243_0 pc) ∧ Okp RX12 cX12_right 4 (some .boolean) "right" false pc (c243_0 pc) := by
  intro pc
  unfold c243_0
  split
  · exact ⟨mn_sK, o243_0⟩
  · exact ⟨mn_sSI, o243_1⟩
  · exact ⟨mn_sLI, o243_2⟩
  · exact ⟨mn_sK, o243_3⟩
  · exact ⟨mn_sI2, o243_6⟩
  · exact ⟨mn_sLR, o243_9⟩
  · exact ⟨mn_sGR, o243_10⟩
  · exact ⟨mn_sLI, o243_13⟩
  · exact ⟨mn_sK, o243_14⟩
  · exact ⟨mn_sBS, o243_15⟩
  · exact ⟨mn_sInc, o243_16⟩
  · exact ⟨mn_sGo, o243_19⟩
  · exact ⟨mn_sLR, o243_22⟩
  · exact ⟨mn_sK, o243_23⟩
  · exact ⟨mn_sX, ok_X⟩
theorem oc243_1 : ∀ pc, Mnp (c243_1 pc) ∧ Okp RX12 cX12_right 4 (some .boolean) "right" false pc (c243_1 pc) := by
  intro pc
  unfold c243_1
  split
  · exact ⟨mn_sPZ, o243_24⟩
  · exact ⟨mn_sLR, o243_27⟩
  · exact ⟨mn_sK, o243_28⟩
  · exact ⟨mn_sPZ, o243_29⟩
  · exact ⟨mn_sLR, o243_32⟩
  · exact ⟨mn_sK, o243_33⟩
  · exact ⟨mn_sPI, o243_34⟩
  · exact ⟨mn_sK, o243_37⟩
  · exact ⟨mn_sSI, o243_38⟩
  · exact ⟨mn_sLI, o243_39⟩
  · exact ⟨mn_sK, o243_40⟩
  · exact ⟨mn_sI2, o243_42⟩
  · exact ⟨mn_sLR, o243_45⟩
  · exact ⟨mn_sGR, o243_46⟩
  · exact ⟨mn_sX, ok_X⟩
theorem oc243_2 : ∀ pc, Mnp (c243_2 pc) ∧ Okp RX12 cX12_right 4 (some .boolean) "right" false pc (c243_2 pc) := by
  intro pc
  unfold c243_2
  split
  · exact ⟨mn_sLI, o243_49⟩
  · exact ⟨mn_sLI, o243_50⟩
  · exact ⟨mn_sLR, o243_51⟩
  · exact ⟨mn_sGR, o243_52⟩
  · exact ⟨mn_sLI, o243_55⟩
  · exact ⟨mn_sIA, o243_56⟩
  · exact ⟨mn_sI2, o243_57⟩
  · exact ⟨mn_sLR, o243_60⟩
  · exact ⟨mn_sGR, o243_61⟩
  · exact ⟨mn_sK, o243_64⟩
  · exact ⟨mn_sLI, o243_65⟩
  · exact ⟨mn_sB2, o243_66⟩
  · exact ⟨mn_sLI, o243_67⟩
  · exact ⟨mn_sB2, o243_68⟩
  · exact ⟨mn_sIA, o243_69⟩
  · exact ⟨mn_sGo, o243_70⟩
  · exact ⟨mn_sX, ok_X⟩
theorem oc243_3 : ∀ pc, Mnp (c243_3 pc) ∧ Okp RX12 cX12_right 4 (some .boolean) "right" false pc (c243_3 pc) := by
  intro pc
  unfold c243_3
  split
  · exact ⟨mn_sK, o243_73⟩
  · exact ⟨mn_sIS, o243_75⟩
  · exact ⟨mn_sInc, o243_76⟩
  · exact ⟨mn_sGo, o243_79⟩
  · exact ⟨mn_sLR, o243_82⟩
  · exact ⟨mn_sLI, o243_83⟩
  · exact ⟨mn_sK, o243_84⟩
  · exact ⟨mn_sCV, o243_85⟩
  · exact ⟨mn_sLR, o243_88⟩
  · exact ⟨mn_sGI, o243_89⟩
  · exact ⟨mn_sI1, o243_92⟩
  · exact ⟨mn_sLR, o243_95⟩
  · exact ⟨mn_sX, ok_X⟩
theorem oc243_4 : ∀ pc, Mnp (c243_4 pc) ∧ Okp RX12 cX12_right 4 (some .boolean) "right" false pc (c243_4 pc) := by
  intro pc
  unfold c243_4
  split
  · exact ⟨mn_sGI, o243_96⟩
  · exact ⟨mn_sI1, o243_99⟩
  · exact ⟨mn_sLR, o243_102⟩
  · exact ⟨mn_sK, o243_103⟩
  · exact ⟨mn_sPZ, o243_104⟩
  · exact ⟨mn_sK, o243_107⟩
  · exact ⟨mn_sSI, o243_108⟩
  · exact ⟨mn_sLI, o243_109⟩
  · exact ⟨mn_sLR, o243_110⟩
  · exact ⟨mn_sGR, o243_111⟩
  · exact ⟨mn_sLI, o243_114⟩
  · exact ⟨mn_sIA, o243_115⟩
  · exact ⟨mn_sI2, o243_116⟩
  · exact ⟨mn_sLR, o243_119⟩
  · exact ⟨mn_sX, ok_X⟩
theorem oc243_5 : ∀ pc, Mnp (c243_5 pc) ∧ Okp RX12 cX12_right 4 (some .boolean) "right" false pc (c243_5 pc) := by
  intro pc
  unfold c243_5
  split
  · exact ⟨mn_sGI, o243_120⟩
  · exact ⟨mn_sI1, o243_123⟩
  · exact ⟨mn_sLR, o243_126⟩
  · exact ⟨mn_sGR, o243_127⟩
  · exact ⟨mn_sLI, o243_130⟩
  · exact ⟨mn_sBA, o243_131⟩
  · exact ⟨mn_sI1, o243_132⟩
  · exact ⟨mn_sLR, o243_135⟩
  · exact ⟨mn_sLI, o243_136⟩
  · exact ⟨mn_sLI, o243_137⟩
  · exact ⟨mn_sLI, o243_138⟩
  · exact ⟨mn_sCV, o243_139⟩
  · exact ⟨mn_sLI, o243_142⟩
  · exact ⟨mn_sLR, o243_143⟩
  · exact ⟨mn_sX, ok_X⟩
theorem oc243_6 : ∀ pc, Mnp (c243_6 pc) ∧ Okp RX12 cX12_right 4 (some .boolean) "right" false pc (c243_6 pc) := by
  intro pc
  unfold c243_6
  split
  · exact ⟨mn_sLI, o243_144⟩
  · exact ⟨mn_sLR, o243_145⟩
  · exact ⟨mn_sGR, o243_146⟩
  · exact ⟨mn_sLI, o243_149⟩
  · exact ⟨mn_sIA, o243_150⟩
  · exact ⟨mn_sLI, o243_151⟩
  · exact ⟨mn_sB2, o243_152⟩
  · exact ⟨mn_sCV, o243_153⟩
  · exact ⟨mn_sB2, o243_156⟩
  · exact ⟨mn_sSI, o243_157⟩
  · exact ⟨mn_sGo, o243_158⟩
  · exact ⟨mn_sGo, o243_161⟩
  · exact ⟨mn_sLR, o243_164⟩
  · exact ⟨mn_sGI, o243_165⟩
  · exact ⟨mn_sX, ok_X⟩
theorem oc243_7 : ∀ pc, Mnp (c243_7 pc) ∧ Okp RX12 cX12_right 4 (some .boolean) "right" false pc (c243_7 pc) := by
  intro pc
  unfold c243_7
  split
  · exact ⟨mn_sRZ, o243_168⟩
  · exact ⟨mn_sX, ok_X⟩
theorem oc243 : ∀ pc, Mnp (c243 pc) ∧ Okp RX12 cX12_right 4 (some .boolean) "right" false pc (c243 pc) := by
  intro pc
  unfold c243
  split
  · exact oc243_0 pc
  · exact oc243_1 pc
  · exact oc243_2 pc
  · exact oc243_3 pc
  · exact oc243_4 pc
  · exact oc243_5 pc
  · exact oc243_6 pc
  · exact oc243_7 pc
  · exact ⟨mn_sX, ok_X⟩
theorem o244_0 : Okp RX12 cX12_wants 2 none "wants" false 0 (sLR 0 1) := ok_aload_n (by decide +kernel : decode cX12_wants 0 = .ok (.aload_n 0, 1)) rfl
theorem o244_1 : Okp RX12 cX12_wants 2 none "wants" false 1 (sLR 0 2) := ok_aload_n (by decide +kernel : decode cX12_wants 1 = .ok (.aload_n 0, 1)) rfl
theorem o244_2 : Okp RX12 cX12_wants 2 none "wants" false 2 (sGI 13 36 5) := ok_getI (by decide +kernel : decode cX12_wants 2 = .ok (.getfield 309, 3)) fw_X12_309 rfl
theorem o244_5 : Okp RX12 cX12_wants 2 none "wants" false 5 (sI1 0 16 8) := ok_if_eq (by decide +kernel : decode cX12_wants 5 = .ok (.ifCond .eq 11, 3)) (by decide)
theorem o244_8 : Okp RX12 cX12_wants 2 none "wants" false 8 (sLI 1 9) := ok_iload_n (by decide +kernel : decode cX12_wants 8 = .ok (.iload_n 1, 1)) rfl
theorem o244_9 : Okp RX12 cX12_wants 2 none "wants" false 9 (sI1 0 16 12) := ok_if_eq (by decide +kernel : decode cX12_wants 9 = .ok (.ifCond .eq 7, 3)) (by decide)
theorem o244_12 : Okp RX12 cX12_wants 2 none "wants" false 12 (sK 1 13) := ok_iconst (by decide +kernel : decode cX12_wants 12 = .ok (.iconst 1, 1)) (by decide)
theorem o244_13 : Okp RX12 cX12_wants 2 none "wants" false 13 (sGo 17) := ok_goto (by decide +kernel : decode cX12_wants 13 = .ok (.goto 4, 3)) (by decide)
theorem o244_16 : Okp RX12 cX12_wants 2 none "wants" false 16 (sK 0 17) := ok_iconst (by decide +kernel : decode cX12_wants 16 = .ok (.iconst 0, 1)) (by decide)
theorem o244_17 : Okp RX12 cX12_wants 2 none "wants" false 17 (sPZ 13 36 20) := ok_putZ (by decide +kernel : decode cX12_wants 17 = .ok (.putfield 309, 3)) fw_X12_309 ⟨⟨tyX12_ok, nmX12⟩, Or.inl rfl, rfl⟩ rfl
theorem o244_20 : Okp RX12 cX12_wants 2 none "wants" false 20 sRV := ok_vret rfl (by decide +kernel : decode cX12_wants 20 = .ok (.return_, 1))
theorem oc244 : ∀ pc, Mnp (c244 pc) ∧ Okp RX12 cX12_wants 2 none "wants" false pc (c244 pc) := by
  intro pc
  unfold c244
  split
  · exact ⟨mn_sLR, o244_0⟩
  · exact ⟨mn_sLR, o244_1⟩
  · exact ⟨mn_sGI, o244_2⟩
  · exact ⟨mn_sI1, o244_5⟩
  · exact ⟨mn_sLI, o244_8⟩
  · exact ⟨mn_sI1, o244_9⟩
  · exact ⟨mn_sK, o244_12⟩
  · exact ⟨mn_sGo, o244_13⟩
  · exact ⟨mn_sK, o244_16⟩
  · exact ⟨mn_sPZ, o244_17⟩
  · exact ⟨mn_sRV, o244_20⟩
  · exact ⟨mn_sX, ok_X⟩
theorem o245_0 : Okp RX12 cX12_flow 6 none "flow" false 0 (sLR 0 1) := ok_aload_n (by decide +kernel : decode cX12_flow 0 = .ok (.aload_n 0, 1)) rfl
theorem o245_1 : Okp RX12 cX12_flow 6 none "flow" false 1 (sLI 2 2) := ok_iload_n (by decide +kernel : decode cX12_flow 1 = .ok (.iload_n 2, 1)) rfl
theorem o245_2 : Okp RX12 cX12_flow 6 none "flow" false 2 (sLR 0 3) := ok_aload_n (by decide +kernel : decode cX12_flow 2 = .ok (.aload_n 0, 1)) rfl
theorem o245_3 : Okp RX12 cX12_flow 6 none "flow" false 3 (sGR 13 20 6) := ok_getR (by decide +kernel : decode cX12_flow 3 = .ok (.getfield 66, 3)) fw_X12_66 rfl
theorem o245_6 : Okp RX12 cX12_flow 6 none "flow" false 6 (sLI 1 7) := ok_iload_n (by decide +kernel : decode cX12_flow 6 = .ok (.iload_n 1, 1)) rfl
theorem o245_7 : Okp RX12 cX12_flow 6 none "flow" false 7 (sIA 8) := ok_iaload (by decide +kernel : decode cX12_flow 7 = .ok (.iaload, 1))
theorem o245_8 : Okp RX12 cX12_flow 6 none "flow" false 8 (sI2 3 24 11) := ok_icmp_ge (by decide +kernel : decode cX12_flow 8 = .ok (.if_icmp .ge 16, 3)) (by decide)
theorem o245_11 : Okp RX12 cX12_flow 6 none "flow" false 11 (sLR 0 12) := ok_aload_n (by decide +kernel : decode cX12_flow 11 = .ok (.aload_n 0, 1)) rfl
theorem o245_12 : Okp RX12 cX12_flow 6 none "flow" false 12 (sGI 13 35 15) := ok_getI (by decide +kernel : decode cX12_flow 12 = .ok (.getfield 315, 3)) fw_X12_315 rfl
theorem o245_15 : Okp RX12 cX12_flow 6 none "flow" false 15 (sK 16 17) := ok_bipush (by decide +kernel : decode cX12_flow 15 = .ok (.bipush 16, 2)) (by decide)
theorem o245_17 : Okp RX12 cX12_flow 6 none "flow" false 17 (sI2 4 24 20) := ok_icmp_gt (by decide +kernel : decode cX12_flow 17 = .ok (.if_icmp .gt 7, 3)) (by decide)
theorem o245_20 : Okp RX12 cX12_flow 6 none "flow" false 20 (sK 1 21) := ok_iconst (by decide +kernel : decode cX12_flow 20 = .ok (.iconst 1, 1)) (by decide)
theorem o245_21 : Okp RX12 cX12_flow 6 none "flow" false 21 (sGo 25) := ok_goto (by decide +kernel : decode cX12_flow 21 = .ok (.goto 4, 3)) (by decide)
theorem o245_24 : Okp RX12 cX12_flow 6 none "flow" false 24 (sK 0 25) := ok_iconst (by decide +kernel : decode cX12_flow 24 = .ok (.iconst 0, 1)) (by decide)
theorem o245_25 : Okp RX12 cX12_flow 6 none "flow" false 25 (sCV false 244 2 13 28) := ok_cv (by decide +kernel : decode cX12_flow 25 = .ok (.invokevirtual 325, 3)) mw_X12_325 rfl (by decide) wm_X12_wants wse_X12_wants (by decide) rfl
theorem o245_28 : Okp RX12 cX12_flow 6 none "flow" false 28 (sLR 0 29) := ok_aload_n (by decide +kernel : decode cX12_flow 28 = .ok (.aload_n 0, 1)) rfl
theorem o245_29 : Okp RX12 cX12_flow 6 none "flow" false 29 (sGI 13 36 32) := ok_getI (by decide +kernel : decode cX12_flow 29 = .ok (.getfield 309, 3)) fw_X12_309 rfl
theorem o245_32 : Okp RX12 cX12_flow 6 none "flow" false 32 (sI1 1 36 35) := ok_if_ne (by decide +kernel : decode cX12_flow 32 = .ok (.ifCond .ne 4, 3)) (by decide)
theorem o245_35 : Okp RX12 cX12_flow 6 none "flow" false 35 sRV := ok_vret rfl (by decide +kernel : decode cX12_flow 35 = .ok (.return_, 1))
theorem o245_36 : Okp RX12 cX12_flow 6 none "flow" false 36 (sLR 0 37) := ok_aload_n (by decide +kernel : decode cX12_flow 36 = .ok (.aload_n 0, 1)) rfl
theorem o245_37 : Okp RX12 cX12_flow 6 none "flow" false 37 (sGR 13 29 40) := ok_getR (by decide +kernel : decode cX12_flow 37 = .ok (.getfield 83, 3)) fw_X12_83 rfl
theorem o245_40 : Okp RX12 cX12_flow 6 none "flow" false 40 (sLI 2 41) := ok_iload_n (by decide +kernel : decode cX12_flow 40 = .ok (.iload_n 2, 1)) rfl
theorem o245_41 : Okp RX12 cX12_flow 6 none "flow" false 41 (sBA 42) := ok_baload (by decide +kernel : decode cX12_flow 41 = .ok (.baload, 1))
theorem o245_42 : Okp RX12 cX12_flow 6 none "flow" false 42 (sI1 1 132 45) := ok_if_ne (by decide +kernel : decode cX12_flow 42 = .ok (.ifCond .ne 90, 3)) (by decide)
theorem o245_45 : Okp RX12 cX12_flow 6 none "flow" false 45 (sLR 0 46) := ok_aload_n (by decide +kernel : decode cX12_flow 45 = .ok (.aload_n 0, 1)) rfl
theorem o245_46 : Okp RX12 cX12_flow 6 none "flow" false 46 (sGR 13 29 49) := ok_getR (by decide +kernel : decode cX12_flow 46 = .ok (.getfield 83, 3)) fw_X12_83 rfl
theorem o245_49 : Okp RX12 cX12_flow 6 none "flow" false 49 (sLI 2 50) := ok_iload_n (by decide +kernel : decode cX12_flow 49 = .ok (.iload_n 2, 1)) rfl
theorem o245_50 : Okp RX12 cX12_flow 6 none "flow" false 50 (sK 1 51) := ok_iconst (by decide +kernel : decode cX12_flow 50 = .ok (.iconst 1, 1)) (by decide)
theorem o245_51 : Okp RX12 cX12_flow 6 none "flow" false 51 (sBS 52) := ok_bastore (by decide +kernel : decode cX12_flow 51 = .ok (.bastore, 1))
theorem o245_52 : Okp RX12 cX12_flow 6 none "flow" false 52 (sLR 0 53) := ok_aload_n (by decide +kernel : decode cX12_flow 52 = .ok (.aload_n 0, 1)) rfl
theorem o245_53 : Okp RX12 cX12_flow 6 none "flow" false 53 (sK 1 54) := ok_iconst (by decide +kernel : decode cX12_flow 53 = .ok (.iconst 1, 1)) (by decide)
theorem o245_54 : Okp RX12 cX12_flow 6 none "flow" false 54 (sPZ 13 37 57) := ok_putZ (by decide +kernel : decode cX12_flow 54 = .ok (.putfield 312, 3)) fw_X12_312 ⟨⟨tyX12_ok, nmX12⟩, Or.inl rfl, rfl⟩ rfl
theorem o245_57 : Okp RX12 cX12_flow 6 none "flow" false 57 (sLR 0 58) := ok_aload_n (by decide +kernel : decode cX12_flow 57 = .ok (.aload_n 0, 1)) rfl
theorem o245_58 : Okp RX12 cX12_flow 6 none "flow" false 58 (sGR 13 30 61) := ok_getR (by decide +kernel : decode cX12_flow 58 = .ok (.getfield 86, 3)) fw_X12_86 rfl
theorem o245_61 : Okp RX12 cX12_flow 6 none "flow" false 61 (sLI 2 62) := ok_iload_n (by decide +kernel : decode cX12_flow 61 = .ok (.iload_n 2, 1)) rfl
theorem o245_62 : Okp RX12 cX12_flow 6 none "flow" false 62 (sLR 0 63) := ok_aload_n (by decide +kernel : decode cX12_flow 62 = .ok (.aload_n 0, 1)) rfl
theorem o245_63 : Okp RX12 cX12_flow 6 none "flow" false 63 (sGI 13 35 66) := ok_getI (by decide +kernel : decode cX12_flow 63 = .ok (.getfield 315, 3)) fw_X12_315 rfl
theorem o245_66 : Okp RX12 cX12_flow 6 none "flow" false 66 (sIS 67) := ok_iastore (by decide +kernel : decode cX12_flow 66 = .ok (.iastore, 1))
theorem o245_67 : Okp RX12 cX12_flow 6 none "flow" false 67 (sK 0 68) := ok_iconst (by decide +kernel : decode cX12_flow 67 = .ok (.iconst 0, 1)) (by decide)
theorem o245_68 : Okp RX12 cX12_flow 6 none "flow" false 68 (sSI 3 69) := ok_istore_n (by decide +kernel : decode cX12_flow 68 = .ok (.istore_n 3, 1)) rfl (by decide) (by decide)
theorem o245_69 : Okp RX12 cX12_flow 6 none "flow" false 69 (sLI 3 70) := ok_iload_n (by decide +kernel : decode cX12_flow 69 = .ok (.iload_n 3, 1)) rfl
theorem o245_70 : Okp RX12 cX12_flow 6 none "flow" false 70 (sLR 0 71) := ok_aload_n (by decide +kernel : decode cX12_flow 70 = .ok (.aload_n 0, 1)) rfl
theorem o245_71 : Okp RX12 cX12_flow 6 none "flow" false 71 (sGI 13 35 74) := ok_getI (by decide +kernel : decode cX12_flow 71 = .ok (.getfield 315, 3)) fw_X12_315 rfl
theorem o245_74 : Okp RX12 cX12_flow 6 none "flow" false 74 (sI2 3 100 77) := ok_icmp_ge (by decide +kernel : decode cX12_flow 74 = .ok (.if_icmp .ge 26, 3)) (by decide)
theorem o245_77 : Okp RX12 cX12_flow 6 none "flow" false 77 (sLR 0 78) := ok_aload_n (by decide +kernel : decode cX12_flow 77 = .ok (.aload_n 0, 1)) rfl
theorem o245_78 : Okp RX12 cX12_flow 6 none "flow" false 78 (sGR 13 31 81) := ok_getR (by decide +kernel : decode cX12_flow 78 = .ok (.getfield 89, 3)) fw_X12_89 rfl
theorem o245_81 : Okp RX12 cX12_flow 6 none "flow" false 81 (sK 17 83) := ok_bipush (by decide +kernel : decode cX12_flow 81 = .ok (.bipush 17, 2)) (by decide)
theorem o245_83 : Okp RX12 cX12_flow 6 none "flow" false 83 (sLI 2 84) := ok_iload_n (by decide +kernel : decode cX12_flow 83 = .ok (.iload_n 2, 1)) rfl
theorem o245_84 : Okp RX12 cX12_flow 6 none "flow" false 84 (sB2 fMul 85) := ok_imul (by decide +kernel : decode cX12_flow 84 = .ok (.imul, 1))
theorem o245_85 : Okp RX12 cX12_flow 6 none "flow" false 85 (sLI 3 86) := ok_iload_n (by decide +kernel : decode cX12_flow 85 = .ok (.iload_n 3, 1)) rfl
theorem o245_86 : Okp RX12 cX12_flow 6 none "flow" false 86 (sB2 fAdd 87) := ok_iadd (by decide +kernel : decode cX12_flow 86 = .ok (.iadd, 1))
theorem o245_87 : Okp RX12 cX12_flow 6 none "flow" false 87 (sLR 0 88) := ok_aload_n (by decide +kernel : decode cX12_flow 87 = .ok (.aload_n 0, 1)) rfl
theorem o245_88 : Okp RX12 cX12_flow 6 none "flow" false 88 (sGR 13 33 91) := ok_getR (by decide +kernel : decode cX12_flow 88 = .ok (.getfield 95, 3)) fw_X12_95 rfl
theorem o245_91 : Okp RX12 cX12_flow 6 none "flow" false 91 (sLI 3 92) := ok_iload_n (by decide +kernel : decode cX12_flow 91 = .ok (.iload_n 3, 1)) rfl
theorem o245_92 : Okp RX12 cX12_flow 6 none "flow" false 92 (sIA 93) := ok_iaload (by decide +kernel : decode cX12_flow 92 = .ok (.iaload, 1))
theorem o245_93 : Okp RX12 cX12_flow 6 none "flow" false 93 (sIS 94) := ok_iastore (by decide +kernel : decode cX12_flow 93 = .ok (.iastore, 1))
theorem o245_94 : Okp RX12 cX12_flow 6 none "flow" false 94 (sInc 3 1 97) := ok_iinc (by decide +kernel : decode cX12_flow 94 = .ok (.iinc 3 1, 3)) (by decide) (by decide)
theorem o245_97 : Okp RX12 cX12_flow 6 none "flow" false 97 (sGo 69) := ok_goto (by decide +kernel : decode cX12_flow 97 = .ok (.goto (-28), 3)) (by decide)
theorem o245_100 : Okp RX12 cX12_flow 6 none "flow" false 100 (sK 0 101) := ok_iconst (by decide +kernel : decode cX12_flow 100 = .ok (.iconst 0, 1)) (by decide)
theorem o245_101 : Okp RX12 cX12_flow 6 none "flow" false 101 (sSI 3 102) := ok_istore_n (by decide +kernel : decode cX12_flow 101 = .ok (.istore_n 3, 1)) rfl (by decide) (by decide)
theorem o245_102 : Okp RX12 cX12_flow 6 none "flow" false 102 (sLI 3 103) := ok_iload_n (by decide +kernel : decode cX12_flow 102 = .ok (.iload_n 3, 1)) rfl
theorem o245_103 : Okp RX12 cX12_flow 6 none "flow" false 103 (sK 10 105) := ok_bipush (by decide +kernel : decode cX12_flow 103 = .ok (.bipush 10, 2)) (by decide)
theorem o245_105 : Okp RX12 cX12_flow 6 none "flow" false 105 (sI2 3 131 108) := ok_icmp_ge (by decide +kernel : decode cX12_flow 105 = .ok (.if_icmp .ge 26, 3)) (by decide)
theorem o245_108 : Okp RX12 cX12_flow 6 none "flow" false 108 (sLR 0 109) := ok_aload_n (by decide +kernel : decode cX12_flow 108 = .ok (.aload_n 0, 1)) rfl
theorem o245_109 : Okp RX12 cX12_flow 6 none "flow" false 109 (sGR 13 32 112) := ok_getR (by decide +kernel : decode cX12_flow 109 = .ok (.getfield 92, 3)) fw_X12_92 rfl
theorem o245_112 : Okp RX12 cX12_flow 6 none "flow" false 112 (sK 10 114) := ok_bipush (by decide +kernel : decode cX12_flow 112 = .ok (.bipush 10, 2)) (by decide)
theorem o245_114 : Okp RX12 cX12_flow 6 none "flow" false 114 (sLI 2 115) := ok_iload_n (by decide +kernel : decode cX12_flow 114 = .ok (.iload_n 2, 1)) rfl
theorem o245_115 : Okp RX12 cX12_flow 6 none "flow" false 115 (sB2 fMul 116) := ok_imul (by decide +kernel : decode cX12_flow 115 = .ok (.imul, 1))
theorem o245_116 : Okp RX12 cX12_flow 6 none "flow" false 116 (sLI 3 117) := ok_iload_n (by decide +kernel : decode cX12_flow 116 = .ok (.iload_n 3, 1)) rfl
theorem o245_117 : Okp RX12 cX12_flow 6 none "flow" false 117 (sB2 fAdd 118) := ok_iadd (by decide +kernel : decode cX12_flow 117 = .ok (.iadd, 1))
theorem o245_118 : Okp RX12 cX12_flow 6 none "flow" false 118 (sLR 0 119) := ok_aload_n (by decide +kernel : decode cX12_flow 118 = .ok (.aload_n 0, 1)) rfl
theorem o245_119 : Okp RX12 cX12_flow 6 none "flow" false 119 (sGR 13 34 122) := ok_getR (by decide +kernel : decode cX12_flow 119 = .ok (.getfield 98, 3)) fw_X12_98 rfl
theorem o245_122 : Okp RX12 cX12_flow 6 none "flow" false 122 (sLI 3 123) := ok_iload_n (by decide +kernel : decode cX12_flow 122 = .ok (.iload_n 3, 1)) rfl
theorem o245_123 : Okp RX12 cX12_flow 6 none "flow" false 123 (sIA 124) := ok_iaload (by decide +kernel : decode cX12_flow 123 = .ok (.iaload, 1))
theorem o245_124 : Okp RX12 cX12_flow 6 none "flow" false 124 (sIS 125) := ok_iastore (by decide +kernel : decode cX12_flow 124 = .ok (.iastore, 1))
theorem o245_125 : Okp RX12 cX12_flow 6 none "flow" false 125 (sInc 3 1 128) := ok_iinc (by decide +kernel : decode cX12_flow 125 = .ok (.iinc 3 1, 3)) (by decide) (by decide)
theorem o245_128 : Okp RX12 cX12_flow 6 none "flow" false 128 (sGo 102) := ok_goto (by decide +kernel : decode cX12_flow 128 = .ok (.goto (-26), 3)) (by decide)
theorem o245_131 : Okp RX12 cX12_flow 6 none "flow" false 131 sRV := ok_vret rfl (by decide +kernel : decode cX12_flow 131 = .ok (.return_, 1))
theorem o245_132 : Okp RX12 cX12_flow 6 none "flow" false 132 (sLR 0 133) := ok_aload_n (by decide +kernel : decode cX12_flow 132 = .ok (.aload_n 0, 1)) rfl
theorem o245_133 : Okp RX12 cX12_flow 6 none "flow" false 133 (sLR 0 134) := ok_aload_n (by decide +kernel : decode cX12_flow 133 = .ok (.aload_n 0, 1)) rfl
theorem o245_134 : Okp RX12 cX12_flow 6 none "flow" false 134 (sGR 13 30 137) := ok_getR (by decide +kernel : decode cX12_flow 134 = .ok (.getfield 86, 3)) fw_X12_86 rfl
theorem o245_137 : Okp RX12 cX12_flow 6 none "flow" false 137 (sLI 2 138) := ok_iload_n (by decide +kernel : decode cX12_flow 137 = .ok (.iload_n 2, 1)) rfl
theorem o245_138 : Okp RX12 cX12_flow 6 none "flow" false 138 (sIA 139) := ok_iaload (by decide +kernel : decode cX12_flow 138 = .ok (.iaload, 1))
theorem o245_139 : Okp RX12 cX12_flow 6 none "flow" false 139 (sLR 0 140) := ok_aload_n (by decide +kernel : decode cX12_flow 139 = .ok (.aload_n 0, 1)) rfl
theorem o245_140 : Okp RX12 cX12_flow 6 none "flow" false 140 (sGI 13 35 143) := ok_getI (by decide +kernel : decode cX12_flow 140 = .ok (.getfield 315, 3)) fw_X12_315 rfl
theorem o245_143 : Okp RX12 cX12_flow 6 none "flow" false 143 (sI2 1 150 146) := ok_icmp_ne (by decide +kernel : decode cX12_flow 143 = .ok (.if_icmp .ne 7, 3)) (by decide)
theorem o245_146 : Okp RX12 cX12_flow 6 none "flow" false 146 (sK 1 147) := ok_iconst (by decide +kernel : decode cX12_flow 146 = .ok (.iconst 1, 1)) (by decide)
theorem o245_147 : Okp RX12 cX12_flow 6 none "flow" false 147 (sGo 151) := ok_goto (by decide +kernel : decode cX12_flow 147 = .ok (.goto 4, 3)) (by decide)
theorem o245_150 : Okp RX12 cX12_flow 6 none "flow" false 150 (sK 0 151) := ok_iconst (by decide +kernel : decode cX12_flow 150 = .ok (.iconst 0, 1)) (by decide)
theorem o245_151 : Okp RX12 cX12_flow 6 none "flow" false 151 (sCV false 244 2 13 154) := ok_cv (by decide +kernel : decode cX12_flow 151 = .ok (.invokevirtual 325, 3)) mw_X12_325 rfl (by decide) wm_X12_wants wse_X12_wants (by decide) rfl
theorem o245_154 : Okp RX12 cX12_flow 6 none "flow" false 154 (sK 0 155) := ok_iconst (by decide +kernel : decode cX12_flow 154 = .ok (.iconst 0, 1)) (by decide)
theorem o245_155 : Okp RX12 cX12_flow 6 none "flow" false 155 (sSI 3 156) := ok_istore_n (by decide +kernel : decode cX12_flow 155 = .ok (.istore_n 3, 1)) rfl (by decide) (by decide)
theorem o245_156 : Okp RX12 cX12_flow 6 none "flow" false 156 (sLI 3 157) := ok_iload_n (by decide +kernel : decode cX12_flow 156 = .ok (.iload_n 3, 1)) rfl
theorem o245_157 : Okp RX12 cX12_flow 6 none "flow" false 157 (sLR 0 158) := ok_aload_n (by decide +kernel : decode cX12_flow 157 = .ok (.aload_n 0, 1)) rfl
theorem o245_158 : Okp RX12 cX12_flow 6 none "flow" false 158 (sGI 13 35 161) := ok_getI (by decide +kernel : decode cX12_flow 158 = .ok (.getfield 315, 3)) fw_X12_315 rfl
theorem o245_161 : Okp RX12 cX12_flow 6 none "flow" false 161 (sI2 3 266 164) := ok_icmp_ge (by decide +kernel : decode cX12_flow 161 = .ok (.if_icmp .ge 105, 3)) (by decide)
theorem o245_164 : Okp RX12 cX12_flow 6 none "flow" false 164 (sLR 0 165) := ok_aload_n (by decide +kernel : decode cX12_flow 164 = .ok (.aload_n 0, 1)) rfl
theorem o245_165 : Okp RX12 cX12_flow 6 none "flow" false 165 (sGI 13 36 168) := ok_getI (by decide +kernel : decode cX12_flow 165 = .ok (.getfield 309, 3)) fw_X12_309 rfl
theorem o245_168 : Okp RX12 cX12_flow 6 none "flow" false 168 (sI1 0 266 171) := ok_if_eq (by decide +kernel : decode cX12_flow 168 = .ok (.ifCond .eq 98, 3)) (by decide)
theorem o245_171 : Okp RX12 cX12_flow 6 none "flow" false 171 (sLR 0 172) := ok_aload_n (by decide +kernel : decode cX12_flow 171 = .ok (.aload_n 0, 1)) rfl
theorem o245_172 : Okp RX12 cX12_flow 6 none "flow" false 172 (sGR 13 31 175) := ok_getR (by decide +kernel : decode cX12_flow 172 = .ok (.getfield 89, 3)) fw_X12_89 rfl
theorem o245_175 : Okp RX12 cX12_flow 6 none "flow" false 175 (sK 17 177) := ok_bipush (by decide +kernel : decode cX12_flow 175 = .ok (.bipush 17, 2)) (by decide)
theorem o245_177 : Okp RX12 cX12_flow 6 none "flow" false 177 (sLI 2 178) := ok_iload_n (by decide +kernel : decode cX12_flow 177 = .ok (.iload_n 2, 1)) rfl
theorem o245_178 : Okp RX12 cX12_flow 6 none "flow" false 178 (sB2 fMul 179) := ok_imul (by decide +kernel : decode cX12_flow 178 = .ok (.imul, 1))
theorem o245_179 : Okp RX12 cX12_flow 6 none "flow" false 179 (sLI 3 180) := ok_iload_n (by decide +kernel : decode cX12_flow 179 = .ok (.iload_n 3, 1)) rfl
theorem o245_180 : Okp RX12 cX12_flow 6 none "flow" false 180 (sB2 fAdd 181) := ok_iadd (by decide +kernel : decode cX12_flow 180 = .ok (.iadd, 1))
theorem o245_181 : Okp RX12 cX12_flow 6 none "flow" false 181 (sIA 182) := ok_iaload (by decide +kernel : decode cX12_flow 181 = .ok (.iaload, 1))
theorem o245_182 : Okp RX12 cX12_flow 6 none "flow" false 182 (sLR 0 183) := ok_aload_n (by decide +kernel : decode cX12_flow 182 = .ok (.aload_n 0, 1)) rfl
theorem o245_183 : Okp RX12 cX12_flow 6 none "flow" false 183 (sGR 13 33 186) := ok_getR (by decide +kernel : decode cX12_flow 183 = .ok (.getfield 95, 3)) fw_X12_95 rfl
theorem o245_186 : Okp RX12 cX12_flow 6 none "flow" false 186 (sLI 3 187) := ok_iload_n (by decide +kernel : decode cX12_flow 186 = .ok (.iload_n 3, 1)) rfl
theorem o245_187 : Okp RX12 cX12_flow 6 none "flow" false 187 (sIA 188) := ok_iaload (by decide +kernel : decode cX12_flow 187 = .ok (.iaload, 1))
theorem o245_188 : Okp RX12 cX12_flow 6 none "flow" false 188 (sCS false 246 2 191) := ok_cs (by decide +kernel : decode cX12_flow 188 = .ok (.invokestatic 329, 3)) mw_X12_329 wt_X12_both (by decide) rfl
theorem o245_191 : Okp RX12 cX12_flow 6 none "flow" false 191 (sSI 4 193) := ok_istore (by decide +kernel : decode cX12_flow 191 = .ok (.istore 4, 2)) (by decide) (by decide)
theorem o245_193 : Okp RX12 cX12_flow 6 none "flow" false 193 (sLR 0 194) := ok_aload_n (by decide +kernel : decode cX12_flow 193 = .ok (.aload_n 0, 1)) rfl
theorem o245_194 : Okp RX12 cX12_flow 6 none "flow" false 194 (sLI 4 196) := ok_iload (by decide +kernel : decode cX12_flow 194 = .ok (.iload 4, 2))
theorem o245_196 : Okp RX12 cX12_flow 6 none "flow" false 196 (sK (-1) 197) := ok_iconst (by decide +kernel : decode cX12_flow 196 = .ok (.iconst (-1), 1)) (by decide)
theorem o245_197 : Okp RX12 cX12_flow 6 none "flow" false 197 (sI2 0 204 200) := ok_icmp_eq (by decide +kernel : decode cX12_flow 197 = .ok (.if_icmp .eq 7, 3)) (by decide)
theorem o245_200 : Okp RX12 cX12_flow 6 none "flow" false 200 (sK 1 201) := ok_iconst (by decide +kernel : decode cX12_flow 200 = .ok (.iconst 1, 1)) (by decide)
theorem o245_201 : Okp RX12 cX12_flow 6 none "flow" false 201 (sGo 205) := ok_goto (by decide +kernel : decode cX12_flow 201 = .ok (.goto 4, 3)) (by decide)
theorem o245_204 : Okp RX12 cX12_flow 6 none "flow" false 204 (sK 0 205) := ok_iconst (by decide +kernel : decode cX12_flow 204 = .ok (.iconst 0, 1)) (by decide)
theorem o245_205 : Okp RX12 cX12_flow 6 none "flow" false 205 (sCV false 244 2 13 208) := ok_cv (by decide +kernel : decode cX12_flow 205 = .ok (.invokevirtual 325, 3)) mw_X12_325 rfl (by decide) wm_X12_wants wse_X12_wants (by decide) rfl
theorem o245_208 : Okp RX12 cX12_flow 6 none "flow" false 208 (sLR 0 209) := ok_aload_n (by decide +kernel : decode cX12_flow 208 = .ok (.aload_n 0, 1)) rfl
theorem o245_209 : Okp RX12 cX12_flow 6 none "flow" false 209 (sLR 0 210) := ok_aload_n (by decide +kernel : decode cX12_flow 209 = .ok (.aload_n 0, 1)) rfl
theorem o245_210 : Okp RX12 cX12_flow 6 none "flow" false 210 (sGI 13 37 213) := ok_getI (by decide +kernel : decode cX12_flow 210 = .ok (.getfield 312, 3)) fw_X12_312 rfl
theorem o245_213 : Okp RX12 cX12_flow 6 none "flow" false 213 (sI1 1 239 216) := ok_if_ne (by decide +kernel : decode cX12_flow 213 = .ok (.ifCond .ne 26, 3)) (by decide)
theorem o245_216 : Okp RX12 cX12_flow 6 none "flow" false 216 (sLR 0 217) := ok_aload_n (by decide +kernel : decode cX12_flow 216 = .ok (.aload_n 0, 1)) rfl
theorem o245_217 : Okp RX12 cX12_flow 6 none "flow" false 217 (sGI 13 36 220) := ok_getI (by decide +kernel : decode cX12_flow 217 = .ok (.getfield 309, 3)) fw_X12_309 rfl
theorem o245_220 : Okp RX12 cX12_flow 6 none "flow" false 220 (sI1 0 243 223) := ok_if_eq (by decide +kernel : decode cX12_flow 220 = .ok (.ifCond .eq 23, 3)) (by decide)
theorem o245_223 : Okp RX12 cX12_flow 6 none "flow" false 223 (sLI 4 225) := ok_iload (by decide +kernel : decode cX12_flow 223 = .ok (.iload 4, 2))
theorem o245_225 : Okp RX12 cX12_flow 6 none "flow" false 225 (sLR 0 226) := ok_aload_n (by decide +kernel : decode cX12_flow 225 = .ok (.aload_n 0, 1)) rfl
theorem o245_226 : Okp RX12 cX12_flow 6 none "flow" false 226 (sGR 13 31 229) := ok_getR (by decide +kernel : decode cX12_flow 226 = .ok (.getfield 89, 3)) fw_X12_89 rfl
theorem o245_229 : Okp RX12 cX12_flow 6 none "flow" false 229 (sK 17 231) := ok_bipush (by decide +kernel : decode cX12_flow 229 = .ok (.bipush 17, 2)) (by decide)
theorem o245_231 : Okp RX12 cX12_flow 6 none "flow" false 231 (sLI 2 232) := ok_iload_n (by decide +kernel : decode cX12_flow 231 = .ok (.iload_n 2, 1)) rfl
theorem o245_232 : Okp RX12 cX12_flow 6 none "flow" false 232 (sB2 fMul 233) := ok_imul (by decide +kernel : decode cX12_flow 232 = .ok (.imul, 1))
theorem o245_233 : Okp RX12 cX12_flow 6 none "flow" false 233 (sLI 3 234) := ok_iload_n (by decide +kernel : decode cX12_flow 233 = .ok (.iload_n 3, 1)) rfl
theorem o245_234 : Okp RX12 cX12_flow 6 none "flow" false 234 (sB2 fAdd 235) := ok_iadd (by decide +kernel : decode cX12_flow 234 = .ok (.iadd, 1))
theorem o245_235 : Okp RX12 cX12_flow 6 none "flow" false 235 (sIA 236) := ok_iaload (by decide +kernel : decode cX12_flow 235 = .ok (.iaload, 1))
theorem o245_236 : Okp RX12 cX12_flow 6 none "flow" false 236 (sI2 0 243 239) := ok_icmp_eq (by decide +kernel : decode cX12_flow 236 = .ok (.if_icmp .eq 7, 3)) (by decide)
theorem o245_239 : Okp RX12 cX12_flow 6 none "flow" false 239 (sK 1 240) := ok_iconst (by decide +kernel : decode cX12_flow 239 = .ok (.iconst 1, 1)) (by decide)
theorem o245_240 : Okp RX12 cX12_flow 6 none "flow" false 240 (sGo 244) := ok_goto (by decide +kernel : decode cX12_flow 240 = .ok (.goto 4, 3)) (by decide)
theorem o245_243 : Okp RX12 cX12_flow 6 none "flow" false 243 (sK 0 244) := ok_iconst (by decide +kernel : decode cX12_flow 243 = .ok (.iconst 0, 1)) (by decide)
theorem o245_244 : Okp RX12 cX12_flow 6 none "flow" false 244 (sPZ 13 37 247) := ok_putZ (by decide +kernel : decode cX12_flow 244 = .ok (.putfield 312, 3)) fw_X12_312 ⟨⟨tyX12_ok, nmX12⟩, Or.inl rfl, rfl⟩ rfl
theorem o245_247 : Okp RX12 cX12_flow 6 none "flow" false 247 (sLR 0 248) := ok_aload_n (by decide +kernel : decode cX12_flow 247 = .ok (.aload_n 0, 1)) rfl
theorem o245_248 : Okp RX12 cX12_flow 6 none "flow" false 248 (sGR 13 31 251) := ok_getR (by decide +kernel : decode cX12_flow 248 = .ok (.getfield 89, 3)) fw_X12_89 rfl
theorem o245_251 : Okp RX12 cX12_flow 6 none "flow" false 251 (sK 17 253) := ok_bipush (by decide +kernel : decode cX12_flow 251 = .ok (.bipush 17, 2)) (by decide)
theorem o245_253 : Okp RX12 cX12_flow 6 none "flow" false 253 (sLI 2 254) := ok_iload_n (by decide +kernel : decode cX12_flow 253 = .ok (.iload_n 2, 1)) rfl
theorem o245_254 : Okp RX12 cX12_flow 6 none "flow" false 254 (sB2 fMul 255) := ok_imul (by decide +kernel : decode cX12_flow 254 = .ok (.imul, 1))
theorem o245_255 : Okp RX12 cX12_flow 6 none "flow" false 255 (sLI 3 256) := ok_iload_n (by decide +kernel : decode cX12_flow 255 = .ok (.iload_n 3, 1)) rfl
theorem o245_256 : Okp RX12 cX12_flow 6 none "flow" false 256 (sB2 fAdd 257) := ok_iadd (by decide +kernel : decode cX12_flow 256 = .ok (.iadd, 1))
theorem o245_257 : Okp RX12 cX12_flow 6 none "flow" false 257 (sLI 4 259) := ok_iload (by decide +kernel : decode cX12_flow 257 = .ok (.iload 4, 2))
theorem o245_259 : Okp RX12 cX12_flow 6 none "flow" false 259 (sIS 260) := ok_iastore (by decide +kernel : decode cX12_flow 259 = .ok (.iastore, 1))
theorem o245_260 : Okp RX12 cX12_flow 6 none "flow" false 260 (sInc 3 1 263) := ok_iinc (by decide +kernel : decode cX12_flow 260 = .ok (.iinc 3 1, 3)) (by decide) (by decide)
theorem o245_263 : Okp RX12 cX12_flow 6 none "flow" false 263 (sGo 156) := ok_goto (by decide +kernel : decode cX12_flow 263 = .ok (.goto (-107), 3)) (by decide)
theorem o245_266 : Okp RX12 cX12_flow 6 none "flow" false 266 (sK 0 267) := ok_iconst (by decide +kernel : decode cX12_flow 266 = .ok (.iconst 0, 1)) (by decide)
theorem o245_267 : Okp RX12 cX12_flow 6 none "flow" false 267 (sSI 3 268) := ok_istore_n (by decide +kernel : decode cX12_flow 267 = .ok (.istore_n 3, 1)) rfl (by decide) (by decide)
theorem o245_268 : Okp RX12 cX12_flow 6 none "flow" false 268 (sLI 3 269) := ok_iload_n (by decide +kernel : decode cX12_flow 268 = .ok (.iload_n 3, 1)) rfl
theorem o245_269 : Okp RX12 cX12_flow 6 none "flow" false 269 (sK 10 271) := ok_bipush (by decide +kernel : decode cX12_flow 269 = .ok (.bipush 10, 2)) (by decide)
theorem o245_271 : Okp RX12 cX12_flow 6 none "flow" false 271 (sI2 3 388 274) := ok_icmp_ge (by decide +kernel : decode cX12_flow 271 = .ok (.if_icmp .ge 117, 3)) (by decide)
theorem o245_274 : Okp RX12 cX12_flow 6 none "flow" false 274 (sLR 0 275) := ok_aload_n (by decide +kernel : decode cX12_flow 274 = .ok (.aload_n 0, 1)) rfl
theorem o245_275 : Okp RX12 cX12_flow 6 none "flow" false 275 (sGI 13 36 278) := ok_getI (by decide +kernel : decode cX12_flow 275 = .ok (.getfield 309, 3)) fw_X12_309 rfl
theorem o245_278 : Okp RX12 cX12_flow 6 none "flow" false 278 (sI1 0 388 281) := ok_if_eq (by decide +kernel : decode cX12_flow 278 = .ok (.ifCond .eq 110, 3)) (by decide)
theorem o245_281 : Okp RX12 cX12_flow 6 none "flow" false 281 (sLR 0 282) := ok_aload_n (by decide +kernel : decode cX12_flow 281 = .ok (.aload_n 0, 1)) rfl
theorem o245_282 : Okp RX12 cX12_flow 6 none "flow" false 282 (sGR 13 32 285) := ok_getR (by decide +kernel : decode cX12_flow 282 = .ok (.getfield 92, 3)) fw_X12_92 rfl
theorem o245_285 : Okp RX12 cX12_flow 6 none "flow" false 285 (sK 10 287) := ok_bipush (by decide +kernel : decode cX12_flow 285 = .ok (.bipush 10, 2)) (by decide)
theorem o245_287 : Okp RX12 cX12_flow 6 none "flow" false 287 (sLI 2 288) := ok_iload_n (by decide +kernel : decode cX12_flow 287 = .ok (.iload_n 2, 1)) rfl
theorem o245_288 : Okp RX12 cX12_flow 6 none "flow" false 288 (sB2 fMul 289) := ok_imul (by decide +kernel : decode cX12_flow 288 = .ok (.imul, 1))
theorem o245_289 : Okp RX12 cX12_flow 6 none "flow" false 289 (sLI 3 290) := ok_iload_n (by decide +kernel : decode cX12_flow 289 = .ok (.iload_n 3, 1)) rfl
theorem o245_290 : Okp RX12 cX12_flow 6 none "flow" false 290 (sB2 fAdd 291) := ok_iadd (by decide +kernel : decode cX12_flow 290 = .ok (.iadd, 1))
theorem o245_291 : Okp RX12 cX12_flow 6 none "flow" false 291 (sIA 292) := ok_iaload (by decide +kernel : decode cX12_flow 291 = .ok (.iaload, 1))
theorem o245_292 : Okp RX12 cX12_flow 6 none "flow" false 292 (sSI 4 294) := ok_istore (by decide +kernel : decode cX12_flow 292 = .ok (.istore 4, 2)) (by decide) (by decide)
theorem o245_294 : Okp RX12 cX12_flow 6 none "flow" false 294 (sLI 4 296) := ok_iload (by decide +kernel : decode cX12_flow 294 = .ok (.iload 4, 2))
theorem o245_296 : Okp RX12 cX12_flow 6 none "flow" false 296 (sLR 0 297) := ok_aload_n (by decide +kernel : decode cX12_flow 296 = .ok (.aload_n 0, 1)) rfl
theorem o245_297 : Okp RX12 cX12_flow 6 none "flow" false 297 (sGR 13 34 300) := ok_getR (by decide +kernel : decode cX12_flow 297 = .ok (.getfield 98, 3)) fw_X12_98 rfl
theorem o245_300 : Okp RX12 cX12_flow 6 none "flow" false 300 (sLI 3 301) := ok_iload_n (by decide +kernel : decode cX12_flow 300 = .ok (.iload_n 3, 1)) rfl
theorem o245_301 : Okp RX12 cX12_flow 6 none "flow" false 301 (sIA 302) := ok_iaload (by decide +kernel : decode cX12_flow 301 = .ok (.iaload, 1))
theorem o245_302 : Okp RX12 cX12_flow 6 none "flow" false 302 (sCS false 246 2 305) := ok_cs (by decide +kernel : decode cX12_flow 302 = .ok (.invokestatic 329, 3)) mw_X12_329 wt_X12_both (by decide) rfl
theorem o245_305 : Okp RX12 cX12_flow 6 none "flow" false 305 (sSI 5 307) := ok_istore (by decide +kernel : decode cX12_flow 305 = .ok (.istore 5, 2)) (by decide) (by decide)
theorem o245_307 : Okp RX12 cX12_flow 6 none "flow" false 307 (sLI 5 309) := ok_iload (by decide +kernel : decode cX12_flow 307 = .ok (.iload 5, 2))
theorem o245_309 : Okp RX12 cX12_flow 6 none "flow" false 309 (sK (-1) 310) := ok_iconst (by decide +kernel : decode cX12_flow 309 = .ok (.iconst (-1), 1)) (by decide)
theorem o245_310 : Okp RX12 cX12_flow 6 none "flow" false 310 (sI2 1 346 313) := ok_icmp_ne (by decide +kernel : decode cX12_flow 310 = .ok (.if_icmp .ne 36, 3)) (by decide)
theorem o245_313 : Okp RX12 cX12_flow 6 none "flow" false 313 (sLR 0 314) := ok_aload_n (by decide +kernel : decode cX12_flow 313 = .ok (.aload_n 0, 1)) rfl
theorem o245_314 : Okp RX12 cX12_flow 6 none "flow" false 314 (sLI 4 316) := ok_iload (by decide +kernel : decode cX12_flow 314 = .ok (.iload 4, 2))
theorem o245_316 : Okp RX12 cX12_flow 6 none "flow" false 316 (sCS false 228 1 319) := ok_cs (by decide +kernel : decode cX12_flow 316 = .ok (.invokestatic 332, 3)) mw_X12_332 wt_X12_isLinear (by decide) rfl
theorem o245_319 : Okp RX12 cX12_flow 6 none "flow" false 319 (sI1 1 338 322) := ok_if_ne (by decide +kernel : decode cX12_flow 319 = .ok (.ifCond .ne 19, 3)) (by decide)
theorem o245_322 : Okp RX12 cX12_flow 6 none "flow" false 322 (sLR 0 323) := ok_aload_n (by decide +kernel : decode cX12_flow 322 = .ok (.aload_n 0, 1)) rfl
theorem o245_323 : Okp RX12 cX12_flow 6 none "flow" false 323 (sGR 13 34 326) := ok_getR (by decide +kernel : decode cX12_flow 323 = .ok (.getfield 98, 3)) fw_X12_98 rfl
theorem o245_326 : Okp RX12 cX12_flow 6 none "flow" false 326 (sLI 3 327) := ok_iload_n (by decide +kernel : decode cX12_flow 326 = .ok (.iload_n 3, 1)) rfl
theorem o245_327 : Okp RX12 cX12_flow 6 none "flow" false 327 (sIA 328) := ok_iaload (by decide +kernel : decode cX12_flow 327 = .ok (.iaload, 1))
theorem o245_328 : Okp RX12 cX12_flow 6 none "flow" false 328 (sCS false 228 1 331) := ok_cs (by decide +kernel : decode cX12_flow 328 = .ok (.invokestatic 332, 3)) mw_X12_332 wt_X12_isLinear (by decide) rfl
theorem o245_331 : Okp RX12 cX12_flow 6 none "flow" false 331 (sI1 1 338 334) := ok_if_ne (by decide +kernel : decode cX12_flow 331 = .ok (.ifCond .ne 7, 3)) (by decide)
theorem o245_334 : Okp RX12 cX12_flow 6 none "flow" false 334 (sK 1 335) := ok_iconst (by decide +kernel : decode cX12_flow 334 = .ok (.iconst 1, 1)) (by decide)
theorem o245_335 : Okp RX12 cX12_flow 6 none "flow" false 335 (sGo 339) := ok_goto (by decide +kernel : decode cX12_flow 335 = .ok (.goto 4, 3)) (by decide)
theorem o245_338 : Okp RX12 cX12_flow 6 none "flow" false 338 (sK 0 339) := ok_iconst (by decide +kernel : decode cX12_flow 338 = .ok (.iconst 0, 1)) (by decide)
theorem o245_339 : Okp RX12 cX12_flow 6 none "flow" false 339 (sCV false 244 2 13 342) := ok_cv (by decide +kernel : decode cX12_flow 339 = .ok (.invokevirtual 325, 3)) mw_X12_325 rfl (by decide) wm_X12_wants wse_X12_wants (by decide) rfl
theorem o245_342 : Okp RX12 cX12_flow 6 none "flow" false 342 (sK 7 344) := ok_bipush (by decide +kernel : decode cX12_flow 342 = .ok (.bipush 7, 2)) (by decide)
theorem o245_344 : Okp RX12 cX12_flow 6 none "flow" false 344 (sSI 5 346) := ok_istore (by decide +kernel : decode cX12_flow 344 = .ok (.istore 5, 2)) (by decide) (by decide)
theorem o245_346 : Okp RX12 cX12_flow 6 none "flow" false 346 (sLR 0 347) := ok_aload_n (by decide +kernel : decode cX12_flow 346 = .ok (.aload_n 0, 1)) rfl
theorem o245_347 : Okp RX12 cX12_flow 6 none "flow" false 347 (sLR 0 348) := ok_aload_n (by decide +kernel : decode cX12_flow 347 = .ok (.aload_n 0, 1)) rfl
theorem o245_348 : Okp RX12 cX12_flow 6 none "flow" false 348 (sGI 13 37 351) := ok_getI (by decide +kernel : decode cX12_flow 348 = .ok (.getfield 312, 3)) fw_X12_312 rfl
theorem o245_351 : Okp RX12 cX12_flow 6 none "flow" false 351 (sI1 1 361 354) := ok_if_ne (by decide +kernel : decode cX12_flow 351 = .ok (.ifCond .ne 10, 3)) (by decide)
theorem o245_354 : Okp RX12 cX12_flow 6 none "flow" false 354 (sLI 5 356) := ok_iload (by decide +kernel : decode cX12_flow 354 = .ok (.iload 5, 2))
theorem o245_356 : Okp RX12 cX12_flow 6 none "flow" false 356 (sLI 4 358) := ok_iload (by decide +kernel : decode cX12_flow 356 = .ok (.iload 4, 2))
theorem o245_358 : Okp RX12 cX12_flow 6 none "flow" false 358 (sI2 0 365 361) := ok_icmp_eq (by decide +kernel : decode cX12_flow 358 = .ok (.if_icmp .eq 7, 3)) (by decide)
theorem o245_361 : Okp RX12 cX12_flow 6 none "flow" false 361 (sK 1 362) := ok_iconst (by decide +kernel : decode cX12_flow 361 = .ok (.iconst 1, 1)) (by decide)
theorem o245_362 : Okp RX12 cX12_flow 6 none "flow" false 362 (sGo 366) := ok_goto (by decide +kernel : decode cX12_flow 362 = .ok (.goto 4, 3)) (by decide)
theorem o245_365 : Okp RX12 cX12_flow 6 none "flow" false 365 (sK 0 366) := ok_iconst (by decide +kernel : decode cX12_flow 365 = .ok (.iconst 0, 1)) (by decide)
theorem o245_366 : Okp RX12 cX12_flow 6 none "flow" false 366 (sPZ 13 37 369) := ok_putZ (by decide +kernel : decode cX12_flow 366 = .ok (.putfield 312, 3)) fw_X12_312 ⟨⟨tyX12_ok, nmX12⟩, Or.inl rfl, rfl⟩ rfl
theorem o245_369 : Okp RX12 cX12_flow 6 none "flow" false 369 (sLR 0 370) := ok_aload_n (by decide +kernel : decode cX12_flow 369 = .ok (.aload_n 0, 1)) rfl
theorem o245_370 : Okp RX12 cX12_flow 6 none "flow" false 370 (sGR 13 32 373) := ok_getR (by decide +kernel : decode cX12_flow 370 = .ok (.getfield 92, 3)) fw_X12_92 rfl
theorem o245_373 : Okp RX12 cX12_flow 6 none "flow" false 373 (sK 10 375) := ok_bipush (by decide +kernel : decode cX12_flow 373 = .ok (.bipush 10, 2)) (by decide)
theorem o245_375 : Okp RX12 cX12_flow 6 none "flow" false 375 (sLI 2 376) := ok_iload_n (by decide +kernel : decode cX12_flow 375 = .ok (.iload_n 2, 1)) rfl
theorem o245_376 : Okp RX12 cX12_flow 6 none "flow" false 376 (sB2 fMul 377) := ok_imul (by decide +kernel : decode cX12_flow 376 = .ok (.imul, 1))
theorem o245_377 : Okp RX12 cX12_flow 6 none "flow" false 377 (sLI 3 378) := ok_iload_n (by decide +kernel : decode cX12_flow 377 = .ok (.iload_n 3, 1)) rfl
theorem o245_378 : Okp RX12 cX12_flow 6 none "flow" false 378 (sB2 fAdd 379) := ok_iadd (by decide +kernel : decode cX12_flow 378 = .ok (.iadd, 1))
theorem o245_379 : Okp RX12 cX12_flow 6 none "flow" false 379 (sLI 5 381) := ok_iload (by decide +kernel : decode cX12_flow 379 = .ok (.iload 5, 2))
theorem o245_381 : Okp RX12 cX12_flow 6 none "flow" false 381 (sIS 382) := ok_iastore (by decide +kernel : decode cX12_flow 381 = .ok (.iastore, 1))
theorem o245_382 : Okp RX12 cX12_flow 6 none "flow" false 382 (sInc 3 1 385) := ok_iinc (by decide +kernel : decode cX12_flow 382 = .ok (.iinc 3 1, 3)) (by decide) (by decide)
theorem o245_385 : Okp RX12 cX12_flow 6 none "flow" false 385 (sGo 268) := ok_goto (by decide +kernel : decode cX12_flow 385 = .ok (.goto (-117), 3)) (by decide)
theorem o245_388 : Okp RX12 cX12_flow 6 none "flow" false 388 sRV := ok_vret rfl (by decide +kernel : decode cX12_flow 388 = .ok (.return_, 1))
theorem oc245_0 : ∀ pc, Mnp (c245_0 pc) ∧ Okp RX12 cX12_flow 6 none "flow" false pc (c245_0 pc) := by
  intro pc
  unfold c245_0
  split
  · exact ⟨mn_sLR, o245_0⟩
  · exact ⟨mn_sLI, o245_1⟩
  · exact ⟨mn_sLR, o245_2⟩
  · exact ⟨mn_sGR, o245_3⟩
  · exact ⟨mn_sLI, o245_6⟩
  · exact ⟨mn_sIA, o245_7⟩
  · exact ⟨mn_sI2, o245_8⟩
  · exact ⟨mn_sLR, o245_11⟩
  · exact ⟨mn_sGI, o245_12⟩
  · exact ⟨mn_sK, o245_15⟩
  · exact ⟨mn_sI2, o245_17⟩
  · exact ⟨mn_sK, o245_20⟩
  · exact ⟨mn_sGo, o245_21⟩
  · exact ⟨mn_sX, ok_X⟩
theorem oc245_1 : ∀ pc, Mnp (c245_1 pc) ∧ Okp RX12 cX12_flow 6 none "flow" false pc (c245_1 pc) := by
  intro pc
  unfold c245_1
  split
  · exact ⟨mn_sK, o245_24⟩
  · exact ⟨mn_sCV, o245_25⟩
  · exact ⟨mn_sLR, o245_28⟩
  · exact ⟨mn_sGI, o245_29⟩
  · exact ⟨mn_sI1, o245_32⟩
  · exact ⟨mn_sRV, o245_35⟩
  · exact ⟨mn_sLR, o245_36⟩
  · exact ⟨mn_sGR, o245_37⟩
  · exact ⟨mn_sLI, o245_40⟩
  · exact ⟨mn_sBA, o245_41⟩
  · exact ⟨mn_sI1, o245_42⟩
  · exact ⟨mn_sLR, o245_45⟩
  · exact ⟨mn_sGR, o245_46⟩
  · exact ⟨mn_sX, ok_X⟩
theorem oc245_2 : ∀ pc, Mnp (c245_2 pc) ∧ Okp RX12 cX12_flow 6 none "flow" false pc (c245_2 pc) := by
  intro pc
  unfold c245_2
  split
  · exact ⟨mn_sLI, o245_49⟩
  · exact ⟨mn_sK, o245_50⟩
  · exact ⟨mn_sBS, o245_51⟩
  · exact ⟨mn_sLR, o245_52⟩
  · exact ⟨mn_sK, o245_53⟩
  · exact ⟨mn_sPZ, o245_54⟩
  · exact ⟨mn_sLR, o245_57⟩
  · exact ⟨mn_sGR, o245_58⟩
  · exact ⟨mn_sLI, o245_61⟩
  · exact ⟨mn_sLR, o245_62⟩
  · exact ⟨mn_sGI, o245_63⟩
  · exact ⟨mn_sIS, o245_66⟩
  · exact ⟨mn_sK, o245_67⟩
  · exact ⟨mn_sSI, o245_68⟩
  · exact ⟨mn_sLI, o245_69⟩
  · exact ⟨mn_sLR, o245_70⟩
  · exact ⟨mn_sGI, o245_71⟩
  · exact ⟨mn_sX, ok_X⟩
theorem oc245_3 : ∀ pc, Mnp (c245_3 pc) ∧ Okp RX12 cX12_flow 6 none "flow" false pc (c245_3 pc) := by
  intro pc
  unfold c245_3
  split
  · exact ⟨mn_sI2, o245_74⟩
  · exact ⟨mn_sLR, o245_77⟩
  · exact ⟨mn_sGR, o245_78⟩
  · exact ⟨mn_sK, o245_81⟩
  · exact ⟨mn_sLI, o245_83⟩
  · exact ⟨mn_sB2, o245_84⟩
  · exact ⟨mn_sLI, o245_85⟩
  · exact ⟨mn_sB2, o245_86⟩
  · exact ⟨mn_sLR, o245_87⟩
  · exact ⟨mn_sGR, o245_88⟩
  · exact ⟨mn_sLI, o245_91⟩
  · exact ⟨mn_sIA, o245_92⟩
  · exact ⟨mn_sIS, o245_93⟩
  · exact ⟨mn_sInc, o245_94⟩
  · exact ⟨mn_sX, ok_X⟩
theorem oc245_4 : ∀ pc, Mnp (c245_4 pc) ∧ Okp RX12 cX12_flow 6 none "flow" false pc (c245_4 pc) := by
  intro pc
  unfold c245_4
  split
  · exact ⟨mn_sGo, o245_97⟩
  · exact ⟨mn_sK, o245_100⟩
  · exact ⟨mn_sSI, o245_101⟩
  · exact ⟨mn_sLI, o245_102⟩
  · exact ⟨mn_sK, o245_103⟩
  · exact ⟨mn_sI2, o245_105⟩
  · exact ⟨mn_sLR, o245_108⟩
  · exact ⟨mn_sGR, o245_109⟩
  · exact ⟨mn_sK, o245_112⟩
  · exact ⟨mn_sLI, o245_114⟩
  · exact ⟨mn_sB2, o245_115⟩
  · exact ⟨mn_sLI, o245_116⟩
  · exact ⟨mn_sB2, o245_117⟩
  · exact ⟨mn_sLR, o245_118⟩
  · exact ⟨mn_sGR, o245_119⟩
  · exact ⟨mn_sX, ok_X⟩
theorem oc245_5 : ∀ pc, Mnp (c245_5 pc) ∧ Okp RX12 cX12_flow 6 none "flow" false pc (c245_5 pc) := by
  intro pc
  unfold c245_5
  split
  · exact ⟨mn_sLI, o245_122⟩
  · exact ⟨mn_sIA, o245_123⟩
  · exact ⟨mn_sIS, o245_124⟩
  · exact ⟨mn_sInc, o245_125⟩
  · exact ⟨mn_sGo, o245_128⟩
  · exact ⟨mn_sRV, o245_131⟩
  · exact ⟨mn_sLR, o245_132⟩
  · exact ⟨mn_sLR, o245_133⟩
  · exact ⟨mn_sGR, o245_134⟩
  · exact ⟨mn_sLI, o245_137⟩
  · exact ⟨mn_sIA, o245_138⟩
  · exact ⟨mn_sLR, o245_139⟩
  · exact ⟨mn_sGI, o245_140⟩
  · exact ⟨mn_sI2, o245_143⟩
  · exact ⟨mn_sX, ok_X⟩
theorem oc245_6 : ∀ pc, Mnp (c245_6 pc) ∧ Okp RX12 cX12_flow 6 none "flow" false pc (c245_6 pc) := by
  intro pc
  unfold c245_6
  split
  · exact ⟨mn_sK, o245_146⟩
  · exact ⟨mn_sGo, o245_147⟩
  · exact ⟨mn_sK, o245_150⟩
  · exact ⟨mn_sCV, o245_151⟩
  · exact ⟨mn_sK, o245_154⟩
  · exact ⟨mn_sSI, o245_155⟩
  · exact ⟨mn_sLI, o245_156⟩
  · exact ⟨mn_sLR, o245_157⟩
  · exact ⟨mn_sGI, o245_158⟩
  · exact ⟨mn_sI2, o245_161⟩
  · exact ⟨mn_sLR, o245_164⟩
  · exact ⟨mn_sGI, o245_165⟩
  · exact ⟨mn_sX, ok_X⟩
theorem oc245_7 : ∀ pc, Mnp (c245_7 pc) ∧ Okp RX12 cX12_flow 6 none "flow" false pc (c245_7 pc) := by
  intro pc
  unfold c245_7
  split
  · exact ⟨mn_sI1, o245_168⟩
  · exact ⟨mn_sLR, o245_171⟩
  · exact ⟨mn_sGR, o245_172⟩
  · exact ⟨mn_sK, o245_175⟩
  · exact ⟨mn_sLI, o245_177⟩
  · exact ⟨mn_sB2, o245_178⟩
  · exact ⟨mn_sLI, o245_179⟩
  · exact ⟨mn_sB2, o245_180⟩
  · exact ⟨mn_sIA, o245_181⟩
  · exact ⟨mn_sLR, o245_182⟩
  · exact ⟨mn_sGR, o245_183⟩
  · exact ⟨mn_sLI, o245_186⟩
  · exact ⟨mn_sIA, o245_187⟩
  · exact ⟨mn_sCS, o245_188⟩
  · exact ⟨mn_sSI, o245_191⟩
  · exact ⟨mn_sX, ok_X⟩
theorem oc245_8 : ∀ pc, Mnp (c245_8 pc) ∧ Okp RX12 cX12_flow 6 none "flow" false pc (c245_8 pc) := by
  intro pc
  unfold c245_8
  split
  · exact ⟨mn_sLR, o245_193⟩
  · exact ⟨mn_sLI, o245_194⟩
  · exact ⟨mn_sK, o245_196⟩
  · exact ⟨mn_sI2, o245_197⟩
  · exact ⟨mn_sK, o245_200⟩
  · exact ⟨mn_sGo, o245_201⟩
  · exact ⟨mn_sK, o245_204⟩
  · exact ⟨mn_sCV, o245_205⟩
  · exact ⟨mn_sLR, o245_208⟩
  · exact ⟨mn_sLR, o245_209⟩
  · exact ⟨mn_sGI, o245_210⟩
  · exact ⟨mn_sI1, o245_213⟩
  · exact ⟨mn_sX, ok_X⟩
theorem oc245_9 : ∀ pc, Mnp (c245_9 pc) ∧ Okp RX12 cX12_flow 6 none "flow" false pc (c245_9 pc) := by
  intro pc
  unfold c245_9
  split
  · exact ⟨mn_sLR, o245_216⟩
  · exact ⟨mn_sGI, o245_217⟩
  · exact ⟨mn_sI1, o245_220⟩
  · exact ⟨mn_sLI, o245_223⟩
  · exact ⟨mn_sLR, o245_225⟩
  · exact ⟨mn_sGR, o245_226⟩
  · exact ⟨mn_sK, o245_229⟩
  · exact ⟨mn_sLI, o245_231⟩
  · exact ⟨mn_sB2, o245_232⟩
  · exact ⟨mn_sLI, o245_233⟩
  · exact ⟨mn_sB2, o245_234⟩
  · exact ⟨mn_sIA, o245_235⟩
  · exact ⟨mn_sI2, o245_236⟩
  · exact ⟨mn_sK, o245_239⟩
  · exact ⟨mn_sX, ok_X⟩
theorem oc245_10 : ∀ pc, Mnp (c245_10 pc) ∧ Okp RX12 cX12_flow 6 none "flow" false pc (c245_10 pc) := by
  intro pc
  unfold c245_10
  split
  · exact ⟨mn_sGo, o245_240⟩
  · exact ⟨mn_sK, o245_243⟩
  · exact ⟨mn_sPZ, o245_244⟩
  · exact ⟨mn_sLR, o245_247⟩
  · exact ⟨mn_sGR, o245_248⟩
  · exact ⟨mn_sK, o245_251⟩
  · exact ⟨mn_sLI, o245_253⟩
  · exact ⟨mn_sB2, o245_254⟩
  · exact ⟨mn_sLI, o245_255⟩
  · exact ⟨mn_sB2, o245_256⟩
  · exact ⟨mn_sLI, o245_257⟩
  · exact ⟨mn_sIS, o245_259⟩
  · exact ⟨mn_sInc, o245_260⟩
  · exact ⟨mn_sGo, o245_263⟩
  · exact ⟨mn_sX, ok_X⟩
theorem oc245_11 : ∀ pc, Mnp (c245_11 pc) ∧ Okp RX12 cX12_flow 6 none "flow" false pc (c245_11 pc) := by
  intro pc
  unfold c245_11
  split
  · exact ⟨mn_sK, o245_266⟩
  · exact ⟨mn_sSI, o245_267⟩
  · exact ⟨mn_sLI, o245_268⟩
  · exact ⟨mn_sK, o245_269⟩
  · exact ⟨mn_sI2, o245_271⟩
  · exact ⟨mn_sLR, o245_274⟩
  · exact ⟨mn_sGI, o245_275⟩
  · exact ⟨mn_sI1, o245_278⟩
  · exact ⟨mn_sLR, o245_281⟩
  · exact ⟨mn_sGR, o245_282⟩
  · exact ⟨mn_sK, o245_285⟩
  · exact ⟨mn_sLI, o245_287⟩
  · exact ⟨mn_sX, ok_X⟩
theorem oc245_12 : ∀ pc, Mnp (c245_12 pc) ∧ Okp RX12 cX12_flow 6 none "flow" false pc (c245_12 pc) := by
  intro pc
  unfold c245_12
  split
  · exact ⟨mn_sB2, o245_288⟩
  · exact ⟨mn_sLI, o245_289⟩
  · exact ⟨mn_sB2, o245_290⟩
  · exact ⟨mn_sIA, o245_291⟩
  · exact ⟨mn_sSI, o245_292⟩
  · exact ⟨mn_sLI, o245_294⟩
  · exact ⟨mn_sLR, o245_296⟩
  · exact ⟨mn_sGR, o245_297⟩
  · exact ⟨mn_sLI, o245_300⟩
  · exact ⟨mn_sIA, o245_301⟩
  · exact ⟨mn_sCS, o245_302⟩
  · exact ⟨mn_sSI, o245_305⟩
  · exact ⟨mn_sLI, o245_307⟩
  · exact ⟨mn_sK, o245_309⟩
  · exact ⟨mn_sI2, o245_310⟩
  · exact ⟨mn_sX, ok_X⟩
theorem oc245_13 : ∀ pc, Mnp (c245_13 pc) ∧ Okp RX12 cX12_flow 6 none "flow" false pc (c245_13 pc) := by
  intro pc
  unfold c245_13
  split
  · exact ⟨mn_sLR, o245_313⟩
  · exact ⟨mn_sLI, o245_314⟩
  · exact ⟨mn_sCS, o245_316⟩
  · exact ⟨mn_sI1, o245_319⟩
  · exact ⟨mn_sLR, o245_322⟩
  · exact ⟨mn_sGR, o245_323⟩
  · exact ⟨mn_sLI, o245_326⟩
  · exact ⟨mn_sIA, o245_327⟩
  · exact ⟨mn_sCS, o245_328⟩
  · exact ⟨mn_sI1, o245_331⟩
  · exact ⟨mn_sK, o245_334⟩
  · exact ⟨mn_sGo, o245_335⟩
  · exact ⟨mn_sX, ok_X⟩
theorem oc245_14 : ∀ pc, Mnp (c245_14 pc) ∧ Okp RX12 cX12_flow 6 none "flow" false pc (c245_14 pc) := by
  intro pc
  unfold c245_14
  split
  · exact ⟨mn_sK, o245_338⟩
  · exact ⟨mn_sCV, o245_339⟩
  · exact ⟨mn_sK, o245_342⟩
  · exact ⟨mn_sSI, o245_344⟩
  · exact ⟨mn_sLR, o245_346⟩
  · exact ⟨mn_sLR, o245_347⟩
  · exact ⟨mn_sGI, o245_348⟩
  · exact ⟨mn_sI1, o245_351⟩
  · exact ⟨mn_sLI, o245_354⟩
  · exact ⟨mn_sLI, o245_356⟩
  · exact ⟨mn_sI2, o245_358⟩
  · exact ⟨mn_sX, ok_X⟩
theorem oc245_15 : ∀ pc, Mnp (c245_15 pc) ∧ Okp RX12 cX12_flow 6 none "flow" false pc (c245_15 pc) := by
  intro pc
  unfold c245_15
  split
  · exact ⟨mn_sK, o245_361⟩
  · exact ⟨mn_sGo, o245_362⟩
  · exact ⟨mn_sK, o245_365⟩
  · exact ⟨mn_sPZ, o245_366⟩
  · exact ⟨mn_sLR, o245_369⟩
  · exact ⟨mn_sGR, o245_370⟩
  · exact ⟨mn_sK, o245_373⟩
  · exact ⟨mn_sLI, o245_375⟩
  · exact ⟨mn_sB2, o245_376⟩
  · exact ⟨mn_sLI, o245_377⟩
  · exact ⟨mn_sB2, o245_378⟩
  · exact ⟨mn_sLI, o245_379⟩
  · exact ⟨mn_sIS, o245_381⟩
  · exact ⟨mn_sInc, o245_382⟩
  · exact ⟨mn_sX, ok_X⟩
theorem oc245_16 : ∀ pc, Mnp (c245_16 pc) ∧ Okp RX12 cX12_flow 6 none "flow" false pc (c245_16 pc) := by
  intro pc
  unfold c245_16
  split
  · exact ⟨mn_sGo, o245_385⟩
  · exact ⟨mn_sRV, o245_388⟩
  · exact ⟨mn_sX, ok_X⟩
theorem oc245 : ∀ pc, Mnp (c245 pc) ∧ Okp RX12 cX12_flow 6 none "flow" false pc (c245 pc) := by
  intro pc
  unfold c245
  split
  · exact oc245_0 pc
  · exact oc245_1 pc
  · exact oc245_2 pc
  · exact oc245_3 pc
  · exact oc245_4 pc
  · exact oc245_5 pc
  · exact oc245_6 pc
  · exact oc245_7 pc
  · exact oc245_8 pc
  · exact oc245_9 pc
  · exact oc245_10 pc
  · exact oc245_11 pc
  · exact oc245_12 pc
  · exact oc245_13 pc
  · exact oc245_14 pc
  · exact oc245_15 pc
  · exact oc245_16 pc
  · exact ⟨mn_sX, ok_X⟩
theorem o246_0 : Okp RX12 cX12_both 2 (some .int) "both" false 0 (sLI 0 1) := ok_iload_n (by decide +kernel : decode cX12_both 0 = .ok (.iload_n 0, 1)) rfl
theorem o246_1 : Okp RX12 cX12_both 2 (some .int) "both" false 1 (sLI 1 2) := ok_iload_n (by decide +kernel : decode cX12_both 1 = .ok (.iload_n 1, 1)) rfl
theorem o246_2 : Okp RX12 cX12_both 2 (some .int) "both" false 2 (sI2 1 9 5) := ok_icmp_ne (by decide +kernel : decode cX12_both 2 = .ok (.if_icmp .ne 7, 3)) (by decide)
theorem o246_5 : Okp RX12 cX12_both 2 (some .int) "both" false 5 (sLI 0 6) := ok_iload_n (by decide +kernel : decode cX12_both 5 = .ok (.iload_n 0, 1)) rfl
theorem o246_6 : Okp RX12 cX12_both 2 (some .int) "both" false 6 (sGo 44) := ok_goto (by decide +kernel : decode cX12_both 6 = .ok (.goto 38, 3)) (by decide)
theorem o246_9 : Okp RX12 cX12_both 2 (some .int) "both" false 9 (sLI 0 10) := ok_iload_n (by decide +kernel : decode cX12_both 9 = .ok (.iload_n 0, 1)) rfl
theorem o246_10 : Okp RX12 cX12_both 2 (some .int) "both" false 10 (sK 6 12) := ok_bipush (by decide +kernel : decode cX12_both 10 = .ok (.bipush 6, 2)) (by decide)
theorem o246_12 : Okp RX12 cX12_both 2 (some .int) "both" false 12 (sI2 1 26 15) := ok_icmp_ne (by decide +kernel : decode cX12_both 12 = .ok (.if_icmp .ne 14, 3)) (by decide)
theorem o246_15 : Okp RX12 cX12_both 2 (some .int) "both" false 15 (sLI 1 16) := ok_iload_n (by decide +kernel : decode cX12_both 15 = .ok (.iload_n 1, 1)) rfl
theorem o246_16 : Okp RX12 cX12_both 2 (some .int) "both" false 16 (sCS false 229 1 19) := ok_cs (by decide +kernel : decode cX12_both 16 = .ok (.invokestatic 336, 3)) mw_X12_336 wt_X12_isHeap (by decide) rfl
theorem o246_19 : Okp RX12 cX12_both 2 (some .int) "both" false 19 (sI1 0 26 22) := ok_if_eq (by decide +kernel : decode cX12_both 19 = .ok (.ifCond .eq 7, 3)) (by decide)
theorem o246_22 : Okp RX12 cX12_both 2 (some .int) "both" false 22 (sLI 1 23) := ok_iload_n (by decide +kernel : decode cX12_both 22 = .ok (.iload_n 1, 1)) rfl
theorem o246_23 : Okp RX12 cX12_both 2 (some .int) "both" false 23 (sGo 44) := ok_goto (by decide +kernel : decode cX12_both 23 = .ok (.goto 21, 3)) (by decide)
theorem o246_26 : Okp RX12 cX12_both 2 (some .int) "both" false 26 (sLI 1 27) := ok_iload_n (by decide +kernel : decode cX12_both 26 = .ok (.iload_n 1, 1)) rfl
theorem o246_27 : Okp RX12 cX12_both 2 (some .int) "both" false 27 (sK 6 29) := ok_bipush (by decide +kernel : decode cX12_both 27 = .ok (.bipush 6, 2)) (by decide)
theorem o246_29 : Okp RX12 cX12_both 2 (some .int) "both" false 29 (sI2 1 43 32) := ok_icmp_ne (by decide +kernel : decode cX12_both 29 = .ok (.if_icmp .ne 14, 3)) (by decide)
theorem o246_32 : Okp RX12 cX12_both 2 (some .int) "both" false 32 (sLI 0 33) := ok_iload_n (by decide +kernel : decode cX12_both 32 = .ok (.iload_n 0, 1)) rfl
theorem o246_33 : Okp RX12 cX12_both 2 (some .int) "both" false 33 (sCS false 229 1 36) := ok_cs (by decide +kernel : decode cX12_both 33 = .ok (.invokestatic 336, 3)) mw_X12_336 wt_X12_isHeap (by decide) rfl
theorem o246_36 : Okp RX12 cX12_both 2 (some .int) "both" false 36 (sI1 0 43 39) := ok_if_eq (by decide +kernel : decode cX12_both 36 = .ok (.ifCond .eq 7, 3)) (by decide)
theorem o246_39 : Okp RX12 cX12_both 2 (some .int) "both" false 39 (sLI 0 40) := ok_iload_n (by decide +kernel : decode cX12_both 39 = .ok (.iload_n 0, 1)) rfl
theorem o246_40 : Okp RX12 cX12_both 2 (some .int) "both" false 40 (sGo 44) := ok_goto (by decide +kernel : decode cX12_both 40 = .ok (.goto 4, 3)) (by decide)
theorem o246_43 : Okp RX12 cX12_both 2 (some .int) "both" false 43 (sK (-1) 44) := ok_iconst (by decide +kernel : decode cX12_both 43 = .ok (.iconst (-1), 1)) (by decide)
theorem o246_44 : Okp RX12 cX12_both 2 (some .int) "both" false 44 sRI := ok_iret rfl (by decide +kernel : decode cX12_both 44 = .ok (.ireturn, 1))
theorem oc246_0 : ∀ pc, Mnp (c246_0 pc) ∧ Okp RX12 cX12_both 2 (some .int) "both" false pc (c246_0 pc) := by
  intro pc
  unfold c246_0
  split
  · exact ⟨mn_sLI, o246_0⟩
  · exact ⟨mn_sLI, o246_1⟩
  · exact ⟨mn_sI2, o246_2⟩
  · exact ⟨mn_sLI, o246_5⟩
  · exact ⟨mn_sGo, o246_6⟩
  · exact ⟨mn_sLI, o246_9⟩
  · exact ⟨mn_sK, o246_10⟩
  · exact ⟨mn_sI2, o246_12⟩
  · exact ⟨mn_sLI, o246_15⟩
  · exact ⟨mn_sCS, o246_16⟩
  · exact ⟨mn_sI1, o246_19⟩
  · exact ⟨mn_sLI, o246_22⟩
  · exact ⟨mn_sGo, o246_23⟩
  · exact ⟨mn_sX, ok_X⟩
theorem oc246_1 : ∀ pc, Mnp (c246_1 pc) ∧ Okp RX12 cX12_both 2 (some .int) "both" false pc (c246_1 pc) := by
  intro pc
  unfold c246_1
  split
  · exact ⟨mn_sLI, o246_26⟩
  · exact ⟨mn_sK, o246_27⟩
  · exact ⟨mn_sI2, o246_29⟩
  · exact ⟨mn_sLI, o246_32⟩
  · exact ⟨mn_sCS, o246_33⟩
  · exact ⟨mn_sI1, o246_36⟩
  · exact ⟨mn_sLI, o246_39⟩
  · exact ⟨mn_sGo, o246_40⟩
  · exact ⟨mn_sK, o246_43⟩
  · exact ⟨mn_sRI, o246_44⟩
  · exact ⟨mn_sX, ok_X⟩
theorem oc246 : ∀ pc, Mnp (c246 pc) ∧ Okp RX12 cX12_both 2 (some .int) "both" false pc (c246 pc) := by
  intro pc
  unfold c246
  split
  · exact oc246_0 pc
  · exact oc246_1 pc
  · exact ⟨mn_sX, ok_X⟩
theorem o247_0 : Okp RX12 cX12_pop 1 (some .int) "pop" false 0 (sLR 0 1) := ok_aload_n (by decide +kernel : decode cX12_pop 0 = .ok (.aload_n 0, 1)) rfl
theorem o247_1 : Okp RX12 cX12_pop 1 (some .int) "pop" false 1 (sLR 0 2) := ok_aload_n (by decide +kernel : decode cX12_pop 1 = .ok (.aload_n 0, 1)) rfl
theorem o247_2 : Okp RX12 cX12_pop 1 (some .int) "pop" false 2 (sGI 13 35 5) := ok_getI (by decide +kernel : decode cX12_pop 2 = .ok (.getfield 315, 3)) fw_X12_315 rfl
theorem o247_5 : Okp RX12 cX12_pop 1 (some .int) "pop" false 5 (sI1 5 12 8) := ok_if_le (by decide +kernel : decode cX12_pop 5 = .ok (.ifCond .le 7, 3)) (by decide)
theorem o247_8 : Okp RX12 cX12_pop 1 (some .int) "pop" false 8 (sK 1 9) := ok_iconst (by decide +kernel : decode cX12_pop 8 = .ok (.iconst 1, 1)) (by decide)
theorem o247_9 : Okp RX12 cX12_pop 1 (some .int) "pop" false 9 (sGo 13) := ok_goto (by decide +kernel : decode cX12_pop 9 = .ok (.goto 4, 3)) (by decide)
theorem o247_12 : Okp RX12 cX12_pop 1 (some .int) "pop" false 12 (sK 0 13) := ok_iconst (by decide +kernel : decode cX12_pop 12 = .ok (.iconst 0, 1)) (by decide)
theorem o247_13 : Okp RX12 cX12_pop 1 (some .int) "pop" false 13 (sCV false 244 2 13 16) := ok_cv (by decide +kernel : decode cX12_pop 13 = .ok (.invokevirtual 325, 3)) mw_X12_325 rfl (by decide) wm_X12_wants wse_X12_wants (by decide) rfl
theorem o247_16 : Okp RX12 cX12_pop 1 (some .int) "pop" false 16 (sLR 0 17) := ok_aload_n (by decide +kernel : decode cX12_pop 16 = .ok (.aload_n 0, 1)) rfl
theorem o247_17 : Okp RX12 cX12_pop 1 (some .int) "pop" false 17 (sGI 13 36 20) := ok_getI (by decide +kernel : decode cX12_pop 17 = .ok (.getfield 309, 3)) fw_X12_309 rfl
theorem o247_20 : Okp RX12 cX12_pop 1 (some .int) "pop" false 20 (sI1 1 25 23) := ok_if_ne (by decide +kernel : decode cX12_pop 20 = .ok (.ifCond .ne 5, 3)) (by decide)
theorem o247_23 : Okp RX12 cX12_pop 1 (some .int) "pop" false 23 (sK (-1) 24) := ok_iconst (by decide +kernel : decode cX12_pop 23 = .ok (.iconst (-1), 1)) (by decide)
theorem o247_24 : Okp RX12 cX12_pop 1 (some .int) "pop" false 24 sRI := ok_iret rfl (by decide +kernel : decode cX12_pop 24 = .ok (.ireturn, 1))
theorem o247_25 : Okp RX12 cX12_pop 1 (some .int) "pop" false 25 (sLR 0 26) := ok_aload_n (by decide +kernel : decode cX12_pop 25 = .ok (.aload_n 0, 1)) rfl
theorem o247_26 : Okp RX12 cX12_pop 1 (some .int) "pop" false 26 (sDup 27) := ok_dup (by decide +kernel : decode cX12_pop 26 = .ok (.dup, 1))
theorem o247_27 : Okp RX12 cX12_pop 1 (some .int) "pop" false 27 (sGI 13 35 30) := ok_getI (by decide +kernel : decode cX12_pop 27 = .ok (.getfield 315, 3)) fw_X12_315 rfl
theorem o247_30 : Okp RX12 cX12_pop 1 (some .int) "pop" false 30 (sK 1 31) := ok_iconst (by decide +kernel : decode cX12_pop 30 = .ok (.iconst 1, 1)) (by decide)
theorem o247_31 : Okp RX12 cX12_pop 1 (some .int) "pop" false 31 (sB2 fSub 32) := ok_isub (by decide +kernel : decode cX12_pop 31 = .ok (.isub, 1))
theorem o247_32 : Okp RX12 cX12_pop 1 (some .int) "pop" false 32 (sPI 13 35 35) := ok_putI (by decide +kernel : decode cX12_pop 32 = .ok (.putfield 315, 3)) fw_X12_315 ⟨⟨tyX12_ok, nmX12⟩, Or.inl rfl, rfl⟩ rfl
theorem o247_35 : Okp RX12 cX12_pop 1 (some .int) "pop" false 35 (sLR 0 36) := ok_aload_n (by decide +kernel : decode cX12_pop 35 = .ok (.aload_n 0, 1)) rfl
theorem o247_36 : Okp RX12 cX12_pop 1 (some .int) "pop" false 36 (sGR 13 33 39) := ok_getR (by decide +kernel : decode cX12_pop 36 = .ok (.getfield 95, 3)) fw_X12_95 rfl
theorem o247_39 : Okp RX12 cX12_pop 1 (some .int) "pop" false 39 (sLR 0 40) := ok_aload_n (by decide +kernel : decode cX12_pop 39 = .ok (.aload_n 0, 1)) rfl
theorem o247_40 : Okp RX12 cX12_pop 1 (some .int) "pop" false 40 (sGI 13 35 43) := ok_getI (by decide +kernel : decode cX12_pop 40 = .ok (.getfield 315, 3)) fw_X12_315 rfl
theorem o247_43 : Okp RX12 cX12_pop 1 (some .int) "pop" false 43 (sIA 44) := ok_iaload (by decide +kernel : decode cX12_pop 43 = .ok (.iaload, 1))
theorem o247_44 : Okp RX12 cX12_pop 1 (some .int) "pop" false 44 sRI := ok_iret rfl (by decide +kernel : decode cX12_pop 44 = .ok (.ireturn, 1))
theorem oc247_0 : ∀ pc, Mnp (c247_0 pc) ∧ Okp RX12 cX12_pop 1 (some .int) "pop" false pc (c247_0 pc) := by
  intro pc
  unfold c247_0
  split
  · exact ⟨mn_sLR, o247_0⟩
  · exact ⟨mn_sLR, o247_1⟩
  · exact ⟨mn_sGI, o247_2⟩
  · exact ⟨mn_sI1, o247_5⟩
  · exact ⟨mn_sK, o247_8⟩
  · exact ⟨mn_sGo, o247_9⟩
  · exact ⟨mn_sK, o247_12⟩
  · exact ⟨mn_sCV, o247_13⟩
  · exact ⟨mn_sLR, o247_16⟩
  · exact ⟨mn_sGI, o247_17⟩
  · exact ⟨mn_sI1, o247_20⟩
  · exact ⟨mn_sK, o247_23⟩
  · exact ⟨mn_sX, ok_X⟩
theorem oc247_1 : ∀ pc, Mnp (c247_1 pc) ∧ Okp RX12 cX12_pop 1 (some .int) "pop" false pc (c247_1 pc) := by
  intro pc
  unfold c247_1
  split
  · exact ⟨mn_sRI, o247_24⟩
  · exact ⟨mn_sLR, o247_25⟩
  · exact ⟨mn_sDup, o247_26⟩
  · exact ⟨mn_sGI, o247_27⟩
  · exact ⟨mn_sK, o247_30⟩
  · exact ⟨mn_sB2, o247_31⟩
  · exact ⟨mn_sPI, o247_32⟩
  · exact ⟨mn_sLR, o247_35⟩
  · exact ⟨mn_sGR, o247_36⟩
  · exact ⟨mn_sLR, o247_39⟩
  · exact ⟨mn_sGI, o247_40⟩
  · exact ⟨mn_sIA, o247_43⟩
  · exact ⟨mn_sRI, o247_44⟩
  · exact ⟨mn_sX, ok_X⟩
theorem oc247 : ∀ pc, Mnp (c247 pc) ∧ Okp RX12 cX12_pop 1 (some .int) "pop" false pc (c247 pc) := by
  intro pc
  unfold c247
  split
  · exact oc247_0 pc
  · exact oc247_1 pc
  · exact ⟨mn_sX, ok_X⟩
theorem o248_0 : Okp RX12 cX12_push 2 none "push" false 0 (sLR 0 1) := ok_aload_n (by decide +kernel : decode cX12_push 0 = .ok (.aload_n 0, 1)) rfl
theorem o248_1 : Okp RX12 cX12_push 2 none "push" false 1 (sGR 13 33 4) := ok_getR (by decide +kernel : decode cX12_push 1 = .ok (.getfield 95, 3)) fw_X12_95 rfl
theorem o248_4 : Okp RX12 cX12_push 2 none "push" false 4 (sLR 0 5) := ok_aload_n (by decide +kernel : decode cX12_push 4 = .ok (.aload_n 0, 1)) rfl
theorem o248_5 : Okp RX12 cX12_push 2 none "push" false 5 (sGI 13 35 8) := ok_getI (by decide +kernel : decode cX12_push 5 = .ok (.getfield 315, 3)) fw_X12_315 rfl
theorem o248_8 : Okp RX12 cX12_push 2 none "push" false 8 (sLI 1 9) := ok_iload_n (by decide +kernel : decode cX12_push 8 = .ok (.iload_n 1, 1)) rfl
theorem o248_9 : Okp RX12 cX12_push 2 none "push" false 9 (sIS 10) := ok_iastore (by decide +kernel : decode cX12_push 9 = .ok (.iastore, 1))
theorem o248_10 : Okp RX12 cX12_push 2 none "push" false 10 (sLR 0 11) := ok_aload_n (by decide +kernel : decode cX12_push 10 = .ok (.aload_n 0, 1)) rfl
theorem o248_11 : Okp RX12 cX12_push 2 none "push" false 11 (sDup 12) := ok_dup (by decide +kernel : decode cX12_push 11 = .ok (.dup, 1))
theorem o248_12 : Okp RX12 cX12_push 2 none "push" false 12 (sGI 13 35 15) := ok_getI (by decide +kernel : decode cX12_push 12 = .ok (.getfield 315, 3)) fw_X12_315 rfl
theorem o248_15 : Okp RX12 cX12_push 2 none "push" false 15 (sK 1 16) := ok_iconst (by decide +kernel : decode cX12_push 15 = .ok (.iconst 1, 1)) (by decide)
theorem o248_16 : Okp RX12 cX12_push 2 none "push" false 16 (sB2 fAdd 17) := ok_iadd (by decide +kernel : decode cX12_push 16 = .ok (.iadd, 1))
theorem o248_17 : Okp RX12 cX12_push 2 none "push" false 17 (sPI 13 35 20) := ok_putI (by decide +kernel : decode cX12_push 17 = .ok (.putfield 315, 3)) fw_X12_315 ⟨⟨tyX12_ok, nmX12⟩, Or.inl rfl, rfl⟩ rfl
theorem o248_20 : Okp RX12 cX12_push 2 none "push" false 20 sRV := ok_vret rfl (by decide +kernel : decode cX12_push 20 = .ok (.return_, 1))
theorem oc248 : ∀ pc, Mnp (c248 pc) ∧ Okp RX12 cX12_push 2 none "push" false pc (c248 pc) := by
  intro pc
  unfold c248
  split
  · exact ⟨mn_sLR, o248_0⟩
  · exact ⟨mn_sGR, o248_1⟩
  · exact ⟨mn_sLR, o248_4⟩
  · exact ⟨mn_sGI, o248_5⟩
  · exact ⟨mn_sLI, o248_8⟩
  · exact ⟨mn_sIS, o248_9⟩
  · exact ⟨mn_sLR, o248_10⟩
  · exact ⟨mn_sDup, o248_11⟩
  · exact ⟨mn_sGI, o248_12⟩
  · exact ⟨mn_sK, o248_15⟩
  · exact ⟨mn_sB2, o248_16⟩
  · exact ⟨mn_sPI, o248_17⟩
  · exact ⟨mn_sRV, o248_20⟩
  · exact ⟨mn_sX, ok_X⟩
theorem o249_0 : Okp RX12 cX12_popFor 3 none "popFor" false 0 (sLR 0 1) := ok_aload_n (by decide +kernel : decode cX12_popFor 0 = .ok (.aload_n 0, 1)) rfl
theorem o249_1 : Okp RX12 cX12_popFor 3 none "popFor" false 1 (sCV false 247 1 13 4) := ok_cv (by decide +kernel : decode cX12_popFor 1 = .ok (.invokevirtual 339, 3)) mw_X12_339 rfl (by decide) wm_X12_pop wse_X12_pop (by decide) rfl
theorem o249_4 : Okp RX12 cX12_popFor 3 none "popFor" false 4 (sSI 2 5) := ok_istore_n (by decide +kernel : decode cX12_popFor 4 = .ok (.istore_n 2, 1)) rfl (by decide) (by decide)
theorem o249_5 : Okp RX12 cX12_popFor 3 none "popFor" false 5 (sLR 0 6) := ok_aload_n (by decide +kernel : decode cX12_popFor 5 = .ok (.aload_n 0, 1)) rfl
theorem o249_6 : Okp RX12 cX12_popFor 3 none "popFor" false 6 (sLR 0 7) := ok_aload_n (by decide +kernel : decode cX12_popFor 6 = .ok (.aload_n 0, 1)) rfl
theorem o249_7 : Okp RX12 cX12_popFor 3 none "popFor" false 7 (sGI 13 36 10) := ok_getI (by decide +kernel : decode cX12_popFor 7 = .ok (.getfield 309, 3)) fw_X12_309 rfl
theorem o249_10 : Okp RX12 cX12_popFor 3 none "popFor" false 10 (sI1 0 35 13) := ok_if_eq (by decide +kernel : decode cX12_popFor 10 = .ok (.ifCond .eq 25, 3)) (by decide)
theorem o249_13 : Okp RX12 cX12_popFor 3 none "popFor" false 13 (sLI 2 14) := ok_iload_n (by decide +kernel : decode cX12_popFor 13 = .ok (.iload_n 2, 1)) rfl
theorem o249_14 : Okp RX12 cX12_popFor 3 none "popFor" false 14 (sLI 1 15) := ok_iload_n (by decide +kernel : decode cX12_popFor 14 = .ok (.iload_n 1, 1)) rfl
theorem o249_15 : Okp RX12 cX12_popFor 3 none "popFor" false 15 (sI2 0 31 18) := ok_icmp_eq (by decide +kernel : decode cX12_popFor 15 = .ok (.if_icmp .eq 16, 3)) (by decide)
theorem o249_18 : Okp RX12 cX12_popFor 3 none "popFor" false 18 (sLI 2 19) := ok_iload_n (by decide +kernel : decode cX12_popFor 18 = .ok (.iload_n 2, 1)) rfl
theorem o249_19 : Okp RX12 cX12_popFor 3 none "popFor" false 19 (sK 6 21) := ok_bipush (by decide +kernel : decode cX12_popFor 19 = .ok (.bipush 6, 2)) (by decide)
theorem o249_21 : Okp RX12 cX12_popFor 3 none "popFor" false 21 (sI2 1 35 24) := ok_icmp_ne (by decide +kernel : decode cX12_popFor 21 = .ok (.if_icmp .ne 14, 3)) (by decide)
theorem o249_24 : Okp RX12 cX12_popFor 3 none "popFor" false 24 (sLI 1 25) := ok_iload_n (by decide +kernel : decode cX12_popFor 24 = .ok (.iload_n 1, 1)) rfl
theorem o249_25 : Okp RX12 cX12_popFor 3 none "popFor" false 25 (sCS false 229 1 28) := ok_cs (by decide +kernel : decode cX12_popFor 25 = .ok (.invokestatic 336, 3)) mw_X12_336 wt_X12_isHeap (by decide) rfl
theorem o249_28 : Okp RX12 cX12_popFor 3 none "popFor" false 28 (sI1 0 35 31) := ok_if_eq (by decide +kernel : decode cX12_popFor 28 = .ok (.ifCond .eq 7, 3)) (by decide)
theorem o249_31 : Okp RX12 cX12_popFor 3 none "popFor" false 31 (sK 1 32) := ok_iconst (by decide +kernel : decode cX12_popFor 31 = .ok (.iconst 1, 1)) (by decide)
theorem o249_32 : Okp RX12 cX12_popFor 3 none "popFor" false 32 (sGo 36) := ok_goto (by decide +kernel : decode cX12_popFor 32 = .ok (.goto 4, 3)) (by decide)
theorem o249_35 : Okp RX12 cX12_popFor 3 none "popFor" false 35 (sK 0 36) := ok_iconst (by decide +kernel : decode cX12_popFor 35 = .ok (.iconst 0, 1)) (by decide)
theorem o249_36 : Okp RX12 cX12_popFor 3 none "popFor" false 36 (sCV false 244 2 13 39) := ok_cv (by decide +kernel : decode cX12_popFor 36 = .ok (.invokevirtual 325, 3)) mw_X12_325 rfl (by decide) wm_X12_wants wse_X12_wants (by decide) rfl
theorem o249_39 : Okp RX12 cX12_popFor 3 none "popFor" false 39 sRV := ok_vret rfl (by decide +kernel : decode cX12_popFor 39 = .ok (.return_, 1))
theorem oc249_0 : ∀ pc, Mnp (c249_0 pc) ∧ Okp RX12 cX12_popFor 3 none "popFor" false pc (c249_0 pc) := by
  intro pc
  unfold c249_0
  split
  · exact ⟨mn_sLR, o249_0⟩
  · exact ⟨mn_sCV, o249_1⟩
  · exact ⟨mn_sSI, o249_4⟩
  · exact ⟨mn_sLR, o249_5⟩
  · exact ⟨mn_sLR, o249_6⟩
  · exact ⟨mn_sGI, o249_7⟩
  · exact ⟨mn_sI1, o249_10⟩
  · exact ⟨mn_sLI, o249_13⟩
  · exact ⟨mn_sLI, o249_14⟩
  · exact ⟨mn_sI2, o249_15⟩
  · exact ⟨mn_sLI, o249_18⟩
  · exact ⟨mn_sK, o249_19⟩
  · exact ⟨mn_sI2, o249_21⟩
  · exact ⟨mn_sX, ok_X⟩
theorem oc249_1 : ∀ pc, Mnp (c249_1 pc) ∧ Okp RX12 cX12_popFor 3 none "popFor" false pc (c249_1 pc) := by
  intro pc
  unfold c249_1
  split
  · exact ⟨mn_sLI, o249_24⟩
  · exact ⟨mn_sCS, o249_25⟩
  · exact ⟨mn_sI1, o249_28⟩
  · exact ⟨mn_sK, o249_31⟩
  · exact ⟨mn_sGo, o249_32⟩
  · exact ⟨mn_sK, o249_35⟩
  · exact ⟨mn_sCV, o249_36⟩
  · exact ⟨mn_sRV, o249_39⟩
  · exact ⟨mn_sX, ok_X⟩
theorem oc249 : ∀ pc, Mnp (c249 pc) ∧ Okp RX12 cX12_popFor 3 none "popFor" false pc (c249 pc) := by
  intro pc
  unfold c249
  split
  · exact oc249_0 pc
  · exact oc249_1 pc
  · exact ⟨mn_sX, ok_X⟩
theorem o250_0 : Okp RX12 cX12_popKind 3 (some .int) "popKind" false 0 (sLR 0 1) := ok_aload_n (by decide +kernel : decode cX12_popKind 0 = .ok (.aload_n 0, 1)) rfl
theorem o250_1 : Okp RX12 cX12_popKind 3 (some .int) "popKind" false 1 (sCV false 247 1 13 4) := ok_cv (by decide +kernel : decode cX12_popKind 1 = .ok (.invokevirtual 339, 3)) mw_X12_339 rfl (by decide) wm_X12_pop wse_X12_pop (by decide) rfl
theorem o250_4 : Okp RX12 cX12_popKind 3 (some .int) "popKind" false 4 (sSI 2 5) := ok_istore_n (by decide +kernel : decode cX12_popKind 4 = .ok (.istore_n 2, 1)) rfl (by decide) (by decide)
theorem o250_5 : Okp RX12 cX12_popKind 3 (some .int) "popKind" false 5 (sLR 0 6) := ok_aload_n (by decide +kernel : decode cX12_popKind 5 = .ok (.aload_n 0, 1)) rfl
theorem o250_6 : Okp RX12 cX12_popKind 3 (some .int) "popKind" false 6 (sLR 0 7) := ok_aload_n (by decide +kernel : decode cX12_popKind 6 = .ok (.aload_n 0, 1)) rfl
theorem o250_7 : Okp RX12 cX12_popKind 3 (some .int) "popKind" false 7 (sGI 13 36 10) := ok_getI (by decide +kernel : decode cX12_popKind 7 = .ok (.getfield 309, 3)) fw_X12_309 rfl
theorem o250_10 : Okp RX12 cX12_popKind 3 (some .int) "popKind" false 10 (sI1 0 25 13) := ok_if_eq (by decide +kernel : decode cX12_popKind 10 = .ok (.ifCond .eq 15, 3)) (by decide)
theorem o250_13 : Okp RX12 cX12_popKind 3 (some .int) "popKind" false 13 (sLI 2 14) := ok_iload_n (by decide +kernel : decode cX12_popKind 13 = .ok (.iload_n 2, 1)) rfl
theorem o250_14 : Okp RX12 cX12_popKind 3 (some .int) "popKind" false 14 (sCS false 224 1 17) := ok_cs (by decide +kernel : decode cX12_popKind 14 = .ok (.invokestatic 258, 3)) mw_X12_258 wt_X12_kind (by decide) rfl
theorem o250_17 : Okp RX12 cX12_popKind 3 (some .int) "popKind" false 17 (sLI 1 18) := ok_iload_n (by decide +kernel : decode cX12_popKind 17 = .ok (.iload_n 1, 1)) rfl
theorem o250_18 : Okp RX12 cX12_popKind 3 (some .int) "popKind" false 18 (sI2 1 25 21) := ok_icmp_ne (by decide +kernel : decode cX12_popKind 18 = .ok (.if_icmp .ne 7, 3)) (by decide)
theorem o250_21 : Okp RX12 cX12_popKind 3 (some .int) "popKind" false 21 (sK 1 22) := ok_iconst (by decide +kernel : decode cX12_popKind 21 = .ok (.iconst 1, 1)) (by decide)
theorem o250_22 : Okp RX12 cX12_popKind 3 (some .int) "popKind" false 22 (sGo 26) := ok_goto (by decide +kernel : decode cX12_popKind 22 = .ok (.goto 4, 3)) (by decide)
theorem o250_25 : Okp RX12 cX12_popKind 3 (some .int) "popKind" false 25 (sK 0 26) := ok_iconst (by decide +kernel : decode cX12_popKind 25 = .ok (.iconst 0, 1)) (by decide)
theorem o250_26 : Okp RX12 cX12_popKind 3 (some .int) "popKind" false 26 (sCV false 244 2 13 29) := ok_cv (by decide +kernel : decode cX12_popKind 26 = .ok (.invokevirtual 325, 3)) mw_X12_325 rfl (by decide) wm_X12_wants wse_X12_wants (by decide) rfl
theorem o250_29 : Okp RX12 cX12_popKind 3 (some .int) "popKind" false 29 (sLI 2 30) := ok_iload_n (by decide +kernel : decode cX12_popKind 29 = .ok (.iload_n 2, 1)) rfl
theorem o250_30 : Okp RX12 cX12_popKind 3 (some .int) "popKind" false 30 sRI := ok_iret rfl (by decide +kernel : decode cX12_popKind 30 = .ok (.ireturn, 1))
theorem oc250_0 : ∀ pc, Mnp (c250_0 pc) ∧ Okp RX12 cX12_popKind 3 (some .int) "popKind" false pc (c250_0 pc) := by
  intro pc
  unfold c250_0
  split
  · exact ⟨mn_sLR, o250_0⟩
  · exact ⟨mn_sCV, o250_1⟩
  · exact ⟨mn_sSI, o250_4⟩
  · exact ⟨mn_sLR, o250_5⟩
  · exact ⟨mn_sLR, o250_6⟩
  · exact ⟨mn_sGI, o250_7⟩
  · exact ⟨mn_sI1, o250_10⟩
  · exact ⟨mn_sLI, o250_13⟩
  · exact ⟨mn_sCS, o250_14⟩
  · exact ⟨mn_sLI, o250_17⟩
  · exact ⟨mn_sI2, o250_18⟩
  · exact ⟨mn_sK, o250_21⟩
  · exact ⟨mn_sGo, o250_22⟩
  · exact ⟨mn_sX, ok_X⟩
theorem oc250_1 : ∀ pc, Mnp (c250_1 pc) ∧ Okp RX12 cX12_popKind 3 (some .int) "popKind" false pc (c250_1 pc) := by
  intro pc
  unfold c250_1
  split
  · exact ⟨mn_sK, o250_25⟩
  · exact ⟨mn_sCV, o250_26⟩
  · exact ⟨mn_sLI, o250_29⟩
  · exact ⟨mn_sRI, o250_30⟩
  · exact ⟨mn_sX, ok_X⟩
theorem oc250 : ∀ pc, Mnp (c250 pc) ∧ Okp RX12 cX12_popKind 3 (some .int) "popKind" false pc (c250 pc) := by
  intro pc
  unfold c250
  split
  · exact oc250_0 pc
  · exact oc250_1 pc
  · exact ⟨mn_sX, ok_X⟩
theorem o251_0 : Okp RX12 cX12_popNode 2 (some .int) "popNode" false 0 (sLR 0 1) := ok_aload_n (by decide +kernel : decode cX12_popNode 0 = .ok (.aload_n 0, 1)) rfl
theorem o251_1 : Okp RX12 cX12_popNode 2 (some .int) "popNode" false 1 (sCV false 247 1 13 4) := ok_cv (by decide +kernel : decode cX12_popNode 1 = .ok (.invokevirtual 339, 3)) mw_X12_339 rfl (by decide) wm_X12_pop wse_X12_pop (by decide) rfl
theorem o251_4 : Okp RX12 cX12_popNode 2 (some .int) "popNode" false 4 (sSI 1 5) := ok_istore_n (by decide +kernel : decode cX12_popNode 4 = .ok (.istore_n 1, 1)) rfl (by decide) (by decide)
theorem o251_5 : Okp RX12 cX12_popNode 2 (some .int) "popNode" false 5 (sLR 0 6) := ok_aload_n (by decide +kernel : decode cX12_popNode 5 = .ok (.aload_n 0, 1)) rfl
theorem o251_6 : Okp RX12 cX12_popNode 2 (some .int) "popNode" false 6 (sLR 0 7) := ok_aload_n (by decide +kernel : decode cX12_popNode 6 = .ok (.aload_n 0, 1)) rfl
theorem o251_7 : Okp RX12 cX12_popNode 2 (some .int) "popNode" false 7 (sGI 13 36 10) := ok_getI (by decide +kernel : decode cX12_popNode 7 = .ok (.getfield 309, 3)) fw_X12_309 rfl
theorem o251_10 : Okp RX12 cX12_popNode 2 (some .int) "popNode" false 10 (sI1 0 31 13) := ok_if_eq (by decide +kernel : decode cX12_popNode 10 = .ok (.ifCond .eq 21, 3)) (by decide)
theorem o251_13 : Okp RX12 cX12_popNode 2 (some .int) "popNode" false 13 (sLI 1 14) := ok_iload_n (by decide +kernel : decode cX12_popNode 13 = .ok (.iload_n 1, 1)) rfl
theorem o251_14 : Okp RX12 cX12_popNode 2 (some .int) "popNode" false 14 (sK 6 16) := ok_bipush (by decide +kernel : decode cX12_popNode 14 = .ok (.bipush 6, 2)) (by decide)
theorem o251_16 : Okp RX12 cX12_popNode 2 (some .int) "popNode" false 16 (sI2 0 27 19) := ok_icmp_eq (by decide +kernel : decode cX12_popNode 16 = .ok (.if_icmp .eq 11, 3)) (by decide)
theorem o251_19 : Okp RX12 cX12_popNode 2 (some .int) "popNode" false 19 (sLI 1 20) := ok_iload_n (by decide +kernel : decode cX12_popNode 19 = .ok (.iload_n 1, 1)) rfl
theorem o251_20 : Okp RX12 cX12_popNode 2 (some .int) "popNode" false 20 (sCS false 224 1 23) := ok_cs (by decide +kernel : decode cX12_popNode 20 = .ok (.invokestatic 258, 3)) mw_X12_258 wt_X12_kind (by decide) rfl
theorem o251_23 : Okp RX12 cX12_popNode 2 (some .int) "popNode" false 23 (sK 1 24) := ok_iconst (by decide +kernel : decode cX12_popNode 23 = .ok (.iconst 1, 1)) (by decide)
theorem o251_24 : Okp RX12 cX12_popNode 2 (some .int) "popNode" false 24 (sI2 1 31 27) := ok_icmp_ne (by decide +kernel : decode cX12_popNode 24 = .ok (.if_icmp .ne 7, 3)) (by decide)
theorem o251_27 : Okp RX12 cX12_popNode 2 (some .int) "popNode" false 27 (sK 1 28) := ok_iconst (by decide +kernel : decode cX12_popNode 27 = .ok (.iconst 1, 1)) (by decide)
theorem o251_28 : Okp RX12 cX12_popNode 2 (some .int) "popNode" false 28 (sGo 32) := ok_goto (by decide +kernel : decode cX12_popNode 28 = .ok (.goto 4, 3)) (by decide)
theorem o251_31 : Okp RX12 cX12_popNode 2 (some .int) "popNode" false 31 (sK 0 32) := ok_iconst (by decide +kernel : decode cX12_popNode 31 = .ok (.iconst 0, 1)) (by decide)
theorem o251_32 : Okp RX12 cX12_popNode 2 (some .int) "popNode" false 32 (sCV false 244 2 13 35) := ok_cv (by decide +kernel : decode cX12_popNode 32 = .ok (.invokevirtual 325, 3)) mw_X12_325 rfl (by decide) wm_X12_wants wse_X12_wants (by decide) rfl
theorem o251_35 : Okp RX12 cX12_popNode 2 (some .int) "popNode" false 35 (sLR 0 36) := ok_aload_n (by decide +kernel : decode cX12_popNode 35 = .ok (.aload_n 0, 1)) rfl
theorem o251_36 : Okp RX12 cX12_popNode 2 (some .int) "popNode" false 36 (sLR 0 37) := ok_aload_n (by decide +kernel : decode cX12_popNode 36 = .ok (.aload_n 0, 1)) rfl
theorem o251_37 : Okp RX12 cX12_popNode 2 (some .int) "popNode" false 37 (sGI 13 36 40) := ok_getI (by decide +kernel : decode cX12_popNode 37 = .ok (.getfield 309, 3)) fw_X12_309 rfl
theorem o251_40 : Okp RX12 cX12_popNode 2 (some .int) "popNode" false 40 (sI1 0 53 43) := ok_if_eq (by decide +kernel : decode cX12_popNode 40 = .ok (.ifCond .eq 13, 3)) (by decide)
theorem o251_43 : Okp RX12 cX12_popNode 2 (some .int) "popNode" false 43 (sLI 1 44) := ok_iload_n (by decide +kernel : decode cX12_popNode 43 = .ok (.iload_n 1, 1)) rfl
theorem o251_44 : Okp RX12 cX12_popNode 2 (some .int) "popNode" false 44 (sK 6 46) := ok_bipush (by decide +kernel : decode cX12_popNode 44 = .ok (.bipush 6, 2)) (by decide)
theorem o251_46 : Okp RX12 cX12_popNode 2 (some .int) "popNode" false 46 (sI2 1 53 49) := ok_icmp_ne (by decide +kernel : decode cX12_popNode 46 = .ok (.if_icmp .ne 7, 3)) (by decide)
theorem o251_49 : Okp RX12 cX12_popNode 2 (some .int) "popNode" false 49 (sK 1 50) := ok_iconst (by decide +kernel : decode cX12_popNode 49 = .ok (.iconst 1, 1)) (by decide)
theorem o251_50 : Okp RX12 cX12_popNode 2 (some .int) "popNode" false 50 (sGo 54) := ok_goto (by decide +kernel : decode cX12_popNode 50 = .ok (.goto 4, 3)) (by decide)
theorem o251_53 : Okp RX12 cX12_popNode 2 (some .int) "popNode" false 53 (sK 0 54) := ok_iconst (by decide +kernel : decode cX12_popNode 53 = .ok (.iconst 0, 1)) (by decide)
theorem o251_54 : Okp RX12 cX12_popNode 2 (some .int) "popNode" false 54 (sPZ 13 38 57) := ok_putZ (by decide +kernel : decode cX12_popNode 54 = .ok (.putfield 343, 3)) fw_X12_343 ⟨⟨tyX12_ok, nmX12⟩, Or.inl rfl, rfl⟩ rfl
theorem o251_57 : Okp RX12 cX12_popNode 2 (some .int) "popNode" false 57 (sLI 1 58) := ok_iload_n (by decide +kernel : decode cX12_popNode 57 = .ok (.iload_n 1, 1)) rfl
theorem o251_58 : Okp RX12 cX12_popNode 2 (some .int) "popNode" false 58 sRI := ok_iret rfl (by decide +kernel : decode cX12_popNode 58 = .ok (.ireturn, 1))
theorem oc251_0 : ∀ pc, Mnp (c251_0 pc) ∧ Okp RX12 cX12_popNode 2 (some .int) "popNode" false pc (c251_0 pc) := by
  intro pc
  unfold c251_0
  split
  · exact ⟨mn_sLR, o251_0⟩
  · exact ⟨mn_sCV, o251_1⟩
  · exact ⟨mn_sSI, o251_4⟩
  · exact ⟨mn_sLR, o251_5⟩
  · exact ⟨mn_sLR, o251_6⟩
  · exact ⟨mn_sGI, o251_7⟩
  · exact ⟨mn_sI1, o251_10⟩
  · exact ⟨mn_sLI, o251_13⟩
  · exact ⟨mn_sK, o251_14⟩
  · exact ⟨mn_sI2, o251_16⟩
  · exact ⟨mn_sLI, o251_19⟩
  · exact ⟨mn_sCS, o251_20⟩
  · exact ⟨mn_sK, o251_23⟩
  · exact ⟨mn_sX, ok_X⟩
theorem oc251_1 : ∀ pc, Mnp (c251_1 pc) ∧ Okp RX12 cX12_popNode 2 (some .int) "popNode" false pc (c251_1 pc) := by
  intro pc
  unfold c251_1
  split
  · exact ⟨mn_sI2, o251_24⟩
  · exact ⟨mn_sK, o251_27⟩
  · exact ⟨mn_sGo, o251_28⟩
  · exact ⟨mn_sK, o251_31⟩
  · exact ⟨mn_sCV, o251_32⟩
  · exact ⟨mn_sLR, o251_35⟩
  · exact ⟨mn_sLR, o251_36⟩
  · exact ⟨mn_sGI, o251_37⟩
  · exact ⟨mn_sI1, o251_40⟩
  · exact ⟨mn_sLI, o251_43⟩
  · exact ⟨mn_sK, o251_44⟩
  · exact ⟨mn_sI2, o251_46⟩
  · exact ⟨mn_sX, ok_X⟩
theorem oc251_2 : ∀ pc, Mnp (c251_2 pc) ∧ Okp RX12 cX12_popNode 2 (some .int) "popNode" false pc (c251_2 pc) := by
  intro pc
  unfold c251_2
  split
  · exact ⟨mn_sK, o251_49⟩
  · exact ⟨mn_sGo, o251_50⟩
  · exact ⟨mn_sK, o251_53⟩
  · exact ⟨mn_sPZ, o251_54⟩
  · exact ⟨mn_sLI, o251_57⟩
  · exact ⟨mn_sRI, o251_58⟩
  · exact ⟨mn_sX, ok_X⟩
theorem oc251 : ∀ pc, Mnp (c251 pc) ∧ Okp RX12 cX12_popNode 2 (some .int) "popNode" false pc (c251 pc) := by
  intro pc
  unfold c251
  split
  · exact oc251_0 pc
  · exact oc251_1 pc
  · exact oc251_2 pc
  · exact ⟨mn_sX, ok_X⟩
theorem o252_0 : Okp RX12 cX12_popRow 2 (some .int) "popRow" false 0 (sLR 0 1) := ok_aload_n (by decide +kernel : decode cX12_popRow 0 = .ok (.aload_n 0, 1)) rfl
theorem o252_1 : Okp RX12 cX12_popRow 2 (some .int) "popRow" false 1 (sCV false 247 1 13 4) := ok_cv (by decide +kernel : decode cX12_popRow 1 = .ok (.invokevirtual 339, 3)) mw_X12_339 rfl (by decide) wm_X12_pop wse_X12_pop (by decide) rfl
theorem o252_4 : Okp RX12 cX12_popRow 2 (some .int) "popRow" false 4 (sSI 1 5) := ok_istore_n (by decide +kernel : decode cX12_popRow 4 = .ok (.istore_n 1, 1)) rfl (by decide) (by decide)
theorem o252_5 : Okp RX12 cX12_popRow 2 (some .int) "popRow" false 5 (sLR 0 6) := ok_aload_n (by decide +kernel : decode cX12_popRow 5 = .ok (.aload_n 0, 1)) rfl
theorem o252_6 : Okp RX12 cX12_popRow 2 (some .int) "popRow" false 6 (sLR 0 7) := ok_aload_n (by decide +kernel : decode cX12_popRow 6 = .ok (.aload_n 0, 1)) rfl
theorem o252_7 : Okp RX12 cX12_popRow 2 (some .int) "popRow" false 7 (sGI 13 36 10) := ok_getI (by decide +kernel : decode cX12_popRow 7 = .ok (.getfield 309, 3)) fw_X12_309 rfl
theorem o252_10 : Okp RX12 cX12_popRow 2 (some .int) "popRow" false 10 (sI1 0 39 13) := ok_if_eq (by decide +kernel : decode cX12_popRow 10 = .ok (.ifCond .eq 29, 3)) (by decide)
theorem o252_13 : Okp RX12 cX12_popRow 2 (some .int) "popRow" false 13 (sLI 1 14) := ok_iload_n (by decide +kernel : decode cX12_popRow 13 = .ok (.iload_n 1, 1)) rfl
theorem o252_14 : Okp RX12 cX12_popRow 2 (some .int) "popRow" false 14 (sK 6 16) := ok_bipush (by decide +kernel : decode cX12_popRow 14 = .ok (.bipush 6, 2)) (by decide)
theorem o252_16 : Okp RX12 cX12_popRow 2 (some .int) "popRow" false 16 (sI2 0 35 19) := ok_icmp_eq (by decide +kernel : decode cX12_popRow 16 = .ok (.if_icmp .eq 19, 3)) (by decide)
theorem o252_19 : Okp RX12 cX12_popRow 2 (some .int) "popRow" false 19 (sLI 1 20) := ok_iload_n (by decide +kernel : decode cX12_popRow 19 = .ok (.iload_n 1, 1)) rfl
theorem o252_20 : Okp RX12 cX12_popRow 2 (some .int) "popRow" false 20 (sCS false 224 1 23) := ok_cs (by decide +kernel : decode cX12_popRow 20 = .ok (.invokestatic 258, 3)) mw_X12_258 wt_X12_kind (by decide) rfl
theorem o252_23 : Okp RX12 cX12_popRow 2 (some .int) "popRow" false 23 (sK 2 24) := ok_iconst (by decide +kernel : decode cX12_popRow 23 = .ok (.iconst 2, 1)) (by decide)
theorem o252_24 : Okp RX12 cX12_popRow 2 (some .int) "popRow" false 24 (sI2 0 35 27) := ok_icmp_eq (by decide +kernel : decode cX12_popRow 24 = .ok (.if_icmp .eq 11, 3)) (by decide)
theorem o252_27 : Okp RX12 cX12_popRow 2 (some .int) "popRow" false 27 (sLI 1 28) := ok_iload_n (by decide +kernel : decode cX12_popRow 27 = .ok (.iload_n 1, 1)) rfl
theorem o252_28 : Okp RX12 cX12_popRow 2 (some .int) "popRow" false 28 (sCS false 224 1 31) := ok_cs (by decide +kernel : decode cX12_popRow 28 = .ok (.invokestatic 258, 3)) mw_X12_258 wt_X12_kind (by decide) rfl
theorem o252_31 : Okp RX12 cX12_popRow 2 (some .int) "popRow" false 31 (sK 3 32) := ok_iconst (by decide +kernel : decode cX12_popRow 31 = .ok (.iconst 3, 1)) (by decide)
theorem o252_32 : Okp RX12 cX12_popRow 2 (some .int) "popRow" false 32 (sI2 1 39 35) := ok_icmp_ne (by decide +kernel : decode cX12_popRow 32 = .ok (.if_icmp .ne 7, 3)) (by decide)
theorem o252_35 : Okp RX12 cX12_popRow 2 (some .int) "popRow" false 35 (sK 1 36) := ok_iconst (by decide +kernel : decode cX12_popRow 35 = .ok (.iconst 1, 1)) (by decide)
theorem o252_36 : Okp RX12 cX12_popRow 2 (some .int) "popRow" false 36 (sGo 40) := ok_goto (by decide +kernel : decode cX12_popRow 36 = .ok (.goto 4, 3)) (by decide)
theorem o252_39 : Okp RX12 cX12_popRow 2 (some .int) "popRow" false 39 (sK 0 40) := ok_iconst (by decide +kernel : decode cX12_popRow 39 = .ok (.iconst 0, 1)) (by decide)
theorem o252_40 : Okp RX12 cX12_popRow 2 (some .int) "popRow" false 40 (sCV false 244 2 13 43) := ok_cv (by decide +kernel : decode cX12_popRow 40 = .ok (.invokevirtual 325, 3)) mw_X12_325 rfl (by decide) wm_X12_wants wse_X12_wants (by decide) rfl
theorem o252_43 : Okp RX12 cX12_popRow 2 (some .int) "popRow" false 43 (sLR 0 44) := ok_aload_n (by decide +kernel : decode cX12_popRow 43 = .ok (.aload_n 0, 1)) rfl
theorem o252_44 : Okp RX12 cX12_popRow 2 (some .int) "popRow" false 44 (sLR 0 45) := ok_aload_n (by decide +kernel : decode cX12_popRow 44 = .ok (.aload_n 0, 1)) rfl
theorem o252_45 : Okp RX12 cX12_popRow 2 (some .int) "popRow" false 45 (sGI 13 36 48) := ok_getI (by decide +kernel : decode cX12_popRow 45 = .ok (.getfield 309, 3)) fw_X12_309 rfl
theorem o252_48 : Okp RX12 cX12_popRow 2 (some .int) "popRow" false 48 (sI1 0 61 51) := ok_if_eq (by decide +kernel : decode cX12_popRow 48 = .ok (.ifCond .eq 13, 3)) (by decide)
theorem o252_51 : Okp RX12 cX12_popRow 2 (some .int) "popRow" false 51 (sLI 1 52) := ok_iload_n (by decide +kernel : decode cX12_popRow 51 = .ok (.iload_n 1, 1)) rfl
theorem o252_52 : Okp RX12 cX12_popRow 2 (some .int) "popRow" false 52 (sK 6 54) := ok_bipush (by decide +kernel : decode cX12_popRow 52 = .ok (.bipush 6, 2)) (by decide)
theorem o252_54 : Okp RX12 cX12_popRow 2 (some .int) "popRow" false 54 (sI2 1 61 57) := ok_icmp_ne (by decide +kernel : decode cX12_popRow 54 = .ok (.if_icmp .ne 7, 3)) (by decide)
theorem o252_57 : Okp RX12 cX12_popRow 2 (some .int) "popRow" false 57 (sK 1 58) := ok_iconst (by decide +kernel : decode cX12_popRow 57 = .ok (.iconst 1, 1)) (by decide)
theorem o252_58 : Okp RX12 cX12_popRow 2 (some .int) "popRow" false 58 (sGo 62) := ok_goto (by decide +kernel : decode cX12_popRow 58 = .ok (.goto 4, 3)) (by decide)
theorem o252_61 : Okp RX12 cX12_popRow 2 (some .int) "popRow" false 61 (sK 0 62) := ok_iconst (by decide +kernel : decode cX12_popRow 61 = .ok (.iconst 0, 1)) (by decide)
theorem o252_62 : Okp RX12 cX12_popRow 2 (some .int) "popRow" false 62 (sPZ 13 38 65) := ok_putZ (by decide +kernel : decode cX12_popRow 62 = .ok (.putfield 343, 3)) fw_X12_343 ⟨⟨tyX12_ok, nmX12⟩, Or.inl rfl, rfl⟩ rfl
theorem o252_65 : Okp RX12 cX12_popRow 2 (some .int) "popRow" false 65 (sLI 1 66) := ok_iload_n (by decide +kernel : decode cX12_popRow 65 = .ok (.iload_n 1, 1)) rfl
theorem o252_66 : Okp RX12 cX12_popRow 2 (some .int) "popRow" false 66 sRI := ok_iret rfl (by decide +kernel : decode cX12_popRow 66 = .ok (.ireturn, 1))
theorem oc252_0 : ∀ pc, Mnp (c252_0 pc) ∧ Okp RX12 cX12_popRow 2 (some .int) "popRow" false pc (c252_0 pc) := by
  intro pc
  unfold c252_0
  split
  · exact ⟨mn_sLR, o252_0⟩
  · exact ⟨mn_sCV, o252_1⟩
  · exact ⟨mn_sSI, o252_4⟩
  · exact ⟨mn_sLR, o252_5⟩
  · exact ⟨mn_sLR, o252_6⟩
  · exact ⟨mn_sGI, o252_7⟩
  · exact ⟨mn_sI1, o252_10⟩
  · exact ⟨mn_sLI, o252_13⟩
  · exact ⟨mn_sK, o252_14⟩
  · exact ⟨mn_sI2, o252_16⟩
  · exact ⟨mn_sLI, o252_19⟩
  · exact ⟨mn_sCS, o252_20⟩
  · exact ⟨mn_sK, o252_23⟩
  · exact ⟨mn_sX, ok_X⟩
theorem oc252_1 : ∀ pc, Mnp (c252_1 pc) ∧ Okp RX12 cX12_popRow 2 (some .int) "popRow" false pc (c252_1 pc) := by
  intro pc
  unfold c252_1
  split
  · exact ⟨mn_sI2, o252_24⟩
  · exact ⟨mn_sLI, o252_27⟩
  · exact ⟨mn_sCS, o252_28⟩
  · exact ⟨mn_sK, o252_31⟩
  · exact ⟨mn_sI2, o252_32⟩
  · exact ⟨mn_sK, o252_35⟩
  · exact ⟨mn_sGo, o252_36⟩
  · exact ⟨mn_sK, o252_39⟩
  · exact ⟨mn_sCV, o252_40⟩
  · exact ⟨mn_sLR, o252_43⟩
  · exact ⟨mn_sLR, o252_44⟩
  · exact ⟨mn_sGI, o252_45⟩
  · exact ⟨mn_sX, ok_X⟩
theorem oc252_2 : ∀ pc, Mnp (c252_2 pc) ∧ Okp RX12 cX12_popRow 2 (some .int) "popRow" false pc (c252_2 pc) := by
  intro pc
  unfold c252_2
  split
  · exact ⟨mn_sI1, o252_48⟩
  · exact ⟨mn_sLI, o252_51⟩
  · exact ⟨mn_sK, o252_52⟩
  · exact ⟨mn_sI2, o252_54⟩
  · exact ⟨mn_sK, o252_57⟩
  · exact ⟨mn_sGo, o252_58⟩
  · exact ⟨mn_sK, o252_61⟩
  · exact ⟨mn_sPZ, o252_62⟩
  · exact ⟨mn_sLI, o252_65⟩
  · exact ⟨mn_sRI, o252_66⟩
  · exact ⟨mn_sX, ok_X⟩
theorem oc252 : ∀ pc, Mnp (c252 pc) ∧ Okp RX12 cX12_popRow 2 (some .int) "popRow" false pc (c252 pc) := by
  intro pc
  unfold c252
  split
  · exact oc252_0 pc
  · exact oc252_1 pc
  · exact oc252_2 pc
  · exact ⟨mn_sX, ok_X⟩
theorem o253_0 : Okp RX12 cX12_step 8 none "step" false 0 (sLR 0 1) := ok_aload_n (by decide +kernel : decode cX12_step 0 = .ok (.aload_n 0, 1)) rfl
theorem o253_1 : Okp RX12 cX12_step 8 none "step" false 1 (sGR 13 21 4) := ok_getR (by decide +kernel : decode cX12_step 1 = .ok (.getfield 69, 3)) fw_X12_69 rfl
theorem o253_4 : Okp RX12 cX12_step 8 none "step" false 4 (sLI 2 5) := ok_iload_n (by decide +kernel : decode cX12_step 4 = .ok (.iload_n 2, 1)) rfl
theorem o253_5 : Okp RX12 cX12_step 8 none "step" false 5 (sIA 6) := ok_iaload (by decide +kernel : decode cX12_step 5 = .ok (.iaload, 1))
theorem o253_6 : Okp RX12 cX12_step 8 none "step" false 6 (sLI 3 7) := ok_iload_n (by decide +kernel : decode cX12_step 6 = .ok (.iload_n 3, 1)) rfl
theorem o253_7 : Okp RX12 cX12_step 8 none "step" false 7 (sB2 fAdd 8) := ok_iadd (by decide +kernel : decode cX12_step 7 = .ok (.iadd, 1))
theorem o253_8 : Okp RX12 cX12_step 8 none "step" false 8 (sSI 4 10) := ok_istore (by decide +kernel : decode cX12_step 8 = .ok (.istore 4, 2)) (by decide) (by decide)
theorem o253_10 : Okp RX12 cX12_step 8 none "step" false 10 (sLR 0 11) := ok_aload_n (by decide +kernel : decode cX12_step 10 = .ok (.aload_n 0, 1)) rfl
theorem o253_11 : Okp RX12 cX12_step 8 none "step" false 11 (sLI 1 12) := ok_iload_n (by decide +kernel : decode cX12_step 11 = .ok (.iload_n 1, 1)) rfl
theorem o253_12 : Okp RX12 cX12_step 8 none "step" false 12 (sLI 4 14) := ok_iload (by decide +kernel : decode cX12_step 12 = .ok (.iload 4, 2))
theorem o253_14 : Okp RX12 cX12_step 8 none "step" false 14 (sCV false 220 3 13 17) := ok_cv (by decide +kernel : decode cX12_step 14 = .ok (.invokevirtual 246, 3)) mw_X12_246 rfl (by decide) wm_X12_byteAt wse_X12_byteAt (by decide) rfl
theorem o253_17 : Okp RX12 cX12_step 8 none "step" false 17 (sSI 5 19) := ok_istore (by decide +kernel : decode cX12_step 17 = .ok (.istore 5, 2)) (by decide) (by decide)
theorem o253_19 : Okp RX12 cX12_step 8 none "step" false 19 (sLR 0 20) := ok_aload_n (by decide +kernel : decode cX12_step 19 = .ok (.aload_n 0, 1)) rfl
theorem o253_20 : Okp RX12 cX12_step 8 none "step" false 20 (sLI 1 21) := ok_iload_n (by decide +kernel : decode cX12_step 20 = .ok (.iload_n 1, 1)) rfl
theorem o253_21 : Okp RX12 cX12_step 8 none "step" false 21 (sLI 4 23) := ok_iload (by decide +kernel : decode cX12_step 21 = .ok (.iload 4, 2))
theorem o253_23 : Okp RX12 cX12_step 8 none "step" false 23 (sK 1 24) := ok_iconst (by decide +kernel : decode cX12_step 23 = .ok (.iconst 1, 1)) (by decide)
theorem o253_24 : Okp RX12 cX12_step 8 none "step" false 24 (sB2 fAdd 25) := ok_iadd (by decide +kernel : decode cX12_step 24 = .ok (.iadd, 1))
theorem o253_25 : Okp RX12 cX12_step 8 none "step" false 25 (sCV false 220 3 13 28) := ok_cv (by decide +kernel : decode cX12_step 25 = .ok (.invokevirtual 246, 3)) mw_X12_246 rfl (by decide) wm_X12_byteAt wse_X12_byteAt (by decide) rfl
theorem o253_28 : Okp RX12 cX12_step 8 none "step" false 28 (sSI 6 30) := ok_istore (by decide +kernel : decode cX12_step 28 = .ok (.istore 6, 2)) (by decide) (by decide)
theorem o253_30 : Okp RX12 cX12_step 8 none "step" false 30 (sLR 0 31) := ok_aload_n (by decide +kernel : decode cX12_step 30 = .ok (.aload_n 0, 1)) rfl
theorem o253_31 : Okp RX12 cX12_step 8 none "step" false 31 (sLR 0 32) := ok_aload_n (by decide +kernel : decode cX12_step 31 = .ok (.aload_n 0, 1)) rfl
theorem o253_32 : Okp RX12 cX12_step 8 none "step" false 32 (sGR 13 30 35) := ok_getR (by decide +kernel : decode cX12_step 32 = .ok (.getfield 86, 3)) fw_X12_86 rfl
theorem o253_35 : Okp RX12 cX12_step 8 none "step" false 35 (sLI 3 36) := ok_iload_n (by decide +kernel : decode cX12_step 35 = .ok (.iload_n 3, 1)) rfl
theorem o253_36 : Okp RX12 cX12_step 8 none "step" false 36 (sIA 37) := ok_iaload (by decide +kernel : decode cX12_step 36 = .ok (.iaload, 1))
theorem o253_37 : Okp RX12 cX12_step 8 none "step" false 37 (sPI 13 35 40) := ok_putI (by decide +kernel : decode cX12_step 37 = .ok (.putfield 315, 3)) fw_X12_315 ⟨⟨tyX12_ok, nmX12⟩, Or.inl rfl, rfl⟩ rfl
theorem o253_40 : Okp RX12 cX12_step 8 none "step" false 40 (sK 0 41) := ok_iconst (by decide +kernel : decode cX12_step 40 = .ok (.iconst 0, 1)) (by decide)
theorem o253_41 : Okp RX12 cX12_step 8 none "step" false 41 (sSI 7 43) := ok_istore (by decide +kernel : decode cX12_step 41 = .ok (.istore 7, 2)) (by decide) (by decide)
theorem o253_43 : Okp RX12 cX12_step 8 none "step" false 43 (sLI 7 45) := ok_iload (by decide +kernel : decode cX12_step 43 = .ok (.iload 7, 2))
theorem o253_45 : Okp RX12 cX12_step 8 none "step" false 45 (sLR 0 46) := ok_aload_n (by decide +kernel : decode cX12_step 45 = .ok (.aload_n 0, 1)) rfl
theorem o253_46 : Okp RX12 cX12_step 8 none "step" false 46 (sGI 13 35 49) := ok_getI (by decide +kernel : decode cX12_step 46 = .ok (.getfield 315, 3)) fw_X12_315 rfl
theorem o253_49 : Okp RX12 cX12_step 8 none "step" false 49 (sI2 3 77 52) := ok_icmp_ge (by decide +kernel : decode cX12_step 49 = .ok (.if_icmp .ge 28, 3)) (by decide)
theorem o253_52 : Okp RX12 cX12_step 8 none "step" false 52 (sLR 0 53) := ok_aload_n (by decide +kernel : decode cX12_step 52 = .ok (.aload_n 0, 1)) rfl
theorem o253_53 : Okp RX12 cX12_step 8 none "step" false 53 (sGR 13 33 56) := ok_getR (by decide +kernel : decode cX12_step 53 = .ok (.getfield 95, 3)) fw_X12_95 rfl
theorem o253_56 : Okp RX12 cX12_step 8 none "step" false 56 (sLI 7 58) := ok_iload (by decide +kernel : decode cX12_step 56 = .ok (.iload 7, 2))
theorem o253_58 : Okp RX12 cX12_step 8 none "step" false 58 (sLR 0 59) := ok_aload_n (by decide +kernel : decode cX12_step 58 = .ok (.aload_n 0, 1)) rfl
theorem o253_59 : Okp RX12 cX12_step 8 none "step" false 59 (sGR 13 31 62) := ok_getR (by decide +kernel : decode cX12_step 59 = .ok (.getfield 89, 3)) fw_X12_89 rfl
theorem o253_62 : Okp RX12 cX12_step 8 none "step" false 62 (sK 17 64) := ok_bipush (by decide +kernel : decode cX12_step 62 = .ok (.bipush 17, 2)) (by decide)
theorem o253_64 : Okp RX12 cX12_step 8 none "step" false 64 (sLI 3 65) := ok_iload_n (by decide +kernel : decode cX12_step 64 = .ok (.iload_n 3, 1)) rfl
theorem o253_65 : Okp RX12 cX12_step 8 none "step" false 65 (sB2 fMul 66) := ok_imul (by decide +kernel : decode cX12_step 65 = .ok (.imul, 1))
theorem o253_66 : Okp RX12 cX12_step 8 none "step" false 66 (sLI 7 68) := ok_iload (by decide +kernel : decode cX12_step 66 = .ok (.iload 7, 2))
theorem o253_68 : Okp RX12 cX12_step 8 none "step" false 68 (sB2 fAdd 69) := ok_iadd (by decide +kernel : decode cX12_step 68 = .ok (.iadd, 1))
theorem o253_69 : Okp RX12 cX12_step 8 none "step" false 69 (sIA 70) := ok_iaload (by decide +kernel : decode cX12_step 69 = .ok (.iaload, 1))
theorem o253_70 : Okp RX12 cX12_step 8 none "step" false 70 (sIS 71) := ok_iastore (by decide +kernel : decode cX12_step 70 = .ok (.iastore, 1))
theorem o253_71 : Okp RX12 cX12_step 8 none "step" false 71 (sInc 7 1 74) := ok_iinc (by decide +kernel : decode cX12_step 71 = .ok (.iinc 7 1, 3)) (by decide) (by decide)
theorem o253_74 : Okp RX12 cX12_step 8 none "step" false 74 (sGo 43) := ok_goto (by decide +kernel : decode cX12_step 74 = .ok (.goto (-31), 3)) (by decide)
theorem o253_77 : Okp RX12 cX12_step 8 none "step" false 77 (sK 0 78) := ok_iconst (by decide +kernel : decode cX12_step 77 = .ok (.iconst 0, 1)) (by decide)
theorem o253_78 : Okp RX12 cX12_step 8 none "step" false 78 (sSI 7 80) := ok_istore (by decide +kernel : decode cX12_step 78 = .ok (.istore 7, 2)) (by decide) (by decide)
theorem o253_80 : Okp RX12 cX12_step 8 none "step" false 80 (sLI 7 82) := ok_iload (by decide +kernel : decode cX12_step 80 = .ok (.iload 7, 2))
theorem o253_82 : Okp RX12 cX12_step 8 none "step" false 82 (sK 10 84) := ok_bipush (by decide +kernel : decode cX12_step 82 = .ok (.bipush 10, 2)) (by decide)
theorem o253_84 : Okp RX12 cX12_step 8 none "step" false 84 (sI2 3 112 87) := ok_icmp_ge (by decide +kernel : decode cX12_step 84 = .ok (.if_icmp .ge 28, 3)) (by decide)
theorem o253_87 : Okp RX12 cX12_step 8 none "step" false 87 (sLR 0 88) := ok_aload_n (by decide +kernel : decode cX12_step 87 = .ok (.aload_n 0, 1)) rfl
theorem o253_88 : Okp RX12 cX12_step 8 none "step" false 88 (sGR 13 34 91) := ok_getR (by decide +kernel : decode cX12_step 88 = .ok (.getfield 98, 3)) fw_X12_98 rfl
theorem o253_91 : Okp RX12 cX12_step 8 none "step" false 91 (sLI 7 93) := ok_iload (by decide +kernel : decode cX12_step 91 = .ok (.iload 7, 2))
theorem o253_93 : Okp RX12 cX12_step 8 none "step" false 93 (sLR 0 94) := ok_aload_n (by decide +kernel : decode cX12_step 93 = .ok (.aload_n 0, 1)) rfl
theorem o253_94 : Okp RX12 cX12_step 8 none "step" false 94 (sGR 13 32 97) := ok_getR (by decide +kernel : decode cX12_step 94 = .ok (.getfield 92, 3)) fw_X12_92 rfl
theorem o253_97 : Okp RX12 cX12_step 8 none "step" false 97 (sK 10 99) := ok_bipush (by decide +kernel : decode cX12_step 97 = .ok (.bipush 10, 2)) (by decide)
theorem o253_99 : Okp RX12 cX12_step 8 none "step" false 99 (sLI 3 100) := ok_iload_n (by decide +kernel : decode cX12_step 99 = .ok (.iload_n 3, 1)) rfl
theorem o253_100 : Okp RX12 cX12_step 8 none "step" false 100 (sB2 fMul 101) := ok_imul (by decide +kernel : decode cX12_step 100 = .ok (.imul, 1))
theorem o253_101 : Okp RX12 cX12_step 8 none "step" false 101 (sLI 7 103) := ok_iload (by decide +kernel : decode cX12_step 101 = .ok (.iload 7, 2))
theorem o253_103 : Okp RX12 cX12_step 8 none "step" false 103 (sB2 fAdd 104) := ok_iadd (by decide +kernel : decode cX12_step 103 = .ok (.iadd, 1))
theorem o253_104 : Okp RX12 cX12_step 8 none "step" false 104 (sIA 105) := ok_iaload (by decide +kernel : decode cX12_step 104 = .ok (.iaload, 1))
theorem o253_105 : Okp RX12 cX12_step 8 none "step" false 105 (sIS 106) := ok_iastore (by decide +kernel : decode cX12_step 105 = .ok (.iastore, 1))
theorem o253_106 : Okp RX12 cX12_step 8 none "step" false 106 (sInc 7 1 109) := ok_iinc (by decide +kernel : decode cX12_step 106 = .ok (.iinc 7 1, 3)) (by decide) (by decide)
theorem o253_109 : Okp RX12 cX12_step 8 none "step" false 109 (sGo 80) := ok_goto (by decide +kernel : decode cX12_step 109 = .ok (.goto (-29), 3)) (by decide)
theorem o253_112 : Okp RX12 cX12_step 8 none "step" false 112 (sLI 5 114) := ok_iload (by decide +kernel : decode cX12_step 112 = .ok (.iload 5, 2))
theorem o253_114 : Okp RX12 cX12_step 8 none "step" false 114 (sK 38 116) := ok_bipush (by decide +kernel : decode cX12_step 114 = .ok (.bipush 38, 2)) (by decide)
theorem o253_116 : Okp RX12 cX12_step 8 none "step" false 116 (sI2 1 130 119) := ok_icmp_ne (by decide +kernel : decode cX12_step 116 = .ok (.if_icmp .ne 14, 3)) (by decide)
theorem o253_119 : Okp RX12 cX12_step 8 none "step" false 119 (sLR 0 120) := ok_aload_n (by decide +kernel : decode cX12_step 119 = .ok (.aload_n 0, 1)) rfl
theorem o253_120 : Okp RX12 cX12_step 8 none "step" false 120 (sLI 1 121) := ok_iload_n (by decide +kernel : decode cX12_step 120 = .ok (.iload_n 1, 1)) rfl
theorem o253_121 : Okp RX12 cX12_step 8 none "step" false 121 (sLI 2 122) := ok_iload_n (by decide +kernel : decode cX12_step 121 = .ok (.iload_n 2, 1)) rfl
theorem o253_122 : Okp RX12 cX12_step 8 none "step" false 122 (sLI 4 124) := ok_iload (by decide +kernel : decode cX12_step 122 = .ok (.iload 4, 2))
theorem o253_124 : Okp RX12 cX12_step 8 none "step" false 124 (sLI 6 126) := ok_iload (by decide +kernel : decode cX12_step 124 = .ok (.iload 6, 2))
theorem o253_126 : Okp RX12 cX12_step 8 none "step" false 126 (sCV false 263 5 13 129) := ok_cv (by decide +kernel : decode cX12_step 126 = .ok (.invokevirtual 346, 3)) mw_X12_346 rfl (by decide) wm_X12_receives wse_X12_receives (by decide) rfl
theorem o253_129 : Okp RX12 cX12_step 8 none "step" false 129 sRV := ok_vret rfl (by decide +kernel : decode cX12_step 129 = .ok (.return_, 1))
theorem o253_130 : Okp RX12 cX12_step 8 none "step" false 130 (sLR 0 131) := ok_aload_n (by decide +kernel : decode cX12_step 130 = .ok (.aload_n 0, 1)) rfl
theorem o253_131 : Okp RX12 cX12_step 8 none "step" false 131 (sK 0 132) := ok_iconst (by decide +kernel : decode cX12_step 131 = .ok (.iconst 0, 1)) (by decide)
theorem o253_132 : Okp RX12 cX12_step 8 none "step" false 132 (sPZ 13 38 135) := ok_putZ (by decide +kernel : decode cX12_step 132 = .ok (.putfield 343, 3)) fw_X12_343 ⟨⟨tyX12_ok, nmX12⟩, Or.inl rfl, rfl⟩ rfl
theorem o253_135 : Okp RX12 cX12_step 8 none "step" false 135 (sLI 5 137) := ok_iload (by decide +kernel : decode cX12_step 135 = .ok (.iload 5, 2))
theorem o253_137 : Okp RX12 cX12_step 8 none "step" false 137 (sK 20 139) := ok_bipush (by decide +kernel : decode cX12_step 137 = .ok (.bipush 20, 2)) (by decide)
theorem o253_139 : Okp RX12 cX12_step 8 none "step" false 139 (sI2 3 153 142) := ok_icmp_ge (by decide +kernel : decode cX12_step 139 = .ok (.if_icmp .ge 14, 3)) (by decide)
theorem o253_142 : Okp RX12 cX12_step 8 none "step" false 142 (sLR 0 143) := ok_aload_n (by decide +kernel : decode cX12_step 142 = .ok (.aload_n 0, 1)) rfl
theorem o253_143 : Okp RX12 cX12_step 8 none "step" false 143 (sLI 5 145) := ok_iload (by decide +kernel : decode cX12_step 143 = .ok (.iload 5, 2))
theorem o253_145 : Okp RX12 cX12_step 8 none "step" false 145 (sLI 6 147) := ok_iload (by decide +kernel : decode cX12_step 145 = .ok (.iload 6, 2))
theorem o253_147 : Okp RX12 cX12_step 8 none "step" false 147 (sCV false 254 3 13 150) := ok_cv (by decide +kernel : decode cX12_step 147 = .ok (.invokevirtual 350, 3)) mw_X12_350 rfl (by decide) wm_X12_plain wse_X12_plain (by decide) rfl
theorem o253_150 : Okp RX12 cX12_step 8 none "step" false 150 (sGo 183) := ok_goto (by decide +kernel : decode cX12_step 150 = .ok (.goto 33, 3)) (by decide)
theorem o253_153 : Okp RX12 cX12_step 8 none "step" false 153 (sLI 5 155) := ok_iload (by decide +kernel : decode cX12_step 153 = .ok (.iload 5, 2))
theorem o253_155 : Okp RX12 cX12_step 8 none "step" false 155 (sK 32 157) := ok_bipush (by decide +kernel : decode cX12_step 155 = .ok (.bipush 32, 2)) (by decide)
theorem o253_157 : Okp RX12 cX12_step 8 none "step" false 157 (sI2 3 173 160) := ok_icmp_ge (by decide +kernel : decode cX12_step 157 = .ok (.if_icmp .ge 16, 3)) (by decide)
theorem o253_160 : Okp RX12 cX12_step 8 none "step" false 160 (sLR 0 161) := ok_aload_n (by decide +kernel : decode cX12_step 160 = .ok (.aload_n 0, 1)) rfl
theorem o253_161 : Okp RX12 cX12_step 8 none "step" false 161 (sLI 1 162) := ok_iload_n (by decide +kernel : decode cX12_step 161 = .ok (.iload_n 1, 1)) rfl
theorem o253_162 : Okp RX12 cX12_step 8 none "step" false 162 (sLI 2 163) := ok_iload_n (by decide +kernel : decode cX12_step 162 = .ok (.iload_n 2, 1)) rfl
theorem o253_163 : Okp RX12 cX12_step 8 none "step" false 163 (sLI 5 165) := ok_iload (by decide +kernel : decode cX12_step 163 = .ok (.iload 5, 2))
theorem o253_165 : Okp RX12 cX12_step 8 none "step" false 165 (sLI 6 167) := ok_iload (by decide +kernel : decode cX12_step 165 = .ok (.iload 6, 2))
theorem o253_167 : Okp RX12 cX12_step 8 none "step" false 167 (sCV false 255 5 13 170) := ok_cv (by decide +kernel : decode cX12_step 167 = .ok (.invokevirtual 353, 3)) mw_X12_353 rfl (by decide) wm_X12_heaps wse_X12_heaps (by decide) rfl
theorem o253_170 : Okp RX12 cX12_step 8 none "step" false 170 (sGo 183) := ok_goto (by decide +kernel : decode cX12_step 170 = .ok (.goto 13, 3)) (by decide)
theorem o253_173 : Okp RX12 cX12_step 8 none "step" false 173 (sLR 0 174) := ok_aload_n (by decide +kernel : decode cX12_step 173 = .ok (.aload_n 0, 1)) rfl
theorem o253_174 : Okp RX12 cX12_step 8 none "step" false 174 (sLI 1 175) := ok_iload_n (by decide +kernel : decode cX12_step 174 = .ok (.iload_n 1, 1)) rfl
theorem o253_175 : Okp RX12 cX12_step 8 none "step" false 175 (sLI 2 176) := ok_iload_n (by decide +kernel : decode cX12_step 175 = .ok (.iload_n 2, 1)) rfl
theorem o253_176 : Okp RX12 cX12_step 8 none "step" false 176 (sLI 5 178) := ok_iload (by decide +kernel : decode cX12_step 176 = .ok (.iload 5, 2))
theorem o253_178 : Okp RX12 cX12_step 8 none "step" false 178 (sLI 6 180) := ok_iload (by decide +kernel : decode cX12_step 178 = .ok (.iload 6, 2))
theorem o253_180 : Okp RX12 cX12_step 8 none "step" false 180 (sCV false 258 5 13 183) := ok_cv (by decide +kernel : decode cX12_step 180 = .ok (.invokevirtual 356, 3)) mw_X12_356 rfl (by decide) wm_X12_linear wse_X12_linear (by decide) rfl
theorem o253_183 : Okp RX12 cX12_step 8 none "step" false 183 (sLR 0 184) := ok_aload_n (by decide +kernel : decode cX12_step 183 = .ok (.aload_n 0, 1)) rfl
theorem o253_184 : Okp RX12 cX12_step 8 none "step" false 184 (sGI 13 36 187) := ok_getI (by decide +kernel : decode cX12_step 184 = .ok (.getfield 309, 3)) fw_X12_309 rfl
theorem o253_187 : Okp RX12 cX12_step 8 none "step" false 187 (sI1 0 197 190) := ok_if_eq (by decide +kernel : decode cX12_step 187 = .ok (.ifCond .eq 10, 3)) (by decide)
theorem o253_190 : Okp RX12 cX12_step 8 none "step" false 190 (sLR 0 191) := ok_aload_n (by decide +kernel : decode cX12_step 190 = .ok (.aload_n 0, 1)) rfl
theorem o253_191 : Okp RX12 cX12_step 8 none "step" false 191 (sGI 13 38 194) := ok_getI (by decide +kernel : decode cX12_step 191 = .ok (.getfield 343, 3)) fw_X12_343 rfl
theorem o253_194 : Okp RX12 cX12_step 8 none "step" false 194 (sI1 0 198 197) := ok_if_eq (by decide +kernel : decode cX12_step 194 = .ok (.ifCond .eq 4, 3)) (by decide)
theorem o253_197 : Okp RX12 cX12_step 8 none "step" false 197 sRV := ok_vret rfl (by decide +kernel : decode cX12_step 197 = .ok (.return_, 1))
theorem o253_198 : Okp RX12 cX12_step 8 none "step" false 198 (sLI 5 200) := ok_iload (by decide +kernel : decode cX12_step 198 = .ok (.iload 5, 2))
theorem o253_200 : Okp RX12 cX12_step 8 none "step" false 200 (sK 20 202) := ok_bipush (by decide +kernel : decode cX12_step 200 = .ok (.bipush 20, 2)) (by decide)
theorem o253_202 : Okp RX12 cX12_step 8 none "step" false 202 (sI2 0 212 205) := ok_icmp_eq (by decide +kernel : decode cX12_step 202 = .ok (.if_icmp .eq 10, 3)) (by decide)
theorem o253_205 : Okp RX12 cX12_step 8 none "step" false 205 (sLI 5 207) := ok_iload (by decide +kernel : decode cX12_step 205 = .ok (.iload 5, 2))
theorem o253_207 : Okp RX12 cX12_step 8 none "step" false 207 (sK 21 209) := ok_bipush (by decide +kernel : decode cX12_step 207 = .ok (.bipush 21, 2)) (by decide)
theorem o253_209 : Okp RX12 cX12_step 8 none "step" false 209 (sI2 1 219 212) := ok_icmp_ne (by decide +kernel : decode cX12_step 209 = .ok (.if_icmp .ne 10, 3)) (by decide)
theorem o253_212 : Okp RX12 cX12_step 8 none "step" false 212 (sLR 0 213) := ok_aload_n (by decide +kernel : decode cX12_step 212 = .ok (.aload_n 0, 1)) rfl
theorem o253_213 : Okp RX12 cX12_step 8 none "step" false 213 (sLI 2 214) := ok_iload_n (by decide +kernel : decode cX12_step 213 = .ok (.iload_n 2, 1)) rfl
theorem o253_214 : Okp RX12 cX12_step 8 none "step" false 214 (sLI 6 216) := ok_iload (by decide +kernel : decode cX12_step 214 = .ok (.iload 6, 2))
theorem o253_216 : Okp RX12 cX12_step 8 none "step" false 216 (sCV false 245 3 13 219) := ok_cv (by decide +kernel : decode cX12_step 216 = .ok (.invokevirtual 318, 3)) mw_X12_318 rfl (by decide) wm_X12_flow wse_X12_flow (by decide) rfl
theorem o253_219 : Okp RX12 cX12_step 8 none "step" false 219 (sLI 5 221) := ok_iload (by decide +kernel : decode cX12_step 219 = .ok (.iload 5, 2))
theorem o253_221 : Okp RX12 cX12_step 8 none "step" false 221 (sK 20 223) := ok_bipush (by decide +kernel : decode cX12_step 221 = .ok (.bipush 20, 2)) (by decide)
theorem o253_223 : Okp RX12 cX12_step 8 none "step" false 223 (sI2 0 254 226) := ok_icmp_eq (by decide +kernel : decode cX12_step 223 = .ok (.if_icmp .eq 31, 3)) (by decide)
theorem o253_226 : Okp RX12 cX12_step 8 none "step" false 226 (sLI 5 228) := ok_iload (by decide +kernel : decode cX12_step 226 = .ok (.iload 5, 2))
theorem o253_228 : Okp RX12 cX12_step 8 none "step" false 228 (sK 31 230) := ok_bipush (by decide +kernel : decode cX12_step 228 = .ok (.bipush 31, 2)) (by decide)
theorem o253_230 : Okp RX12 cX12_step 8 none "step" false 230 (sI2 0 254 233) := ok_icmp_eq (by decide +kernel : decode cX12_step 230 = .ok (.if_icmp .eq 24, 3)) (by decide)
theorem o253_233 : Okp RX12 cX12_step 8 none "step" false 233 (sLI 5 235) := ok_iload (by decide +kernel : decode cX12_step 233 = .ok (.iload 5, 2))
theorem o253_235 : Okp RX12 cX12_step 8 none "step" false 235 (sK 42 237) := ok_bipush (by decide +kernel : decode cX12_step 235 = .ok (.bipush 42, 2)) (by decide)
theorem o253_237 : Okp RX12 cX12_step 8 none "step" false 237 (sI2 0 254 240) := ok_icmp_eq (by decide +kernel : decode cX12_step 237 = .ok (.if_icmp .eq 17, 3)) (by decide)
theorem o253_240 : Okp RX12 cX12_step 8 none "step" false 240 (sLR 0 241) := ok_aload_n (by decide +kernel : decode cX12_step 240 = .ok (.aload_n 0, 1)) rfl
theorem o253_241 : Okp RX12 cX12_step 8 none "step" false 241 (sLI 2 242) := ok_iload_n (by decide +kernel : decode cX12_step 241 = .ok (.iload_n 2, 1)) rfl
theorem o253_242 : Okp RX12 cX12_step 8 none "step" false 242 (sLI 3 243) := ok_iload_n (by decide +kernel : decode cX12_step 242 = .ok (.iload_n 3, 1)) rfl
theorem o253_243 : Okp RX12 cX12_step 8 none "step" false 243 (sLR 0 244) := ok_aload_n (by decide +kernel : decode cX12_step 243 = .ok (.aload_n 0, 1)) rfl
theorem o253_244 : Okp RX12 cX12_step 8 none "step" false 244 (sLI 1 245) := ok_iload_n (by decide +kernel : decode cX12_step 244 = .ok (.iload_n 1, 1)) rfl
theorem o253_245 : Okp RX12 cX12_step 8 none "step" false 245 (sLI 4 247) := ok_iload (by decide +kernel : decode cX12_step 245 = .ok (.iload 4, 2))
theorem o253_247 : Okp RX12 cX12_step 8 none "step" false 247 (sCV false 240 3 13 250) := ok_cv (by decide +kernel : decode cX12_step 247 = .ok (.invokevirtual 302, 3)) mw_X12_302 rfl (by decide) wm_X12_length wse_X12_length (by decide) rfl
theorem o253_250 : Okp RX12 cX12_step 8 none "step" false 250 (sB2 fAdd 251) := ok_iadd (by decide +kernel : decode cX12_step 250 = .ok (.iadd, 1))
theorem o253_251 : Okp RX12 cX12_step 8 none "step" false 251 (sCV false 245 3 13 254) := ok_cv (by decide +kernel : decode cX12_step 251 = .ok (.invokevirtual 318, 3)) mw_X12_318 rfl (by decide) wm_X12_flow wse_X12_flow (by decide) rfl
theorem o253_254 : Okp RX12 cX12_step 8 none "step" false 254 sRV := ok_vret rfl (by decide +kernel : decode cX12_step 254 = .ok (.return_, 1))
theorem oc253_0 : ∀ pc, Mnp (c253_0 pc) ∧ Okp RX12 cX12_step 8 none "step" false pc (c253_0 pc) := by
  intro pc
  unfold c253_0
  split
  · exact ⟨mn_sLR, o253_0⟩
  · exact ⟨mn_sGR, o253_1⟩
  · exact ⟨mn_sLI, o253_4⟩
  · exact ⟨mn_sIA, o253_5⟩
  · exact ⟨mn_sLI, o253_6⟩
  · exact ⟨mn_sB2, o253_7⟩
  · exact ⟨mn_sSI, o253_8⟩
  · exact ⟨mn_sLR, o253_10⟩
  · exact ⟨mn_sLI, o253_11⟩
  · exact ⟨mn_sLI, o253_12⟩
  · exact ⟨mn_sCV, o253_14⟩
  · exact ⟨mn_sSI, o253_17⟩
  · exact ⟨mn_sLR, o253_19⟩
  · exact ⟨mn_sLI, o253_20⟩
  · exact ⟨mn_sLI, o253_21⟩
  · exact ⟨mn_sK, o253_23⟩
  · exact ⟨mn_sX, ok_X⟩
theorem oc253_1 : ∀ pc, Mnp (c253_1 pc) ∧ Okp RX12 cX12_step 8 none "step" false pc (c253_1 pc) := by
  intro pc
  unfold c253_1
  split
  · exact ⟨mn_sB2, o253_24⟩
  · exact ⟨mn_sCV, o253_25⟩
  · exact ⟨mn_sSI, o253_28⟩
  · exact ⟨mn_sLR, o253_30⟩
  · exact ⟨mn_sLR, o253_31⟩
  · exact ⟨mn_sGR, o253_32⟩
  · exact ⟨mn_sLI, o253_35⟩
  · exact ⟨mn_sIA, o253_36⟩
  · exact ⟨mn_sPI, o253_37⟩
  · exact ⟨mn_sK, o253_40⟩
  · exact ⟨mn_sSI, o253_41⟩
  · exact ⟨mn_sLI, o253_43⟩
  · exact ⟨mn_sLR, o253_45⟩
  · exact ⟨mn_sGI, o253_46⟩
  · exact ⟨mn_sX, ok_X⟩
theorem oc253_2 : ∀ pc, Mnp (c253_2 pc) ∧ Okp RX12 cX12_step 8 none "step" false pc (c253_2 pc) := by
  intro pc
  unfold c253_2
  split
  · exact ⟨mn_sI2, o253_49⟩
  · exact ⟨mn_sLR, o253_52⟩
  · exact ⟨mn_sGR, o253_53⟩
  · exact ⟨mn_sLI, o253_56⟩
  · exact ⟨mn_sLR, o253_58⟩
  · exact ⟨mn_sGR, o253_59⟩
  · exact ⟨mn_sK, o253_62⟩
  · exact ⟨mn_sLI, o253_64⟩
  · exact ⟨mn_sB2, o253_65⟩
  · exact ⟨mn_sLI, o253_66⟩
  · exact ⟨mn_sB2, o253_68⟩
  · exact ⟨mn_sIA, o253_69⟩
  · exact ⟨mn_sIS, o253_70⟩
  · exact ⟨mn_sInc, o253_71⟩
  · exact ⟨mn_sX, ok_X⟩
theorem oc253_3 : ∀ pc, Mnp (c253_3 pc) ∧ Okp RX12 cX12_step 8 none "step" false pc (c253_3 pc) := by
  intro pc
  unfold c253_3
  split
  · exact ⟨mn_sGo, o253_74⟩
  · exact ⟨mn_sK, o253_77⟩
  · exact ⟨mn_sSI, o253_78⟩
  · exact ⟨mn_sLI, o253_80⟩
  · exact ⟨mn_sK, o253_82⟩
  · exact ⟨mn_sI2, o253_84⟩
  · exact ⟨mn_sLR, o253_87⟩
  · exact ⟨mn_sGR, o253_88⟩
  · exact ⟨mn_sLI, o253_91⟩
  · exact ⟨mn_sLR, o253_93⟩
  · exact ⟨mn_sGR, o253_94⟩
  · exact ⟨mn_sX, ok_X⟩
theorem oc253_4 : ∀ pc, Mnp (c253_4 pc) ∧ Okp RX12 cX12_step 8 none "step" false pc (c253_4 pc) := by
  intro pc
  unfold c253_4
  split
  · exact ⟨mn_sK, o253_97⟩
  · exact ⟨mn_sLI, o253_99⟩
  · exact ⟨mn_sB2, o253_100⟩
  · exact ⟨mn_sLI, o253_101⟩
  · exact ⟨mn_sB2, o253_103⟩
  · exact ⟨mn_sIA, o253_104⟩
  · exact ⟨mn_sIS, o253_105⟩
  · exact ⟨mn_sInc, o253_106⟩
  · exact ⟨mn_sGo, o253_109⟩
  · exact ⟨mn_sLI, o253_112⟩
  · exact ⟨mn_sK, o253_114⟩
  · exact ⟨mn_sI2, o253_116⟩
  · exact ⟨mn_sLR, o253_119⟩
  · exact ⟨mn_sX, ok_X⟩
theorem oc253_5 : ∀ pc, Mnp (c253_5 pc) ∧ Okp RX12 cX12_step 8 none "step" false pc (c253_5 pc) := by
  intro pc
  unfold c253_5
  split
  · exact ⟨mn_sLI, o253_120⟩
  · exact ⟨mn_sLI, o253_121⟩
  · exact ⟨mn_sLI, o253_122⟩
  · exact ⟨mn_sLI, o253_124⟩
  · exact ⟨mn_sCV, o253_126⟩
  · exact ⟨mn_sRV, o253_129⟩
  · exact ⟨mn_sLR, o253_130⟩
  · exact ⟨mn_sK, o253_131⟩
  · exact ⟨mn_sPZ, o253_132⟩
  · exact ⟨mn_sLI, o253_135⟩
  · exact ⟨mn_sK, o253_137⟩
  · exact ⟨mn_sI2, o253_139⟩
  · exact ⟨mn_sLR, o253_142⟩
  · exact ⟨mn_sLI, o253_143⟩
  · exact ⟨mn_sX, ok_X⟩
theorem oc253_6 : ∀ pc, Mnp (c253_6 pc) ∧ Okp RX12 cX12_step 8 none "step" false pc (c253_6 pc) := by
  intro pc
  unfold c253_6
  split
  · exact ⟨mn_sLI, o253_145⟩
  · exact ⟨mn_sCV, o253_147⟩
  · exact ⟨mn_sGo, o253_150⟩
  · exact ⟨mn_sLI, o253_153⟩
  · exact ⟨mn_sK, o253_155⟩
  · exact ⟨mn_sI2, o253_157⟩
  · exact ⟨mn_sLR, o253_160⟩
  · exact ⟨mn_sLI, o253_161⟩
  · exact ⟨mn_sLI, o253_162⟩
  · exact ⟨mn_sLI, o253_163⟩
  · exact ⟨mn_sLI, o253_165⟩
  · exact ⟨mn_sCV, o253_167⟩
  · exact ⟨mn_sX, ok_X⟩
theorem oc253_7 : ∀ pc, Mnp (c253_7 pc) ∧ Okp RX12 cX12_step 8 none "step" false pc (c253_7 pc) := by
  intro pc
  unfold c253_7
  split
  · exact ⟨mn_sGo, o253_170⟩
  · exact ⟨mn_sLR, o253_173⟩
  · exact ⟨mn_sLI, o253_174⟩
  · exact ⟨mn_sLI, o253_175⟩
  · exact ⟨mn_sLI, o253_176⟩
  · exact ⟨mn_sLI, o253_178⟩
  · exact ⟨mn_sCV, o253_180⟩
  · exact ⟨mn_sLR, o253_183⟩
  · exact ⟨mn_sGI, o253_184⟩
  · exact ⟨mn_sI1, o253_187⟩
  · exact ⟨mn_sLR, o253_190⟩
  · exact ⟨mn_sGI, o253_191⟩
  · exact ⟨mn_sX, ok_X⟩
theorem oc253_8 : ∀ pc, Mnp (c253_8 pc) ∧ Okp RX12 cX12_step 8 none "step" false pc (c253_8 pc) := by
  intro pc
  unfold c253_8
  split
  · exact ⟨mn_sI1, o253_194⟩
  · exact ⟨mn_sRV, o253_197⟩
  · exact ⟨mn_sLI, o253_198⟩
  · exact ⟨mn_sK, o253_200⟩
  · exact ⟨mn_sI2, o253_202⟩
  · exact ⟨mn_sLI, o253_205⟩
  · exact ⟨mn_sK, o253_207⟩
  · exact ⟨mn_sI2, o253_209⟩
  · exact ⟨mn_sLR, o253_212⟩
  · exact ⟨mn_sLI, o253_213⟩
  · exact ⟨mn_sLI, o253_214⟩
  · exact ⟨mn_sX, ok_X⟩
theorem oc253_9 : ∀ pc, Mnp (c253_9 pc) ∧ Okp RX12 cX12_step 8 none "step" false pc (c253_9 pc) := by
  intro pc
  unfold c253_9
  split
  · exact ⟨mn_sCV, o253_216⟩
  · exact ⟨mn_sLI, o253_219⟩
  · exact ⟨mn_sK, o253_221⟩
  · exact ⟨mn_sI2, o253_223⟩
  · exact ⟨mn_sLI, o253_226⟩
  · exact ⟨mn_sK, o253_228⟩
  · exact ⟨mn_sI2, o253_230⟩
  · exact ⟨mn_sLI, o253_233⟩
  · exact ⟨mn_sK, o253_235⟩
  · exact ⟨mn_sI2, o253_237⟩
  · exact ⟨mn_sX, ok_X⟩
theorem oc253_10 : ∀ pc, Mnp (c253_10 pc) ∧ Okp RX12 cX12_step 8 none "step" false pc (c253_10 pc) := by
  intro pc
  unfold c253_10
  split
  · exact ⟨mn_sLR, o253_240⟩
  · exact ⟨mn_sLI, o253_241⟩
  · exact ⟨mn_sLI, o253_242⟩
  · exact ⟨mn_sLR, o253_243⟩
  · exact ⟨mn_sLI, o253_244⟩
  · exact ⟨mn_sLI, o253_245⟩
  · exact ⟨mn_sCV, o253_247⟩
  · exact ⟨mn_sB2, o253_250⟩
  · exact ⟨mn_sCV, o253_251⟩
  · exact ⟨mn_sRV, o253_254⟩
  · exact ⟨mn_sX, ok_X⟩
theorem oc253 : ∀ pc, Mnp (c253 pc) ∧ Okp RX12 cX12_step 8 none "step" false pc (c253 pc) := by
  intro pc
  unfold c253
  split
  · exact oc253_0 pc
  · exact oc253_1 pc
  · exact oc253_2 pc
  · exact oc253_3 pc
  · exact oc253_4 pc
  · exact oc253_5 pc
  · exact oc253_6 pc
  · exact oc253_7 pc
  · exact oc253_8 pc
  · exact oc253_9 pc
  · exact oc253_10 pc
  · exact ⟨mn_sX, ok_X⟩
theorem o254_0 : Okp RX12 cX12_plain 5 none "plain" false 0 (sLI 1 1) := ok_iload_n (by decide +kernel : decode cX12_plain 0 = .ok (.iload_n 1, 1)) rfl
theorem o254_1 : Okp RX12 cX12_plain 5 none "plain" false 1 (sSw [(0, 96), (1, 104), (2, 113), (3, 166), (4, 209), (5, 240), (6, 288), (7, 369), (8, 369), (9, 369), (10, 369), (11, 369), (12, 369), (13, 369), (14, 369), (15, 369), (16, 369), (17, 369), (18, 369), (19, 320)] 369) := ok_tsw (by decide +kernel : decode cX12_plain 1 = .ok (.tableswitch 368 0 19 #[95, 103, 112, 165, 208, 239, 287, 368, 368, 368, 368, 368, 368, 368, 368, 368, 368, 368, 368, 319], 95)) (by decide) (by decide) (by decide)
theorem o254_96 : Okp RX12 cX12_plain 5 none "plain" false 96 (sLR 0 97) := ok_aload_n (by decide +kernel : decode cX12_plain 96 = .ok (.aload_n 0, 1)) rfl
theorem o254_97 : Okp RX12 cX12_plain 5 none "plain" false 97 (sK 0 98) := ok_iconst (by decide +kernel : decode cX12_plain 97 = .ok (.iconst 0, 1)) (by decide)
theorem o254_98 : Okp RX12 cX12_plain 5 none "plain" false 98 (sCV false 248 2 13 101) := ok_cv (by decide +kernel : decode cX12_plain 98 = .ok (.invokevirtual 359, 3)) mw_X12_359 rfl (by decide) wm_X12_push wse_X12_push (by decide) rfl
theorem o254_101 : Okp RX12 cX12_plain 5 none "plain" false 101 (sGo 391) := ok_goto (by decide +kernel : decode cX12_plain 101 = .ok (.goto 290, 3)) (by decide)
theorem o254_104 : Okp RX12 cX12_plain 5 none "plain" false 104 (sLR 0 105) := ok_aload_n (by decide +kernel : decode cX12_plain 104 = .ok (.aload_n 0, 1)) rfl
theorem o254_105 : Okp RX12 cX12_plain 5 none "plain" false 105 (sK 6 107) := ok_bipush (by decide +kernel : decode cX12_plain 105 = .ok (.bipush 6, 2)) (by decide)
theorem o254_107 : Okp RX12 cX12_plain 5 none "plain" false 107 (sCV false 248 2 13 110) := ok_cv (by decide +kernel : decode cX12_plain 107 = .ok (.invokevirtual 359, 3)) mw_X12_359 rfl (by decide) wm_X12_push wse_X12_push (by decide) rfl
theorem o254_110 : Okp RX12 cX12_plain 5 none "plain" false 110 (sGo 391) := ok_goto (by decide +kernel : decode cX12_plain 110 = .ok (.goto 281, 3)) (by decide)
theorem o254_113 : Okp RX12 cX12_plain 5 none "plain" false 113 (sLR 0 114) := ok_aload_n (by decide +kernel : decode cX12_plain 113 = .ok (.aload_n 0, 1)) rfl
theorem o254_114 : Okp RX12 cX12_plain 5 none "plain" false 114 (sLR 0 115) := ok_aload_n (by decide +kernel : decode cX12_plain 114 = .ok (.aload_n 0, 1)) rfl
theorem o254_115 : Okp RX12 cX12_plain 5 none "plain" false 115 (sGR 13 34 118) := ok_getR (by decide +kernel : decode cX12_plain 115 = .ok (.getfield 98, 3)) fw_X12_98 rfl
theorem o254_118 : Okp RX12 cX12_plain 5 none "plain" false 118 (sLI 2 119) := ok_iload_n (by decide +kernel : decode cX12_plain 118 = .ok (.iload_n 2, 1)) rfl
theorem o254_119 : Okp RX12 cX12_plain 5 none "plain" false 119 (sIA 120) := ok_iaload (by decide +kernel : decode cX12_plain 119 = .ok (.iaload, 1))
theorem o254_120 : Okp RX12 cX12_plain 5 none "plain" false 120 (sK 7 122) := ok_bipush (by decide +kernel : decode cX12_plain 120 = .ok (.bipush 7, 2)) (by decide)
theorem o254_122 : Okp RX12 cX12_plain 5 none "plain" false 122 (sI2 0 129 125) := ok_icmp_eq (by decide +kernel : decode cX12_plain 122 = .ok (.if_icmp .eq 7, 3)) (by decide)
theorem o254_125 : Okp RX12 cX12_plain 5 none "plain" false 125 (sK 1 126) := ok_iconst (by decide +kernel : decode cX12_plain 125 = .ok (.iconst 1, 1)) (by decide)
theorem o254_126 : Okp RX12 cX12_plain 5 none "plain" false 126 (sGo 130) := ok_goto (by decide +kernel : decode cX12_plain 126 = .ok (.goto 4, 3)) (by decide)
theorem o254_129 : Okp RX12 cX12_plain 5 none "plain" false 129 (sK 0 130) := ok_iconst (by decide +kernel : decode cX12_plain 129 = .ok (.iconst 0, 1)) (by decide)
theorem o254_130 : Okp RX12 cX12_plain 5 none "plain" false 130 (sCV false 244 2 13 133) := ok_cv (by decide +kernel : decode cX12_plain 130 = .ok (.invokevirtual 325, 3)) mw_X12_325 rfl (by decide) wm_X12_wants wse_X12_wants (by decide) rfl
theorem o254_133 : Okp RX12 cX12_plain 5 none "plain" false 133 (sLR 0 134) := ok_aload_n (by decide +kernel : decode cX12_plain 133 = .ok (.aload_n 0, 1)) rfl
theorem o254_134 : Okp RX12 cX12_plain 5 none "plain" false 134 (sLR 0 135) := ok_aload_n (by decide +kernel : decode cX12_plain 134 = .ok (.aload_n 0, 1)) rfl
theorem o254_135 : Okp RX12 cX12_plain 5 none "plain" false 135 (sGR 13 34 138) := ok_getR (by decide +kernel : decode cX12_plain 135 = .ok (.getfield 98, 3)) fw_X12_98 rfl
theorem o254_138 : Okp RX12 cX12_plain 5 none "plain" false 138 (sLI 2 139) := ok_iload_n (by decide +kernel : decode cX12_plain 138 = .ok (.iload_n 2, 1)) rfl
theorem o254_139 : Okp RX12 cX12_plain 5 none "plain" false 139 (sIA 140) := ok_iaload (by decide +kernel : decode cX12_plain 139 = .ok (.iaload, 1))
theorem o254_140 : Okp RX12 cX12_plain 5 none "plain" false 140 (sCV false 248 2 13 143) := ok_cv (by decide +kernel : decode cX12_plain 140 = .ok (.invokevirtual 359, 3)) mw_X12_359 rfl (by decide) wm_X12_push wse_X12_push (by decide) rfl
theorem o254_143 : Okp RX12 cX12_plain 5 none "plain" false 143 (sLR 0 144) := ok_aload_n (by decide +kernel : decode cX12_plain 143 = .ok (.aload_n 0, 1)) rfl
theorem o254_144 : Okp RX12 cX12_plain 5 none "plain" false 144 (sGR 13 34 147) := ok_getR (by decide +kernel : decode cX12_plain 144 = .ok (.getfield 98, 3)) fw_X12_98 rfl
theorem o254_147 : Okp RX12 cX12_plain 5 none "plain" false 147 (sLI 2 148) := ok_iload_n (by decide +kernel : decode cX12_plain 147 = .ok (.iload_n 2, 1)) rfl
theorem o254_148 : Okp RX12 cX12_plain 5 none "plain" false 148 (sIA 149) := ok_iaload (by decide +kernel : decode cX12_plain 148 = .ok (.iaload, 1))
theorem o254_149 : Okp RX12 cX12_plain 5 none "plain" false 149 (sCS false 228 1 152) := ok_cs (by decide +kernel : decode cX12_plain 149 = .ok (.invokestatic 332, 3)) mw_X12_332 wt_X12_isLinear (by decide) rfl
theorem o254_152 : Okp RX12 cX12_plain 5 none "plain" false 152 (sI1 0 391 155) := ok_if_eq (by decide +kernel : decode cX12_plain 152 = .ok (.ifCond .eq 239, 3)) (by decide)
theorem o254_155 : Okp RX12 cX12_plain 5 none "plain" false 155 (sLR 0 156) := ok_aload_n (by decide +kernel : decode cX12_plain 155 = .ok (.aload_n 0, 1)) rfl
theorem o254_156 : Okp RX12 cX12_plain 5 none "plain" false 156 (sGR 13 34 159) := ok_getR (by decide +kernel : decode cX12_plain 156 = .ok (.getfield 98, 3)) fw_X12_98 rfl
theorem o254_159 : Okp RX12 cX12_plain 5 none "plain" false 159 (sLI 2 160) := ok_iload_n (by decide +kernel : decode cX12_plain 159 = .ok (.iload_n 2, 1)) rfl
theorem o254_160 : Okp RX12 cX12_plain 5 none "plain" false 160 (sK 7 162) := ok_bipush (by decide +kernel : decode cX12_plain 160 = .ok (.bipush 7, 2)) (by decide)
theorem o254_162 : Okp RX12 cX12_plain 5 none "plain" false 162 (sIS 163) := ok_iastore (by decide +kernel : decode cX12_plain 162 = .ok (.iastore, 1))
theorem o254_163 : Okp RX12 cX12_plain 5 none "plain" false 163 (sGo 391) := ok_goto (by decide +kernel : decode cX12_plain 163 = .ok (.goto 228, 3)) (by decide)
theorem o254_166 : Okp RX12 cX12_plain 5 none "plain" false 166 (sLR 0 167) := ok_aload_n (by decide +kernel : decode cX12_plain 166 = .ok (.aload_n 0, 1)) rfl
theorem o254_167 : Okp RX12 cX12_plain 5 none "plain" false 167 (sLR 0 168) := ok_aload_n (by decide +kernel : decode cX12_plain 167 = .ok (.aload_n 0, 1)) rfl
theorem o254_168 : Okp RX12 cX12_plain 5 none "plain" false 168 (sGR 13 34 171) := ok_getR (by decide +kernel : decode cX12_plain 168 = .ok (.getfield 98, 3)) fw_X12_98 rfl
theorem o254_171 : Okp RX12 cX12_plain 5 none "plain" false 171 (sLI 2 172) := ok_iload_n (by decide +kernel : decode cX12_plain 171 = .ok (.iload_n 2, 1)) rfl
theorem o254_172 : Okp RX12 cX12_plain 5 none "plain" false 172 (sIA 173) := ok_iaload (by decide +kernel : decode cX12_plain 172 = .ok (.iaload, 1))
theorem o254_173 : Okp RX12 cX12_plain 5 none "plain" false 173 (sCS false 228 1 176) := ok_cs (by decide +kernel : decode cX12_plain 173 = .ok (.invokestatic 332, 3)) mw_X12_332 wt_X12_isLinear (by decide) rfl
theorem o254_176 : Okp RX12 cX12_plain 5 none "plain" false 176 (sI1 1 183 179) := ok_if_ne (by decide +kernel : decode cX12_plain 176 = .ok (.ifCond .ne 7, 3)) (by decide)
theorem o254_179 : Okp RX12 cX12_plain 5 none "plain" false 179 (sK 1 180) := ok_iconst (by decide +kernel : decode cX12_plain 179 = .ok (.iconst 1, 1)) (by decide)
theorem o254_180 : Okp RX12 cX12_plain 5 none "plain" false 180 (sGo 184) := ok_goto (by decide +kernel : decode cX12_plain 180 = .ok (.goto 4, 3)) (by decide)
theorem o254_183 : Okp RX12 cX12_plain 5 none "plain" false 183 (sK 0 184) := ok_iconst (by decide +kernel : decode cX12_plain 183 = .ok (.iconst 0, 1)) (by decide)
theorem o254_184 : Okp RX12 cX12_plain 5 none "plain" false 184 (sCV false 244 2 13 187) := ok_cv (by decide +kernel : decode cX12_plain 184 = .ok (.invokevirtual 325, 3)) mw_X12_325 rfl (by decide) wm_X12_wants wse_X12_wants (by decide) rfl
theorem o254_187 : Okp RX12 cX12_plain 5 none "plain" false 187 (sLR 0 188) := ok_aload_n (by decide +kernel : decode cX12_plain 187 = .ok (.aload_n 0, 1)) rfl
theorem o254_188 : Okp RX12 cX12_plain 5 none "plain" false 188 (sCV false 247 1 13 191) := ok_cv (by decide +kernel : decode cX12_plain 188 = .ok (.invokevirtual 339, 3)) mw_X12_339 rfl (by decide) wm_X12_pop wse_X12_pop (by decide) rfl
theorem o254_191 : Okp RX12 cX12_plain 5 none "plain" false 191 (sSI 3 192) := ok_istore_n (by decide +kernel : decode cX12_plain 191 = .ok (.istore_n 3, 1)) rfl (by decide) (by decide)
theorem o254_192 : Okp RX12 cX12_plain 5 none "plain" false 192 (sLR 0 193) := ok_aload_n (by decide +kernel : decode cX12_plain 192 = .ok (.aload_n 0, 1)) rfl
theorem o254_193 : Okp RX12 cX12_plain 5 none "plain" false 193 (sGI 13 36 196) := ok_getI (by decide +kernel : decode cX12_plain 193 = .ok (.getfield 309, 3)) fw_X12_309 rfl
theorem o254_196 : Okp RX12 cX12_plain 5 none "plain" false 196 (sI1 0 391 199) := ok_if_eq (by decide +kernel : decode cX12_plain 196 = .ok (.ifCond .eq 195, 3)) (by decide)
theorem o254_199 : Okp RX12 cX12_plain 5 none "plain" false 199 (sLR 0 200) := ok_aload_n (by decide +kernel : decode cX12_plain 199 = .ok (.aload_n 0, 1)) rfl
theorem o254_200 : Okp RX12 cX12_plain 5 none "plain" false 200 (sGR 13 34 203) := ok_getR (by decide +kernel : decode cX12_plain 200 = .ok (.getfield 98, 3)) fw_X12_98 rfl
theorem o254_203 : Okp RX12 cX12_plain 5 none "plain" false 203 (sLI 2 204) := ok_iload_n (by decide +kernel : decode cX12_plain 203 = .ok (.iload_n 2, 1)) rfl
theorem o254_204 : Okp RX12 cX12_plain 5 none "plain" false 204 (sLI 3 205) := ok_iload_n (by decide +kernel : decode cX12_plain 204 = .ok (.iload_n 3, 1)) rfl
theorem o254_205 : Okp RX12 cX12_plain 5 none "plain" false 205 (sIS 206) := ok_iastore (by decide +kernel : decode cX12_plain 205 = .ok (.iastore, 1))
theorem o254_206 : Okp RX12 cX12_plain 5 none "plain" false 206 (sGo 391) := ok_goto (by decide +kernel : decode cX12_plain 206 = .ok (.goto 185, 3)) (by decide)
theorem o254_209 : Okp RX12 cX12_plain 5 none "plain" false 209 (sLR 0 210) := ok_aload_n (by decide +kernel : decode cX12_plain 209 = .ok (.aload_n 0, 1)) rfl
theorem o254_210 : Okp RX12 cX12_plain 5 none "plain" false 210 (sCV false 247 1 13 213) := ok_cv (by decide +kernel : decode cX12_plain 210 = .ok (.invokevirtual 339, 3)) mw_X12_339 rfl (by decide) wm_X12_pop wse_X12_pop (by decide) rfl
theorem o254_213 : Okp RX12 cX12_plain 5 none "plain" false 213 (sSI 3 214) := ok_istore_n (by decide +kernel : decode cX12_plain 213 = .ok (.istore_n 3, 1)) rfl (by decide) (by decide)
theorem o254_214 : Okp RX12 cX12_plain 5 none "plain" false 214 (sLR 0 215) := ok_aload_n (by decide +kernel : decode cX12_plain 214 = .ok (.aload_n 0, 1)) rfl
theorem o254_215 : Okp RX12 cX12_plain 5 none "plain" false 215 (sLR 0 216) := ok_aload_n (by decide +kernel : decode cX12_plain 215 = .ok (.aload_n 0, 1)) rfl
theorem o254_216 : Okp RX12 cX12_plain 5 none "plain" false 216 (sGI 13 36 219) := ok_getI (by decide +kernel : decode cX12_plain 216 = .ok (.getfield 309, 3)) fw_X12_309 rfl
theorem o254_219 : Okp RX12 cX12_plain 5 none "plain" false 219 (sI1 0 233 222) := ok_if_eq (by decide +kernel : decode cX12_plain 219 = .ok (.ifCond .eq 14, 3)) (by decide)
theorem o254_222 : Okp RX12 cX12_plain 5 none "plain" false 222 (sLI 3 223) := ok_iload_n (by decide +kernel : decode cX12_plain 222 = .ok (.iload_n 3, 1)) rfl
theorem o254_223 : Okp RX12 cX12_plain 5 none "plain" false 223 (sCS false 228 1 226) := ok_cs (by decide +kernel : decode cX12_plain 223 = .ok (.invokestatic 332, 3)) mw_X12_332 wt_X12_isLinear (by decide) rfl
theorem o254_226 : Okp RX12 cX12_plain 5 none "plain" false 226 (sI1 1 233 229) := ok_if_ne (by decide +kernel : decode cX12_plain 226 = .ok (.ifCond .ne 7, 3)) (by decide)
theorem o254_229 : Okp RX12 cX12_plain 5 none "plain" false 229 (sK 1 230) := ok_iconst (by decide +kernel : decode cX12_plain 229 = .ok (.iconst 1, 1)) (by decide)
theorem o254_230 : Okp RX12 cX12_plain 5 none "plain" false 230 (sGo 234) := ok_goto (by decide +kernel : decode cX12_plain 230 = .ok (.goto 4, 3)) (by decide)
theorem o254_233 : Okp RX12 cX12_plain 5 none "plain" false 233 (sK 0 234) := ok_iconst (by decide +kernel : decode cX12_plain 233 = .ok (.iconst 0, 1)) (by decide)
theorem o254_234 : Okp RX12 cX12_plain 5 none "plain" false 234 (sCV false 244 2 13 237) := ok_cv (by decide +kernel : decode cX12_plain 234 = .ok (.invokevirtual 325, 3)) mw_X12_325 rfl (by decide) wm_X12_wants wse_X12_wants (by decide) rfl
theorem o254_237 : Okp RX12 cX12_plain 5 none "plain" false 237 (sGo 391) := ok_goto (by decide +kernel : decode cX12_plain 237 = .ok (.goto 154, 3)) (by decide)
theorem o254_240 : Okp RX12 cX12_plain 5 none "plain" false 240 (sLR 0 241) := ok_aload_n (by decide +kernel : decode cX12_plain 240 = .ok (.aload_n 0, 1)) rfl
theorem o254_241 : Okp RX12 cX12_plain 5 none "plain" false 241 (sCV false 247 1 13 244) := ok_cv (by decide +kernel : decode cX12_plain 241 = .ok (.invokevirtual 339, 3)) mw_X12_339 rfl (by decide) wm_X12_pop wse_X12_pop (by decide) rfl
theorem o254_244 : Okp RX12 cX12_plain 5 none "plain" false 244 (sSI 3 245) := ok_istore_n (by decide +kernel : decode cX12_plain 244 = .ok (.istore_n 3, 1)) rfl (by decide) (by decide)
theorem o254_245 : Okp RX12 cX12_plain 5 none "plain" false 245 (sLR 0 246) := ok_aload_n (by decide +kernel : decode cX12_plain 245 = .ok (.aload_n 0, 1)) rfl
theorem o254_246 : Okp RX12 cX12_plain 5 none "plain" false 246 (sLR 0 247) := ok_aload_n (by decide +kernel : decode cX12_plain 246 = .ok (.aload_n 0, 1)) rfl
theorem o254_247 : Okp RX12 cX12_plain 5 none "plain" false 247 (sGI 13 36 250) := ok_getI (by decide +kernel : decode cX12_plain 247 = .ok (.getfield 309, 3)) fw_X12_309 rfl
theorem o254_250 : Okp RX12 cX12_plain 5 none "plain" false 250 (sI1 0 264 253) := ok_if_eq (by decide +kernel : decode cX12_plain 250 = .ok (.ifCond .eq 14, 3)) (by decide)
theorem o254_253 : Okp RX12 cX12_plain 5 none "plain" false 253 (sLI 3 254) := ok_iload_n (by decide +kernel : decode cX12_plain 253 = .ok (.iload_n 3, 1)) rfl
theorem o254_254 : Okp RX12 cX12_plain 5 none "plain" false 254 (sCS false 228 1 257) := ok_cs (by decide +kernel : decode cX12_plain 254 = .ok (.invokestatic 332, 3)) mw_X12_332 wt_X12_isLinear (by decide) rfl
theorem o254_257 : Okp RX12 cX12_plain 5 none "plain" false 257 (sI1 1 264 260) := ok_if_ne (by decide +kernel : decode cX12_plain 257 = .ok (.ifCond .ne 7, 3)) (by decide)
theorem o254_260 : Okp RX12 cX12_plain 5 none "plain" false 260 (sK 1 261) := ok_iconst (by decide +kernel : decode cX12_plain 260 = .ok (.iconst 1, 1)) (by decide)
theorem o254_261 : Okp RX12 cX12_plain 5 none "plain" false 261 (sGo 265) := ok_goto (by decide +kernel : decode cX12_plain 261 = .ok (.goto 4, 3)) (by decide)
theorem o254_264 : Okp RX12 cX12_plain 5 none "plain" false 264 (sK 0 265) := ok_iconst (by decide +kernel : decode cX12_plain 264 = .ok (.iconst 0, 1)) (by decide)
theorem o254_265 : Okp RX12 cX12_plain 5 none "plain" false 265 (sCV false 244 2 13 268) := ok_cv (by decide +kernel : decode cX12_plain 265 = .ok (.invokevirtual 325, 3)) mw_X12_325 rfl (by decide) wm_X12_wants wse_X12_wants (by decide) rfl
theorem o254_268 : Okp RX12 cX12_plain 5 none "plain" false 268 (sLR 0 269) := ok_aload_n (by decide +kernel : decode cX12_plain 268 = .ok (.aload_n 0, 1)) rfl
theorem o254_269 : Okp RX12 cX12_plain 5 none "plain" false 269 (sGI 13 36 272) := ok_getI (by decide +kernel : decode cX12_plain 269 = .ok (.getfield 309, 3)) fw_X12_309 rfl
theorem o254_272 : Okp RX12 cX12_plain 5 none "plain" false 272 (sI1 0 391 275) := ok_if_eq (by decide +kernel : decode cX12_plain 272 = .ok (.ifCond .eq 119, 3)) (by decide)
theorem o254_275 : Okp RX12 cX12_plain 5 none "plain" false 275 (sLR 0 276) := ok_aload_n (by decide +kernel : decode cX12_plain 275 = .ok (.aload_n 0, 1)) rfl
theorem o254_276 : Okp RX12 cX12_plain 5 none "plain" false 276 (sLI 3 277) := ok_iload_n (by decide +kernel : decode cX12_plain 276 = .ok (.iload_n 3, 1)) rfl
theorem o254_277 : Okp RX12 cX12_plain 5 none "plain" false 277 (sCV false 248 2 13 280) := ok_cv (by decide +kernel : decode cX12_plain 277 = .ok (.invokevirtual 359, 3)) mw_X12_359 rfl (by decide) wm_X12_push wse_X12_push (by decide) rfl
theorem o254_280 : Okp RX12 cX12_plain 5 none "plain" false 280 (sLR 0 281) := ok_aload_n (by decide +kernel : decode cX12_plain 280 = .ok (.aload_n 0, 1)) rfl
theorem o254_281 : Okp RX12 cX12_plain 5 none "plain" false 281 (sLI 3 282) := ok_iload_n (by decide +kernel : decode cX12_plain 281 = .ok (.iload_n 3, 1)) rfl
theorem o254_282 : Okp RX12 cX12_plain 5 none "plain" false 282 (sCV false 248 2 13 285) := ok_cv (by decide +kernel : decode cX12_plain 282 = .ok (.invokevirtual 359, 3)) mw_X12_359 rfl (by decide) wm_X12_push wse_X12_push (by decide) rfl
theorem o254_285 : Okp RX12 cX12_plain 5 none "plain" false 285 (sGo 391) := ok_goto (by decide +kernel : decode cX12_plain 285 = .ok (.goto 106, 3)) (by decide)
theorem o254_288 : Okp RX12 cX12_plain 5 none "plain" false 288 (sLR 0 289) := ok_aload_n (by decide +kernel : decode cX12_plain 288 = .ok (.aload_n 0, 1)) rfl
theorem o254_289 : Okp RX12 cX12_plain 5 none "plain" false 289 (sCV false 247 1 13 292) := ok_cv (by decide +kernel : decode cX12_plain 289 = .ok (.invokevirtual 339, 3)) mw_X12_339 rfl (by decide) wm_X12_pop wse_X12_pop (by decide) rfl
theorem o254_292 : Okp RX12 cX12_plain 5 none "plain" false 292 (sSI 3 293) := ok_istore_n (by decide +kernel : decode cX12_plain 292 = .ok (.istore_n 3, 1)) rfl (by decide) (by decide)
theorem o254_293 : Okp RX12 cX12_plain 5 none "plain" false 293 (sLR 0 294) := ok_aload_n (by decide +kernel : decode cX12_plain 293 = .ok (.aload_n 0, 1)) rfl
theorem o254_294 : Okp RX12 cX12_plain 5 none "plain" false 294 (sCV false 247 1 13 297) := ok_cv (by decide +kernel : decode cX12_plain 294 = .ok (.invokevirtual 339, 3)) mw_X12_339 rfl (by decide) wm_X12_pop wse_X12_pop (by decide) rfl
theorem o254_297 : Okp RX12 cX12_plain 5 none "plain" false 297 (sSI 4 299) := ok_istore (by decide +kernel : decode cX12_plain 297 = .ok (.istore 4, 2)) (by decide) (by decide)
theorem o254_299 : Okp RX12 cX12_plain 5 none "plain" false 299 (sLR 0 300) := ok_aload_n (by decide +kernel : decode cX12_plain 299 = .ok (.aload_n 0, 1)) rfl
theorem o254_300 : Okp RX12 cX12_plain 5 none "plain" false 300 (sGI 13 36 303) := ok_getI (by decide +kernel : decode cX12_plain 300 = .ok (.getfield 309, 3)) fw_X12_309 rfl
theorem o254_303 : Okp RX12 cX12_plain 5 none "plain" false 303 (sI1 0 391 306) := ok_if_eq (by decide +kernel : decode cX12_plain 303 = .ok (.ifCond .eq 88, 3)) (by decide)
theorem o254_306 : Okp RX12 cX12_plain 5 none "plain" false 306 (sLR 0 307) := ok_aload_n (by decide +kernel : decode cX12_plain 306 = .ok (.aload_n 0, 1)) rfl
theorem o254_307 : Okp RX12 cX12_plain 5 none "plain" false 307 (sLI 3 308) := ok_iload_n (by decide +kernel : decode cX12_plain 307 = .ok (.iload_n 3, 1)) rfl
theorem o254_308 : Okp RX12 cX12_plain 5 none "plain" false 308 (sCV false 248 2 13 311) := ok_cv (by decide +kernel : decode cX12_plain 308 = .ok (.invokevirtual 359, 3)) mw_X12_359 rfl (by decide) wm_X12_push wse_X12_push (by decide) rfl
theorem o254_311 : Okp RX12 cX12_plain 5 none "plain" false 311 (sLR 0 312) := ok_aload_n (by decide +kernel : decode cX12_plain 311 = .ok (.aload_n 0, 1)) rfl
theorem o254_312 : Okp RX12 cX12_plain 5 none "plain" false 312 (sLI 4 314) := ok_iload (by decide +kernel : decode cX12_plain 312 = .ok (.iload 4, 2))
theorem o254_314 : Okp RX12 cX12_plain 5 none "plain" false 314 (sCV false 248 2 13 317) := ok_cv (by decide +kernel : decode cX12_plain 314 = .ok (.invokevirtual 359, 3)) mw_X12_359 rfl (by decide) wm_X12_push wse_X12_push (by decide) rfl
theorem o254_317 : Okp RX12 cX12_plain 5 none "plain" false 317 (sGo 391) := ok_goto (by decide +kernel : decode cX12_plain 317 = .ok (.goto 74, 3)) (by decide)
theorem o254_320 : Okp RX12 cX12_plain 5 none "plain" false 320 (sLR 0 321) := ok_aload_n (by decide +kernel : decode cX12_plain 320 = .ok (.aload_n 0, 1)) rfl
theorem o254_321 : Okp RX12 cX12_plain 5 none "plain" false 321 (sCV false 247 1 13 324) := ok_cv (by decide +kernel : decode cX12_plain 321 = .ok (.invokevirtual 339, 3)) mw_X12_339 rfl (by decide) wm_X12_pop wse_X12_pop (by decide) rfl
theorem o254_324 : Okp RX12 cX12_plain 5 none "plain" false 324 (sSI 3 325) := ok_istore_n (by decide +kernel : decode cX12_plain 324 = .ok (.istore_n 3, 1)) rfl (by decide) (by decide)
theorem o254_325 : Okp RX12 cX12_plain 5 none "plain" false 325 (sLR 0 326) := ok_aload_n (by decide +kernel : decode cX12_plain 325 = .ok (.aload_n 0, 1)) rfl
theorem o254_326 : Okp RX12 cX12_plain 5 none "plain" false 326 (sLR 0 327) := ok_aload_n (by decide +kernel : decode cX12_plain 326 = .ok (.aload_n 0, 1)) rfl
theorem o254_327 : Okp RX12 cX12_plain 5 none "plain" false 327 (sGI 13 36 330) := ok_getI (by decide +kernel : decode cX12_plain 327 = .ok (.getfield 309, 3)) fw_X12_309 rfl
theorem o254_330 : Okp RX12 cX12_plain 5 none "plain" false 330 (sI1 0 350 333) := ok_if_eq (by decide +kernel : decode cX12_plain 330 = .ok (.ifCond .eq 20, 3)) (by decide)
theorem o254_333 : Okp RX12 cX12_plain 5 none "plain" false 333 (sLI 3 334) := ok_iload_n (by decide +kernel : decode cX12_plain 333 = .ok (.iload_n 3, 1)) rfl
theorem o254_334 : Okp RX12 cX12_plain 5 none "plain" false 334 (sK 6 336) := ok_bipush (by decide +kernel : decode cX12_plain 334 = .ok (.bipush 6, 2)) (by decide)
theorem o254_336 : Okp RX12 cX12_plain 5 none "plain" false 336 (sI2 0 346 339) := ok_icmp_eq (by decide +kernel : decode cX12_plain 336 = .ok (.if_icmp .eq 10, 3)) (by decide)
theorem o254_339 : Okp RX12 cX12_plain 5 none "plain" false 339 (sLI 3 340) := ok_iload_n (by decide +kernel : decode cX12_plain 339 = .ok (.iload_n 3, 1)) rfl
theorem o254_340 : Okp RX12 cX12_plain 5 none "plain" false 340 (sCS false 229 1 343) := ok_cs (by decide +kernel : decode cX12_plain 340 = .ok (.invokestatic 336, 3)) mw_X12_336 wt_X12_isHeap (by decide) rfl
theorem o254_343 : Okp RX12 cX12_plain 5 none "plain" false 343 (sI1 0 350 346) := ok_if_eq (by decide +kernel : decode cX12_plain 343 = .ok (.ifCond .eq 7, 3)) (by decide)
theorem o254_346 : Okp RX12 cX12_plain 5 none "plain" false 346 (sK 1 347) := ok_iconst (by decide +kernel : decode cX12_plain 346 = .ok (.iconst 1, 1)) (by decide)
theorem o254_347 : Okp RX12 cX12_plain 5 none "plain" false 347 (sGo 351) := ok_goto (by decide +kernel : decode cX12_plain 347 = .ok (.goto 4, 3)) (by decide)
theorem o254_350 : Okp RX12 cX12_plain 5 none "plain" false 350 (sK 0 351) := ok_iconst (by decide +kernel : decode cX12_plain 350 = .ok (.iconst 0, 1)) (by decide)
theorem o254_351 : Okp RX12 cX12_plain 5 none "plain" false 351 (sCV false 244 2 13 354) := ok_cv (by decide +kernel : decode cX12_plain 351 = .ok (.invokevirtual 325, 3)) mw_X12_325 rfl (by decide) wm_X12_wants wse_X12_wants (by decide) rfl
theorem o254_354 : Okp RX12 cX12_plain 5 none "plain" false 354 (sLR 0 355) := ok_aload_n (by decide +kernel : decode cX12_plain 354 = .ok (.aload_n 0, 1)) rfl
theorem o254_355 : Okp RX12 cX12_plain 5 none "plain" false 355 (sGI 13 36 358) := ok_getI (by decide +kernel : decode cX12_plain 355 = .ok (.getfield 309, 3)) fw_X12_309 rfl
theorem o254_358 : Okp RX12 cX12_plain 5 none "plain" false 358 (sI1 0 391 361) := ok_if_eq (by decide +kernel : decode cX12_plain 358 = .ok (.ifCond .eq 33, 3)) (by decide)
theorem o254_361 : Okp RX12 cX12_plain 5 none "plain" false 361 (sLR 0 362) := ok_aload_n (by decide +kernel : decode cX12_plain 361 = .ok (.aload_n 0, 1)) rfl
theorem o254_362 : Okp RX12 cX12_plain 5 none "plain" false 362 (sK 0 363) := ok_iconst (by decide +kernel : decode cX12_plain 362 = .ok (.iconst 0, 1)) (by decide)
theorem o254_363 : Okp RX12 cX12_plain 5 none "plain" false 363 (sCV false 248 2 13 366) := ok_cv (by decide +kernel : decode cX12_plain 363 = .ok (.invokevirtual 359, 3)) mw_X12_359 rfl (by decide) wm_X12_push wse_X12_push (by decide) rfl
theorem o254_366 : Okp RX12 cX12_plain 5 none "plain" false 366 (sGo 391) := ok_goto (by decide +kernel : decode cX12_plain 366 = .ok (.goto 25, 3)) (by decide)
theorem o254_369 : Okp RX12 cX12_plain 5 none "plain" false 369 (sLR 0 370) := ok_aload_n (by decide +kernel : decode cX12_plain 369 = .ok (.aload_n 0, 1)) rfl
theorem o254_370 : Okp RX12 cX12_plain 5 none "plain" false 370 (sK 0 371) := ok_iconst (by decide +kernel : decode cX12_plain 370 = .ok (.iconst 0, 1)) (by decide)
theorem o254_371 : Okp RX12 cX12_plain 5 none "plain" false 371 (sCV false 249 2 13 374) := ok_cv (by decide +kernel : decode cX12_plain 371 = .ok (.invokevirtual 362, 3)) mw_X12_362 rfl (by decide) wm_X12_popFor wse_X12_popFor (by decide) rfl
theorem o254_374 : Okp RX12 cX12_plain 5 none "plain" false 374 (sLR 0 375) := ok_aload_n (by decide +kernel : decode cX12_plain 374 = .ok (.aload_n 0, 1)) rfl
theorem o254_375 : Okp RX12 cX12_plain 5 none "plain" false 375 (sK 0 376) := ok_iconst (by decide +kernel : decode cX12_plain 375 = .ok (.iconst 0, 1)) (by decide)
theorem o254_376 : Okp RX12 cX12_plain 5 none "plain" false 376 (sCV false 249 2 13 379) := ok_cv (by decide +kernel : decode cX12_plain 376 = .ok (.invokevirtual 362, 3)) mw_X12_362 rfl (by decide) wm_X12_popFor wse_X12_popFor (by decide) rfl
theorem o254_379 : Okp RX12 cX12_plain 5 none "plain" false 379 (sLR 0 380) := ok_aload_n (by decide +kernel : decode cX12_plain 379 = .ok (.aload_n 0, 1)) rfl
theorem o254_380 : Okp RX12 cX12_plain 5 none "plain" false 380 (sGI 13 36 383) := ok_getI (by decide +kernel : decode cX12_plain 380 = .ok (.getfield 309, 3)) fw_X12_309 rfl
theorem o254_383 : Okp RX12 cX12_plain 5 none "plain" false 383 (sI1 0 391 386) := ok_if_eq (by decide +kernel : decode cX12_plain 383 = .ok (.ifCond .eq 8, 3)) (by decide)
theorem o254_386 : Okp RX12 cX12_plain 5 none "plain" false 386 (sLR 0 387) := ok_aload_n (by decide +kernel : decode cX12_plain 386 = .ok (.aload_n 0, 1)) rfl
theorem o254_387 : Okp RX12 cX12_plain 5 none "plain" false 387 (sK 0 388) := ok_iconst (by decide +kernel : decode cX12_plain 387 = .ok (.iconst 0, 1)) (by decide)
theorem o254_388 : Okp RX12 cX12_plain 5 none "plain" false 388 (sCV false 248 2 13 391) := ok_cv (by decide +kernel : decode cX12_plain 388 = .ok (.invokevirtual 359, 3)) mw_X12_359 rfl (by decide) wm_X12_push wse_X12_push (by decide) rfl
theorem o254_391 : Okp RX12 cX12_plain 5 none "plain" false 391 sRV := ok_vret rfl (by decide +kernel : decode cX12_plain 391 = .ok (.return_, 1))
theorem oc254_0 : ∀ pc, Mnp (c254_0 pc) ∧ Okp RX12 cX12_plain 5 none "plain" false pc (c254_0 pc) := by
  intro pc
  unfold c254_0
  split
  · exact ⟨mn_sLI, o254_0⟩
  · exact ⟨mn_sSw, o254_1⟩
  · exact ⟨mn_sX, ok_X⟩
theorem oc254_4 : ∀ pc, Mnp (c254_4 pc) ∧ Okp RX12 cX12_plain 5 none "plain" false pc (c254_4 pc) := by
  intro pc
  unfold c254_4
  split
  · exact ⟨mn_sLR, o254_96⟩
  · exact ⟨mn_sK, o254_97⟩
  · exact ⟨mn_sCV, o254_98⟩
  · exact ⟨mn_sGo, o254_101⟩
  · exact ⟨mn_sLR, o254_104⟩
  · exact ⟨mn_sK, o254_105⟩
  · exact ⟨mn_sCV, o254_107⟩
  · exact ⟨mn_sGo, o254_110⟩
  · exact ⟨mn_sLR, o254_113⟩
  · exact ⟨mn_sLR, o254_114⟩
  · exact ⟨mn_sGR, o254_115⟩
  · exact ⟨mn_sLI, o254_118⟩
  · exact ⟨mn_sIA, o254_119⟩
  · exact ⟨mn_sX, ok_X⟩
theorem oc254_5 : ∀ pc, Mnp (c254_5 pc) ∧ Okp RX12 cX12_plain 5 none "plain" false pc (c254_5 pc) := by
  intro pc
  unfold c254_5
  split
  · exact ⟨mn_sK, o254_120⟩
  · exact ⟨mn_sI2, o254_122⟩
  · exact ⟨mn_sK, o254_125⟩
  · exact ⟨mn_sGo, o254_126⟩
  · exact ⟨mn_sK, o254_129⟩
  · exact ⟨mn_sCV, o254_130⟩
  · exact ⟨mn_sLR, o254_133⟩
  · exact ⟨mn_sLR, o254_134⟩
  · exact ⟨mn_sGR, o254_135⟩
  · exact ⟨mn_sLI, o254_138⟩
  · exact ⟨mn_sIA, o254_139⟩
  · exact ⟨mn_sCV, o254_140⟩
  · exact ⟨mn_sLR, o254_143⟩
  · exact ⟨mn_sX, ok_X⟩
theorem oc254_6 : ∀ pc, Mnp (c254_6 pc) ∧ Okp RX12 cX12_plain 5 none "plain" false pc (c254_6 pc) := by
  intro pc
  unfold c254_6
  split
  · exact ⟨mn_sGR, o254_144⟩
  · exact ⟨mn_sLI, o254_147⟩
  · exact ⟨mn_sIA, o254_148⟩
  · exact ⟨mn_sCS, o254_149⟩
  · exact ⟨mn_sI1, o254_152⟩
  · exact ⟨mn_sLR, o254_155⟩
  · exact ⟨mn_sGR, o254_156⟩
  · exact ⟨mn_sLI, o254_159⟩
  · exact ⟨mn_sK, o254_160⟩
  · exact ⟨mn_sIS, o254_162⟩
  · exact ⟨mn_sGo, o254_163⟩
  · exact ⟨mn_sLR, o254_166⟩
  · exact ⟨mn_sLR, o254_167⟩
  · exact ⟨mn_sX, ok_X⟩
theorem oc254_7 : ∀ pc, Mnp (c254_7 pc) ∧ Okp RX12 cX12_plain 5 none "plain" false pc (c254_7 pc) := by
  intro pc
  unfold c254_7
  split
  · exact ⟨mn_sGR, o254_168⟩
  · exact ⟨mn_sLI, o254_171⟩
  · exact ⟨mn_sIA, o254_172⟩
  · exact ⟨mn_sCS, o254_173⟩
  · exact ⟨mn_sI1, o254_176⟩
  · exact ⟨mn_sK, o254_179⟩
  · exact ⟨mn_sGo, o254_180⟩
  · exact ⟨mn_sK, o254_183⟩
  · exact ⟨mn_sCV, o254_184⟩
  · exact ⟨mn_sLR, o254_187⟩
  · exact ⟨mn_sCV, o254_188⟩
  · exact ⟨mn_sSI, o254_191⟩
  · exact ⟨mn_sX, ok_X⟩
theorem oc254_8 : ∀ pc, Mnp (c254_8 pc) ∧ Okp RX12 cX12_plain 5 none "plain" false pc (c254_8 pc) := by
  intro pc
  unfold c254_8
  split
  · exact ⟨mn_sLR, o254_192⟩
  · exact ⟨mn_sGI, o254_193⟩
  · exact ⟨mn_sI1, o254_196⟩
  · exact ⟨mn_sLR, o254_199⟩
  · exact ⟨mn_sGR, o254_200⟩
  · exact ⟨mn_sLI, o254_203⟩
  · exact ⟨mn_sLI, o254_204⟩
  · exact ⟨mn_sIS, o254_205⟩
  · exact ⟨mn_sGo, o254_206⟩
  · exact ⟨mn_sLR, o254_209⟩
  · exact ⟨mn_sCV, o254_210⟩
  · exact ⟨mn_sSI, o254_213⟩
  · exact ⟨mn_sLR, o254_214⟩
  · exact ⟨mn_sLR, o254_215⟩
  · exact ⟨mn_sX, ok_X⟩
theorem oc254_9 : ∀ pc, Mnp (c254_9 pc) ∧ Okp RX12 cX12_plain 5 none "plain" false pc (c254_9 pc) := by
  intro pc
  unfold c254_9
  split
  · exact ⟨mn_sGI, o254_216⟩
  · exact ⟨mn_sI1, o254_219⟩
  · exact ⟨mn_sLI, o254_222⟩
  · exact ⟨mn_sCS, o254_223⟩
  · exact ⟨mn_sI1, o254_226⟩
  · exact ⟨mn_sK, o254_229⟩
  · exact ⟨mn_sGo, o254_230⟩
  · exact ⟨mn_sK, o254_233⟩
  · exact ⟨mn_sCV, o254_234⟩
  · exact ⟨mn_sGo, o254_237⟩
  · exact ⟨mn_sX, ok_X⟩
theorem oc254_10 : ∀ pc, Mnp (c254_10 pc) ∧ Okp RX12 cX12_plain 5 none "plain" false pc (c254_10 pc) := by
  intro pc
  unfold c254_10
  split
  · exact ⟨mn_sLR, o254_240⟩
  · exact ⟨mn_sCV, o254_241⟩
  · exact ⟨mn_sSI, o254_244⟩
  · exact ⟨mn_sLR, o254_245⟩
  · exact ⟨mn_sLR, o254_246⟩
  · exact ⟨mn_sGI, o254_247⟩
  · exact ⟨mn_sI1, o254_250⟩
  · exact ⟨mn_sLI, o254_253⟩
  · exact ⟨mn_sCS, o254_254⟩
  · exact ⟨mn_sI1, o254_257⟩
  · exact ⟨mn_sK, o254_260⟩
  · exact ⟨mn_sGo, o254_261⟩
  · exact ⟨mn_sX, ok_X⟩
theorem oc254_11 : ∀ pc, Mnp (c254_11 pc) ∧ Okp RX12 cX12_plain 5 none "plain" false pc (c254_11 pc) := by
  intro pc
  unfold c254_11
  split
  · exact ⟨mn_sK, o254_264⟩
  · exact ⟨mn_sCV, o254_265⟩
  · exact ⟨mn_sLR, o254_268⟩
  · exact ⟨mn_sGI, o254_269⟩
  · exact ⟨mn_sI1, o254_272⟩
  · exact ⟨mn_sLR, o254_275⟩
  · exact ⟨mn_sLI, o254_276⟩
  · exact ⟨mn_sCV, o254_277⟩
  · exact ⟨mn_sLR, o254_280⟩
  · exact ⟨mn_sLI, o254_281⟩
  · exact ⟨mn_sCV, o254_282⟩
  · exact ⟨mn_sGo, o254_285⟩
  · exact ⟨mn_sX, ok_X⟩
theorem oc254_12 : ∀ pc, Mnp (c254_12 pc) ∧ Okp RX12 cX12_plain 5 none "plain" false pc (c254_12 pc) := by
  intro pc
  unfold c254_12
  split
  · exact ⟨mn_sLR, o254_288⟩
  · exact ⟨mn_sCV, o254_289⟩
  · exact ⟨mn_sSI, o254_292⟩
  · exact ⟨mn_sLR, o254_293⟩
  · exact ⟨mn_sCV, o254_294⟩
  · exact ⟨mn_sSI, o254_297⟩
  · exact ⟨mn_sLR, o254_299⟩
  · exact ⟨mn_sGI, o254_300⟩
  · exact ⟨mn_sI1, o254_303⟩
  · exact ⟨mn_sLR, o254_306⟩
  · exact ⟨mn_sLI, o254_307⟩
  · exact ⟨mn_sCV, o254_308⟩
  · exact ⟨mn_sLR, o254_311⟩
  · exact ⟨mn_sX, ok_X⟩
theorem oc254_13 : ∀ pc, Mnp (c254_13 pc) ∧ Okp RX12 cX12_plain 5 none "plain" false pc (c254_13 pc) := by
  intro pc
  unfold c254_13
  split
  · exact ⟨mn_sLI, o254_312⟩
  · exact ⟨mn_sCV, o254_314⟩
  · exact ⟨mn_sGo, o254_317⟩
  · exact ⟨mn_sLR, o254_320⟩
  · exact ⟨mn_sCV, o254_321⟩
  · exact ⟨mn_sSI, o254_324⟩
  · exact ⟨mn_sLR, o254_325⟩
  · exact ⟨mn_sLR, o254_326⟩
  · exact ⟨mn_sGI, o254_327⟩
  · exact ⟨mn_sI1, o254_330⟩
  · exact ⟨mn_sLI, o254_333⟩
  · exact ⟨mn_sK, o254_334⟩
  · exact ⟨mn_sX, ok_X⟩
theorem oc254_14 : ∀ pc, Mnp (c254_14 pc) ∧ Okp RX12 cX12_plain 5 none "plain" false pc (c254_14 pc) := by
  intro pc
  unfold c254_14
  split
  · exact ⟨mn_sI2, o254_336⟩
  · exact ⟨mn_sLI, o254_339⟩
  · exact ⟨mn_sCS, o254_340⟩
  · exact ⟨mn_sI1, o254_343⟩
  · exact ⟨mn_sK, o254_346⟩
  · exact ⟨mn_sGo, o254_347⟩
  · exact ⟨mn_sK, o254_350⟩
  · exact ⟨mn_sCV, o254_351⟩
  · exact ⟨mn_sLR, o254_354⟩
  · exact ⟨mn_sGI, o254_355⟩
  · exact ⟨mn_sI1, o254_358⟩
  · exact ⟨mn_sX, ok_X⟩
theorem oc254_15 : ∀ pc, Mnp (c254_15 pc) ∧ Okp RX12 cX12_plain 5 none "plain" false pc (c254_15 pc) := by
  intro pc
  unfold c254_15
  split
  · exact ⟨mn_sLR, o254_361⟩
  · exact ⟨mn_sK, o254_362⟩
  · exact ⟨mn_sCV, o254_363⟩
  · exact ⟨mn_sGo, o254_366⟩
  · exact ⟨mn_sLR, o254_369⟩
  · exact ⟨mn_sK, o254_370⟩
  · exact ⟨mn_sCV, o254_371⟩
  · exact ⟨mn_sLR, o254_374⟩
  · exact ⟨mn_sK, o254_375⟩
  · exact ⟨mn_sCV, o254_376⟩
  · exact ⟨mn_sLR, o254_379⟩
  · exact ⟨mn_sGI, o254_380⟩
  · exact ⟨mn_sI1, o254_383⟩
  · exact ⟨mn_sX, ok_X⟩
theorem oc254_16 : ∀ pc, Mnp (c254_16 pc) ∧ Okp RX12 cX12_plain 5 none "plain" false pc (c254_16 pc) := by
  intro pc
  unfold c254_16
  split
  · exact ⟨mn_sLR, o254_386⟩
  · exact ⟨mn_sK, o254_387⟩
  · exact ⟨mn_sCV, o254_388⟩
  · exact ⟨mn_sRV, o254_391⟩
  · exact ⟨mn_sX, ok_X⟩
theorem oc254 : ∀ pc, Mnp (c254 pc) ∧ Okp RX12 cX12_plain 5 none "plain" false pc (c254 pc) := by
  intro pc
  unfold c254
  split
  · exact oc254_0 pc
  · exact oc254_4 pc
  · exact oc254_5 pc
  · exact oc254_6 pc
  · exact oc254_7 pc
  · exact oc254_8 pc
  · exact oc254_9 pc
  · exact oc254_10 pc
  · exact oc254_11 pc
  · exact oc254_12 pc
  · exact oc254_13 pc
  · exact oc254_14 pc
  · exact oc254_15 pc
  · exact oc254_16 pc
  · exact ⟨mn_sX, ok_X⟩
theorem o255_0 : Okp RX12 cX12_heaps 9 none "heaps" false 0 (sLI 3 1) := ok_iload_n (by decide +kernel : decode cX12_heaps 0 = .ok (.iload_n 3, 1)) rfl
theorem o255_1 : Okp RX12 cX12_heaps 9 none "heaps" false 1 (sSw [(20, 60), (21, 63), (22, 71), (23, 85), (24, 172), (25, 267), (26, 267), (27, 303), (28, 331), (29, 386), (30, 449)] 502) := ok_tsw (by decide +kernel : decode cX12_heaps 1 = .ok (.tableswitch 501 20 30 #[59, 62, 70, 84, 171, 266, 266, 302, 330, 385, 448], 59)) (by decide) (by decide) (by decide)
theorem o255_60 : Okp RX12 cX12_heaps 9 none "heaps" false 60 (sGo 583) := ok_goto (by decide +kernel : decode cX12_heaps 60 = .ok (.goto 523, 3)) (by decide)
theorem o255_63 : Okp RX12 cX12_heaps 9 none "heaps" false 63 (sLR 0 64) := ok_aload_n (by decide +kernel : decode cX12_heaps 63 = .ok (.aload_n 0, 1)) rfl
theorem o255_64 : Okp RX12 cX12_heaps 9 none "heaps" false 64 (sK 0 65) := ok_iconst (by decide +kernel : decode cX12_heaps 64 = .ok (.iconst 0, 1)) (by decide)
theorem o255_65 : Okp RX12 cX12_heaps 9 none "heaps" false 65 (sCV false 249 2 13 68) := ok_cv (by decide +kernel : decode cX12_heaps 65 = .ok (.invokevirtual 362, 3)) mw_X12_362 rfl (by decide) wm_X12_popFor wse_X12_popFor (by decide) rfl
theorem o255_68 : Okp RX12 cX12_heaps 9 none "heaps" false 68 (sGo 583) := ok_goto (by decide +kernel : decode cX12_heaps 68 = .ok (.goto 515, 3)) (by decide)
theorem o255_71 : Okp RX12 cX12_heaps 9 none "heaps" false 71 (sLR 0 72) := ok_aload_n (by decide +kernel : decode cX12_heaps 71 = .ok (.aload_n 0, 1)) rfl
theorem o255_72 : Okp RX12 cX12_heaps 9 none "heaps" false 72 (sK 1 73) := ok_iconst (by decide +kernel : decode cX12_heaps 72 = .ok (.iconst 1, 1)) (by decide)
theorem o255_73 : Okp RX12 cX12_heaps 9 none "heaps" false 73 (sK 8 75) := ok_bipush (by decide +kernel : decode cX12_heaps 73 = .ok (.bipush 8, 2)) (by decide)
theorem o255_75 : Okp RX12 cX12_heaps 9 none "heaps" false 75 (sLI 4 77) := ok_iload (by decide +kernel : decode cX12_heaps 75 = .ok (.iload 4, 2))
theorem o255_77 : Okp RX12 cX12_heaps 9 none "heaps" false 77 (sB2 fMul 78) := ok_imul (by decide +kernel : decode cX12_heaps 77 = .ok (.imul, 1))
theorem o255_78 : Okp RX12 cX12_heaps 9 none "heaps" false 78 (sB2 fAdd 79) := ok_iadd (by decide +kernel : decode cX12_heaps 78 = .ok (.iadd, 1))
theorem o255_79 : Okp RX12 cX12_heaps 9 none "heaps" false 79 (sCV false 248 2 13 82) := ok_cv (by decide +kernel : decode cX12_heaps 79 = .ok (.invokevirtual 359, 3)) mw_X12_359 rfl (by decide) wm_X12_push wse_X12_push (by decide) rfl
theorem o255_82 : Okp RX12 cX12_heaps 9 none "heaps" false 82 (sGo 583) := ok_goto (by decide +kernel : decode cX12_heaps 82 = .ok (.goto 501, 3)) (by decide)
theorem o255_85 : Okp RX12 cX12_heaps 9 none "heaps" false 85 (sLR 0 86) := ok_aload_n (by decide +kernel : decode cX12_heaps 85 = .ok (.aload_n 0, 1)) rfl
theorem o255_86 : Okp RX12 cX12_heaps 9 none "heaps" false 86 (sCV false 251 1 13 89) := ok_cv (by decide +kernel : decode cX12_heaps 86 = .ok (.invokevirtual 365, 3)) mw_X12_365 rfl (by decide) wm_X12_popNode wse_X12_popNode (by decide) rfl
theorem o255_89 : Okp RX12 cX12_heaps 9 none "heaps" false 89 (sSI 5 91) := ok_istore (by decide +kernel : decode cX12_heaps 89 = .ok (.istore 5, 2)) (by decide) (by decide)
theorem o255_91 : Okp RX12 cX12_heaps 9 none "heaps" false 91 (sLR 0 92) := ok_aload_n (by decide +kernel : decode cX12_heaps 91 = .ok (.aload_n 0, 1)) rfl
theorem o255_92 : Okp RX12 cX12_heaps 9 none "heaps" false 92 (sGI 13 38 95) := ok_getI (by decide +kernel : decode cX12_heaps 92 = .ok (.getfield 343, 3)) fw_X12_343 rfl
theorem o255_95 : Okp RX12 cX12_heaps 9 none "heaps" false 95 (sI1 0 101 98) := ok_if_eq (by decide +kernel : decode cX12_heaps 95 = .ok (.ifCond .eq 6, 3)) (by decide)
theorem o255_98 : Okp RX12 cX12_heaps 9 none "heaps" false 98 (sGo 583) := ok_goto (by decide +kernel : decode cX12_heaps 98 = .ok (.goto 485, 3)) (by decide)
theorem o255_101 : Okp RX12 cX12_heaps 9 none "heaps" false 101 (sLR 0 102) := ok_aload_n (by decide +kernel : decode cX12_heaps 101 = .ok (.aload_n 0, 1)) rfl
theorem o255_102 : Okp RX12 cX12_heaps 9 none "heaps" false 102 (sLR 0 103) := ok_aload_n (by decide +kernel : decode cX12_heaps 102 = .ok (.aload_n 0, 1)) rfl
theorem o255_103 : Okp RX12 cX12_heaps 9 none "heaps" false 103 (sGI 13 36 106) := ok_getI (by decide +kernel : decode cX12_heaps 103 = .ok (.getfield 309, 3)) fw_X12_309 rfl
theorem o255_106 : Okp RX12 cX12_heaps 9 none "heaps" false 106 (sI1 0 133 109) := ok_if_eq (by decide +kernel : decode cX12_heaps 106 = .ok (.ifCond .eq 27, 3)) (by decide)
theorem o255_109 : Okp RX12 cX12_heaps 9 none "heaps" false 109 (sLI 4 111) := ok_iload (by decide +kernel : decode cX12_heaps 109 = .ok (.iload 4, 2))
theorem o255_111 : Okp RX12 cX12_heaps 9 none "heaps" false 111 (sLR 0 112) := ok_aload_n (by decide +kernel : decode cX12_heaps 111 = .ok (.aload_n 0, 1)) rfl
theorem o255_112 : Okp RX12 cX12_heaps 9 none "heaps" false 112 (sGR 13 9 115) := ok_getR (by decide +kernel : decode cX12_heaps 112 = .ok (.getfield 33, 3)) fw_X12_33 rfl
theorem o255_115 : Okp RX12 cX12_heaps 9 none "heaps" false 115 (sK 8 117) := ok_bipush (by decide +kernel : decode cX12_heaps 115 = .ok (.bipush 8, 2)) (by decide)
theorem o255_117 : Okp RX12 cX12_heaps 9 none "heaps" false 117 (sLI 1 118) := ok_iload_n (by decide +kernel : decode cX12_heaps 117 = .ok (.iload_n 1, 1)) rfl
theorem o255_118 : Okp RX12 cX12_heaps 9 none "heaps" false 118 (sB2 fMul 119) := ok_imul (by decide +kernel : decode cX12_heaps 118 = .ok (.imul, 1))
theorem o255_119 : Okp RX12 cX12_heaps 9 none "heaps" false 119 (sLI 5 121) := ok_iload (by decide +kernel : decode cX12_heaps 119 = .ok (.iload 5, 2))
theorem o255_121 : Okp RX12 cX12_heaps 9 none "heaps" false 121 (sCS false 225 1 124) := ok_cs (by decide +kernel : decode cX12_heaps 121 = .ok (.invokestatic 368, 3)) mw_X12_368 wt_X12_which (by decide) rfl
theorem o255_124 : Okp RX12 cX12_heaps 9 none "heaps" false 124 (sB2 fAdd 125) := ok_iadd (by decide +kernel : decode cX12_heaps 124 = .ok (.iadd, 1))
theorem o255_125 : Okp RX12 cX12_heaps 9 none "heaps" false 125 (sIA 126) := ok_iaload (by decide +kernel : decode cX12_heaps 125 = .ok (.iaload, 1))
theorem o255_126 : Okp RX12 cX12_heaps 9 none "heaps" false 126 (sI2 3 133 129) := ok_icmp_ge (by decide +kernel : decode cX12_heaps 126 = .ok (.if_icmp .ge 7, 3)) (by decide)
theorem o255_129 : Okp RX12 cX12_heaps 9 none "heaps" false 129 (sK 1 130) := ok_iconst (by decide +kernel : decode cX12_heaps 129 = .ok (.iconst 1, 1)) (by decide)
theorem o255_130 : Okp RX12 cX12_heaps 9 none "heaps" false 130 (sGo 134) := ok_goto (by decide +kernel : decode cX12_heaps 130 = .ok (.goto 4, 3)) (by decide)
theorem o255_133 : Okp RX12 cX12_heaps 9 none "heaps" false 133 (sK 0 134) := ok_iconst (by decide +kernel : decode cX12_heaps 133 = .ok (.iconst 0, 1)) (by decide)
theorem o255_134 : Okp RX12 cX12_heaps 9 none "heaps" false 134 (sCV false 244 2 13 137) := ok_cv (by decide +kernel : decode cX12_heaps 134 = .ok (.invokevirtual 325, 3)) mw_X12_325 rfl (by decide) wm_X12_wants wse_X12_wants (by decide) rfl
theorem o255_137 : Okp RX12 cX12_heaps 9 none "heaps" false 137 (sLR 0 138) := ok_aload_n (by decide +kernel : decode cX12_heaps 137 = .ok (.aload_n 0, 1)) rfl
theorem o255_138 : Okp RX12 cX12_heaps 9 none "heaps" false 138 (sGI 13 36 141) := ok_getI (by decide +kernel : decode cX12_heaps 138 = .ok (.getfield 309, 3)) fw_X12_309 rfl
theorem o255_141 : Okp RX12 cX12_heaps 9 none "heaps" false 141 (sI1 0 583 144) := ok_if_eq (by decide +kernel : decode cX12_heaps 141 = .ok (.ifCond .eq 442, 3)) (by decide)
theorem o255_144 : Okp RX12 cX12_heaps 9 none "heaps" false 144 (sLR 0 145) := ok_aload_n (by decide +kernel : decode cX12_heaps 144 = .ok (.aload_n 0, 1)) rfl
theorem o255_145 : Okp RX12 cX12_heaps 9 none "heaps" false 145 (sLR 0 146) := ok_aload_n (by decide +kernel : decode cX12_heaps 145 = .ok (.aload_n 0, 1)) rfl
theorem o255_146 : Okp RX12 cX12_heaps 9 none "heaps" false 146 (sGR 13 10 149) := ok_getR (by decide +kernel : decode cX12_heaps 146 = .ok (.getfield 36, 3)) fw_X12_36 rfl
theorem o255_149 : Okp RX12 cX12_heaps 9 none "heaps" false 149 (sK 48 151) := ok_bipush (by decide +kernel : decode cX12_heaps 149 = .ok (.bipush 48, 2)) (by decide)
theorem o255_151 : Okp RX12 cX12_heaps 9 none "heaps" false 151 (sLI 1 152) := ok_iload_n (by decide +kernel : decode cX12_heaps 151 = .ok (.iload_n 1, 1)) rfl
theorem o255_152 : Okp RX12 cX12_heaps 9 none "heaps" false 152 (sB2 fMul 153) := ok_imul (by decide +kernel : decode cX12_heaps 152 = .ok (.imul, 1))
theorem o255_153 : Okp RX12 cX12_heaps 9 none "heaps" false 153 (sK 6 155) := ok_bipush (by decide +kernel : decode cX12_heaps 153 = .ok (.bipush 6, 2)) (by decide)
theorem o255_155 : Okp RX12 cX12_heaps 9 none "heaps" false 155 (sLI 5 157) := ok_iload (by decide +kernel : decode cX12_heaps 155 = .ok (.iload 5, 2))
theorem o255_157 : Okp RX12 cX12_heaps 9 none "heaps" false 157 (sCS false 225 1 160) := ok_cs (by decide +kernel : decode cX12_heaps 157 = .ok (.invokestatic 368, 3)) mw_X12_368 wt_X12_which (by decide) rfl
theorem o255_160 : Okp RX12 cX12_heaps 9 none "heaps" false 160 (sB2 fMul 161) := ok_imul (by decide +kernel : decode cX12_heaps 160 = .ok (.imul, 1))
theorem o255_161 : Okp RX12 cX12_heaps 9 none "heaps" false 161 (sB2 fAdd 162) := ok_iadd (by decide +kernel : decode cX12_heaps 161 = .ok (.iadd, 1))
theorem o255_162 : Okp RX12 cX12_heaps 9 none "heaps" false 162 (sLI 4 164) := ok_iload (by decide +kernel : decode cX12_heaps 162 = .ok (.iload 4, 2))
theorem o255_164 : Okp RX12 cX12_heaps 9 none "heaps" false 164 (sB2 fAdd 165) := ok_iadd (by decide +kernel : decode cX12_heaps 164 = .ok (.iadd, 1))
theorem o255_165 : Okp RX12 cX12_heaps 9 none "heaps" false 165 (sIA 166) := ok_iaload (by decide +kernel : decode cX12_heaps 165 = .ok (.iaload, 1))
theorem o255_166 : Okp RX12 cX12_heaps 9 none "heaps" false 166 (sCV false 248 2 13 169) := ok_cv (by decide +kernel : decode cX12_heaps 166 = .ok (.invokevirtual 359, 3)) mw_X12_359 rfl (by decide) wm_X12_push wse_X12_push (by decide) rfl
theorem o255_169 : Okp RX12 cX12_heaps 9 none "heaps" false 169 (sGo 583) := ok_goto (by decide +kernel : decode cX12_heaps 169 = .ok (.goto 414, 3)) (by decide)
theorem o255_172 : Okp RX12 cX12_heaps 9 none "heaps" false 172 (sLR 0 173) := ok_aload_n (by decide +kernel : decode cX12_heaps 172 = .ok (.aload_n 0, 1)) rfl
theorem o255_173 : Okp RX12 cX12_heaps 9 none "heaps" false 173 (sCV false 247 1 13 176) := ok_cv (by decide +kernel : decode cX12_heaps 173 = .ok (.invokevirtual 339, 3)) mw_X12_339 rfl (by decide) wm_X12_pop wse_X12_pop (by decide) rfl
theorem o255_176 : Okp RX12 cX12_heaps 9 none "heaps" false 176 (sSI 6 178) := ok_istore (by decide +kernel : decode cX12_heaps 176 = .ok (.istore 6, 2)) (by decide) (by decide)
theorem o255_178 : Okp RX12 cX12_heaps 9 none "heaps" false 178 (sLR 0 179) := ok_aload_n (by decide +kernel : decode cX12_heaps 178 = .ok (.aload_n 0, 1)) rfl
theorem o255_179 : Okp RX12 cX12_heaps 9 none "heaps" false 179 (sCV false 251 1 13 182) := ok_cv (by decide +kernel : decode cX12_heaps 179 = .ok (.invokevirtual 365, 3)) mw_X12_365 rfl (by decide) wm_X12_popNode wse_X12_popNode (by decide) rfl
theorem o255_182 : Okp RX12 cX12_heaps 9 none "heaps" false 182 (sSI 5 184) := ok_istore (by decide +kernel : decode cX12_heaps 182 = .ok (.istore 5, 2)) (by decide) (by decide)
theorem o255_184 : Okp RX12 cX12_heaps 9 none "heaps" false 184 (sLR 0 185) := ok_aload_n (by decide +kernel : decode cX12_heaps 184 = .ok (.aload_n 0, 1)) rfl
theorem o255_185 : Okp RX12 cX12_heaps 9 none "heaps" false 185 (sGI 13 38 188) := ok_getI (by decide +kernel : decode cX12_heaps 185 = .ok (.getfield 343, 3)) fw_X12_343 rfl
theorem o255_188 : Okp RX12 cX12_heaps 9 none "heaps" false 188 (sI1 0 194 191) := ok_if_eq (by decide +kernel : decode cX12_heaps 188 = .ok (.ifCond .eq 6, 3)) (by decide)
theorem o255_191 : Okp RX12 cX12_heaps 9 none "heaps" false 191 (sGo 583) := ok_goto (by decide +kernel : decode cX12_heaps 191 = .ok (.goto 392, 3)) (by decide)
theorem o255_194 : Okp RX12 cX12_heaps 9 none "heaps" false 194 (sLR 0 195) := ok_aload_n (by decide +kernel : decode cX12_heaps 194 = .ok (.aload_n 0, 1)) rfl
theorem o255_195 : Okp RX12 cX12_heaps 9 none "heaps" false 195 (sLR 0 196) := ok_aload_n (by decide +kernel : decode cX12_heaps 195 = .ok (.aload_n 0, 1)) rfl
theorem o255_196 : Okp RX12 cX12_heaps 9 none "heaps" false 196 (sGI 13 36 199) := ok_getI (by decide +kernel : decode cX12_heaps 196 = .ok (.getfield 309, 3)) fw_X12_309 rfl
theorem o255_199 : Okp RX12 cX12_heaps 9 none "heaps" false 199 (sI1 0 226 202) := ok_if_eq (by decide +kernel : decode cX12_heaps 199 = .ok (.ifCond .eq 27, 3)) (by decide)
theorem o255_202 : Okp RX12 cX12_heaps 9 none "heaps" false 202 (sLI 4 204) := ok_iload (by decide +kernel : decode cX12_heaps 202 = .ok (.iload 4, 2))
theorem o255_204 : Okp RX12 cX12_heaps 9 none "heaps" false 204 (sLR 0 205) := ok_aload_n (by decide +kernel : decode cX12_heaps 204 = .ok (.aload_n 0, 1)) rfl
theorem o255_205 : Okp RX12 cX12_heaps 9 none "heaps" false 205 (sGR 13 9 208) := ok_getR (by decide +kernel : decode cX12_heaps 205 = .ok (.getfield 33, 3)) fw_X12_33 rfl
theorem o255_208 : Okp RX12 cX12_heaps 9 none "heaps" false 208 (sK 8 210) := ok_bipush (by decide +kernel : decode cX12_heaps 208 = .ok (.bipush 8, 2)) (by decide)
theorem o255_210 : Okp RX12 cX12_heaps 9 none "heaps" false 210 (sLI 1 211) := ok_iload_n (by decide +kernel : decode cX12_heaps 210 = .ok (.iload_n 1, 1)) rfl
theorem o255_211 : Okp RX12 cX12_heaps 9 none "heaps" false 211 (sB2 fMul 212) := ok_imul (by decide +kernel : decode cX12_heaps 211 = .ok (.imul, 1))
theorem o255_212 : Okp RX12 cX12_heaps 9 none "heaps" false 212 (sLI 5 214) := ok_iload (by decide +kernel : decode cX12_heaps 212 = .ok (.iload 5, 2))
theorem o255_214 : Okp RX12 cX12_heaps 9 none "heaps" false 214 (sCS false 225 1 217) := ok_cs (by decide +kernel : decode cX12_heaps 214 = .ok (.invokestatic 368, 3)) mw_X12_368 wt_X12_which (by decide) rfl
theorem o255_217 : Okp RX12 cX12_heaps 9 none "heaps" false 217 (sB2 fAdd 218) := ok_iadd (by decide +kernel : decode cX12_heaps 217 = .ok (.iadd, 1))
theorem o255_218 : Okp RX12 cX12_heaps 9 none "heaps" false 218 (sIA 219) := ok_iaload (by decide +kernel : decode cX12_heaps 218 = .ok (.iaload, 1))
theorem o255_219 : Okp RX12 cX12_heaps 9 none "heaps" false 219 (sI2 3 226 222) := ok_icmp_ge (by decide +kernel : decode cX12_heaps 219 = .ok (.if_icmp .ge 7, 3)) (by decide)
theorem o255_222 : Okp RX12 cX12_heaps 9 none "heaps" false 222 (sK 1 223) := ok_iconst (by decide +kernel : decode cX12_heaps 222 = .ok (.iconst 1, 1)) (by decide)
theorem o255_223 : Okp RX12 cX12_heaps 9 none "heaps" false 223 (sGo 227) := ok_goto (by decide +kernel : decode cX12_heaps 223 = .ok (.goto 4, 3)) (by decide)
theorem o255_226 : Okp RX12 cX12_heaps 9 none "heaps" false 226 (sK 0 227) := ok_iconst (by decide +kernel : decode cX12_heaps 226 = .ok (.iconst 0, 1)) (by decide)
theorem o255_227 : Okp RX12 cX12_heaps 9 none "heaps" false 227 (sCV false 244 2 13 230) := ok_cv (by decide +kernel : decode cX12_heaps 227 = .ok (.invokevirtual 325, 3)) mw_X12_325 rfl (by decide) wm_X12_wants wse_X12_wants (by decide) rfl
theorem o255_230 : Okp RX12 cX12_heaps 9 none "heaps" false 230 (sLR 0 231) := ok_aload_n (by decide +kernel : decode cX12_heaps 230 = .ok (.aload_n 0, 1)) rfl
theorem o255_231 : Okp RX12 cX12_heaps 9 none "heaps" false 231 (sGI 13 36 234) := ok_getI (by decide +kernel : decode cX12_heaps 231 = .ok (.getfield 309, 3)) fw_X12_309 rfl
theorem o255_234 : Okp RX12 cX12_heaps 9 none "heaps" false 234 (sI1 0 583 237) := ok_if_eq (by decide +kernel : decode cX12_heaps 234 = .ok (.ifCond .eq 349, 3)) (by decide)
theorem o255_237 : Okp RX12 cX12_heaps 9 none "heaps" false 237 (sLR 0 238) := ok_aload_n (by decide +kernel : decode cX12_heaps 237 = .ok (.aload_n 0, 1)) rfl
theorem o255_238 : Okp RX12 cX12_heaps 9 none "heaps" false 238 (sLI 6 240) := ok_iload (by decide +kernel : decode cX12_heaps 238 = .ok (.iload 6, 2))
theorem o255_240 : Okp RX12 cX12_heaps 9 none "heaps" false 240 (sLR 0 241) := ok_aload_n (by decide +kernel : decode cX12_heaps 240 = .ok (.aload_n 0, 1)) rfl
theorem o255_241 : Okp RX12 cX12_heaps 9 none "heaps" false 241 (sGR 13 10 244) := ok_getR (by decide +kernel : decode cX12_heaps 241 = .ok (.getfield 36, 3)) fw_X12_36 rfl
theorem o255_244 : Okp RX12 cX12_heaps 9 none "heaps" false 244 (sK 48 246) := ok_bipush (by decide +kernel : decode cX12_heaps 244 = .ok (.bipush 48, 2)) (by decide)
theorem o255_246 : Okp RX12 cX12_heaps 9 none "heaps" false 246 (sLI 1 247) := ok_iload_n (by decide +kernel : decode cX12_heaps 246 = .ok (.iload_n 1, 1)) rfl
theorem o255_247 : Okp RX12 cX12_heaps 9 none "heaps" false 247 (sB2 fMul 248) := ok_imul (by decide +kernel : decode cX12_heaps 247 = .ok (.imul, 1))
theorem o255_248 : Okp RX12 cX12_heaps 9 none "heaps" false 248 (sK 6 250) := ok_bipush (by decide +kernel : decode cX12_heaps 248 = .ok (.bipush 6, 2)) (by decide)
theorem o255_250 : Okp RX12 cX12_heaps 9 none "heaps" false 250 (sLI 5 252) := ok_iload (by decide +kernel : decode cX12_heaps 250 = .ok (.iload 5, 2))
theorem o255_252 : Okp RX12 cX12_heaps 9 none "heaps" false 252 (sCS true 225 1 255) := ok_cs (by decide +kernel : decode cX12_heaps 252 = .ok (.invokestatic 368, 3)) mw_X12_368 wt_X12_which (by decide) rfl
theorem o255_255 : Okp RX12 cX12_heaps 9 none "heaps" false 255 (sB2 fMul 256) := ok_imul (by decide +kernel : decode cX12_heaps 255 = .ok (.imul, 1))
theorem o255_256 : Okp RX12 cX12_heaps 9 none "heaps" false 256 (sB2 fAdd 257) := ok_iadd (by decide +kernel : decode cX12_heaps 256 = .ok (.iadd, 1))
theorem o255_257 : Okp RX12 cX12_heaps 9 none "heaps" false 257 (sLI 4 259) := ok_iload (by decide +kernel : decode cX12_heaps 257 = .ok (.iload 4, 2))
theorem o255_259 : Okp RX12 cX12_heaps 9 none "heaps" false 259 (sB2 fAdd 260) := ok_iadd (by decide +kernel : decode cX12_heaps 259 = .ok (.iadd, 1))
theorem o255_260 : Okp RX12 cX12_heaps 9 none "heaps" false 260 (sIA 261) := ok_iaload (by decide +kernel : decode cX12_heaps 260 = .ok (.iaload, 1))
theorem o255_261 : Okp RX12 cX12_heaps 9 none "heaps" false 261 (sCV false 256 3 13 264) := ok_cv (by decide +kernel : decode cX12_heaps 261 = .ok (.invokevirtual 371, 3)) mw_X12_371 rfl (by decide) wm_X12_fits wse_X12_fits (by decide) rfl
theorem o255_264 : Okp RX12 cX12_heaps 9 none "heaps" false 264 (sGo 583) := ok_goto (by decide +kernel : decode cX12_heaps 264 = .ok (.goto 319, 3)) (by decide)
theorem o255_267 : Okp RX12 cX12_heaps 9 none "heaps" false 267 (sLR 0 268) := ok_aload_n (by decide +kernel : decode cX12_heaps 267 = .ok (.aload_n 0, 1)) rfl
theorem o255_268 : Okp RX12 cX12_heaps 9 none "heaps" false 268 (sK 0 269) := ok_iconst (by decide +kernel : decode cX12_heaps 268 = .ok (.iconst 0, 1)) (by decide)
theorem o255_269 : Okp RX12 cX12_heaps 9 none "heaps" false 269 (sCV false 249 2 13 272) := ok_cv (by decide +kernel : decode cX12_heaps 269 = .ok (.invokevirtual 362, 3)) mw_X12_362 rfl (by decide) wm_X12_popFor wse_X12_popFor (by decide) rfl
theorem o255_272 : Okp RX12 cX12_heaps 9 none "heaps" false 272 (sLR 0 273) := ok_aload_n (by decide +kernel : decode cX12_heaps 272 = .ok (.aload_n 0, 1)) rfl
theorem o255_273 : Okp RX12 cX12_heaps 9 none "heaps" false 273 (sGI 13 36 276) := ok_getI (by decide +kernel : decode cX12_heaps 273 = .ok (.getfield 309, 3)) fw_X12_309 rfl
theorem o255_276 : Okp RX12 cX12_heaps 9 none "heaps" false 276 (sI1 0 583 279) := ok_if_eq (by decide +kernel : decode cX12_heaps 276 = .ok (.ifCond .eq 307, 3)) (by decide)
theorem o255_279 : Okp RX12 cX12_heaps 9 none "heaps" false 279 (sLR 0 280) := ok_aload_n (by decide +kernel : decode cX12_heaps 279 = .ok (.aload_n 0, 1)) rfl
theorem o255_280 : Okp RX12 cX12_heaps 9 none "heaps" false 280 (sLI 3 281) := ok_iload_n (by decide +kernel : decode cX12_heaps 280 = .ok (.iload_n 3, 1)) rfl
theorem o255_281 : Okp RX12 cX12_heaps 9 none "heaps" false 281 (sK 25 283) := ok_bipush (by decide +kernel : decode cX12_heaps 281 = .ok (.bipush 25, 2)) (by decide)
theorem o255_283 : Okp RX12 cX12_heaps 9 none "heaps" false 283 (sI2 1 290 286) := ok_icmp_ne (by decide +kernel : decode cX12_heaps 283 = .ok (.if_icmp .ne 7, 3)) (by decide)
theorem o255_286 : Okp RX12 cX12_heaps 9 none "heaps" false 286 (sK 2 287) := ok_iconst (by decide +kernel : decode cX12_heaps 286 = .ok (.iconst 2, 1)) (by decide)
theorem o255_287 : Okp RX12 cX12_heaps 9 none "heaps" false 287 (sGo 297) := ok_goto (by decide +kernel : decode cX12_heaps 287 = .ok (.goto 10, 3)) (by decide)
theorem o255_290 : Okp RX12 cX12_heaps 9 none "heaps" false 290 (sK 3 291) := ok_iconst (by decide +kernel : decode cX12_heaps 290 = .ok (.iconst 3, 1)) (by decide)
theorem o255_291 : Okp RX12 cX12_heaps 9 none "heaps" false 291 (sK 8 293) := ok_bipush (by decide +kernel : decode cX12_heaps 291 = .ok (.bipush 8, 2)) (by decide)
theorem o255_293 : Okp RX12 cX12_heaps 9 none "heaps" false 293 (sLI 4 295) := ok_iload (by decide +kernel : decode cX12_heaps 293 = .ok (.iload 4, 2))
theorem o255_295 : Okp RX12 cX12_heaps 9 none "heaps" false 295 (sB2 fMul 296) := ok_imul (by decide +kernel : decode cX12_heaps 295 = .ok (.imul, 1))
theorem o255_296 : Okp RX12 cX12_heaps 9 none "heaps" false 296 (sB2 fAdd 297) := ok_iadd (by decide +kernel : decode cX12_heaps 296 = .ok (.iadd, 1))
theorem o255_297 : Okp RX12 cX12_heaps 9 none "heaps" false 297 (sCV false 248 2 13 300) := ok_cv (by decide +kernel : decode cX12_heaps 297 = .ok (.invokevirtual 359, 3)) mw_X12_359 rfl (by decide) wm_X12_push wse_X12_push (by decide) rfl
theorem o255_300 : Okp RX12 cX12_heaps 9 none "heaps" false 300 (sGo 583) := ok_goto (by decide +kernel : decode cX12_heaps 300 = .ok (.goto 283, 3)) (by decide)
theorem o255_303 : Okp RX12 cX12_heaps 9 none "heaps" false 303 (sLR 0 304) := ok_aload_n (by decide +kernel : decode cX12_heaps 303 = .ok (.aload_n 0, 1)) rfl
theorem o255_304 : Okp RX12 cX12_heaps 9 none "heaps" false 304 (sCV false 252 1 13 307) := ok_cv (by decide +kernel : decode cX12_heaps 304 = .ok (.invokevirtual 374, 3)) mw_X12_374 rfl (by decide) wm_X12_popRow wse_X12_popRow (by decide) rfl
theorem o255_307 : Okp RX12 cX12_heaps 9 none "heaps" false 307 (sSI 5 309) := ok_istore (by decide +kernel : decode cX12_heaps 307 = .ok (.istore 5, 2)) (by decide) (by decide)
theorem o255_309 : Okp RX12 cX12_heaps 9 none "heaps" false 309 (sLR 0 310) := ok_aload_n (by decide +kernel : decode cX12_heaps 309 = .ok (.aload_n 0, 1)) rfl
theorem o255_310 : Okp RX12 cX12_heaps 9 none "heaps" false 310 (sGI 13 36 313) := ok_getI (by decide +kernel : decode cX12_heaps 310 = .ok (.getfield 309, 3)) fw_X12_309 rfl
theorem o255_313 : Okp RX12 cX12_heaps 9 none "heaps" false 313 (sI1 0 583 316) := ok_if_eq (by decide +kernel : decode cX12_heaps 313 = .ok (.ifCond .eq 270, 3)) (by decide)
theorem o255_316 : Okp RX12 cX12_heaps 9 none "heaps" false 316 (sLR 0 317) := ok_aload_n (by decide +kernel : decode cX12_heaps 316 = .ok (.aload_n 0, 1)) rfl
theorem o255_317 : Okp RX12 cX12_heaps 9 none "heaps" false 317 (sGI 13 38 320) := ok_getI (by decide +kernel : decode cX12_heaps 317 = .ok (.getfield 343, 3)) fw_X12_343 rfl
theorem o255_320 : Okp RX12 cX12_heaps 9 none "heaps" false 320 (sI1 1 583 323) := ok_if_ne (by decide +kernel : decode cX12_heaps 320 = .ok (.ifCond .ne 263, 3)) (by decide)
theorem o255_323 : Okp RX12 cX12_heaps 9 none "heaps" false 323 (sLR 0 324) := ok_aload_n (by decide +kernel : decode cX12_heaps 323 = .ok (.aload_n 0, 1)) rfl
theorem o255_324 : Okp RX12 cX12_heaps 9 none "heaps" false 324 (sK 0 325) := ok_iconst (by decide +kernel : decode cX12_heaps 324 = .ok (.iconst 0, 1)) (by decide)
theorem o255_325 : Okp RX12 cX12_heaps 9 none "heaps" false 325 (sCV false 248 2 13 328) := ok_cv (by decide +kernel : decode cX12_heaps 325 = .ok (.invokevirtual 359, 3)) mw_X12_359 rfl (by decide) wm_X12_push wse_X12_push (by decide) rfl
theorem o255_328 : Okp RX12 cX12_heaps 9 none "heaps" false 328 (sGo 583) := ok_goto (by decide +kernel : decode cX12_heaps 328 = .ok (.goto 255, 3)) (by decide)
theorem o255_331 : Okp RX12 cX12_heaps 9 none "heaps" false 331 (sLR 0 332) := ok_aload_n (by decide +kernel : decode cX12_heaps 331 = .ok (.aload_n 0, 1)) rfl
theorem o255_332 : Okp RX12 cX12_heaps 9 none "heaps" false 332 (sK 0 333) := ok_iconst (by decide +kernel : decode cX12_heaps 332 = .ok (.iconst 0, 1)) (by decide)
theorem o255_333 : Okp RX12 cX12_heaps 9 none "heaps" false 333 (sCV false 249 2 13 336) := ok_cv (by decide +kernel : decode cX12_heaps 333 = .ok (.invokevirtual 362, 3)) mw_X12_362 rfl (by decide) wm_X12_popFor wse_X12_popFor (by decide) rfl
theorem o255_336 : Okp RX12 cX12_heaps 9 none "heaps" false 336 (sLR 0 337) := ok_aload_n (by decide +kernel : decode cX12_heaps 336 = .ok (.aload_n 0, 1)) rfl
theorem o255_337 : Okp RX12 cX12_heaps 9 none "heaps" false 337 (sCV false 252 1 13 340) := ok_cv (by decide +kernel : decode cX12_heaps 337 = .ok (.invokevirtual 374, 3)) mw_X12_374 rfl (by decide) wm_X12_popRow wse_X12_popRow (by decide) rfl
theorem o255_340 : Okp RX12 cX12_heaps 9 none "heaps" false 340 (sSI 5 342) := ok_istore (by decide +kernel : decode cX12_heaps 340 = .ok (.istore 5, 2)) (by decide) (by decide)
theorem o255_342 : Okp RX12 cX12_heaps 9 none "heaps" false 342 (sLR 0 343) := ok_aload_n (by decide +kernel : decode cX12_heaps 342 = .ok (.aload_n 0, 1)) rfl
theorem o255_343 : Okp RX12 cX12_heaps 9 none "heaps" false 343 (sGI 13 36 346) := ok_getI (by decide +kernel : decode cX12_heaps 343 = .ok (.getfield 309, 3)) fw_X12_309 rfl
theorem o255_346 : Okp RX12 cX12_heaps 9 none "heaps" false 346 (sI1 0 583 349) := ok_if_eq (by decide +kernel : decode cX12_heaps 346 = .ok (.ifCond .eq 237, 3)) (by decide)
theorem o255_349 : Okp RX12 cX12_heaps 9 none "heaps" false 349 (sLR 0 350) := ok_aload_n (by decide +kernel : decode cX12_heaps 349 = .ok (.aload_n 0, 1)) rfl
theorem o255_350 : Okp RX12 cX12_heaps 9 none "heaps" false 350 (sGI 13 38 353) := ok_getI (by decide +kernel : decode cX12_heaps 350 = .ok (.getfield 343, 3)) fw_X12_343 rfl
theorem o255_353 : Okp RX12 cX12_heaps 9 none "heaps" false 353 (sI1 1 583 356) := ok_if_ne (by decide +kernel : decode cX12_heaps 353 = .ok (.ifCond .ne 230, 3)) (by decide)
theorem o255_356 : Okp RX12 cX12_heaps 9 none "heaps" false 356 (sLR 0 357) := ok_aload_n (by decide +kernel : decode cX12_heaps 356 = .ok (.aload_n 0, 1)) rfl
theorem o255_357 : Okp RX12 cX12_heaps 9 none "heaps" false 357 (sLI 5 359) := ok_iload (by decide +kernel : decode cX12_heaps 357 = .ok (.iload 5, 2))
theorem o255_359 : Okp RX12 cX12_heaps 9 none "heaps" false 359 (sCS false 224 1 362) := ok_cs (by decide +kernel : decode cX12_heaps 359 = .ok (.invokestatic 258, 3)) mw_X12_258 wt_X12_kind (by decide) rfl
theorem o255_362 : Okp RX12 cX12_heaps 9 none "heaps" false 362 (sK 2 363) := ok_iconst (by decide +kernel : decode cX12_heaps 362 = .ok (.iconst 2, 1)) (by decide)
theorem o255_363 : Okp RX12 cX12_heaps 9 none "heaps" false 363 (sI2 1 370 366) := ok_icmp_ne (by decide +kernel : decode cX12_heaps 363 = .ok (.if_icmp .ne 7, 3)) (by decide)
theorem o255_366 : Okp RX12 cX12_heaps 9 none "heaps" false 366 (sK 0 367) := ok_iconst (by decide +kernel : decode cX12_heaps 366 = .ok (.iconst 0, 1)) (by decide)
theorem o255_367 : Okp RX12 cX12_heaps 9 none "heaps" false 367 (sGo 380) := ok_goto (by decide +kernel : decode cX12_heaps 367 = .ok (.goto 13, 3)) (by decide)
theorem o255_370 : Okp RX12 cX12_heaps 9 none "heaps" false 370 (sK 1 371) := ok_iconst (by decide +kernel : decode cX12_heaps 370 = .ok (.iconst 1, 1)) (by decide)
theorem o255_371 : Okp RX12 cX12_heaps 9 none "heaps" false 371 (sK 8 373) := ok_bipush (by decide +kernel : decode cX12_heaps 371 = .ok (.bipush 8, 2)) (by decide)
theorem o255_373 : Okp RX12 cX12_heaps 9 none "heaps" false 373 (sLI 5 375) := ok_iload (by decide +kernel : decode cX12_heaps 373 = .ok (.iload 5, 2))
theorem o255_375 : Okp RX12 cX12_heaps 9 none "heaps" false 375 (sCS false 225 1 378) := ok_cs (by decide +kernel : decode cX12_heaps 375 = .ok (.invokestatic 368, 3)) mw_X12_368 wt_X12_which (by decide) rfl
theorem o255_378 : Okp RX12 cX12_heaps 9 none "heaps" false 378 (sB2 fMul 379) := ok_imul (by decide +kernel : decode cX12_heaps 378 = .ok (.imul, 1))
theorem o255_379 : Okp RX12 cX12_heaps 9 none "heaps" false 379 (sB2 fAdd 380) := ok_iadd (by decide +kernel : decode cX12_heaps 379 = .ok (.iadd, 1))
theorem o255_380 : Okp RX12 cX12_heaps 9 none "heaps" false 380 (sCV false 248 2 13 383) := ok_cv (by decide +kernel : decode cX12_heaps 380 = .ok (.invokevirtual 359, 3)) mw_X12_359 rfl (by decide) wm_X12_push wse_X12_push (by decide) rfl
theorem o255_383 : Okp RX12 cX12_heaps 9 none "heaps" false 383 (sGo 583) := ok_goto (by decide +kernel : decode cX12_heaps 383 = .ok (.goto 200, 3)) (by decide)
theorem o255_386 : Okp RX12 cX12_heaps 9 none "heaps" false 386 (sLR 0 387) := ok_aload_n (by decide +kernel : decode cX12_heaps 386 = .ok (.aload_n 0, 1)) rfl
theorem o255_387 : Okp RX12 cX12_heaps 9 none "heaps" false 387 (sCV false 247 1 13 390) := ok_cv (by decide +kernel : decode cX12_heaps 387 = .ok (.invokevirtual 339, 3)) mw_X12_339 rfl (by decide) wm_X12_pop wse_X12_pop (by decide) rfl
theorem o255_390 : Okp RX12 cX12_heaps 9 none "heaps" false 390 (sSI 7 392) := ok_istore (by decide +kernel : decode cX12_heaps 390 = .ok (.istore 7, 2)) (by decide) (by decide)
theorem o255_392 : Okp RX12 cX12_heaps 9 none "heaps" false 392 (sLR 0 393) := ok_aload_n (by decide +kernel : decode cX12_heaps 392 = .ok (.aload_n 0, 1)) rfl
theorem o255_393 : Okp RX12 cX12_heaps 9 none "heaps" false 393 (sK 0 394) := ok_iconst (by decide +kernel : decode cX12_heaps 393 = .ok (.iconst 0, 1)) (by decide)
theorem o255_394 : Okp RX12 cX12_heaps 9 none "heaps" false 394 (sCV false 249 2 13 397) := ok_cv (by decide +kernel : decode cX12_heaps 394 = .ok (.invokevirtual 362, 3)) mw_X12_362 rfl (by decide) wm_X12_popFor wse_X12_popFor (by decide) rfl
theorem o255_397 : Okp RX12 cX12_heaps 9 none "heaps" false 397 (sLR 0 398) := ok_aload_n (by decide +kernel : decode cX12_heaps 397 = .ok (.aload_n 0, 1)) rfl
theorem o255_398 : Okp RX12 cX12_heaps 9 none "heaps" false 398 (sCV false 252 1 13 401) := ok_cv (by decide +kernel : decode cX12_heaps 398 = .ok (.invokevirtual 374, 3)) mw_X12_374 rfl (by decide) wm_X12_popRow wse_X12_popRow (by decide) rfl
theorem o255_401 : Okp RX12 cX12_heaps 9 none "heaps" false 401 (sSI 5 403) := ok_istore (by decide +kernel : decode cX12_heaps 401 = .ok (.istore 5, 2)) (by decide) (by decide)
theorem o255_403 : Okp RX12 cX12_heaps 9 none "heaps" false 403 (sLR 0 404) := ok_aload_n (by decide +kernel : decode cX12_heaps 403 = .ok (.aload_n 0, 1)) rfl
theorem o255_404 : Okp RX12 cX12_heaps 9 none "heaps" false 404 (sGI 13 36 407) := ok_getI (by decide +kernel : decode cX12_heaps 404 = .ok (.getfield 309, 3)) fw_X12_309 rfl
theorem o255_407 : Okp RX12 cX12_heaps 9 none "heaps" false 407 (sI1 0 583 410) := ok_if_eq (by decide +kernel : decode cX12_heaps 407 = .ok (.ifCond .eq 176, 3)) (by decide)
theorem o255_410 : Okp RX12 cX12_heaps 9 none "heaps" false 410 (sLR 0 411) := ok_aload_n (by decide +kernel : decode cX12_heaps 410 = .ok (.aload_n 0, 1)) rfl
theorem o255_411 : Okp RX12 cX12_heaps 9 none "heaps" false 411 (sGI 13 38 414) := ok_getI (by decide +kernel : decode cX12_heaps 411 = .ok (.getfield 343, 3)) fw_X12_343 rfl
theorem o255_414 : Okp RX12 cX12_heaps 9 none "heaps" false 414 (sI1 1 583 417) := ok_if_ne (by decide +kernel : decode cX12_heaps 414 = .ok (.ifCond .ne 169, 3)) (by decide)
theorem o255_417 : Okp RX12 cX12_heaps 9 none "heaps" false 417 (sLR 0 418) := ok_aload_n (by decide +kernel : decode cX12_heaps 417 = .ok (.aload_n 0, 1)) rfl
theorem o255_418 : Okp RX12 cX12_heaps 9 none "heaps" false 418 (sLI 7 420) := ok_iload (by decide +kernel : decode cX12_heaps 418 = .ok (.iload 7, 2))
theorem o255_420 : Okp RX12 cX12_heaps 9 none "heaps" false 420 (sLI 5 422) := ok_iload (by decide +kernel : decode cX12_heaps 420 = .ok (.iload 5, 2))
theorem o255_422 : Okp RX12 cX12_heaps 9 none "heaps" false 422 (sCS false 224 1 425) := ok_cs (by decide +kernel : decode cX12_heaps 422 = .ok (.invokestatic 258, 3)) mw_X12_258 wt_X12_kind (by decide) rfl
theorem o255_425 : Okp RX12 cX12_heaps 9 none "heaps" false 425 (sK 2 426) := ok_iconst (by decide +kernel : decode cX12_heaps 425 = .ok (.iconst 2, 1)) (by decide)
theorem o255_426 : Okp RX12 cX12_heaps 9 none "heaps" false 426 (sI2 1 433 429) := ok_icmp_ne (by decide +kernel : decode cX12_heaps 426 = .ok (.if_icmp .ne 7, 3)) (by decide)
theorem o255_429 : Okp RX12 cX12_heaps 9 none "heaps" false 429 (sK 0 430) := ok_iconst (by decide +kernel : decode cX12_heaps 429 = .ok (.iconst 0, 1)) (by decide)
theorem o255_430 : Okp RX12 cX12_heaps 9 none "heaps" false 430 (sGo 443) := ok_goto (by decide +kernel : decode cX12_heaps 430 = .ok (.goto 13, 3)) (by decide)
theorem o255_433 : Okp RX12 cX12_heaps 9 none "heaps" false 433 (sK 1 434) := ok_iconst (by decide +kernel : decode cX12_heaps 433 = .ok (.iconst 1, 1)) (by decide)
theorem o255_434 : Okp RX12 cX12_heaps 9 none "heaps" false 434 (sK 8 436) := ok_bipush (by decide +kernel : decode cX12_heaps 434 = .ok (.bipush 8, 2)) (by decide)
theorem o255_436 : Okp RX12 cX12_heaps 9 none "heaps" false 436 (sLI 5 438) := ok_iload (by decide +kernel : decode cX12_heaps 436 = .ok (.iload 5, 2))
theorem o255_438 : Okp RX12 cX12_heaps 9 none "heaps" false 438 (sCS false 225 1 441) := ok_cs (by decide +kernel : decode cX12_heaps 438 = .ok (.invokestatic 368, 3)) mw_X12_368 wt_X12_which (by decide) rfl
theorem o255_441 : Okp RX12 cX12_heaps 9 none "heaps" false 441 (sB2 fMul 442) := ok_imul (by decide +kernel : decode cX12_heaps 441 = .ok (.imul, 1))
theorem o255_442 : Okp RX12 cX12_heaps 9 none "heaps" false 442 (sB2 fAdd 443) := ok_iadd (by decide +kernel : decode cX12_heaps 442 = .ok (.iadd, 1))
theorem o255_443 : Okp RX12 cX12_heaps 9 none "heaps" false 443 (sCV false 256 3 13 446) := ok_cv (by decide +kernel : decode cX12_heaps 443 = .ok (.invokevirtual 371, 3)) mw_X12_371 rfl (by decide) wm_X12_fits wse_X12_fits (by decide) rfl
theorem o255_446 : Okp RX12 cX12_heaps 9 none "heaps" false 446 (sGo 583) := ok_goto (by decide +kernel : decode cX12_heaps 446 = .ok (.goto 137, 3)) (by decide)
theorem o255_449 : Okp RX12 cX12_heaps 9 none "heaps" false 449 (sLR 0 450) := ok_aload_n (by decide +kernel : decode cX12_heaps 449 = .ok (.aload_n 0, 1)) rfl
theorem o255_450 : Okp RX12 cX12_heaps 9 none "heaps" false 450 (sK 10 452) := ok_bipush (by decide +kernel : decode cX12_heaps 450 = .ok (.bipush 10, 2)) (by decide)
theorem o255_452 : Okp RX12 cX12_heaps 9 none "heaps" false 452 (sLI 1 453) := ok_iload_n (by decide +kernel : decode cX12_heaps 452 = .ok (.iload_n 1, 1)) rfl
theorem o255_453 : Okp RX12 cX12_heaps 9 none "heaps" false 453 (sB2 fMul 454) := ok_imul (by decide +kernel : decode cX12_heaps 453 = .ok (.imul, 1))
theorem o255_454 : Okp RX12 cX12_heaps 9 none "heaps" false 454 (sLI 4 456) := ok_iload (by decide +kernel : decode cX12_heaps 454 = .ok (.iload 4, 2))
theorem o255_456 : Okp RX12 cX12_heaps 9 none "heaps" false 456 (sB2 fAdd 457) := ok_iadd (by decide +kernel : decode cX12_heaps 456 = .ok (.iadd, 1))
theorem o255_457 : Okp RX12 cX12_heaps 9 none "heaps" false 457 (sCV false 257 2 13 460) := ok_cv (by decide +kernel : decode cX12_heaps 457 = .ok (.invokevirtual 377, 3)) mw_X12_377 rfl (by decide) wm_X12_takes wse_X12_takes (by decide) rfl
theorem o255_460 : Okp RX12 cX12_heaps 9 none "heaps" false 460 (sLR 0 461) := ok_aload_n (by decide +kernel : decode cX12_heaps 460 = .ok (.aload_n 0, 1)) rfl
theorem o255_461 : Okp RX12 cX12_heaps 9 none "heaps" false 461 (sGI 13 36 464) := ok_getI (by decide +kernel : decode cX12_heaps 461 = .ok (.getfield 309, 3)) fw_X12_309 rfl
theorem o255_464 : Okp RX12 cX12_heaps 9 none "heaps" false 464 (sI1 0 583 467) := ok_if_eq (by decide +kernel : decode cX12_heaps 464 = .ok (.ifCond .eq 119, 3)) (by decide)
theorem o255_467 : Okp RX12 cX12_heaps 9 none "heaps" false 467 (sLR 0 468) := ok_aload_n (by decide +kernel : decode cX12_heaps 467 = .ok (.aload_n 0, 1)) rfl
theorem o255_468 : Okp RX12 cX12_heaps 9 none "heaps" false 468 (sGR 13 18 471) := ok_getR (by decide +kernel : decode cX12_heaps 468 = .ok (.getfield 60, 3)) fw_X12_60 rfl
theorem o255_471 : Okp RX12 cX12_heaps 9 none "heaps" false 471 (sK 10 473) := ok_bipush (by decide +kernel : decode cX12_heaps 471 = .ok (.bipush 10, 2)) (by decide)
theorem o255_473 : Okp RX12 cX12_heaps 9 none "heaps" false 473 (sLI 1 474) := ok_iload_n (by decide +kernel : decode cX12_heaps 473 = .ok (.iload_n 1, 1)) rfl
theorem o255_474 : Okp RX12 cX12_heaps 9 none "heaps" false 474 (sB2 fMul 475) := ok_imul (by decide +kernel : decode cX12_heaps 474 = .ok (.imul, 1))
theorem o255_475 : Okp RX12 cX12_heaps 9 none "heaps" false 475 (sLI 4 477) := ok_iload (by decide +kernel : decode cX12_heaps 475 = .ok (.iload 4, 2))
theorem o255_477 : Okp RX12 cX12_heaps 9 none "heaps" false 477 (sB2 fAdd 478) := ok_iadd (by decide +kernel : decode cX12_heaps 477 = .ok (.iadd, 1))
theorem o255_478 : Okp RX12 cX12_heaps 9 none "heaps" false 478 (sIA 479) := ok_iaload (by decide +kernel : decode cX12_heaps 478 = .ok (.iaload, 1))
theorem o255_479 : Okp RX12 cX12_heaps 9 none "heaps" false 479 (sK (-1) 480) := ok_iconst (by decide +kernel : decode cX12_heaps 479 = .ok (.iconst (-1), 1)) (by decide)
theorem o255_480 : Okp RX12 cX12_heaps 9 none "heaps" false 480 (sI2 0 583 483) := ok_icmp_eq (by decide +kernel : decode cX12_heaps 480 = .ok (.if_icmp .eq 103, 3)) (by decide)
theorem o255_483 : Okp RX12 cX12_heaps 9 none "heaps" false 483 (sLR 0 484) := ok_aload_n (by decide +kernel : decode cX12_heaps 483 = .ok (.aload_n 0, 1)) rfl
theorem o255_484 : Okp RX12 cX12_heaps 9 none "heaps" false 484 (sLR 0 485) := ok_aload_n (by decide +kernel : decode cX12_heaps 484 = .ok (.aload_n 0, 1)) rfl
theorem o255_485 : Okp RX12 cX12_heaps 9 none "heaps" false 485 (sGR 13 18 488) := ok_getR (by decide +kernel : decode cX12_heaps 485 = .ok (.getfield 60, 3)) fw_X12_60 rfl
theorem o255_488 : Okp RX12 cX12_heaps 9 none "heaps" false 488 (sK 10 490) := ok_bipush (by decide +kernel : decode cX12_heaps 488 = .ok (.bipush 10, 2)) (by decide)
theorem o255_490 : Okp RX12 cX12_heaps 9 none "heaps" false 490 (sLI 1 491) := ok_iload_n (by decide +kernel : decode cX12_heaps 490 = .ok (.iload_n 1, 1)) rfl
theorem o255_491 : Okp RX12 cX12_heaps 9 none "heaps" false 491 (sB2 fMul 492) := ok_imul (by decide +kernel : decode cX12_heaps 491 = .ok (.imul, 1))
theorem o255_492 : Okp RX12 cX12_heaps 9 none "heaps" false 492 (sLI 4 494) := ok_iload (by decide +kernel : decode cX12_heaps 492 = .ok (.iload 4, 2))
theorem o255_494 : Okp RX12 cX12_heaps 9 none "heaps" false 494 (sB2 fAdd 495) := ok_iadd (by decide +kernel : decode cX12_heaps 494 = .ok (.iadd, 1))
theorem o255_495 : Okp RX12 cX12_heaps 9 none "heaps" false 495 (sIA 496) := ok_iaload (by decide +kernel : decode cX12_heaps 495 = .ok (.iaload, 1))
theorem o255_496 : Okp RX12 cX12_heaps 9 none "heaps" false 496 (sCV false 248 2 13 499) := ok_cv (by decide +kernel : decode cX12_heaps 496 = .ok (.invokevirtual 359, 3)) mw_X12_359 rfl (by decide) wm_X12_push wse_X12_push (by decide) rfl
theorem o255_499 : Okp RX12 cX12_heaps 9 none "heaps" false 499 (sGo 583) := ok_goto (by decide +kernel : decode cX12_heaps 499 = .ok (.goto 84, 3)) (by decide)
theorem o255_502 : Okp RX12 cX12_heaps 9 none "heaps" false 502 (sLR 0 503) := ok_aload_n (by decide +kernel : decode cX12_heaps 502 = .ok (.aload_n 0, 1)) rfl
theorem o255_503 : Okp RX12 cX12_heaps 9 none "heaps" false 503 (sGR 13 18 506) := ok_getR (by decide +kernel : decode cX12_heaps 503 = .ok (.getfield 60, 3)) fw_X12_60 rfl
theorem o255_506 : Okp RX12 cX12_heaps 9 none "heaps" false 506 (sLI 2 507) := ok_iload_n (by decide +kernel : decode cX12_heaps 506 = .ok (.iload_n 2, 1)) rfl
theorem o255_507 : Okp RX12 cX12_heaps 9 none "heaps" false 507 (sIA 508) := ok_iaload (by decide +kernel : decode cX12_heaps 507 = .ok (.iaload, 1))
theorem o255_508 : Okp RX12 cX12_heaps 9 none "heaps" false 508 (sK (-1) 509) := ok_iconst (by decide +kernel : decode cX12_heaps 508 = .ok (.iconst (-1), 1)) (by decide)
theorem o255_509 : Okp RX12 cX12_heaps 9 none "heaps" false 509 (sI2 0 522 512) := ok_icmp_eq (by decide +kernel : decode cX12_heaps 509 = .ok (.if_icmp .eq 13, 3)) (by decide)
theorem o255_512 : Okp RX12 cX12_heaps 9 none "heaps" false 512 (sLR 0 513) := ok_aload_n (by decide +kernel : decode cX12_heaps 512 = .ok (.aload_n 0, 1)) rfl
theorem o255_513 : Okp RX12 cX12_heaps 9 none "heaps" false 513 (sLR 0 514) := ok_aload_n (by decide +kernel : decode cX12_heaps 513 = .ok (.aload_n 0, 1)) rfl
theorem o255_514 : Okp RX12 cX12_heaps 9 none "heaps" false 514 (sGR 13 18 517) := ok_getR (by decide +kernel : decode cX12_heaps 514 = .ok (.getfield 60, 3)) fw_X12_60 rfl
theorem o255_517 : Okp RX12 cX12_heaps 9 none "heaps" false 517 (sLI 2 518) := ok_iload_n (by decide +kernel : decode cX12_heaps 517 = .ok (.iload_n 2, 1)) rfl
theorem o255_518 : Okp RX12 cX12_heaps 9 none "heaps" false 518 (sIA 519) := ok_iaload (by decide +kernel : decode cX12_heaps 518 = .ok (.iaload, 1))
theorem o255_519 : Okp RX12 cX12_heaps 9 none "heaps" false 519 (sCV false 249 2 13 522) := ok_cv (by decide +kernel : decode cX12_heaps 519 = .ok (.invokevirtual 362, 3)) mw_X12_362 rfl (by decide) wm_X12_popFor wse_X12_popFor (by decide) rfl
theorem o255_522 : Okp RX12 cX12_heaps 9 none "heaps" false 522 (sLR 0 523) := ok_aload_n (by decide +kernel : decode cX12_heaps 522 = .ok (.aload_n 0, 1)) rfl
theorem o255_523 : Okp RX12 cX12_heaps 9 none "heaps" false 523 (sLR 0 524) := ok_aload_n (by decide +kernel : decode cX12_heaps 523 = .ok (.aload_n 0, 1)) rfl
theorem o255_524 : Okp RX12 cX12_heaps 9 none "heaps" false 524 (sGI 13 36 527) := ok_getI (by decide +kernel : decode cX12_heaps 524 = .ok (.getfield 309, 3)) fw_X12_309 rfl
theorem o255_527 : Okp RX12 cX12_heaps 9 none "heaps" false 527 (sI1 0 541 530) := ok_if_eq (by decide +kernel : decode cX12_heaps 527 = .ok (.ifCond .eq 14, 3)) (by decide)
theorem o255_530 : Okp RX12 cX12_heaps 9 none "heaps" false 530 (sLR 0 531) := ok_aload_n (by decide +kernel : decode cX12_heaps 530 = .ok (.aload_n 0, 1)) rfl
theorem o255_531 : Okp RX12 cX12_heaps 9 none "heaps" false 531 (sGI 13 35 534) := ok_getI (by decide +kernel : decode cX12_heaps 531 = .ok (.getfield 315, 3)) fw_X12_315 rfl
theorem o255_534 : Okp RX12 cX12_heaps 9 none "heaps" false 534 (sI1 1 541 537) := ok_if_ne (by decide +kernel : decode cX12_heaps 534 = .ok (.ifCond .ne 7, 3)) (by decide)
theorem o255_537 : Okp RX12 cX12_heaps 9 none "heaps" false 537 (sK 1 538) := ok_iconst (by decide +kernel : decode cX12_heaps 537 = .ok (.iconst 1, 1)) (by decide)
theorem o255_538 : Okp RX12 cX12_heaps 9 none "heaps" false 538 (sGo 542) := ok_goto (by decide +kernel : decode cX12_heaps 538 = .ok (.goto 4, 3)) (by decide)
theorem o255_541 : Okp RX12 cX12_heaps 9 none "heaps" false 541 (sK 0 542) := ok_iconst (by decide +kernel : decode cX12_heaps 541 = .ok (.iconst 0, 1)) (by decide)
theorem o255_542 : Okp RX12 cX12_heaps 9 none "heaps" false 542 (sCV false 244 2 13 545) := ok_cv (by decide +kernel : decode cX12_heaps 542 = .ok (.invokevirtual 325, 3)) mw_X12_325 rfl (by decide) wm_X12_wants wse_X12_wants (by decide) rfl
theorem o255_545 : Okp RX12 cX12_heaps 9 none "heaps" false 545 (sK 0 546) := ok_iconst (by decide +kernel : decode cX12_heaps 545 = .ok (.iconst 0, 1)) (by decide)
theorem o255_546 : Okp RX12 cX12_heaps 9 none "heaps" false 546 (sSI 8 548) := ok_istore (by decide +kernel : decode cX12_heaps 546 = .ok (.istore 8, 2)) (by decide) (by decide)
theorem o255_548 : Okp RX12 cX12_heaps 9 none "heaps" false 548 (sLI 8 550) := ok_iload (by decide +kernel : decode cX12_heaps 548 = .ok (.iload 8, 2))
theorem o255_550 : Okp RX12 cX12_heaps 9 none "heaps" false 550 (sK 10 552) := ok_bipush (by decide +kernel : decode cX12_heaps 550 = .ok (.bipush 10, 2)) (by decide)
theorem o255_552 : Okp RX12 cX12_heaps 9 none "heaps" false 552 (sI2 3 583 555) := ok_icmp_ge (by decide +kernel : decode cX12_heaps 552 = .ok (.if_icmp .ge 31, 3)) (by decide)
theorem o255_555 : Okp RX12 cX12_heaps 9 none "heaps" false 555 (sLR 0 556) := ok_aload_n (by decide +kernel : decode cX12_heaps 555 = .ok (.aload_n 0, 1)) rfl
theorem o255_556 : Okp RX12 cX12_heaps 9 none "heaps" false 556 (sLR 0 557) := ok_aload_n (by decide +kernel : decode cX12_heaps 556 = .ok (.aload_n 0, 1)) rfl
theorem o255_557 : Okp RX12 cX12_heaps 9 none "heaps" false 557 (sGR 13 34 560) := ok_getR (by decide +kernel : decode cX12_heaps 557 = .ok (.getfield 98, 3)) fw_X12_98 rfl
theorem o255_560 : Okp RX12 cX12_heaps 9 none "heaps" false 560 (sLI 8 562) := ok_iload (by decide +kernel : decode cX12_heaps 560 = .ok (.iload 8, 2))
theorem o255_562 : Okp RX12 cX12_heaps 9 none "heaps" false 562 (sIA 563) := ok_iaload (by decide +kernel : decode cX12_heaps 562 = .ok (.iaload, 1))
theorem o255_563 : Okp RX12 cX12_heaps 9 none "heaps" false 563 (sCS false 228 1 566) := ok_cs (by decide +kernel : decode cX12_heaps 563 = .ok (.invokestatic 332, 3)) mw_X12_332 wt_X12_isLinear (by decide) rfl
theorem o255_566 : Okp RX12 cX12_heaps 9 none "heaps" false 566 (sI1 1 573 569) := ok_if_ne (by decide +kernel : decode cX12_heaps 566 = .ok (.ifCond .ne 7, 3)) (by decide)
theorem o255_569 : Okp RX12 cX12_heaps 9 none "heaps" false 569 (sK 1 570) := ok_iconst (by decide +kernel : decode cX12_heaps 569 = .ok (.iconst 1, 1)) (by decide)
theorem o255_570 : Okp RX12 cX12_heaps 9 none "heaps" false 570 (sGo 574) := ok_goto (by decide +kernel : decode cX12_heaps 570 = .ok (.goto 4, 3)) (by decide)
theorem o255_573 : Okp RX12 cX12_heaps 9 none "heaps" false 573 (sK 0 574) := ok_iconst (by decide +kernel : decode cX12_heaps 573 = .ok (.iconst 0, 1)) (by decide)
theorem o255_574 : Okp RX12 cX12_heaps 9 none "heaps" false 574 (sCV false 244 2 13 577) := ok_cv (by decide +kernel : decode cX12_heaps 574 = .ok (.invokevirtual 325, 3)) mw_X12_325 rfl (by decide) wm_X12_wants wse_X12_wants (by decide) rfl
theorem o255_577 : Okp RX12 cX12_heaps 9 none "heaps" false 577 (sInc 8 1 580) := ok_iinc (by decide +kernel : decode cX12_heaps 577 = .ok (.iinc 8 1, 3)) (by decide) (by decide)
theorem o255_580 : Okp RX12 cX12_heaps 9 none "heaps" false 580 (sGo 548) := ok_goto (by decide +kernel : decode cX12_heaps 580 = .ok (.goto (-32), 3)) (by decide)
theorem o255_583 : Okp RX12 cX12_heaps 9 none "heaps" false 583 sRV := ok_vret rfl (by decide +kernel : decode cX12_heaps 583 = .ok (.return_, 1))
theorem oc255_0 : ∀ pc, Mnp (c255_0 pc) ∧ Okp RX12 cX12_heaps 9 none "heaps" false pc (c255_0 pc) := by
  intro pc
  unfold c255_0
  split
  · exact ⟨mn_sLI, o255_0⟩
  · exact ⟨mn_sSw, o255_1⟩
  · exact ⟨mn_sX, ok_X⟩
theorem oc255_2 : ∀ pc, Mnp (c255_2 pc) ∧ Okp RX12 cX12_heaps 9 none "heaps" false pc (c255_2 pc) := by
  intro pc
  unfold c255_2
  split
  · exact ⟨mn_sGo, o255_60⟩
  · exact ⟨mn_sLR, o255_63⟩
  · exact ⟨mn_sK, o255_64⟩
  · exact ⟨mn_sCV, o255_65⟩
  · exact ⟨mn_sGo, o255_68⟩
  · exact ⟨mn_sLR, o255_71⟩
  · exact ⟨mn_sX, ok_X⟩
theorem oc255_3 : ∀ pc, Mnp (c255_3 pc) ∧ Okp RX12 cX12_heaps 9 none "heaps" false pc (c255_3 pc) := by
  intro pc
  unfold c255_3
  split
  · exact ⟨mn_sK, o255_72⟩
  · exact ⟨mn_sK, o255_73⟩
  · exact ⟨mn_sLI, o255_75⟩
  · exact ⟨mn_sB2, o255_77⟩
  · exact ⟨mn_sB2, o255_78⟩
  · exact ⟨mn_sCV, o255_79⟩
  · exact ⟨mn_sGo, o255_82⟩
  · exact ⟨mn_sLR, o255_85⟩
  · exact ⟨mn_sCV, o255_86⟩
  · exact ⟨mn_sSI, o255_89⟩
  · exact ⟨mn_sLR, o255_91⟩
  · exact ⟨mn_sGI, o255_92⟩
  · exact ⟨mn_sI1, o255_95⟩
  · exact ⟨mn_sX, ok_X⟩
theorem oc255_4 : ∀ pc, Mnp (c255_4 pc) ∧ Okp RX12 cX12_heaps 9 none "heaps" false pc (c255_4 pc) := by
  intro pc
  unfold c255_4
  split
  · exact ⟨mn_sGo, o255_98⟩
  · exact ⟨mn_sLR, o255_101⟩
  · exact ⟨mn_sLR, o255_102⟩
  · exact ⟨mn_sGI, o255_103⟩
  · exact ⟨mn_sI1, o255_106⟩
  · exact ⟨mn_sLI, o255_109⟩
  · exact ⟨mn_sLR, o255_111⟩
  · exact ⟨mn_sGR, o255_112⟩
  · exact ⟨mn_sK, o255_115⟩
  · exact ⟨mn_sLI, o255_117⟩
  · exact ⟨mn_sB2, o255_118⟩
  · exact ⟨mn_sLI, o255_119⟩
  · exact ⟨mn_sX, ok_X⟩
theorem oc255_5 : ∀ pc, Mnp (c255_5 pc) ∧ Okp RX12 cX12_heaps 9 none "heaps" false pc (c255_5 pc) := by
  intro pc
  unfold c255_5
  split
  · exact ⟨mn_sCS, o255_121⟩
  · exact ⟨mn_sB2, o255_124⟩
  · exact ⟨mn_sIA, o255_125⟩
  · exact ⟨mn_sI2, o255_126⟩
  · exact ⟨mn_sK, o255_129⟩
  · exact ⟨mn_sGo, o255_130⟩
  · exact ⟨mn_sK, o255_133⟩
  · exact ⟨mn_sCV, o255_134⟩
  · exact ⟨mn_sLR, o255_137⟩
  · exact ⟨mn_sGI, o255_138⟩
  · exact ⟨mn_sI1, o255_141⟩
  · exact ⟨mn_sX, ok_X⟩
theorem oc255_6 : ∀ pc, Mnp (c255_6 pc) ∧ Okp RX12 cX12_heaps 9 none "heaps" false pc (c255_6 pc) := by
  intro pc
  unfold c255_6
  split
  · exact ⟨mn_sLR, o255_144⟩
  · exact ⟨mn_sLR, o255_145⟩
  · exact ⟨mn_sGR, o255_146⟩
  · exact ⟨mn_sK, o255_149⟩
  · exact ⟨mn_sLI, o255_151⟩
  · exact ⟨mn_sB2, o255_152⟩
  · exact ⟨mn_sK, o255_153⟩
  · exact ⟨mn_sLI, o255_155⟩
  · exact ⟨mn_sCS, o255_157⟩
  · exact ⟨mn_sB2, o255_160⟩
  · exact ⟨mn_sB2, o255_161⟩
  · exact ⟨mn_sLI, o255_162⟩
  · exact ⟨mn_sB2, o255_164⟩
  · exact ⟨mn_sIA, o255_165⟩
  · exact ⟨mn_sCV, o255_166⟩
  · exact ⟨mn_sX, ok_X⟩
theorem oc255_7 : ∀ pc, Mnp (c255_7 pc) ∧ Okp RX12 cX12_heaps 9 none "heaps" false pc (c255_7 pc) := by
  intro pc
  unfold c255_7
  split
  · exact ⟨mn_sGo, o255_169⟩
  · exact ⟨mn_sLR, o255_172⟩
  · exact ⟨mn_sCV, o255_173⟩
  · exact ⟨mn_sSI, o255_176⟩
  · exact ⟨mn_sLR, o255_178⟩
  · exact ⟨mn_sCV, o255_179⟩
  · exact ⟨mn_sSI, o255_182⟩
  · exact ⟨mn_sLR, o255_184⟩
  · exact ⟨mn_sGI, o255_185⟩
  · exact ⟨mn_sI1, o255_188⟩
  · exact ⟨mn_sGo, o255_191⟩
  · exact ⟨mn_sX, ok_X⟩
theorem oc255_8 : ∀ pc, Mnp (c255_8 pc) ∧ Okp RX12 cX12_heaps 9 none "heaps" false pc (c255_8 pc) := by
  intro pc
  unfold c255_8
  split
  · exact ⟨mn_sLR, o255_194⟩
  · exact ⟨mn_sLR, o255_195⟩
  · exact ⟨mn_sGI, o255_196⟩
  · exact ⟨mn_sI1, o255_199⟩
  · exact ⟨mn_sLI, o255_202⟩
  · exact ⟨mn_sLR, o255_204⟩
  · exact ⟨mn_sGR, o255_205⟩
  · exact ⟨mn_sK, o255_208⟩
  · exact ⟨mn_sLI, o255_210⟩
  · exact ⟨mn_sB2, o255_211⟩
  · exact ⟨mn_sLI, o255_212⟩
  · exact ⟨mn_sCS, o255_214⟩
  · exact ⟨mn_sX, ok_X⟩
theorem oc255_9 : ∀ pc, Mnp (c255_9 pc) ∧ Okp RX12 cX12_heaps 9 none "heaps" false pc (c255_9 pc) := by
  intro pc
  unfold c255_9
  split
  · exact ⟨mn_sB2, o255_217⟩
  · exact ⟨mn_sIA, o255_218⟩
  · exact ⟨mn_sI2, o255_219⟩
  · exact ⟨mn_sK, o255_222⟩
  · exact ⟨mn_sGo, o255_223⟩
  · exact ⟨mn_sK, o255_226⟩
  · exact ⟨mn_sCV, o255_227⟩
  · exact ⟨mn_sLR, o255_230⟩
  · exact ⟨mn_sGI, o255_231⟩
  · exact ⟨mn_sI1, o255_234⟩
  · exact ⟨mn_sLR, o255_237⟩
  · exact ⟨mn_sLI, o255_238⟩
  · exact ⟨mn_sX, ok_X⟩
theorem oc255_10 : ∀ pc, Mnp (c255_10 pc) ∧ Okp RX12 cX12_heaps 9 none "heaps" false pc (c255_10 pc) := by
  intro pc
  unfold c255_10
  split
  · exact ⟨mn_sLR, o255_240⟩
  · exact ⟨mn_sGR, o255_241⟩
  · exact ⟨mn_sK, o255_244⟩
  · exact ⟨mn_sLI, o255_246⟩
  · exact ⟨mn_sB2, o255_247⟩
  · exact ⟨mn_sK, o255_248⟩
  · exact ⟨mn_sLI, o255_250⟩
  · exact ⟨mn_sCS, o255_252⟩
  · exact ⟨mn_sB2, o255_255⟩
  · exact ⟨mn_sB2, o255_256⟩
  · exact ⟨mn_sLI, o255_257⟩
  · exact ⟨mn_sB2, o255_259⟩
  · exact ⟨mn_sIA, o255_260⟩
  · exact ⟨mn_sCV, o255_261⟩
  · exact ⟨mn_sX, ok_X⟩
theorem oc255_11 : ∀ pc, Mnp (c255_11 pc) ∧ Okp RX12 cX12_heaps 9 none "heaps" false pc (c255_11 pc) := by
  intro pc
  unfold c255_11
  split
  · exact ⟨mn_sGo, o255_264⟩
  · exact ⟨mn_sLR, o255_267⟩
  · exact ⟨mn_sK, o255_268⟩
  · exact ⟨mn_sCV, o255_269⟩
  · exact ⟨mn_sLR, o255_272⟩
  · exact ⟨mn_sGI, o255_273⟩
  · exact ⟨mn_sI1, o255_276⟩
  · exact ⟨mn_sLR, o255_279⟩
  · exact ⟨mn_sLI, o255_280⟩
  · exact ⟨mn_sK, o255_281⟩
  · exact ⟨mn_sI2, o255_283⟩
  · exact ⟨mn_sK, o255_286⟩
  · exact ⟨mn_sGo, o255_287⟩
  · exact ⟨mn_sX, ok_X⟩
theorem oc255_12 : ∀ pc, Mnp (c255_12 pc) ∧ Okp RX12 cX12_heaps 9 none "heaps" false pc (c255_12 pc) := by
  intro pc
  unfold c255_12
  split
  · exact ⟨mn_sK, o255_290⟩
  · exact ⟨mn_sK, o255_291⟩
  · exact ⟨mn_sLI, o255_293⟩
  · exact ⟨mn_sB2, o255_295⟩
  · exact ⟨mn_sB2, o255_296⟩
  · exact ⟨mn_sCV, o255_297⟩
  · exact ⟨mn_sGo, o255_300⟩
  · exact ⟨mn_sLR, o255_303⟩
  · exact ⟨mn_sCV, o255_304⟩
  · exact ⟨mn_sSI, o255_307⟩
  · exact ⟨mn_sLR, o255_309⟩
  · exact ⟨mn_sGI, o255_310⟩
  · exact ⟨mn_sX, ok_X⟩
theorem oc255_13 : ∀ pc, Mnp (c255_13 pc) ∧ Okp RX12 cX12_heaps 9 none "heaps" false pc (c255_13 pc) := by
  intro pc
  unfold c255_13
  split
  · exact ⟨mn_sI1, o255_313⟩
  · exact ⟨mn_sLR, o255_316⟩
  · exact ⟨mn_sGI, o255_317⟩
  · exact ⟨mn_sI1, o255_320⟩
  · exact ⟨mn_sLR, o255_323⟩
  · exact ⟨mn_sK, o255_324⟩
  · exact ⟨mn_sCV, o255_325⟩
  · exact ⟨mn_sGo, o255_328⟩
  · exact ⟨mn_sLR, o255_331⟩
  · exact ⟨mn_sK, o255_332⟩
  · exact ⟨mn_sCV, o255_333⟩
  · exact ⟨mn_sX, ok_X⟩
theorem oc255_14 : ∀ pc, Mnp (c255_14 pc) ∧ Okp RX12 cX12_heaps 9 none "heaps" false pc (c255_14 pc) := by
  intro pc
  unfold c255_14
  split
  · exact ⟨mn_sLR, o255_336⟩
  · exact ⟨mn_sCV, o255_337⟩
  · exact ⟨mn_sSI, o255_340⟩
  · exact ⟨mn_sLR, o255_342⟩
  · exact ⟨mn_sGI, o255_343⟩
  · exact ⟨mn_sI1, o255_346⟩
  · exact ⟨mn_sLR, o255_349⟩
  · exact ⟨mn_sGI, o255_350⟩
  · exact ⟨mn_sI1, o255_353⟩
  · exact ⟨mn_sLR, o255_356⟩
  · exact ⟨mn_sLI, o255_357⟩
  · exact ⟨mn_sCS, o255_359⟩
  · exact ⟨mn_sX, ok_X⟩
theorem oc255_15 : ∀ pc, Mnp (c255_15 pc) ∧ Okp RX12 cX12_heaps 9 none "heaps" false pc (c255_15 pc) := by
  intro pc
  unfold c255_15
  split
  · exact ⟨mn_sK, o255_362⟩
  · exact ⟨mn_sI2, o255_363⟩
  · exact ⟨mn_sK, o255_366⟩
  · exact ⟨mn_sGo, o255_367⟩
  · exact ⟨mn_sK, o255_370⟩
  · exact ⟨mn_sK, o255_371⟩
  · exact ⟨mn_sLI, o255_373⟩
  · exact ⟨mn_sCS, o255_375⟩
  · exact ⟨mn_sB2, o255_378⟩
  · exact ⟨mn_sB2, o255_379⟩
  · exact ⟨mn_sCV, o255_380⟩
  · exact ⟨mn_sGo, o255_383⟩
  · exact ⟨mn_sX, ok_X⟩
theorem oc255_16 : ∀ pc, Mnp (c255_16 pc) ∧ Okp RX12 cX12_heaps 9 none "heaps" false pc (c255_16 pc) := by
  intro pc
  unfold c255_16
  split
  · exact ⟨mn_sLR, o255_386⟩
  · exact ⟨mn_sCV, o255_387⟩
  · exact ⟨mn_sSI, o255_390⟩
  · exact ⟨mn_sLR, o255_392⟩
  · exact ⟨mn_sK, o255_393⟩
  · exact ⟨mn_sCV, o255_394⟩
  · exact ⟨mn_sLR, o255_397⟩
  · exact ⟨mn_sCV, o255_398⟩
  · exact ⟨mn_sSI, o255_401⟩
  · exact ⟨mn_sLR, o255_403⟩
  · exact ⟨mn_sGI, o255_404⟩
  · exact ⟨mn_sI1, o255_407⟩
  · exact ⟨mn_sX, ok_X⟩
theorem oc255_17 : ∀ pc, Mnp (c255_17 pc) ∧ Okp RX12 cX12_heaps 9 none "heaps" false pc (c255_17 pc) := by
  intro pc
  unfold c255_17
  split
  · exact ⟨mn_sLR, o255_410⟩
  · exact ⟨mn_sGI, o255_411⟩
  · exact ⟨mn_sI1, o255_414⟩
  · exact ⟨mn_sLR, o255_417⟩
  · exact ⟨mn_sLI, o255_418⟩
  · exact ⟨mn_sLI, o255_420⟩
  · exact ⟨mn_sCS, o255_422⟩
  · exact ⟨mn_sK, o255_425⟩
  · exact ⟨mn_sI2, o255_426⟩
  · exact ⟨mn_sK, o255_429⟩
  · exact ⟨mn_sGo, o255_430⟩
  · exact ⟨mn_sX, ok_X⟩
theorem oc255_18 : ∀ pc, Mnp (c255_18 pc) ∧ Okp RX12 cX12_heaps 9 none "heaps" false pc (c255_18 pc) := by
  intro pc
  unfold c255_18
  split
  · exact ⟨mn_sK, o255_433⟩
  · exact ⟨mn_sK, o255_434⟩
  · exact ⟨mn_sLI, o255_436⟩
  · exact ⟨mn_sCS, o255_438⟩
  · exact ⟨mn_sB2, o255_441⟩
  · exact ⟨mn_sB2, o255_442⟩
  · exact ⟨mn_sCV, o255_443⟩
  · exact ⟨mn_sGo, o255_446⟩
  · exact ⟨mn_sLR, o255_449⟩
  · exact ⟨mn_sK, o255_450⟩
  · exact ⟨mn_sLI, o255_452⟩
  · exact ⟨mn_sB2, o255_453⟩
  · exact ⟨mn_sLI, o255_454⟩
  · exact ⟨mn_sX, ok_X⟩
theorem oc255_19 : ∀ pc, Mnp (c255_19 pc) ∧ Okp RX12 cX12_heaps 9 none "heaps" false pc (c255_19 pc) := by
  intro pc
  unfold c255_19
  split
  · exact ⟨mn_sB2, o255_456⟩
  · exact ⟨mn_sCV, o255_457⟩
  · exact ⟨mn_sLR, o255_460⟩
  · exact ⟨mn_sGI, o255_461⟩
  · exact ⟨mn_sI1, o255_464⟩
  · exact ⟨mn_sLR, o255_467⟩
  · exact ⟨mn_sGR, o255_468⟩
  · exact ⟨mn_sK, o255_471⟩
  · exact ⟨mn_sLI, o255_473⟩
  · exact ⟨mn_sB2, o255_474⟩
  · exact ⟨mn_sLI, o255_475⟩
  · exact ⟨mn_sB2, o255_477⟩
  · exact ⟨mn_sIA, o255_478⟩
  · exact ⟨mn_sK, o255_479⟩
  · exact ⟨mn_sX, ok_X⟩
theorem oc255_20 : ∀ pc, Mnp (c255_20 pc) ∧ Okp RX12 cX12_heaps 9 none "heaps" false pc (c255_20 pc) := by
  intro pc
  unfold c255_20
  split
  · exact ⟨mn_sI2, o255_480⟩
  · exact ⟨mn_sLR, o255_483⟩
  · exact ⟨mn_sLR, o255_484⟩
  · exact ⟨mn_sGR, o255_485⟩
  · exact ⟨mn_sK, o255_488⟩
  · exact ⟨mn_sLI, o255_490⟩
  · exact ⟨mn_sB2, o255_491⟩
  · exact ⟨mn_sLI, o255_492⟩
  · exact ⟨mn_sB2, o255_494⟩
  · exact ⟨mn_sIA, o255_495⟩
  · exact ⟨mn_sCV, o255_496⟩
  · exact ⟨mn_sGo, o255_499⟩
  · exact ⟨mn_sLR, o255_502⟩
  · exact ⟨mn_sGR, o255_503⟩
  · exact ⟨mn_sX, ok_X⟩
theorem oc255_21 : ∀ pc, Mnp (c255_21 pc) ∧ Okp RX12 cX12_heaps 9 none "heaps" false pc (c255_21 pc) := by
  intro pc
  unfold c255_21
  split
  · exact ⟨mn_sLI, o255_506⟩
  · exact ⟨mn_sIA, o255_507⟩
  · exact ⟨mn_sK, o255_508⟩
  · exact ⟨mn_sI2, o255_509⟩
  · exact ⟨mn_sLR, o255_512⟩
  · exact ⟨mn_sLR, o255_513⟩
  · exact ⟨mn_sGR, o255_514⟩
  · exact ⟨mn_sLI, o255_517⟩
  · exact ⟨mn_sIA, o255_518⟩
  · exact ⟨mn_sCV, o255_519⟩
  · exact ⟨mn_sLR, o255_522⟩
  · exact ⟨mn_sLR, o255_523⟩
  · exact ⟨mn_sGI, o255_524⟩
  · exact ⟨mn_sI1, o255_527⟩
  · exact ⟨mn_sX, ok_X⟩
theorem oc255_22 : ∀ pc, Mnp (c255_22 pc) ∧ Okp RX12 cX12_heaps 9 none "heaps" false pc (c255_22 pc) := by
  intro pc
  unfold c255_22
  split
  · exact ⟨mn_sLR, o255_530⟩
  · exact ⟨mn_sGI, o255_531⟩
  · exact ⟨mn_sI1, o255_534⟩
  · exact ⟨mn_sK, o255_537⟩
  · exact ⟨mn_sGo, o255_538⟩
  · exact ⟨mn_sK, o255_541⟩
  · exact ⟨mn_sCV, o255_542⟩
  · exact ⟨mn_sK, o255_545⟩
  · exact ⟨mn_sSI, o255_546⟩
  · exact ⟨mn_sLI, o255_548⟩
  · exact ⟨mn_sK, o255_550⟩
  · exact ⟨mn_sX, ok_X⟩
theorem oc255_23 : ∀ pc, Mnp (c255_23 pc) ∧ Okp RX12 cX12_heaps 9 none "heaps" false pc (c255_23 pc) := by
  intro pc
  unfold c255_23
  split
  · exact ⟨mn_sI2, o255_552⟩
  · exact ⟨mn_sLR, o255_555⟩
  · exact ⟨mn_sLR, o255_556⟩
  · exact ⟨mn_sGR, o255_557⟩
  · exact ⟨mn_sLI, o255_560⟩
  · exact ⟨mn_sIA, o255_562⟩
  · exact ⟨mn_sCS, o255_563⟩
  · exact ⟨mn_sI1, o255_566⟩
  · exact ⟨mn_sK, o255_569⟩
  · exact ⟨mn_sGo, o255_570⟩
  · exact ⟨mn_sK, o255_573⟩
  · exact ⟨mn_sCV, o255_574⟩
  · exact ⟨mn_sX, ok_X⟩
theorem oc255_24 : ∀ pc, Mnp (c255_24 pc) ∧ Okp RX12 cX12_heaps 9 none "heaps" false pc (c255_24 pc) := by
  intro pc
  unfold c255_24
  split
  · exact ⟨mn_sInc, o255_577⟩
  · exact ⟨mn_sGo, o255_580⟩
  · exact ⟨mn_sRV, o255_583⟩
  · exact ⟨mn_sX, ok_X⟩
theorem oc255 : ∀ pc, Mnp (c255 pc) ∧ Okp RX12 cX12_heaps 9 none "heaps" false pc (c255 pc) := by
  intro pc
  unfold c255
  split
  · exact oc255_0 pc
  · exact oc255_2 pc
  · exact oc255_3 pc
  · exact oc255_4 pc
  · exact oc255_5 pc
  · exact oc255_6 pc
  · exact oc255_7 pc
  · exact oc255_8 pc
  · exact oc255_9 pc
  · exact oc255_10 pc
  · exact oc255_11 pc
  · exact oc255_12 pc
  · exact oc255_13 pc
  · exact oc255_14 pc
  · exact oc255_15 pc
  · exact oc255_16 pc
  · exact oc255_17 pc
  · exact oc255_18 pc
  · exact oc255_19 pc
  · exact oc255_20 pc
  · exact oc255_21 pc
  · exact oc255_22 pc
  · exact oc255_23 pc
  · exact oc255_24 pc
  · exact ⟨mn_sX, ok_X⟩
