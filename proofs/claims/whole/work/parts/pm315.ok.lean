theorem o327_0 : Okp RX12 cX12_output 3 (some .int) "output" false 0 (sLR 0 1) := ok_aload_n (by decide +kernel : decode cX12_output 0 = .ok (.aload_n 0, 1)) rfl
theorem o327_1 : Okp RX12 cX12_output 3 (some .int) "output" false 1 (sK 0 2) := ok_iconst (by decide +kernel : decode cX12_output 1 = .ok (.iconst 0, 1)) (by decide)
theorem o327_2 : Okp RX12 cX12_output 3 (some .int) "output" false 2 (sPI 13 0 5) := ok_putI (by decide +kernel : decode cX12_output 2 = .ok (.putfield 227, 3)) fw_X12_227 ⟨⟨tyX12_ok, nmX12⟩, Or.inl rfl, rfl⟩ rfl
theorem o327_5 : Okp RX12 cX12_output 3 (some .int) "output" false 5 (sLR 0 6) := ok_aload_n (by decide +kernel : decode cX12_output 5 = .ok (.aload_n 0, 1)) rfl
theorem o327_6 : Okp RX12 cX12_output 3 (some .int) "output" false 6 (sGI 13 51 9) := ok_getI (by decide +kernel : decode cX12_output 6 = .ok (.getfield 457, 3)) fw_X12_457 rfl
theorem o327_9 : Okp RX12 cX12_output 3 (some .int) "output" false 9 (sI1 0 24 12) := ok_if_eq (by decide +kernel : decode cX12_output 9 = .ok (.ifCond .eq 15, 3)) (by decide)
theorem o327_12 : Okp RX12 cX12_output 3 (some .int) "output" false 12 (sLI 1 13) := ok_iload_n (by decide +kernel : decode cX12_output 12 = .ok (.iload_n 1, 1)) rfl
theorem o327_13 : Okp RX12 cX12_output 3 (some .int) "output" false 13 (sI1 2 24 16) := ok_if_lt (by decide +kernel : decode cX12_output 13 = .ok (.ifCond .lt 11, 3)) (by decide)
theorem o327_16 : Okp RX12 cX12_output 3 (some .int) "output" false 16 (sLI 1 17) := ok_iload_n (by decide +kernel : decode cX12_output 16 = .ok (.iload_n 1, 1)) rfl
theorem o327_17 : Okp RX12 cX12_output 3 (some .int) "output" false 17 (sLR 0 18) := ok_aload_n (by decide +kernel : decode cX12_output 17 = .ok (.aload_n 0, 1)) rfl
theorem o327_18 : Okp RX12 cX12_output 3 (some .int) "output" false 18 (sGI 13 55 21) := ok_getI (by decide +kernel : decode cX12_output 18 = .ok (.getfield 469, 3)) fw_X12_469 rfl
theorem o327_21 : Okp RX12 cX12_output 3 (some .int) "output" false 21 (sI2 2 26 24) := ok_icmp_lt (by decide +kernel : decode cX12_output 21 = .ok (.if_icmp .lt 5, 3)) (by decide)
theorem o327_24 : Okp RX12 cX12_output 3 (some .int) "output" false 24 (sK (-1) 25) := ok_iconst (by decide +kernel : decode cX12_output 24 = .ok (.iconst (-1), 1)) (by decide)
theorem o327_25 : Okp RX12 cX12_output 3 (some .int) "output" false 25 sRI := ok_iret rfl (by decide +kernel : decode cX12_output 25 = .ok (.ireturn, 1))
theorem o327_26 : Okp RX12 cX12_output 3 (some .int) "output" false 26 (sLI 2 27) := ok_iload_n (by decide +kernel : decode cX12_output 26 = .ok (.iload_n 2, 1)) rfl
theorem o327_27 : Okp RX12 cX12_output 3 (some .int) "output" false 27 (sI1 1 39 30) := ok_if_ne (by decide +kernel : decode cX12_output 27 = .ok (.ifCond .ne 12, 3)) (by decide)
theorem o327_30 : Okp RX12 cX12_output 3 (some .int) "output" false 30 (sLR 0 31) := ok_aload_n (by decide +kernel : decode cX12_output 30 = .ok (.aload_n 0, 1)) rfl
theorem o327_31 : Okp RX12 cX12_output 3 (some .int) "output" false 31 (sGR 13 57 34) := ok_getR (by decide +kernel : decode cX12_output 31 = .ok (.getfield 131, 3)) fw_X12_131 rfl
theorem o327_34 : Okp RX12 cX12_output 3 (some .int) "output" false 34 (sLI 1 35) := ok_iload_n (by decide +kernel : decode cX12_output 34 = .ok (.iload_n 1, 1)) rfl
theorem o327_35 : Okp RX12 cX12_output 3 (some .int) "output" false 35 (sIA 36) := ok_iaload (by decide +kernel : decode cX12_output 35 = .ok (.iaload, 1))
theorem o327_36 : Okp RX12 cX12_output 3 (some .int) "output" false 36 (sGo 54) := ok_goto (by decide +kernel : decode cX12_output 36 = .ok (.goto 18, 3)) (by decide)
theorem o327_39 : Okp RX12 cX12_output 3 (some .int) "output" false 39 (sLI 2 40) := ok_iload_n (by decide +kernel : decode cX12_output 39 = .ok (.iload_n 2, 1)) rfl
theorem o327_40 : Okp RX12 cX12_output 3 (some .int) "output" false 40 (sK 1 41) := ok_iconst (by decide +kernel : decode cX12_output 40 = .ok (.iconst 1, 1)) (by decide)
theorem o327_41 : Okp RX12 cX12_output 3 (some .int) "output" false 41 (sI2 1 53 44) := ok_icmp_ne (by decide +kernel : decode cX12_output 41 = .ok (.if_icmp .ne 12, 3)) (by decide)
theorem o327_44 : Okp RX12 cX12_output 3 (some .int) "output" false 44 (sLR 0 45) := ok_aload_n (by decide +kernel : decode cX12_output 44 = .ok (.aload_n 0, 1)) rfl
theorem o327_45 : Okp RX12 cX12_output 3 (some .int) "output" false 45 (sGR 13 58 48) := ok_getR (by decide +kernel : decode cX12_output 45 = .ok (.getfield 134, 3)) fw_X12_134 rfl
theorem o327_48 : Okp RX12 cX12_output 3 (some .int) "output" false 48 (sLI 1 49) := ok_iload_n (by decide +kernel : decode cX12_output 48 = .ok (.iload_n 1, 1)) rfl
theorem o327_49 : Okp RX12 cX12_output 3 (some .int) "output" false 49 (sIA 50) := ok_iaload (by decide +kernel : decode cX12_output 49 = .ok (.iaload, 1))
theorem o327_50 : Okp RX12 cX12_output 3 (some .int) "output" false 50 (sGo 54) := ok_goto (by decide +kernel : decode cX12_output 50 = .ok (.goto 4, 3)) (by decide)
theorem o327_53 : Okp RX12 cX12_output 3 (some .int) "output" false 53 (sK (-1) 54) := ok_iconst (by decide +kernel : decode cX12_output 53 = .ok (.iconst (-1), 1)) (by decide)
theorem o327_54 : Okp RX12 cX12_output 3 (some .int) "output" false 54 sRI := ok_iret rfl (by decide +kernel : decode cX12_output 54 = .ok (.ireturn, 1))
theorem oc327_0 : ∀ pc, Mnp (c327_0 pc) ∧ Okp RX12 cX12_output 3 (some .int) "output" false pc (c327_0 pc) := by
  intro pc
  unfold c327_0
  split
  · exact ⟨mn_sLR, o327_0⟩
  · exact ⟨mn_sK, o327_1⟩
  · exact ⟨mn_sPI, o327_2⟩
  · exact ⟨mn_sLR, o327_5⟩
  · exact ⟨mn_sGI, o327_6⟩
  · exact ⟨mn_sI1, o327_9⟩
  · exact ⟨mn_sLI, o327_12⟩
  · exact ⟨mn_sI1, o327_13⟩
  · exact ⟨mn_sLI, o327_16⟩
  · exact ⟨mn_sLR, o327_17⟩
  · exact ⟨mn_sGI, o327_18⟩
  · exact ⟨mn_sI2, o327_21⟩
  · exact ⟨mn_sX, ok_X⟩
theorem oc327_1 : ∀ pc, Mnp (c327_1 pc) ∧ Okp RX12 cX12_output 3 (some .int) "output" false pc (c327_1 pc) := by
  intro pc
  unfold c327_1
  split
  · exact ⟨mn_sK, o327_24⟩
  · exact ⟨mn_sRI, o327_25⟩
  · exact ⟨mn_sLI, o327_26⟩
  · exact ⟨mn_sI1, o327_27⟩
  · exact ⟨mn_sLR, o327_30⟩
  · exact ⟨mn_sGR, o327_31⟩
  · exact ⟨mn_sLI, o327_34⟩
  · exact ⟨mn_sIA, o327_35⟩
  · exact ⟨mn_sGo, o327_36⟩
  · exact ⟨mn_sLI, o327_39⟩
  · exact ⟨mn_sK, o327_40⟩
  · exact ⟨mn_sI2, o327_41⟩
  · exact ⟨mn_sLR, o327_44⟩
  · exact ⟨mn_sGR, o327_45⟩
  · exact ⟨mn_sX, ok_X⟩
theorem oc327_2 : ∀ pc, Mnp (c327_2 pc) ∧ Okp RX12 cX12_output 3 (some .int) "output" false pc (c327_2 pc) := by
  intro pc
  unfold c327_2
  split
  · exact ⟨mn_sLI, o327_48⟩
  · exact ⟨mn_sIA, o327_49⟩
  · exact ⟨mn_sGo, o327_50⟩
  · exact ⟨mn_sK, o327_53⟩
  · exact ⟨mn_sRI, o327_54⟩
  · exact ⟨mn_sX, ok_X⟩
theorem oc327 : ∀ pc, Mnp (c327 pc) ∧ Okp RX12 cX12_output 3 (some .int) "output" false pc (c327 pc) := by
  intro pc
  unfold c327
  split
  · exact oc327_0 pc
  · exact oc327_1 pc
  · exact oc327_2 pc
  · exact ⟨mn_sX, ok_X⟩
theorem o328_0 : Okp RL cL_law 4 (some .boolean) "law" false 0 (sNew 12 9 3) := ok_new (by decide +kernel : decode cL_law 0 = .ok (.new 7, 3)) ⟨rfl, rfl, by decide, cw_X11, tyX11_ok, wl_L_7, wn_X11, wi_SealedProcesses, df_X11⟩
theorem o328_3 : Okp RL cL_law 4 (some .boolean) "law" false 3 (sDup 4) := ok_dup (by decide +kernel : decode cL_law 3 = .ok (.dup, 1))
theorem o328_4 : Okp RL cL_law 4 (some .boolean) "law" false 4 (sCI 185 1 7) := ok_ci (by decide +kernel : decode cL_law 4 = .ok (.invokespecial 9, 3)) mw_L_9 rfl rfl wm_X11_init (by decide) rfl
theorem o328_7 : Okp RL cL_law 4 (some .boolean) "law" false 7 (sSR 1 8) := ok_astore_n (by decide +kernel : decode cL_law 7 = .ok (.astore_n 1, 1)) rfl (by decide) (by decide)
theorem o328_8 : Okp RL cL_law 4 (some .boolean) "law" false 8 (sNew 13 90 11) := ok_new (by decide +kernel : decode cL_law 8 = .ok (.new 10, 3)) ⟨rfl, rfl, by decide, cw_X12, tyX12_ok, wl_L_10, wn_X12, wi_SealedProcessesModel, df_X12⟩
theorem o328_11 : Okp RL cL_law 4 (some .boolean) "law" false 11 (sDup 12) := ok_dup (by decide +kernel : decode cL_law 11 = .ok (.dup, 1))
theorem o328_12 : Okp RL cL_law 4 (some .boolean) "law" false 12 (sCI 216 1 15) := ok_ci (by decide +kernel : decode cL_law 12 = .ok (.invokespecial 12, 3)) mw_L_12 rfl rfl wm_X12_init (by decide) rfl
theorem o328_15 : Okp RL cL_law 4 (some .boolean) "law" false 15 (sSR 2 16) := ok_astore_n (by decide +kernel : decode cL_law 15 = .ok (.astore_n 2, 1)) rfl (by decide) (by decide)
theorem o328_16 : Okp RL cL_law 4 (some .boolean) "law" false 16 (sK 0 17) := ok_iconst (by decide +kernel : decode cL_law 16 = .ok (.iconst 0, 1)) (by decide)
theorem o328_17 : Okp RL cL_law 4 (some .boolean) "law" false 17 (sSI 3 18) := ok_istore_n (by decide +kernel : decode cL_law 17 = .ok (.istore_n 3, 1)) rfl (by decide) (by decide)
theorem o328_18 : Okp RL cL_law 4 (some .boolean) "law" false 18 (sLI 3 19) := ok_iload_n (by decide +kernel : decode cL_law 18 = .ok (.iload_n 3, 1)) rfl
theorem o328_19 : Okp RL cL_law 4 (some .boolean) "law" false 19 (sLR 0 20) := ok_aload_n (by decide +kernel : decode cL_law 19 = .ok (.aload_n 0, 1)) rfl
theorem o328_20 : Okp RL cL_law 4 (some .boolean) "law" false 20 (sLen 21) := ok_alen (by decide +kernel : decode cL_law 20 = .ok (.arraylength, 1))
theorem o328_21 : Okp RL cL_law 4 (some .boolean) "law" false 21 (sK 6 23) := ok_bipush (by decide +kernel : decode cL_law 21 = .ok (.bipush 6, 2)) (by decide)
theorem o328_23 : Okp RL cL_law 4 (some .boolean) "law" false 23 (sB2 fSub 24) := ok_isub (by decide +kernel : decode cL_law 23 = .ok (.isub, 1))
theorem o328_24 : Okp RL cL_law 4 (some .boolean) "law" false 24 (sI2 4 602 27) := ok_icmp_gt (by decide +kernel : decode cL_law 24 = .ok (.if_icmp .gt 578, 3)) (by decide)
theorem o328_27 : Okp RL cL_law 4 (some .boolean) "law" false 27 (sLR 0 28) := ok_aload_n (by decide +kernel : decode cL_law 27 = .ok (.aload_n 0, 1)) rfl
theorem o328_28 : Okp RL cL_law 4 (some .boolean) "law" false 28 (sLI 3 29) := ok_iload_n (by decide +kernel : decode cL_law 28 = .ok (.iload_n 3, 1)) rfl
theorem o328_29 : Okp RL cL_law 4 (some .boolean) "law" false 29 (sIA 30) := ok_iaload (by decide +kernel : decode cL_law 29 = .ok (.iaload, 1))
theorem o328_30 : Okp RL cL_law 4 (some .boolean) "law" false 30 (sK 15 32) := ok_bipush (by decide +kernel : decode cL_law 30 = .ok (.bipush 15, 2)) (by decide)
theorem o328_32 : Okp RL cL_law 4 (some .boolean) "law" false 32 (sB2 fAnd 33) := ok_iand (by decide +kernel : decode cL_law 32 = .ok (.iand, 1))
theorem o328_33 : Okp RL cL_law 4 (some .boolean) "law" false 33 (sSw [(0, 104), (1, 167), (2, 190), (3, 213), (4, 236), (5, 279), (6, 342), (7, 365), (8, 388), (9, 411), (10, 444), (11, 487), (12, 520), (13, 563)] 596) := ok_tsw (by decide +kernel : decode cL_law 33 = .ok (.tableswitch 563 0 13 #[71, 134, 157, 180, 203, 246, 309, 332, 355, 378, 411, 454, 487, 530], 71)) (by decide) (by decide) (by decide)
theorem o328_104 : Okp RL cL_law 4 (some .boolean) "law" false 104 (sLR 1 105) := ok_aload_n (by decide +kernel : decode cL_law 104 = .ok (.aload_n 1, 1)) rfl
theorem o328_105 : Okp RL cL_law 4 (some .boolean) "law" false 105 (sLR 0 106) := ok_aload_n (by decide +kernel : decode cL_law 105 = .ok (.aload_n 0, 1)) rfl
theorem o328_106 : Okp RL cL_law 4 (some .boolean) "law" false 106 (sLI 3 107) := ok_iload_n (by decide +kernel : decode cL_law 106 = .ok (.iload_n 3, 1)) rfl
theorem o328_107 : Okp RL cL_law 4 (some .boolean) "law" false 107 (sK 1 108) := ok_iconst (by decide +kernel : decode cL_law 107 = .ok (.iconst 1, 1)) (by decide)
theorem o328_108 : Okp RL cL_law 4 (some .boolean) "law" false 108 (sB2 fAdd 109) := ok_iadd (by decide +kernel : decode cL_law 108 = .ok (.iadd, 1))
theorem o328_109 : Okp RL cL_law 4 (some .boolean) "law" false 109 (sIA 110) := ok_iaload (by decide +kernel : decode cL_law 109 = .ok (.iaload, 1))
theorem o328_110 : Okp RL cL_law 4 (some .boolean) "law" false 110 (sLR 0 111) := ok_aload_n (by decide +kernel : decode cL_law 110 = .ok (.aload_n 0, 1)) rfl
theorem o328_111 : Okp RL cL_law 4 (some .boolean) "law" false 111 (sLI 3 112) := ok_iload_n (by decide +kernel : decode cL_law 111 = .ok (.iload_n 3, 1)) rfl
theorem o328_112 : Okp RL cL_law 4 (some .boolean) "law" false 112 (sK 2 113) := ok_iconst (by decide +kernel : decode cL_law 112 = .ok (.iconst 2, 1)) (by decide)
theorem o328_113 : Okp RL cL_law 4 (some .boolean) "law" false 113 (sB2 fAdd 114) := ok_iadd (by decide +kernel : decode cL_law 113 = .ok (.iadd, 1))
theorem o328_114 : Okp RL cL_law 4 (some .boolean) "law" false 114 (sIA 115) := ok_iaload (by decide +kernel : decode cL_law 114 = .ok (.iaload, 1))
theorem o328_115 : Okp RL cL_law 4 (some .boolean) "law" false 115 (sLR 0 116) := ok_aload_n (by decide +kernel : decode cL_law 115 = .ok (.aload_n 0, 1)) rfl
theorem o328_116 : Okp RL cL_law 4 (some .boolean) "law" false 116 (sLI 3 117) := ok_iload_n (by decide +kernel : decode cL_law 116 = .ok (.iload_n 3, 1)) rfl
theorem o328_117 : Okp RL cL_law 4 (some .boolean) "law" false 117 (sK 3 118) := ok_iconst (by decide +kernel : decode cL_law 117 = .ok (.iconst 3, 1)) (by decide)
theorem o328_118 : Okp RL cL_law 4 (some .boolean) "law" false 118 (sB2 fAdd 119) := ok_iadd (by decide +kernel : decode cL_law 118 = .ok (.iadd, 1))
theorem o328_119 : Okp RL cL_law 4 (some .boolean) "law" false 119 (sIA 120) := ok_iaload (by decide +kernel : decode cL_law 119 = .ok (.iaload, 1))
theorem o328_120 : Okp RL cL_law 4 (some .boolean) "law" false 120 (sLR 0 121) := ok_aload_n (by decide +kernel : decode cL_law 120 = .ok (.aload_n 0, 1)) rfl
theorem o328_121 : Okp RL cL_law 4 (some .boolean) "law" false 121 (sLI 3 122) := ok_iload_n (by decide +kernel : decode cL_law 121 = .ok (.iload_n 3, 1)) rfl
theorem o328_122 : Okp RL cL_law 4 (some .boolean) "law" false 122 (sK 4 123) := ok_iconst (by decide +kernel : decode cL_law 122 = .ok (.iconst 4, 1)) (by decide)
theorem o328_123 : Okp RL cL_law 4 (some .boolean) "law" false 123 (sB2 fAdd 124) := ok_iadd (by decide +kernel : decode cL_law 123 = .ok (.iadd, 1))
theorem o328_124 : Okp RL cL_law 4 (some .boolean) "law" false 124 (sIA 125) := ok_iaload (by decide +kernel : decode cL_law 124 = .ok (.iaload, 1))
theorem o328_125 : Okp RL cL_law 4 (some .boolean) "law" false 125 (sLR 0 126) := ok_aload_n (by decide +kernel : decode cL_law 125 = .ok (.aload_n 0, 1)) rfl
theorem o328_126 : Okp RL cL_law 4 (some .boolean) "law" false 126 (sLI 3 127) := ok_iload_n (by decide +kernel : decode cL_law 126 = .ok (.iload_n 3, 1)) rfl
theorem o328_127 : Okp RL cL_law 4 (some .boolean) "law" false 127 (sK 5 128) := ok_iconst (by decide +kernel : decode cL_law 127 = .ok (.iconst 5, 1)) (by decide)
theorem o328_128 : Okp RL cL_law 4 (some .boolean) "law" false 128 (sB2 fAdd 129) := ok_iadd (by decide +kernel : decode cL_law 128 = .ok (.iadd, 1))
theorem o328_129 : Okp RL cL_law 4 (some .boolean) "law" false 129 (sIA 130) := ok_iaload (by decide +kernel : decode cL_law 129 = .ok (.iaload, 1))
theorem o328_130 : Okp RL cL_law 4 (some .boolean) "law" false 130 (sCV false 186 6 12 133) := ok_cv (by decide +kernel : decode cL_law 130 = .ok (.invokevirtual 13, 3)) mw_L_13 rfl (by decide) wm_X11_feed wse_X11_feed (by decide) rfl
theorem o328_133 : Okp RL cL_law 4 (some .boolean) "law" false 133 (sLR 2 134) := ok_aload_n (by decide +kernel : decode cL_law 133 = .ok (.aload_n 2, 1)) rfl
theorem o328_134 : Okp RL cL_law 4 (some .boolean) "law" false 134 (sLR 0 135) := ok_aload_n (by decide +kernel : decode cL_law 134 = .ok (.aload_n 0, 1)) rfl
theorem o328_135 : Okp RL cL_law 4 (some .boolean) "law" false 135 (sLI 3 136) := ok_iload_n (by decide +kernel : decode cL_law 135 = .ok (.iload_n 3, 1)) rfl
theorem o328_136 : Okp RL cL_law 4 (some .boolean) "law" false 136 (sK 1 137) := ok_iconst (by decide +kernel : decode cL_law 136 = .ok (.iconst 1, 1)) (by decide)
theorem o328_137 : Okp RL cL_law 4 (some .boolean) "law" false 137 (sB2 fAdd 138) := ok_iadd (by decide +kernel : decode cL_law 137 = .ok (.iadd, 1))
theorem o328_138 : Okp RL cL_law 4 (some .boolean) "law" false 138 (sIA 139) := ok_iaload (by decide +kernel : decode cL_law 138 = .ok (.iaload, 1))
theorem o328_139 : Okp RL cL_law 4 (some .boolean) "law" false 139 (sLR 0 140) := ok_aload_n (by decide +kernel : decode cL_law 139 = .ok (.aload_n 0, 1)) rfl
theorem o328_140 : Okp RL cL_law 4 (some .boolean) "law" false 140 (sLI 3 141) := ok_iload_n (by decide +kernel : decode cL_law 140 = .ok (.iload_n 3, 1)) rfl
theorem o328_141 : Okp RL cL_law 4 (some .boolean) "law" false 141 (sK 2 142) := ok_iconst (by decide +kernel : decode cL_law 141 = .ok (.iconst 2, 1)) (by decide)
theorem o328_142 : Okp RL cL_law 4 (some .boolean) "law" false 142 (sB2 fAdd 143) := ok_iadd (by decide +kernel : decode cL_law 142 = .ok (.iadd, 1))
theorem o328_143 : Okp RL cL_law 4 (some .boolean) "law" false 143 (sIA 144) := ok_iaload (by decide +kernel : decode cL_law 143 = .ok (.iaload, 1))
theorem o328_144 : Okp RL cL_law 4 (some .boolean) "law" false 144 (sLR 0 145) := ok_aload_n (by decide +kernel : decode cL_law 144 = .ok (.aload_n 0, 1)) rfl
theorem o328_145 : Okp RL cL_law 4 (some .boolean) "law" false 145 (sLI 3 146) := ok_iload_n (by decide +kernel : decode cL_law 145 = .ok (.iload_n 3, 1)) rfl
theorem o328_146 : Okp RL cL_law 4 (some .boolean) "law" false 146 (sK 3 147) := ok_iconst (by decide +kernel : decode cL_law 146 = .ok (.iconst 3, 1)) (by decide)
theorem o328_147 : Okp RL cL_law 4 (some .boolean) "law" false 147 (sB2 fAdd 148) := ok_iadd (by decide +kernel : decode cL_law 147 = .ok (.iadd, 1))
theorem o328_148 : Okp RL cL_law 4 (some .boolean) "law" false 148 (sIA 149) := ok_iaload (by decide +kernel : decode cL_law 148 = .ok (.iaload, 1))
theorem o328_149 : Okp RL cL_law 4 (some .boolean) "law" false 149 (sLR 0 150) := ok_aload_n (by decide +kernel : decode cL_law 149 = .ok (.aload_n 0, 1)) rfl
theorem o328_150 : Okp RL cL_law 4 (some .boolean) "law" false 150 (sLI 3 151) := ok_iload_n (by decide +kernel : decode cL_law 150 = .ok (.iload_n 3, 1)) rfl
theorem o328_151 : Okp RL cL_law 4 (some .boolean) "law" false 151 (sK 4 152) := ok_iconst (by decide +kernel : decode cL_law 151 = .ok (.iconst 4, 1)) (by decide)
theorem o328_152 : Okp RL cL_law 4 (some .boolean) "law" false 152 (sB2 fAdd 153) := ok_iadd (by decide +kernel : decode cL_law 152 = .ok (.iadd, 1))
theorem o328_153 : Okp RL cL_law 4 (some .boolean) "law" false 153 (sIA 154) := ok_iaload (by decide +kernel : decode cL_law 153 = .ok (.iaload, 1))
theorem o328_154 : Okp RL cL_law 4 (some .boolean) "law" false 154 (sLR 0 155) := ok_aload_n (by decide +kernel : decode cL_law 154 = .ok (.aload_n 0, 1)) rfl
theorem o328_155 : Okp RL cL_law 4 (some .boolean) "law" false 155 (sLI 3 156) := ok_iload_n (by decide +kernel : decode cL_law 155 = .ok (.iload_n 3, 1)) rfl
theorem o328_156 : Okp RL cL_law 4 (some .boolean) "law" false 156 (sK 5 157) := ok_iconst (by decide +kernel : decode cL_law 156 = .ok (.iconst 5, 1)) (by decide)
theorem o328_157 : Okp RL cL_law 4 (some .boolean) "law" false 157 (sB2 fAdd 158) := ok_iadd (by decide +kernel : decode cL_law 157 = .ok (.iadd, 1))
theorem o328_158 : Okp RL cL_law 4 (some .boolean) "law" false 158 (sIA 159) := ok_iaload (by decide +kernel : decode cL_law 158 = .ok (.iaload, 1))
theorem o328_159 : Okp RL cL_law 4 (some .boolean) "law" false 159 (sCV false 217 6 13 162) := ok_cv (by decide +kernel : decode cL_law 159 = .ok (.invokevirtual 17, 3)) mw_L_17 rfl (by decide) wm_X12_feed wse_X12_feed (by decide) rfl
theorem o328_162 : Okp RL cL_law 4 (some .boolean) "law" false 162 (sI2 0 596 165) := ok_icmp_eq (by decide +kernel : decode cL_law 162 = .ok (.if_icmp .eq 434, 3)) (by decide)
theorem o328_165 : Okp RL cL_law 4 (some .boolean) "law" false 165 (sK 0 166) := ok_iconst (by decide +kernel : decode cL_law 165 = .ok (.iconst 0, 1)) (by decide)
theorem o328_166 : Okp RL cL_law 4 (some .boolean) "law" false 166 sRZ := ok_zret rfl (by decide +kernel : decode cL_law 166 = .ok (.ireturn, 1))
theorem o328_167 : Okp RL cL_law 4 (some .boolean) "law" false 167 (sLR 1 168) := ok_aload_n (by decide +kernel : decode cL_law 167 = .ok (.aload_n 1, 1)) rfl
theorem o328_168 : Okp RL cL_law 4 (some .boolean) "law" false 168 (sLR 0 169) := ok_aload_n (by decide +kernel : decode cL_law 168 = .ok (.aload_n 0, 1)) rfl
theorem o328_169 : Okp RL cL_law 4 (some .boolean) "law" false 169 (sLI 3 170) := ok_iload_n (by decide +kernel : decode cL_law 169 = .ok (.iload_n 3, 1)) rfl
theorem o328_170 : Okp RL cL_law 4 (some .boolean) "law" false 170 (sK 1 171) := ok_iconst (by decide +kernel : decode cL_law 170 = .ok (.iconst 1, 1)) (by decide)
theorem o328_171 : Okp RL cL_law 4 (some .boolean) "law" false 171 (sB2 fAdd 172) := ok_iadd (by decide +kernel : decode cL_law 171 = .ok (.iadd, 1))
theorem o328_172 : Okp RL cL_law 4 (some .boolean) "law" false 172 (sIA 173) := ok_iaload (by decide +kernel : decode cL_law 172 = .ok (.iaload, 1))
theorem o328_173 : Okp RL cL_law 4 (some .boolean) "law" false 173 (sCV false 187 2 12 176) := ok_cv (by decide +kernel : decode cL_law 173 = .ok (.invokevirtual 18, 3)) mw_L_18 rfl (by decide) wm_X11_load wse_X11_load (by decide) rfl
theorem o328_176 : Okp RL cL_law 4 (some .boolean) "law" false 176 (sLR 2 177) := ok_aload_n (by decide +kernel : decode cL_law 176 = .ok (.aload_n 2, 1)) rfl
theorem o328_177 : Okp RL cL_law 4 (some .boolean) "law" false 177 (sLR 0 178) := ok_aload_n (by decide +kernel : decode cL_law 177 = .ok (.aload_n 0, 1)) rfl
theorem o328_178 : Okp RL cL_law 4 (some .boolean) "law" false 178 (sLI 3 179) := ok_iload_n (by decide +kernel : decode cL_law 178 = .ok (.iload_n 3, 1)) rfl
theorem o328_179 : Okp RL cL_law 4 (some .boolean) "law" false 179 (sK 1 180) := ok_iconst (by decide +kernel : decode cL_law 179 = .ok (.iconst 1, 1)) (by decide)
theorem o328_180 : Okp RL cL_law 4 (some .boolean) "law" false 180 (sB2 fAdd 181) := ok_iadd (by decide +kernel : decode cL_law 180 = .ok (.iadd, 1))
theorem o328_181 : Okp RL cL_law 4 (some .boolean) "law" false 181 (sIA 182) := ok_iaload (by decide +kernel : decode cL_law 181 = .ok (.iaload, 1))
theorem o328_182 : Okp RL cL_law 4 (some .boolean) "law" false 182 (sCV false 264 2 13 185) := ok_cvW (by decide +kernel : decode cL_law 182 = .ok (.invokevirtual 22, 3)) rfl wc_X12_load wi_SealedProcessesModel ⟨by decide, by decide⟩ (fun sig h => by cases h; rfl) (by decide) wq_L_22 rfl (by decide) wm_X12_load wse_X12_load (by decide) rfl
theorem o328_185 : Okp RL cL_law 4 (some .boolean) "law" false 185 (sI2 0 596 188) := ok_icmp_eq (by decide +kernel : decode cL_law 185 = .ok (.if_icmp .eq 411, 3)) (by decide)
theorem o328_188 : Okp RL cL_law 4 (some .boolean) "law" false 188 (sK 0 189) := ok_iconst (by decide +kernel : decode cL_law 188 = .ok (.iconst 0, 1)) (by decide)
theorem o328_189 : Okp RL cL_law 4 (some .boolean) "law" false 189 sRZ := ok_zret rfl (by decide +kernel : decode cL_law 189 = .ok (.ireturn, 1))
theorem o328_190 : Okp RL cL_law 4 (some .boolean) "law" false 190 (sLR 1 191) := ok_aload_n (by decide +kernel : decode cL_law 190 = .ok (.aload_n 1, 1)) rfl
theorem o328_191 : Okp RL cL_law 4 (some .boolean) "law" false 191 (sLR 0 192) := ok_aload_n (by decide +kernel : decode cL_law 191 = .ok (.aload_n 0, 1)) rfl
theorem o328_192 : Okp RL cL_law 4 (some .boolean) "law" false 192 (sLI 3 193) := ok_iload_n (by decide +kernel : decode cL_law 192 = .ok (.iload_n 3, 1)) rfl
theorem o328_193 : Okp RL cL_law 4 (some .boolean) "law" false 193 (sK 1 194) := ok_iconst (by decide +kernel : decode cL_law 193 = .ok (.iconst 1, 1)) (by decide)
theorem o328_194 : Okp RL cL_law 4 (some .boolean) "law" false 194 (sB2 fAdd 195) := ok_iadd (by decide +kernel : decode cL_law 194 = .ok (.iadd, 1))
theorem o328_195 : Okp RL cL_law 4 (some .boolean) "law" false 195 (sIA 196) := ok_iaload (by decide +kernel : decode cL_law 195 = .ok (.iaload, 1))
theorem o328_196 : Okp RL cL_law 4 (some .boolean) "law" false 196 (sCV false 188 2 12 199) := ok_cv (by decide +kernel : decode cL_law 196 = .ok (.invokevirtual 23, 3)) mw_L_23 rfl (by decide) wm_X11_fault wse_X11_fault (by decide) rfl
theorem o328_199 : Okp RL cL_law 4 (some .boolean) "law" false 199 (sLR 2 200) := ok_aload_n (by decide +kernel : decode cL_law 199 = .ok (.aload_n 2, 1)) rfl
theorem o328_200 : Okp RL cL_law 4 (some .boolean) "law" false 200 (sLR 0 201) := ok_aload_n (by decide +kernel : decode cL_law 200 = .ok (.aload_n 0, 1)) rfl
theorem o328_201 : Okp RL cL_law 4 (some .boolean) "law" false 201 (sLI 3 202) := ok_iload_n (by decide +kernel : decode cL_law 201 = .ok (.iload_n 3, 1)) rfl
theorem o328_202 : Okp RL cL_law 4 (some .boolean) "law" false 202 (sK 1 203) := ok_iconst (by decide +kernel : decode cL_law 202 = .ok (.iconst 1, 1)) (by decide)
theorem o328_203 : Okp RL cL_law 4 (some .boolean) "law" false 203 (sB2 fAdd 204) := ok_iadd (by decide +kernel : decode cL_law 203 = .ok (.iadd, 1))
theorem o328_204 : Okp RL cL_law 4 (some .boolean) "law" false 204 (sIA 205) := ok_iaload (by decide +kernel : decode cL_law 204 = .ok (.iaload, 1))
theorem o328_205 : Okp RL cL_law 4 (some .boolean) "law" false 205 (sCV false 219 2 13 208) := ok_cv (by decide +kernel : decode cL_law 205 = .ok (.invokevirtual 26, 3)) mw_L_26 rfl (by decide) wm_X12_fault wse_X12_fault (by decide) rfl
theorem o328_208 : Okp RL cL_law 4 (some .boolean) "law" false 208 (sI2 0 596 211) := ok_icmp_eq (by decide +kernel : decode cL_law 208 = .ok (.if_icmp .eq 388, 3)) (by decide)
theorem o328_211 : Okp RL cL_law 4 (some .boolean) "law" false 211 (sK 0 212) := ok_iconst (by decide +kernel : decode cL_law 211 = .ok (.iconst 0, 1)) (by decide)
theorem o328_212 : Okp RL cL_law 4 (some .boolean) "law" false 212 sRZ := ok_zret rfl (by decide +kernel : decode cL_law 212 = .ok (.ireturn, 1))
theorem o328_213 : Okp RL cL_law 4 (some .boolean) "law" false 213 (sLR 1 214) := ok_aload_n (by decide +kernel : decode cL_law 213 = .ok (.aload_n 1, 1)) rfl
theorem o328_214 : Okp RL cL_law 4 (some .boolean) "law" false 214 (sLR 0 215) := ok_aload_n (by decide +kernel : decode cL_law 214 = .ok (.aload_n 0, 1)) rfl
theorem o328_215 : Okp RL cL_law 4 (some .boolean) "law" false 215 (sLI 3 216) := ok_iload_n (by decide +kernel : decode cL_law 215 = .ok (.iload_n 3, 1)) rfl
theorem o328_216 : Okp RL cL_law 4 (some .boolean) "law" false 216 (sK 1 217) := ok_iconst (by decide +kernel : decode cL_law 216 = .ok (.iconst 1, 1)) (by decide)
theorem o328_217 : Okp RL cL_law 4 (some .boolean) "law" false 217 (sB2 fAdd 218) := ok_iadd (by decide +kernel : decode cL_law 217 = .ok (.iadd, 1))
theorem o328_218 : Okp RL cL_law 4 (some .boolean) "law" false 218 (sIA 219) := ok_iaload (by decide +kernel : decode cL_law 218 = .ok (.iaload, 1))
theorem o328_219 : Okp RL cL_law 4 (some .boolean) "law" false 219 (sCV false 189 2 12 222) := ok_cv (by decide +kernel : decode cL_law 219 = .ok (.invokevirtual 27, 3)) mw_L_27 rfl (by decide) wm_X11_discard wse_X11_discard (by decide) rfl
theorem o328_222 : Okp RL cL_law 4 (some .boolean) "law" false 222 (sLR 2 223) := ok_aload_n (by decide +kernel : decode cL_law 222 = .ok (.aload_n 2, 1)) rfl
theorem o328_223 : Okp RL cL_law 4 (some .boolean) "law" false 223 (sLR 0 224) := ok_aload_n (by decide +kernel : decode cL_law 223 = .ok (.aload_n 0, 1)) rfl
theorem o328_224 : Okp RL cL_law 4 (some .boolean) "law" false 224 (sLI 3 225) := ok_iload_n (by decide +kernel : decode cL_law 224 = .ok (.iload_n 3, 1)) rfl
theorem o328_225 : Okp RL cL_law 4 (some .boolean) "law" false 225 (sK 1 226) := ok_iconst (by decide +kernel : decode cL_law 225 = .ok (.iconst 1, 1)) (by decide)
theorem o328_226 : Okp RL cL_law 4 (some .boolean) "law" false 226 (sB2 fAdd 227) := ok_iadd (by decide +kernel : decode cL_law 226 = .ok (.iadd, 1))
theorem o328_227 : Okp RL cL_law 4 (some .boolean) "law" false 227 (sIA 228) := ok_iaload (by decide +kernel : decode cL_law 227 = .ok (.iaload, 1))
theorem o328_228 : Okp RL cL_law 4 (some .boolean) "law" false 228 (sCV false 269 2 13 231) := ok_cv (by decide +kernel : decode cL_law 228 = .ok (.invokevirtual 31, 3)) mw_L_31 rfl (by decide) wm_X12_discard wse_X12_discard (by decide) rfl
theorem o328_231 : Okp RL cL_law 4 (some .boolean) "law" false 231 (sI2 0 596 234) := ok_icmp_eq (by decide +kernel : decode cL_law 231 = .ok (.if_icmp .eq 365, 3)) (by decide)
theorem o328_234 : Okp RL cL_law 4 (some .boolean) "law" false 234 (sK 0 235) := ok_iconst (by decide +kernel : decode cL_law 234 = .ok (.iconst 0, 1)) (by decide)
theorem o328_235 : Okp RL cL_law 4 (some .boolean) "law" false 235 sRZ := ok_zret rfl (by decide +kernel : decode cL_law 235 = .ok (.ireturn, 1))
theorem o328_236 : Okp RL cL_law 4 (some .boolean) "law" false 236 (sLR 1 237) := ok_aload_n (by decide +kernel : decode cL_law 236 = .ok (.aload_n 1, 1)) rfl
theorem o328_237 : Okp RL cL_law 4 (some .boolean) "law" false 237 (sLR 0 238) := ok_aload_n (by decide +kernel : decode cL_law 237 = .ok (.aload_n 0, 1)) rfl
theorem o328_238 : Okp RL cL_law 4 (some .boolean) "law" false 238 (sLI 3 239) := ok_iload_n (by decide +kernel : decode cL_law 238 = .ok (.iload_n 3, 1)) rfl
theorem o328_239 : Okp RL cL_law 4 (some .boolean) "law" false 239 (sK 1 240) := ok_iconst (by decide +kernel : decode cL_law 239 = .ok (.iconst 1, 1)) (by decide)
theorem o328_240 : Okp RL cL_law 4 (some .boolean) "law" false 240 (sB2 fAdd 241) := ok_iadd (by decide +kernel : decode cL_law 240 = .ok (.iadd, 1))
theorem o328_241 : Okp RL cL_law 4 (some .boolean) "law" false 241 (sIA 242) := ok_iaload (by decide +kernel : decode cL_law 241 = .ok (.iaload, 1))
theorem o328_242 : Okp RL cL_law 4 (some .boolean) "law" false 242 (sLR 0 243) := ok_aload_n (by decide +kernel : decode cL_law 242 = .ok (.aload_n 0, 1)) rfl
theorem o328_243 : Okp RL cL_law 4 (some .boolean) "law" false 243 (sLI 3 244) := ok_iload_n (by decide +kernel : decode cL_law 243 = .ok (.iload_n 3, 1)) rfl
theorem o328_244 : Okp RL cL_law 4 (some .boolean) "law" false 244 (sK 2 245) := ok_iconst (by decide +kernel : decode cL_law 244 = .ok (.iconst 2, 1)) (by decide)
theorem o328_245 : Okp RL cL_law 4 (some .boolean) "law" false 245 (sB2 fAdd 246) := ok_iadd (by decide +kernel : decode cL_law 245 = .ok (.iadd, 1))
theorem o328_246 : Okp RL cL_law 4 (some .boolean) "law" false 246 (sIA 247) := ok_iaload (by decide +kernel : decode cL_law 246 = .ok (.iaload, 1))
theorem o328_247 : Okp RL cL_law 4 (some .boolean) "law" false 247 (sLR 0 248) := ok_aload_n (by decide +kernel : decode cL_law 247 = .ok (.aload_n 0, 1)) rfl
theorem o328_248 : Okp RL cL_law 4 (some .boolean) "law" false 248 (sLI 3 249) := ok_iload_n (by decide +kernel : decode cL_law 248 = .ok (.iload_n 3, 1)) rfl
theorem o328_249 : Okp RL cL_law 4 (some .boolean) "law" false 249 (sK 3 250) := ok_iconst (by decide +kernel : decode cL_law 249 = .ok (.iconst 3, 1)) (by decide)
theorem o328_250 : Okp RL cL_law 4 (some .boolean) "law" false 250 (sB2 fAdd 251) := ok_iadd (by decide +kernel : decode cL_law 250 = .ok (.iadd, 1))
theorem o328_251 : Okp RL cL_law 4 (some .boolean) "law" false 251 (sIA 252) := ok_iaload (by decide +kernel : decode cL_law 251 = .ok (.iaload, 1))
theorem o328_252 : Okp RL cL_law 4 (some .boolean) "law" false 252 (sCV false 190 4 12 255) := ok_cv (by decide +kernel : decode cL_law 252 = .ok (.invokevirtual 32, 3)) mw_L_32 rfl (by decide) wm_X11_module wse_X11_module (by decide) rfl
theorem o328_255 : Okp RL cL_law 4 (some .boolean) "law" false 255 (sLR 2 256) := ok_aload_n (by decide +kernel : decode cL_law 255 = .ok (.aload_n 2, 1)) rfl
theorem o328_256 : Okp RL cL_law 4 (some .boolean) "law" false 256 (sLR 0 257) := ok_aload_n (by decide +kernel : decode cL_law 256 = .ok (.aload_n 0, 1)) rfl
theorem o328_257 : Okp RL cL_law 4 (some .boolean) "law" false 257 (sLI 3 258) := ok_iload_n (by decide +kernel : decode cL_law 257 = .ok (.iload_n 3, 1)) rfl
theorem o328_258 : Okp RL cL_law 4 (some .boolean) "law" false 258 (sK 1 259) := ok_iconst (by decide +kernel : decode cL_law 258 = .ok (.iconst 1, 1)) (by decide)
theorem o328_259 : Okp RL cL_law 4 (some .boolean) "law" false 259 (sB2 fAdd 260) := ok_iadd (by decide +kernel : decode cL_law 259 = .ok (.iadd, 1))
theorem o328_260 : Okp RL cL_law 4 (some .boolean) "law" false 260 (sIA 261) := ok_iaload (by decide +kernel : decode cL_law 260 = .ok (.iaload, 1))
theorem o328_261 : Okp RL cL_law 4 (some .boolean) "law" false 261 (sLR 0 262) := ok_aload_n (by decide +kernel : decode cL_law 261 = .ok (.aload_n 0, 1)) rfl
theorem o328_262 : Okp RL cL_law 4 (some .boolean) "law" false 262 (sLI 3 263) := ok_iload_n (by decide +kernel : decode cL_law 262 = .ok (.iload_n 3, 1)) rfl
theorem o328_263 : Okp RL cL_law 4 (some .boolean) "law" false 263 (sK 2 264) := ok_iconst (by decide +kernel : decode cL_law 263 = .ok (.iconst 2, 1)) (by decide)
theorem o328_264 : Okp RL cL_law 4 (some .boolean) "law" false 264 (sB2 fAdd 265) := ok_iadd (by decide +kernel : decode cL_law 264 = .ok (.iadd, 1))
theorem o328_265 : Okp RL cL_law 4 (some .boolean) "law" false 265 (sIA 266) := ok_iaload (by decide +kernel : decode cL_law 265 = .ok (.iaload, 1))
theorem o328_266 : Okp RL cL_law 4 (some .boolean) "law" false 266 (sLR 0 267) := ok_aload_n (by decide +kernel : decode cL_law 266 = .ok (.aload_n 0, 1)) rfl
theorem o328_267 : Okp RL cL_law 4 (some .boolean) "law" false 267 (sLI 3 268) := ok_iload_n (by decide +kernel : decode cL_law 267 = .ok (.iload_n 3, 1)) rfl
theorem o328_268 : Okp RL cL_law 4 (some .boolean) "law" false 268 (sK 3 269) := ok_iconst (by decide +kernel : decode cL_law 268 = .ok (.iconst 3, 1)) (by decide)
theorem o328_269 : Okp RL cL_law 4 (some .boolean) "law" false 269 (sB2 fAdd 270) := ok_iadd (by decide +kernel : decode cL_law 269 = .ok (.iadd, 1))
theorem o328_270 : Okp RL cL_law 4 (some .boolean) "law" false 270 (sIA 271) := ok_iaload (by decide +kernel : decode cL_law 270 = .ok (.iaload, 1))
theorem o328_271 : Okp RL cL_law 4 (some .boolean) "law" false 271 (sCV false 270 4 13 274) := ok_cv (by decide +kernel : decode cL_law 271 = .ok (.invokevirtual 36, 3)) mw_L_36 rfl (by decide) wm_X12_module_ wse_X12_module_ (by decide) rfl
theorem o328_274 : Okp RL cL_law 4 (some .boolean) "law" false 274 (sI2 0 596 277) := ok_icmp_eq (by decide +kernel : decode cL_law 274 = .ok (.if_icmp .eq 322, 3)) (by decide)
theorem o328_277 : Okp RL cL_law 4 (some .boolean) "law" false 277 (sK 0 278) := ok_iconst (by decide +kernel : decode cL_law 277 = .ok (.iconst 0, 1)) (by decide)
theorem o328_278 : Okp RL cL_law 4 (some .boolean) "law" false 278 sRZ := ok_zret rfl (by decide +kernel : decode cL_law 278 = .ok (.ireturn, 1))
theorem o328_279 : Okp RL cL_law 4 (some .boolean) "law" false 279 (sLR 1 280) := ok_aload_n (by decide +kernel : decode cL_law 279 = .ok (.aload_n 1, 1)) rfl
theorem o328_280 : Okp RL cL_law 4 (some .boolean) "law" false 280 (sLR 0 281) := ok_aload_n (by decide +kernel : decode cL_law 280 = .ok (.aload_n 0, 1)) rfl
theorem o328_281 : Okp RL cL_law 4 (some .boolean) "law" false 281 (sLI 3 282) := ok_iload_n (by decide +kernel : decode cL_law 281 = .ok (.iload_n 3, 1)) rfl
theorem o328_282 : Okp RL cL_law 4 (some .boolean) "law" false 282 (sK 1 283) := ok_iconst (by decide +kernel : decode cL_law 282 = .ok (.iconst 1, 1)) (by decide)
theorem o328_283 : Okp RL cL_law 4 (some .boolean) "law" false 283 (sB2 fAdd 284) := ok_iadd (by decide +kernel : decode cL_law 283 = .ok (.iadd, 1))
theorem o328_284 : Okp RL cL_law 4 (some .boolean) "law" false 284 (sIA 285) := ok_iaload (by decide +kernel : decode cL_law 284 = .ok (.iaload, 1))
theorem o328_285 : Okp RL cL_law 4 (some .boolean) "law" false 285 (sLR 0 286) := ok_aload_n (by decide +kernel : decode cL_law 285 = .ok (.aload_n 0, 1)) rfl
theorem o328_286 : Okp RL cL_law 4 (some .boolean) "law" false 286 (sLI 3 287) := ok_iload_n (by decide +kernel : decode cL_law 286 = .ok (.iload_n 3, 1)) rfl
theorem o328_287 : Okp RL cL_law 4 (some .boolean) "law" false 287 (sK 2 288) := ok_iconst (by decide +kernel : decode cL_law 287 = .ok (.iconst 2, 1)) (by decide)
theorem o328_288 : Okp RL cL_law 4 (some .boolean) "law" false 288 (sB2 fAdd 289) := ok_iadd (by decide +kernel : decode cL_law 288 = .ok (.iadd, 1))
theorem o328_289 : Okp RL cL_law 4 (some .boolean) "law" false 289 (sIA 290) := ok_iaload (by decide +kernel : decode cL_law 289 = .ok (.iaload, 1))
theorem o328_290 : Okp RL cL_law 4 (some .boolean) "law" false 290 (sLR 0 291) := ok_aload_n (by decide +kernel : decode cL_law 290 = .ok (.aload_n 0, 1)) rfl
theorem o328_291 : Okp RL cL_law 4 (some .boolean) "law" false 291 (sLI 3 292) := ok_iload_n (by decide +kernel : decode cL_law 291 = .ok (.iload_n 3, 1)) rfl
theorem o328_292 : Okp RL cL_law 4 (some .boolean) "law" false 292 (sK 3 293) := ok_iconst (by decide +kernel : decode cL_law 292 = .ok (.iconst 3, 1)) (by decide)
theorem o328_293 : Okp RL cL_law 4 (some .boolean) "law" false 293 (sB2 fAdd 294) := ok_iadd (by decide +kernel : decode cL_law 293 = .ok (.iadd, 1))
theorem o328_294 : Okp RL cL_law 4 (some .boolean) "law" false 294 (sIA 295) := ok_iaload (by decide +kernel : decode cL_law 294 = .ok (.iaload, 1))
theorem o328_295 : Okp RL cL_law 4 (some .boolean) "law" false 295 (sLR 0 296) := ok_aload_n (by decide +kernel : decode cL_law 295 = .ok (.aload_n 0, 1)) rfl
theorem o328_296 : Okp RL cL_law 4 (some .boolean) "law" false 296 (sLI 3 297) := ok_iload_n (by decide +kernel : decode cL_law 296 = .ok (.iload_n 3, 1)) rfl
theorem o328_297 : Okp RL cL_law 4 (some .boolean) "law" false 297 (sK 4 298) := ok_iconst (by decide +kernel : decode cL_law 297 = .ok (.iconst 4, 1)) (by decide)
theorem o328_298 : Okp RL cL_law 4 (some .boolean) "law" false 298 (sB2 fAdd 299) := ok_iadd (by decide +kernel : decode cL_law 298 = .ok (.iadd, 1))
theorem o328_299 : Okp RL cL_law 4 (some .boolean) "law" false 299 (sIA 300) := ok_iaload (by decide +kernel : decode cL_law 299 = .ok (.iaload, 1))
theorem o328_300 : Okp RL cL_law 4 (some .boolean) "law" false 300 (sLR 0 301) := ok_aload_n (by decide +kernel : decode cL_law 300 = .ok (.aload_n 0, 1)) rfl
theorem o328_301 : Okp RL cL_law 4 (some .boolean) "law" false 301 (sLI 3 302) := ok_iload_n (by decide +kernel : decode cL_law 301 = .ok (.iload_n 3, 1)) rfl
theorem o328_302 : Okp RL cL_law 4 (some .boolean) "law" false 302 (sK 5 303) := ok_iconst (by decide +kernel : decode cL_law 302 = .ok (.iconst 5, 1)) (by decide)
theorem o328_303 : Okp RL cL_law 4 (some .boolean) "law" false 303 (sB2 fAdd 304) := ok_iadd (by decide +kernel : decode cL_law 303 = .ok (.iadd, 1))
theorem o328_304 : Okp RL cL_law 4 (some .boolean) "law" false 304 (sIA 305) := ok_iaload (by decide +kernel : decode cL_law 304 = .ok (.iaload, 1))
theorem o328_305 : Okp RL cL_law 4 (some .boolean) "law" false 305 (sCV false 191 6 12 308) := ok_cv (by decide +kernel : decode cL_law 305 = .ok (.invokevirtual 37, 3)) mw_L_37 rfl (by decide) wm_X11_typeAt wse_X11_typeAt (by decide) rfl
theorem o328_308 : Okp RL cL_law 4 (some .boolean) "law" false 308 (sLR 2 309) := ok_aload_n (by decide +kernel : decode cL_law 308 = .ok (.aload_n 2, 1)) rfl
theorem o328_309 : Okp RL cL_law 4 (some .boolean) "law" false 309 (sLR 0 310) := ok_aload_n (by decide +kernel : decode cL_law 309 = .ok (.aload_n 0, 1)) rfl
theorem o328_310 : Okp RL cL_law 4 (some .boolean) "law" false 310 (sLI 3 311) := ok_iload_n (by decide +kernel : decode cL_law 310 = .ok (.iload_n 3, 1)) rfl
theorem o328_311 : Okp RL cL_law 4 (some .boolean) "law" false 311 (sK 1 312) := ok_iconst (by decide +kernel : decode cL_law 311 = .ok (.iconst 1, 1)) (by decide)
theorem o328_312 : Okp RL cL_law 4 (some .boolean) "law" false 312 (sB2 fAdd 313) := ok_iadd (by decide +kernel : decode cL_law 312 = .ok (.iadd, 1))
theorem o328_313 : Okp RL cL_law 4 (some .boolean) "law" false 313 (sIA 314) := ok_iaload (by decide +kernel : decode cL_law 313 = .ok (.iaload, 1))
theorem o328_314 : Okp RL cL_law 4 (some .boolean) "law" false 314 (sLR 0 315) := ok_aload_n (by decide +kernel : decode cL_law 314 = .ok (.aload_n 0, 1)) rfl
theorem o328_315 : Okp RL cL_law 4 (some .boolean) "law" false 315 (sLI 3 316) := ok_iload_n (by decide +kernel : decode cL_law 315 = .ok (.iload_n 3, 1)) rfl
theorem o328_316 : Okp RL cL_law 4 (some .boolean) "law" false 316 (sK 2 317) := ok_iconst (by decide +kernel : decode cL_law 316 = .ok (.iconst 2, 1)) (by decide)
theorem o328_317 : Okp RL cL_law 4 (some .boolean) "law" false 317 (sB2 fAdd 318) := ok_iadd (by decide +kernel : decode cL_law 317 = .ok (.iadd, 1))
theorem o328_318 : Okp RL cL_law 4 (some .boolean) "law" false 318 (sIA 319) := ok_iaload (by decide +kernel : decode cL_law 318 = .ok (.iaload, 1))
theorem o328_319 : Okp RL cL_law 4 (some .boolean) "law" false 319 (sLR 0 320) := ok_aload_n (by decide +kernel : decode cL_law 319 = .ok (.aload_n 0, 1)) rfl
theorem o328_320 : Okp RL cL_law 4 (some .boolean) "law" false 320 (sLI 3 321) := ok_iload_n (by decide +kernel : decode cL_law 320 = .ok (.iload_n 3, 1)) rfl
theorem o328_321 : Okp RL cL_law 4 (some .boolean) "law" false 321 (sK 3 322) := ok_iconst (by decide +kernel : decode cL_law 321 = .ok (.iconst 3, 1)) (by decide)
theorem o328_322 : Okp RL cL_law 4 (some .boolean) "law" false 322 (sB2 fAdd 323) := ok_iadd (by decide +kernel : decode cL_law 322 = .ok (.iadd, 1))
theorem o328_323 : Okp RL cL_law 4 (some .boolean) "law" false 323 (sIA 324) := ok_iaload (by decide +kernel : decode cL_law 323 = .ok (.iaload, 1))
theorem o328_324 : Okp RL cL_law 4 (some .boolean) "law" false 324 (sLR 0 325) := ok_aload_n (by decide +kernel : decode cL_law 324 = .ok (.aload_n 0, 1)) rfl
theorem o328_325 : Okp RL cL_law 4 (some .boolean) "law" false 325 (sLI 3 326) := ok_iload_n (by decide +kernel : decode cL_law 325 = .ok (.iload_n 3, 1)) rfl
theorem o328_326 : Okp RL cL_law 4 (some .boolean) "law" false 326 (sK 4 327) := ok_iconst (by decide +kernel : decode cL_law 326 = .ok (.iconst 4, 1)) (by decide)
theorem o328_327 : Okp RL cL_law 4 (some .boolean) "law" false 327 (sB2 fAdd 328) := ok_iadd (by decide +kernel : decode cL_law 327 = .ok (.iadd, 1))
theorem o328_328 : Okp RL cL_law 4 (some .boolean) "law" false 328 (sIA 329) := ok_iaload (by decide +kernel : decode cL_law 328 = .ok (.iaload, 1))
theorem o328_329 : Okp RL cL_law 4 (some .boolean) "law" false 329 (sLR 0 330) := ok_aload_n (by decide +kernel : decode cL_law 329 = .ok (.aload_n 0, 1)) rfl
theorem o328_330 : Okp RL cL_law 4 (some .boolean) "law" false 330 (sLI 3 331) := ok_iload_n (by decide +kernel : decode cL_law 330 = .ok (.iload_n 3, 1)) rfl
theorem o328_331 : Okp RL cL_law 4 (some .boolean) "law" false 331 (sK 5 332) := ok_iconst (by decide +kernel : decode cL_law 331 = .ok (.iconst 5, 1)) (by decide)
theorem o328_332 : Okp RL cL_law 4 (some .boolean) "law" false 332 (sB2 fAdd 333) := ok_iadd (by decide +kernel : decode cL_law 332 = .ok (.iadd, 1))
theorem o328_333 : Okp RL cL_law 4 (some .boolean) "law" false 333 (sIA 334) := ok_iaload (by decide +kernel : decode cL_law 333 = .ok (.iaload, 1))
theorem o328_334 : Okp RL cL_law 4 (some .boolean) "law" false 334 (sCV false 272 6 13 337) := ok_cv (by decide +kernel : decode cL_law 334 = .ok (.invokevirtual 40, 3)) mw_L_40 rfl (by decide) wm_X12_typeAt wse_X12_typeAt (by decide) rfl
theorem o328_337 : Okp RL cL_law 4 (some .boolean) "law" false 337 (sI2 0 596 340) := ok_icmp_eq (by decide +kernel : decode cL_law 337 = .ok (.if_icmp .eq 259, 3)) (by decide)
theorem o328_340 : Okp RL cL_law 4 (some .boolean) "law" false 340 (sK 0 341) := ok_iconst (by decide +kernel : decode cL_law 340 = .ok (.iconst 0, 1)) (by decide)
theorem o328_341 : Okp RL cL_law 4 (some .boolean) "law" false 341 sRZ := ok_zret rfl (by decide +kernel : decode cL_law 341 = .ok (.ireturn, 1))
theorem o328_342 : Okp RL cL_law 4 (some .boolean) "law" false 342 (sLR 1 343) := ok_aload_n (by decide +kernel : decode cL_law 342 = .ok (.aload_n 1, 1)) rfl
theorem o328_343 : Okp RL cL_law 4 (some .boolean) "law" false 343 (sLR 0 344) := ok_aload_n (by decide +kernel : decode cL_law 343 = .ok (.aload_n 0, 1)) rfl
theorem o328_344 : Okp RL cL_law 4 (some .boolean) "law" false 344 (sLI 3 345) := ok_iload_n (by decide +kernel : decode cL_law 344 = .ok (.iload_n 3, 1)) rfl
theorem o328_345 : Okp RL cL_law 4 (some .boolean) "law" false 345 (sK 1 346) := ok_iconst (by decide +kernel : decode cL_law 345 = .ok (.iconst 1, 1)) (by decide)
theorem o328_346 : Okp RL cL_law 4 (some .boolean) "law" false 346 (sB2 fAdd 347) := ok_iadd (by decide +kernel : decode cL_law 346 = .ok (.iadd, 1))
theorem o328_347 : Okp RL cL_law 4 (some .boolean) "law" false 347 (sIA 348) := ok_iaload (by decide +kernel : decode cL_law 347 = .ok (.iaload, 1))
theorem o328_348 : Okp RL cL_law 4 (some .boolean) "law" false 348 (sCV false 192 2 12 351) := ok_cv (by decide +kernel : decode cL_law 348 = .ok (.invokevirtual 41, 3)) mw_L_41 rfl (by decide) wm_X11_boot wse_X11_boot (by decide) rfl
theorem o328_351 : Okp RL cL_law 4 (some .boolean) "law" false 351 (sLR 2 352) := ok_aload_n (by decide +kernel : decode cL_law 351 = .ok (.aload_n 2, 1)) rfl
theorem o328_352 : Okp RL cL_law 4 (some .boolean) "law" false 352 (sLR 0 353) := ok_aload_n (by decide +kernel : decode cL_law 352 = .ok (.aload_n 0, 1)) rfl
theorem o328_353 : Okp RL cL_law 4 (some .boolean) "law" false 353 (sLI 3 354) := ok_iload_n (by decide +kernel : decode cL_law 353 = .ok (.iload_n 3, 1)) rfl
theorem o328_354 : Okp RL cL_law 4 (some .boolean) "law" false 354 (sK 1 355) := ok_iconst (by decide +kernel : decode cL_law 354 = .ok (.iconst 1, 1)) (by decide)
theorem o328_355 : Okp RL cL_law 4 (some .boolean) "law" false 355 (sB2 fAdd 356) := ok_iadd (by decide +kernel : decode cL_law 355 = .ok (.iadd, 1))
theorem o328_356 : Okp RL cL_law 4 (some .boolean) "law" false 356 (sIA 357) := ok_iaload (by decide +kernel : decode cL_law 356 = .ok (.iaload, 1))
theorem o328_357 : Okp RL cL_law 4 (some .boolean) "law" false 357 (sCV false 278 2 13 360) := ok_cvW (by decide +kernel : decode cL_law 357 = .ok (.invokevirtual 44, 3)) rfl wc_X12_boot wi_SealedProcessesModel ⟨by decide, by decide⟩ (fun sig h => by cases h; rfl) (by decide) wq_L_44 rfl (by decide) wm_X12_boot wse_X12_boot (by decide) rfl
theorem o328_360 : Okp RL cL_law 4 (some .boolean) "law" false 360 (sI2 0 596 363) := ok_icmp_eq (by decide +kernel : decode cL_law 360 = .ok (.if_icmp .eq 236, 3)) (by decide)
theorem o328_363 : Okp RL cL_law 4 (some .boolean) "law" false 363 (sK 0 364) := ok_iconst (by decide +kernel : decode cL_law 363 = .ok (.iconst 0, 1)) (by decide)
theorem o328_364 : Okp RL cL_law 4 (some .boolean) "law" false 364 sRZ := ok_zret rfl (by decide +kernel : decode cL_law 364 = .ok (.ireturn, 1))
theorem o328_365 : Okp RL cL_law 4 (some .boolean) "law" false 365 (sLR 1 366) := ok_aload_n (by decide +kernel : decode cL_law 365 = .ok (.aload_n 1, 1)) rfl
theorem o328_366 : Okp RL cL_law 4 (some .boolean) "law" false 366 (sLR 0 367) := ok_aload_n (by decide +kernel : decode cL_law 366 = .ok (.aload_n 0, 1)) rfl
theorem o328_367 : Okp RL cL_law 4 (some .boolean) "law" false 367 (sLI 3 368) := ok_iload_n (by decide +kernel : decode cL_law 367 = .ok (.iload_n 3, 1)) rfl
theorem o328_368 : Okp RL cL_law 4 (some .boolean) "law" false 368 (sK 1 369) := ok_iconst (by decide +kernel : decode cL_law 368 = .ok (.iconst 1, 1)) (by decide)
theorem o328_369 : Okp RL cL_law 4 (some .boolean) "law" false 369 (sB2 fAdd 370) := ok_iadd (by decide +kernel : decode cL_law 369 = .ok (.iadd, 1))
theorem o328_370 : Okp RL cL_law 4 (some .boolean) "law" false 370 (sIA 371) := ok_iaload (by decide +kernel : decode cL_law 370 = .ok (.iaload, 1))
theorem o328_371 : Okp RL cL_law 4 (some .boolean) "law" false 371 (sCV false 193 2 12 374) := ok_cv (by decide +kernel : decode cL_law 371 = .ok (.invokevirtual 45, 3)) mw_L_45 rfl (by decide) wm_X11_run wse_X11_run (by decide) rfl
theorem o328_374 : Okp RL cL_law 4 (some .boolean) "law" false 374 (sLR 2 375) := ok_aload_n (by decide +kernel : decode cL_law 374 = .ok (.aload_n 2, 1)) rfl
theorem o328_375 : Okp RL cL_law 4 (some .boolean) "law" false 375 (sLR 0 376) := ok_aload_n (by decide +kernel : decode cL_law 375 = .ok (.aload_n 0, 1)) rfl
theorem o328_376 : Okp RL cL_law 4 (some .boolean) "law" false 376 (sLI 3 377) := ok_iload_n (by decide +kernel : decode cL_law 376 = .ok (.iload_n 3, 1)) rfl
theorem o328_377 : Okp RL cL_law 4 (some .boolean) "law" false 377 (sK 1 378) := ok_iconst (by decide +kernel : decode cL_law 377 = .ok (.iconst 1, 1)) (by decide)
theorem o328_378 : Okp RL cL_law 4 (some .boolean) "law" false 378 (sB2 fAdd 379) := ok_iadd (by decide +kernel : decode cL_law 378 = .ok (.iadd, 1))
theorem o328_379 : Okp RL cL_law 4 (some .boolean) "law" false 379 (sIA 380) := ok_iaload (by decide +kernel : decode cL_law 379 = .ok (.iaload, 1))
theorem o328_380 : Okp RL cL_law 4 (some .boolean) "law" false 380 (sCV false 299 2 13 383) := ok_cv (by decide +kernel : decode cL_law 380 = .ok (.invokevirtual 48, 3)) mw_L_48 rfl (by decide) wm_X12_run wse_X12_run (by decide) rfl
theorem o328_383 : Okp RL cL_law 4 (some .boolean) "law" false 383 (sI2 0 596 386) := ok_icmp_eq (by decide +kernel : decode cL_law 383 = .ok (.if_icmp .eq 213, 3)) (by decide)
theorem o328_386 : Okp RL cL_law 4 (some .boolean) "law" false 386 (sK 0 387) := ok_iconst (by decide +kernel : decode cL_law 386 = .ok (.iconst 0, 1)) (by decide)
theorem o328_387 : Okp RL cL_law 4 (some .boolean) "law" false 387 sRZ := ok_zret rfl (by decide +kernel : decode cL_law 387 = .ok (.ireturn, 1))
theorem o328_388 : Okp RL cL_law 4 (some .boolean) "law" false 388 (sLR 1 389) := ok_aload_n (by decide +kernel : decode cL_law 388 = .ok (.aload_n 1, 1)) rfl
theorem o328_389 : Okp RL cL_law 4 (some .boolean) "law" false 389 (sLR 0 390) := ok_aload_n (by decide +kernel : decode cL_law 389 = .ok (.aload_n 0, 1)) rfl
theorem o328_390 : Okp RL cL_law 4 (some .boolean) "law" false 390 (sLI 3 391) := ok_iload_n (by decide +kernel : decode cL_law 390 = .ok (.iload_n 3, 1)) rfl
theorem o328_391 : Okp RL cL_law 4 (some .boolean) "law" false 391 (sK 1 392) := ok_iconst (by decide +kernel : decode cL_law 391 = .ok (.iconst 1, 1)) (by decide)
theorem o328_392 : Okp RL cL_law 4 (some .boolean) "law" false 392 (sB2 fAdd 393) := ok_iadd (by decide +kernel : decode cL_law 392 = .ok (.iadd, 1))
theorem o328_393 : Okp RL cL_law 4 (some .boolean) "law" false 393 (sIA 394) := ok_iaload (by decide +kernel : decode cL_law 393 = .ok (.iaload, 1))
theorem o328_394 : Okp RL cL_law 4 (some .boolean) "law" false 394 (sCV false 194 2 12 397) := ok_cv (by decide +kernel : decode cL_law 394 = .ok (.invokevirtual 49, 3)) mw_L_49 rfl (by decide) wm_X11_about wse_X11_about (by decide) rfl
theorem o328_397 : Okp RL cL_law 4 (some .boolean) "law" false 397 (sLR 2 398) := ok_aload_n (by decide +kernel : decode cL_law 397 = .ok (.aload_n 2, 1)) rfl
theorem o328_398 : Okp RL cL_law 4 (some .boolean) "law" false 398 (sLR 0 399) := ok_aload_n (by decide +kernel : decode cL_law 398 = .ok (.aload_n 0, 1)) rfl
theorem o328_399 : Okp RL cL_law 4 (some .boolean) "law" false 399 (sLI 3 400) := ok_iload_n (by decide +kernel : decode cL_law 399 = .ok (.iload_n 3, 1)) rfl
theorem o328_400 : Okp RL cL_law 4 (some .boolean) "law" false 400 (sK 1 401) := ok_iconst (by decide +kernel : decode cL_law 400 = .ok (.iconst 1, 1)) (by decide)
theorem o328_401 : Okp RL cL_law 4 (some .boolean) "law" false 401 (sB2 fAdd 402) := ok_iadd (by decide +kernel : decode cL_law 401 = .ok (.iadd, 1))
theorem o328_402 : Okp RL cL_law 4 (some .boolean) "law" false 402 (sIA 403) := ok_iaload (by decide +kernel : decode cL_law 402 = .ok (.iaload, 1))
theorem o328_403 : Okp RL cL_law 4 (some .boolean) "law" false 403 (sCV false 322 2 13 406) := ok_cv (by decide +kernel : decode cL_law 403 = .ok (.invokevirtual 52, 3)) mw_L_52 rfl (by decide) wm_X12_about wse_X12_about (by decide) rfl
theorem o328_406 : Okp RL cL_law 4 (some .boolean) "law" false 406 (sI2 0 596 409) := ok_icmp_eq (by decide +kernel : decode cL_law 406 = .ok (.if_icmp .eq 190, 3)) (by decide)
theorem o328_409 : Okp RL cL_law 4 (some .boolean) "law" false 409 (sK 0 410) := ok_iconst (by decide +kernel : decode cL_law 409 = .ok (.iconst 0, 1)) (by decide)
theorem o328_410 : Okp RL cL_law 4 (some .boolean) "law" false 410 sRZ := ok_zret rfl (by decide +kernel : decode cL_law 410 = .ok (.ireturn, 1))
theorem o328_411 : Okp RL cL_law 4 (some .boolean) "law" false 411 (sLR 1 412) := ok_aload_n (by decide +kernel : decode cL_law 411 = .ok (.aload_n 1, 1)) rfl
theorem o328_412 : Okp RL cL_law 4 (some .boolean) "law" false 412 (sLR 0 413) := ok_aload_n (by decide +kernel : decode cL_law 412 = .ok (.aload_n 0, 1)) rfl
theorem o328_413 : Okp RL cL_law 4 (some .boolean) "law" false 413 (sLI 3 414) := ok_iload_n (by decide +kernel : decode cL_law 413 = .ok (.iload_n 3, 1)) rfl
theorem o328_414 : Okp RL cL_law 4 (some .boolean) "law" false 414 (sK 1 415) := ok_iconst (by decide +kernel : decode cL_law 414 = .ok (.iconst 1, 1)) (by decide)
theorem o328_415 : Okp RL cL_law 4 (some .boolean) "law" false 415 (sB2 fAdd 416) := ok_iadd (by decide +kernel : decode cL_law 415 = .ok (.iadd, 1))
theorem o328_416 : Okp RL cL_law 4 (some .boolean) "law" false 416 (sIA 417) := ok_iaload (by decide +kernel : decode cL_law 416 = .ok (.iaload, 1))
theorem o328_417 : Okp RL cL_law 4 (some .boolean) "law" false 417 (sLR 0 418) := ok_aload_n (by decide +kernel : decode cL_law 417 = .ok (.aload_n 0, 1)) rfl
theorem o328_418 : Okp RL cL_law 4 (some .boolean) "law" false 418 (sLI 3 419) := ok_iload_n (by decide +kernel : decode cL_law 418 = .ok (.iload_n 3, 1)) rfl
theorem o328_419 : Okp RL cL_law 4 (some .boolean) "law" false 419 (sK 2 420) := ok_iconst (by decide +kernel : decode cL_law 419 = .ok (.iconst 2, 1)) (by decide)
theorem o328_420 : Okp RL cL_law 4 (some .boolean) "law" false 420 (sB2 fAdd 421) := ok_iadd (by decide +kernel : decode cL_law 420 = .ok (.iadd, 1))
theorem o328_421 : Okp RL cL_law 4 (some .boolean) "law" false 421 (sIA 422) := ok_iaload (by decide +kernel : decode cL_law 421 = .ok (.iaload, 1))
theorem o328_422 : Okp RL cL_law 4 (some .boolean) "law" false 422 (sCV false 195 3 12 425) := ok_cv (by decide +kernel : decode cL_law 422 = .ok (.invokevirtual 53, 3)) mw_L_53 rfl (by decide) wm_X11_process wse_X11_process (by decide) rfl
theorem o328_425 : Okp RL cL_law 4 (some .boolean) "law" false 425 (sLR 2 426) := ok_aload_n (by decide +kernel : decode cL_law 425 = .ok (.aload_n 2, 1)) rfl
theorem o328_426 : Okp RL cL_law 4 (some .boolean) "law" false 426 (sLR 0 427) := ok_aload_n (by decide +kernel : decode cL_law 426 = .ok (.aload_n 0, 1)) rfl
theorem o328_427 : Okp RL cL_law 4 (some .boolean) "law" false 427 (sLI 3 428) := ok_iload_n (by decide +kernel : decode cL_law 427 = .ok (.iload_n 3, 1)) rfl
theorem o328_428 : Okp RL cL_law 4 (some .boolean) "law" false 428 (sK 1 429) := ok_iconst (by decide +kernel : decode cL_law 428 = .ok (.iconst 1, 1)) (by decide)
theorem o328_429 : Okp RL cL_law 4 (some .boolean) "law" false 429 (sB2 fAdd 430) := ok_iadd (by decide +kernel : decode cL_law 429 = .ok (.iadd, 1))
theorem o328_430 : Okp RL cL_law 4 (some .boolean) "law" false 430 (sIA 431) := ok_iaload (by decide +kernel : decode cL_law 430 = .ok (.iaload, 1))
theorem o328_431 : Okp RL cL_law 4 (some .boolean) "law" false 431 (sLR 0 432) := ok_aload_n (by decide +kernel : decode cL_law 431 = .ok (.aload_n 0, 1)) rfl
theorem o328_432 : Okp RL cL_law 4 (some .boolean) "law" false 432 (sLI 3 433) := ok_iload_n (by decide +kernel : decode cL_law 432 = .ok (.iload_n 3, 1)) rfl
theorem o328_433 : Okp RL cL_law 4 (some .boolean) "law" false 433 (sK 2 434) := ok_iconst (by decide +kernel : decode cL_law 433 = .ok (.iconst 2, 1)) (by decide)
theorem o328_434 : Okp RL cL_law 4 (some .boolean) "law" false 434 (sB2 fAdd 435) := ok_iadd (by decide +kernel : decode cL_law 434 = .ok (.iadd, 1))
theorem o328_435 : Okp RL cL_law 4 (some .boolean) "law" false 435 (sIA 436) := ok_iaload (by decide +kernel : decode cL_law 435 = .ok (.iaload, 1))
theorem o328_436 : Okp RL cL_law 4 (some .boolean) "law" false 436 (sCV false 323 3 13 439) := ok_cv (by decide +kernel : decode cL_law 436 = .ok (.invokevirtual 57, 3)) mw_L_57 rfl (by decide) wm_X12_process wse_X12_process (by decide) rfl
theorem o328_439 : Okp RL cL_law 4 (some .boolean) "law" false 439 (sI2 0 596 442) := ok_icmp_eq (by decide +kernel : decode cL_law 439 = .ok (.if_icmp .eq 157, 3)) (by decide)
theorem o328_442 : Okp RL cL_law 4 (some .boolean) "law" false 442 (sK 0 443) := ok_iconst (by decide +kernel : decode cL_law 442 = .ok (.iconst 0, 1)) (by decide)
theorem o328_443 : Okp RL cL_law 4 (some .boolean) "law" false 443 sRZ := ok_zret rfl (by decide +kernel : decode cL_law 443 = .ok (.ireturn, 1))
theorem o328_444 : Okp RL cL_law 4 (some .boolean) "law" false 444 (sLR 1 445) := ok_aload_n (by decide +kernel : decode cL_law 444 = .ok (.aload_n 1, 1)) rfl
theorem o328_445 : Okp RL cL_law 4 (some .boolean) "law" false 445 (sLR 0 446) := ok_aload_n (by decide +kernel : decode cL_law 445 = .ok (.aload_n 0, 1)) rfl
theorem o328_446 : Okp RL cL_law 4 (some .boolean) "law" false 446 (sLI 3 447) := ok_iload_n (by decide +kernel : decode cL_law 446 = .ok (.iload_n 3, 1)) rfl
theorem o328_447 : Okp RL cL_law 4 (some .boolean) "law" false 447 (sK 1 448) := ok_iconst (by decide +kernel : decode cL_law 447 = .ok (.iconst 1, 1)) (by decide)
theorem o328_448 : Okp RL cL_law 4 (some .boolean) "law" false 448 (sB2 fAdd 449) := ok_iadd (by decide +kernel : decode cL_law 448 = .ok (.iadd, 1))
theorem o328_449 : Okp RL cL_law 4 (some .boolean) "law" false 449 (sIA 450) := ok_iaload (by decide +kernel : decode cL_law 449 = .ok (.iaload, 1))
theorem o328_450 : Okp RL cL_law 4 (some .boolean) "law" false 450 (sLR 0 451) := ok_aload_n (by decide +kernel : decode cL_law 450 = .ok (.aload_n 0, 1)) rfl
theorem o328_451 : Okp RL cL_law 4 (some .boolean) "law" false 451 (sLI 3 452) := ok_iload_n (by decide +kernel : decode cL_law 451 = .ok (.iload_n 3, 1)) rfl
theorem o328_452 : Okp RL cL_law 4 (some .boolean) "law" false 452 (sK 2 453) := ok_iconst (by decide +kernel : decode cL_law 452 = .ok (.iconst 2, 1)) (by decide)
theorem o328_453 : Okp RL cL_law 4 (some .boolean) "law" false 453 (sB2 fAdd 454) := ok_iadd (by decide +kernel : decode cL_law 453 = .ok (.iadd, 1))
theorem o328_454 : Okp RL cL_law 4 (some .boolean) "law" false 454 (sIA 455) := ok_iaload (by decide +kernel : decode cL_law 454 = .ok (.iaload, 1))
theorem o328_455 : Okp RL cL_law 4 (some .boolean) "law" false 455 (sLR 0 456) := ok_aload_n (by decide +kernel : decode cL_law 455 = .ok (.aload_n 0, 1)) rfl
theorem o328_456 : Okp RL cL_law 4 (some .boolean) "law" false 456 (sLI 3 457) := ok_iload_n (by decide +kernel : decode cL_law 456 = .ok (.iload_n 3, 1)) rfl
theorem o328_457 : Okp RL cL_law 4 (some .boolean) "law" false 457 (sK 3 458) := ok_iconst (by decide +kernel : decode cL_law 457 = .ok (.iconst 3, 1)) (by decide)
theorem o328_458 : Okp RL cL_law 4 (some .boolean) "law" false 458 (sB2 fAdd 459) := ok_iadd (by decide +kernel : decode cL_law 458 = .ok (.iadd, 1))
theorem o328_459 : Okp RL cL_law 4 (some .boolean) "law" false 459 (sIA 460) := ok_iaload (by decide +kernel : decode cL_law 459 = .ok (.iaload, 1))
theorem o328_460 : Okp RL cL_law 4 (some .boolean) "law" false 460 (sCV false 196 4 12 463) := ok_cv (by decide +kernel : decode cL_law 460 = .ok (.invokevirtual 58, 3)) mw_L_58 rfl (by decide) wm_X11_value wse_X11_value (by decide) rfl
theorem o328_463 : Okp RL cL_law 4 (some .boolean) "law" false 463 (sLR 2 464) := ok_aload_n (by decide +kernel : decode cL_law 463 = .ok (.aload_n 2, 1)) rfl
theorem o328_464 : Okp RL cL_law 4 (some .boolean) "law" false 464 (sLR 0 465) := ok_aload_n (by decide +kernel : decode cL_law 464 = .ok (.aload_n 0, 1)) rfl
theorem o328_465 : Okp RL cL_law 4 (some .boolean) "law" false 465 (sLI 3 466) := ok_iload_n (by decide +kernel : decode cL_law 465 = .ok (.iload_n 3, 1)) rfl
theorem o328_466 : Okp RL cL_law 4 (some .boolean) "law" false 466 (sK 1 467) := ok_iconst (by decide +kernel : decode cL_law 466 = .ok (.iconst 1, 1)) (by decide)
theorem o328_467 : Okp RL cL_law 4 (some .boolean) "law" false 467 (sB2 fAdd 468) := ok_iadd (by decide +kernel : decode cL_law 467 = .ok (.iadd, 1))
theorem o328_468 : Okp RL cL_law 4 (some .boolean) "law" false 468 (sIA 469) := ok_iaload (by decide +kernel : decode cL_law 468 = .ok (.iaload, 1))
theorem o328_469 : Okp RL cL_law 4 (some .boolean) "law" false 469 (sLR 0 470) := ok_aload_n (by decide +kernel : decode cL_law 469 = .ok (.aload_n 0, 1)) rfl
theorem o328_470 : Okp RL cL_law 4 (some .boolean) "law" false 470 (sLI 3 471) := ok_iload_n (by decide +kernel : decode cL_law 470 = .ok (.iload_n 3, 1)) rfl
theorem o328_471 : Okp RL cL_law 4 (some .boolean) "law" false 471 (sK 2 472) := ok_iconst (by decide +kernel : decode cL_law 471 = .ok (.iconst 2, 1)) (by decide)
theorem o328_472 : Okp RL cL_law 4 (some .boolean) "law" false 472 (sB2 fAdd 473) := ok_iadd (by decide +kernel : decode cL_law 472 = .ok (.iadd, 1))
theorem o328_473 : Okp RL cL_law 4 (some .boolean) "law" false 473 (sIA 474) := ok_iaload (by decide +kernel : decode cL_law 473 = .ok (.iaload, 1))
theorem o328_474 : Okp RL cL_law 4 (some .boolean) "law" false 474 (sLR 0 475) := ok_aload_n (by decide +kernel : decode cL_law 474 = .ok (.aload_n 0, 1)) rfl
theorem o328_475 : Okp RL cL_law 4 (some .boolean) "law" false 475 (sLI 3 476) := ok_iload_n (by decide +kernel : decode cL_law 475 = .ok (.iload_n 3, 1)) rfl
theorem o328_476 : Okp RL cL_law 4 (some .boolean) "law" false 476 (sK 3 477) := ok_iconst (by decide +kernel : decode cL_law 476 = .ok (.iconst 3, 1)) (by decide)
theorem o328_477 : Okp RL cL_law 4 (some .boolean) "law" false 477 (sB2 fAdd 478) := ok_iadd (by decide +kernel : decode cL_law 477 = .ok (.iadd, 1))
theorem o328_478 : Okp RL cL_law 4 (some .boolean) "law" false 478 (sIA 479) := ok_iaload (by decide +kernel : decode cL_law 478 = .ok (.iaload, 1))
theorem o328_479 : Okp RL cL_law 4 (some .boolean) "law" false 479 (sCV false 324 4 13 482) := ok_cv (by decide +kernel : decode cL_law 479 = .ok (.invokevirtual 61, 3)) mw_L_61 rfl (by decide) wm_X12_value wse_X12_value (by decide) rfl
theorem o328_482 : Okp RL cL_law 4 (some .boolean) "law" false 482 (sI2 0 596 485) := ok_icmp_eq (by decide +kernel : decode cL_law 482 = .ok (.if_icmp .eq 114, 3)) (by decide)
theorem o328_485 : Okp RL cL_law 4 (some .boolean) "law" false 485 (sK 0 486) := ok_iconst (by decide +kernel : decode cL_law 485 = .ok (.iconst 0, 1)) (by decide)
theorem o328_486 : Okp RL cL_law 4 (some .boolean) "law" false 486 sRZ := ok_zret rfl (by decide +kernel : decode cL_law 486 = .ok (.ireturn, 1))
theorem o328_487 : Okp RL cL_law 4 (some .boolean) "law" false 487 (sLR 1 488) := ok_aload_n (by decide +kernel : decode cL_law 487 = .ok (.aload_n 1, 1)) rfl
theorem o328_488 : Okp RL cL_law 4 (some .boolean) "law" false 488 (sLR 0 489) := ok_aload_n (by decide +kernel : decode cL_law 488 = .ok (.aload_n 0, 1)) rfl
theorem o328_489 : Okp RL cL_law 4 (some .boolean) "law" false 489 (sLI 3 490) := ok_iload_n (by decide +kernel : decode cL_law 489 = .ok (.iload_n 3, 1)) rfl
theorem o328_490 : Okp RL cL_law 4 (some .boolean) "law" false 490 (sK 1 491) := ok_iconst (by decide +kernel : decode cL_law 490 = .ok (.iconst 1, 1)) (by decide)
theorem o328_491 : Okp RL cL_law 4 (some .boolean) "law" false 491 (sB2 fAdd 492) := ok_iadd (by decide +kernel : decode cL_law 491 = .ok (.iadd, 1))
theorem o328_492 : Okp RL cL_law 4 (some .boolean) "law" false 492 (sIA 493) := ok_iaload (by decide +kernel : decode cL_law 492 = .ok (.iaload, 1))
theorem o328_493 : Okp RL cL_law 4 (some .boolean) "law" false 493 (sLR 0 494) := ok_aload_n (by decide +kernel : decode cL_law 493 = .ok (.aload_n 0, 1)) rfl
theorem o328_494 : Okp RL cL_law 4 (some .boolean) "law" false 494 (sLI 3 495) := ok_iload_n (by decide +kernel : decode cL_law 494 = .ok (.iload_n 3, 1)) rfl
theorem o328_495 : Okp RL cL_law 4 (some .boolean) "law" false 495 (sK 2 496) := ok_iconst (by decide +kernel : decode cL_law 495 = .ok (.iconst 2, 1)) (by decide)
theorem o328_496 : Okp RL cL_law 4 (some .boolean) "law" false 496 (sB2 fAdd 497) := ok_iadd (by decide +kernel : decode cL_law 496 = .ok (.iadd, 1))
theorem o328_497 : Okp RL cL_law 4 (some .boolean) "law" false 497 (sIA 498) := ok_iaload (by decide +kernel : decode cL_law 497 = .ok (.iaload, 1))
theorem o328_498 : Okp RL cL_law 4 (some .boolean) "law" false 498 (sCV false 197 3 12 501) := ok_cv (by decide +kernel : decode cL_law 498 = .ok (.invokevirtual 62, 3)) mw_L_62 rfl (by decide) wm_X11_block wse_X11_block (by decide) rfl
theorem o328_501 : Okp RL cL_law 4 (some .boolean) "law" false 501 (sLR 2 502) := ok_aload_n (by decide +kernel : decode cL_law 501 = .ok (.aload_n 2, 1)) rfl
theorem o328_502 : Okp RL cL_law 4 (some .boolean) "law" false 502 (sLR 0 503) := ok_aload_n (by decide +kernel : decode cL_law 502 = .ok (.aload_n 0, 1)) rfl
theorem o328_503 : Okp RL cL_law 4 (some .boolean) "law" false 503 (sLI 3 504) := ok_iload_n (by decide +kernel : decode cL_law 503 = .ok (.iload_n 3, 1)) rfl
theorem o328_504 : Okp RL cL_law 4 (some .boolean) "law" false 504 (sK 1 505) := ok_iconst (by decide +kernel : decode cL_law 504 = .ok (.iconst 1, 1)) (by decide)
theorem o328_505 : Okp RL cL_law 4 (some .boolean) "law" false 505 (sB2 fAdd 506) := ok_iadd (by decide +kernel : decode cL_law 505 = .ok (.iadd, 1))
theorem o328_506 : Okp RL cL_law 4 (some .boolean) "law" false 506 (sIA 507) := ok_iaload (by decide +kernel : decode cL_law 506 = .ok (.iaload, 1))
theorem o328_507 : Okp RL cL_law 4 (some .boolean) "law" false 507 (sLR 0 508) := ok_aload_n (by decide +kernel : decode cL_law 507 = .ok (.aload_n 0, 1)) rfl
theorem o328_508 : Okp RL cL_law 4 (some .boolean) "law" false 508 (sLI 3 509) := ok_iload_n (by decide +kernel : decode cL_law 508 = .ok (.iload_n 3, 1)) rfl
theorem o328_509 : Okp RL cL_law 4 (some .boolean) "law" false 509 (sK 2 510) := ok_iconst (by decide +kernel : decode cL_law 509 = .ok (.iconst 2, 1)) (by decide)
theorem o328_510 : Okp RL cL_law 4 (some .boolean) "law" false 510 (sB2 fAdd 511) := ok_iadd (by decide +kernel : decode cL_law 510 = .ok (.iadd, 1))
theorem o328_511 : Okp RL cL_law 4 (some .boolean) "law" false 511 (sIA 512) := ok_iaload (by decide +kernel : decode cL_law 511 = .ok (.iaload, 1))
theorem o328_512 : Okp RL cL_law 4 (some .boolean) "law" false 512 (sCV false 325 3 13 515) := ok_cv (by decide +kernel : decode cL_law 512 = .ok (.invokevirtual 65, 3)) mw_L_65 rfl (by decide) wm_X12_block wse_X12_block (by decide) rfl
theorem o328_515 : Okp RL cL_law 4 (some .boolean) "law" false 515 (sI2 0 596 518) := ok_icmp_eq (by decide +kernel : decode cL_law 515 = .ok (.if_icmp .eq 81, 3)) (by decide)
theorem o328_518 : Okp RL cL_law 4 (some .boolean) "law" false 518 (sK 0 519) := ok_iconst (by decide +kernel : decode cL_law 518 = .ok (.iconst 0, 1)) (by decide)
theorem o328_519 : Okp RL cL_law 4 (some .boolean) "law" false 519 sRZ := ok_zret rfl (by decide +kernel : decode cL_law 519 = .ok (.ireturn, 1))
theorem o328_520 : Okp RL cL_law 4 (some .boolean) "law" false 520 (sLR 1 521) := ok_aload_n (by decide +kernel : decode cL_law 520 = .ok (.aload_n 1, 1)) rfl
theorem o328_521 : Okp RL cL_law 4 (some .boolean) "law" false 521 (sLR 0 522) := ok_aload_n (by decide +kernel : decode cL_law 521 = .ok (.aload_n 0, 1)) rfl
theorem o328_522 : Okp RL cL_law 4 (some .boolean) "law" false 522 (sLI 3 523) := ok_iload_n (by decide +kernel : decode cL_law 522 = .ok (.iload_n 3, 1)) rfl
theorem o328_523 : Okp RL cL_law 4 (some .boolean) "law" false 523 (sK 1 524) := ok_iconst (by decide +kernel : decode cL_law 523 = .ok (.iconst 1, 1)) (by decide)
theorem o328_524 : Okp RL cL_law 4 (some .boolean) "law" false 524 (sB2 fAdd 525) := ok_iadd (by decide +kernel : decode cL_law 524 = .ok (.iadd, 1))
theorem o328_525 : Okp RL cL_law 4 (some .boolean) "law" false 525 (sIA 526) := ok_iaload (by decide +kernel : decode cL_law 525 = .ok (.iaload, 1))
theorem o328_526 : Okp RL cL_law 4 (some .boolean) "law" false 526 (sLR 0 527) := ok_aload_n (by decide +kernel : decode cL_law 526 = .ok (.aload_n 0, 1)) rfl
theorem o328_527 : Okp RL cL_law 4 (some .boolean) "law" false 527 (sLI 3 528) := ok_iload_n (by decide +kernel : decode cL_law 527 = .ok (.iload_n 3, 1)) rfl
theorem o328_528 : Okp RL cL_law 4 (some .boolean) "law" false 528 (sK 2 529) := ok_iconst (by decide +kernel : decode cL_law 528 = .ok (.iconst 2, 1)) (by decide)
theorem o328_529 : Okp RL cL_law 4 (some .boolean) "law" false 529 (sB2 fAdd 530) := ok_iadd (by decide +kernel : decode cL_law 529 = .ok (.iadd, 1))
theorem o328_530 : Okp RL cL_law 4 (some .boolean) "law" false 530 (sIA 531) := ok_iaload (by decide +kernel : decode cL_law 530 = .ok (.iaload, 1))
theorem o328_531 : Okp RL cL_law 4 (some .boolean) "law" false 531 (sLR 0 532) := ok_aload_n (by decide +kernel : decode cL_law 531 = .ok (.aload_n 0, 1)) rfl
theorem o328_532 : Okp RL cL_law 4 (some .boolean) "law" false 532 (sLI 3 533) := ok_iload_n (by decide +kernel : decode cL_law 532 = .ok (.iload_n 3, 1)) rfl
theorem o328_533 : Okp RL cL_law 4 (some .boolean) "law" false 533 (sK 3 534) := ok_iconst (by decide +kernel : decode cL_law 533 = .ok (.iconst 3, 1)) (by decide)
theorem o328_534 : Okp RL cL_law 4 (some .boolean) "law" false 534 (sB2 fAdd 535) := ok_iadd (by decide +kernel : decode cL_law 534 = .ok (.iadd, 1))
theorem o328_535 : Okp RL cL_law 4 (some .boolean) "law" false 535 (sIA 536) := ok_iaload (by decide +kernel : decode cL_law 535 = .ok (.iaload, 1))
theorem o328_536 : Okp RL cL_law 4 (some .boolean) "law" false 536 (sCV false 198 4 12 539) := ok_cv (by decide +kernel : decode cL_law 536 = .ok (.invokevirtual 66, 3)) mw_L_66 rfl (by decide) wm_X11_channel wse_X11_channel (by decide) rfl
theorem o328_539 : Okp RL cL_law 4 (some .boolean) "law" false 539 (sLR 2 540) := ok_aload_n (by decide +kernel : decode cL_law 539 = .ok (.aload_n 2, 1)) rfl
theorem o328_540 : Okp RL cL_law 4 (some .boolean) "law" false 540 (sLR 0 541) := ok_aload_n (by decide +kernel : decode cL_law 540 = .ok (.aload_n 0, 1)) rfl
theorem o328_541 : Okp RL cL_law 4 (some .boolean) "law" false 541 (sLI 3 542) := ok_iload_n (by decide +kernel : decode cL_law 541 = .ok (.iload_n 3, 1)) rfl
theorem o328_542 : Okp RL cL_law 4 (some .boolean) "law" false 542 (sK 1 543) := ok_iconst (by decide +kernel : decode cL_law 542 = .ok (.iconst 1, 1)) (by decide)
theorem o328_543 : Okp RL cL_law 4 (some .boolean) "law" false 543 (sB2 fAdd 544) := ok_iadd (by decide +kernel : decode cL_law 543 = .ok (.iadd, 1))
theorem o328_544 : Okp RL cL_law 4 (some .boolean) "law" false 544 (sIA 545) := ok_iaload (by decide +kernel : decode cL_law 544 = .ok (.iaload, 1))
theorem o328_545 : Okp RL cL_law 4 (some .boolean) "law" false 545 (sLR 0 546) := ok_aload_n (by decide +kernel : decode cL_law 545 = .ok (.aload_n 0, 1)) rfl
theorem o328_546 : Okp RL cL_law 4 (some .boolean) "law" false 546 (sLI 3 547) := ok_iload_n (by decide +kernel : decode cL_law 546 = .ok (.iload_n 3, 1)) rfl
theorem o328_547 : Okp RL cL_law 4 (some .boolean) "law" false 547 (sK 2 548) := ok_iconst (by decide +kernel : decode cL_law 547 = .ok (.iconst 2, 1)) (by decide)
theorem o328_548 : Okp RL cL_law 4 (some .boolean) "law" false 548 (sB2 fAdd 549) := ok_iadd (by decide +kernel : decode cL_law 548 = .ok (.iadd, 1))
theorem o328_549 : Okp RL cL_law 4 (some .boolean) "law" false 549 (sIA 550) := ok_iaload (by decide +kernel : decode cL_law 549 = .ok (.iaload, 1))
theorem o328_550 : Okp RL cL_law 4 (some .boolean) "law" false 550 (sLR 0 551) := ok_aload_n (by decide +kernel : decode cL_law 550 = .ok (.aload_n 0, 1)) rfl
theorem o328_551 : Okp RL cL_law 4 (some .boolean) "law" false 551 (sLI 3 552) := ok_iload_n (by decide +kernel : decode cL_law 551 = .ok (.iload_n 3, 1)) rfl
theorem o328_552 : Okp RL cL_law 4 (some .boolean) "law" false 552 (sK 3 553) := ok_iconst (by decide +kernel : decode cL_law 552 = .ok (.iconst 3, 1)) (by decide)
theorem o328_553 : Okp RL cL_law 4 (some .boolean) "law" false 553 (sB2 fAdd 554) := ok_iadd (by decide +kernel : decode cL_law 553 = .ok (.iadd, 1))
theorem o328_554 : Okp RL cL_law 4 (some .boolean) "law" false 554 (sIA 555) := ok_iaload (by decide +kernel : decode cL_law 554 = .ok (.iaload, 1))
theorem o328_555 : Okp RL cL_law 4 (some .boolean) "law" false 555 (sCV false 326 4 13 558) := ok_cv (by decide +kernel : decode cL_law 555 = .ok (.invokevirtual 69, 3)) mw_L_69 rfl (by decide) wm_X12_channel_ wse_X12_channel_ (by decide) rfl
theorem o328_558 : Okp RL cL_law 4 (some .boolean) "law" false 558 (sI2 0 596 561) := ok_icmp_eq (by decide +kernel : decode cL_law 558 = .ok (.if_icmp .eq 38, 3)) (by decide)
theorem o328_561 : Okp RL cL_law 4 (some .boolean) "law" false 561 (sK 0 562) := ok_iconst (by decide +kernel : decode cL_law 561 = .ok (.iconst 0, 1)) (by decide)
theorem o328_562 : Okp RL cL_law 4 (some .boolean) "law" false 562 sRZ := ok_zret rfl (by decide +kernel : decode cL_law 562 = .ok (.ireturn, 1))
theorem o328_563 : Okp RL cL_law 4 (some .boolean) "law" false 563 (sLR 1 564) := ok_aload_n (by decide +kernel : decode cL_law 563 = .ok (.aload_n 1, 1)) rfl
theorem o328_564 : Okp RL cL_law 4 (some .boolean) "law" false 564 (sLR 0 565) := ok_aload_n (by decide +kernel : decode cL_law 564 = .ok (.aload_n 0, 1)) rfl
theorem o328_565 : Okp RL cL_law 4 (some .boolean) "law" false 565 (sLI 3 566) := ok_iload_n (by decide +kernel : decode cL_law 565 = .ok (.iload_n 3, 1)) rfl
theorem o328_566 : Okp RL cL_law 4 (some .boolean) "law" false 566 (sK 1 567) := ok_iconst (by decide +kernel : decode cL_law 566 = .ok (.iconst 1, 1)) (by decide)
theorem o328_567 : Okp RL cL_law 4 (some .boolean) "law" false 567 (sB2 fAdd 568) := ok_iadd (by decide +kernel : decode cL_law 567 = .ok (.iadd, 1))
theorem o328_568 : Okp RL cL_law 4 (some .boolean) "law" false 568 (sIA 569) := ok_iaload (by decide +kernel : decode cL_law 568 = .ok (.iaload, 1))
theorem o328_569 : Okp RL cL_law 4 (some .boolean) "law" false 569 (sLR 0 570) := ok_aload_n (by decide +kernel : decode cL_law 569 = .ok (.aload_n 0, 1)) rfl
theorem o328_570 : Okp RL cL_law 4 (some .boolean) "law" false 570 (sLI 3 571) := ok_iload_n (by decide +kernel : decode cL_law 570 = .ok (.iload_n 3, 1)) rfl
theorem o328_571 : Okp RL cL_law 4 (some .boolean) "law" false 571 (sK 2 572) := ok_iconst (by decide +kernel : decode cL_law 571 = .ok (.iconst 2, 1)) (by decide)
theorem o328_572 : Okp RL cL_law 4 (some .boolean) "law" false 572 (sB2 fAdd 573) := ok_iadd (by decide +kernel : decode cL_law 572 = .ok (.iadd, 1))
theorem o328_573 : Okp RL cL_law 4 (some .boolean) "law" false 573 (sIA 574) := ok_iaload (by decide +kernel : decode cL_law 573 = .ok (.iaload, 1))
theorem o328_574 : Okp RL cL_law 4 (some .boolean) "law" false 574 (sCV false 199 3 12 577) := ok_cv (by decide +kernel : decode cL_law 574 = .ok (.invokevirtual 70, 3)) mw_L_70 rfl (by decide) wm_X11_output wse_X11_output (by decide) rfl
theorem o328_577 : Okp RL cL_law 4 (some .boolean) "law" false 577 (sLR 2 578) := ok_aload_n (by decide +kernel : decode cL_law 577 = .ok (.aload_n 2, 1)) rfl
theorem o328_578 : Okp RL cL_law 4 (some .boolean) "law" false 578 (sLR 0 579) := ok_aload_n (by decide +kernel : decode cL_law 578 = .ok (.aload_n 0, 1)) rfl
theorem o328_579 : Okp RL cL_law 4 (some .boolean) "law" false 579 (sLI 3 580) := ok_iload_n (by decide +kernel : decode cL_law 579 = .ok (.iload_n 3, 1)) rfl
theorem o328_580 : Okp RL cL_law 4 (some .boolean) "law" false 580 (sK 1 581) := ok_iconst (by decide +kernel : decode cL_law 580 = .ok (.iconst 1, 1)) (by decide)
theorem o328_581 : Okp RL cL_law 4 (some .boolean) "law" false 581 (sB2 fAdd 582) := ok_iadd (by decide +kernel : decode cL_law 581 = .ok (.iadd, 1))
theorem o328_582 : Okp RL cL_law 4 (some .boolean) "law" false 582 (sIA 583) := ok_iaload (by decide +kernel : decode cL_law 582 = .ok (.iaload, 1))
theorem o328_583 : Okp RL cL_law 4 (some .boolean) "law" false 583 (sLR 0 584) := ok_aload_n (by decide +kernel : decode cL_law 583 = .ok (.aload_n 0, 1)) rfl
theorem o328_584 : Okp RL cL_law 4 (some .boolean) "law" false 584 (sLI 3 585) := ok_iload_n (by decide +kernel : decode cL_law 584 = .ok (.iload_n 3, 1)) rfl
theorem o328_585 : Okp RL cL_law 4 (some .boolean) "law" false 585 (sK 2 586) := ok_iconst (by decide +kernel : decode cL_law 585 = .ok (.iconst 2, 1)) (by decide)
theorem o328_586 : Okp RL cL_law 4 (some .boolean) "law" false 586 (sB2 fAdd 587) := ok_iadd (by decide +kernel : decode cL_law 586 = .ok (.iadd, 1))
theorem o328_587 : Okp RL cL_law 4 (some .boolean) "law" false 587 (sIA 588) := ok_iaload (by decide +kernel : decode cL_law 587 = .ok (.iaload, 1))
theorem o328_588 : Okp RL cL_law 4 (some .boolean) "law" false 588 (sCV false 327 3 13 591) := ok_cv (by decide +kernel : decode cL_law 588 = .ok (.invokevirtual 73, 3)) mw_L_73 rfl (by decide) wm_X12_output wse_X12_output (by decide) rfl
theorem o328_591 : Okp RL cL_law 4 (some .boolean) "law" false 591 (sI2 0 596 594) := ok_icmp_eq (by decide +kernel : decode cL_law 591 = .ok (.if_icmp .eq 5, 3)) (by decide)
theorem o328_594 : Okp RL cL_law 4 (some .boolean) "law" false 594 (sK 0 595) := ok_iconst (by decide +kernel : decode cL_law 594 = .ok (.iconst 0, 1)) (by decide)
theorem o328_595 : Okp RL cL_law 4 (some .boolean) "law" false 595 sRZ := ok_zret rfl (by decide +kernel : decode cL_law 595 = .ok (.ireturn, 1))
theorem o328_596 : Okp RL cL_law 4 (some .boolean) "law" false 596 (sInc 3 6 599) := ok_iinc (by decide +kernel : decode cL_law 596 = .ok (.iinc 3 6, 3)) (by decide) (by decide)
theorem o328_599 : Okp RL cL_law 4 (some .boolean) "law" false 599 (sGo 18) := ok_goto (by decide +kernel : decode cL_law 599 = .ok (.goto (-581), 3)) (by decide)
theorem o328_602 : Okp RL cL_law 4 (some .boolean) "law" false 602 (sK 1 603) := ok_iconst (by decide +kernel : decode cL_law 602 = .ok (.iconst 1, 1)) (by decide)
theorem o328_603 : Okp RL cL_law 4 (some .boolean) "law" false 603 sRZ := ok_zret rfl (by decide +kernel : decode cL_law 603 = .ok (.ireturn, 1))
theorem oc328_0 : ∀ pc, Mnp (c328_0 pc) ∧ Okp RL cL_law 4 (some .boolean) "law" false pc (c328_0 pc) := by
  intro pc
  unfold c328_0
  split
  · exact ⟨mn_sNew, o328_0⟩
  · exact ⟨mn_sDup, o328_3⟩
  · exact ⟨mn_sCI, o328_4⟩
  · exact ⟨mn_sSR, o328_7⟩
  · exact ⟨mn_sNew, o328_8⟩
  · exact ⟨mn_sDup, o328_11⟩
  · exact ⟨mn_sCI, o328_12⟩
  · exact ⟨mn_sSR, o328_15⟩
  · exact ⟨mn_sK, o328_16⟩
  · exact ⟨mn_sSI, o328_17⟩
  · exact ⟨mn_sLI, o328_18⟩
  · exact ⟨mn_sLR, o328_19⟩
  · exact ⟨mn_sLen, o328_20⟩
  · exact ⟨mn_sK, o328_21⟩
  · exact ⟨mn_sB2, o328_23⟩
  · exact ⟨mn_sX, ok_X⟩
theorem oc328_1 : ∀ pc, Mnp (c328_1 pc) ∧ Okp RL cL_law 4 (some .boolean) "law" false pc (c328_1 pc) := by
  intro pc
  unfold c328_1
  split
  · exact ⟨mn_sI2, o328_24⟩
  · exact ⟨mn_sLR, o328_27⟩
  · exact ⟨mn_sLI, o328_28⟩
  · exact ⟨mn_sIA, o328_29⟩
  · exact ⟨mn_sK, o328_30⟩
  · exact ⟨mn_sB2, o328_32⟩
  · exact ⟨mn_sSw, o328_33⟩
  · exact ⟨mn_sX, ok_X⟩
theorem oc328_4 : ∀ pc, Mnp (c328_4 pc) ∧ Okp RL cL_law 4 (some .boolean) "law" false pc (c328_4 pc) := by
  intro pc
  unfold c328_4
  split
  · exact ⟨mn_sLR, o328_104⟩
  · exact ⟨mn_sLR, o328_105⟩
  · exact ⟨mn_sLI, o328_106⟩
  · exact ⟨mn_sK, o328_107⟩
  · exact ⟨mn_sB2, o328_108⟩
  · exact ⟨mn_sIA, o328_109⟩
  · exact ⟨mn_sLR, o328_110⟩
  · exact ⟨mn_sLI, o328_111⟩
  · exact ⟨mn_sK, o328_112⟩
  · exact ⟨mn_sB2, o328_113⟩
  · exact ⟨mn_sIA, o328_114⟩
  · exact ⟨mn_sLR, o328_115⟩
  · exact ⟨mn_sLI, o328_116⟩
  · exact ⟨mn_sK, o328_117⟩
  · exact ⟨mn_sB2, o328_118⟩
  · exact ⟨mn_sIA, o328_119⟩
  · exact ⟨mn_sX, ok_X⟩
theorem oc328_5 : ∀ pc, Mnp (c328_5 pc) ∧ Okp RL cL_law 4 (some .boolean) "law" false pc (c328_5 pc) := by
  intro pc
  unfold c328_5
  split
  · exact ⟨mn_sLR, o328_120⟩
  · exact ⟨mn_sLI, o328_121⟩
  · exact ⟨mn_sK, o328_122⟩
  · exact ⟨mn_sB2, o328_123⟩
  · exact ⟨mn_sIA, o328_124⟩
  · exact ⟨mn_sLR, o328_125⟩
  · exact ⟨mn_sLI, o328_126⟩
  · exact ⟨mn_sK, o328_127⟩
  · exact ⟨mn_sB2, o328_128⟩
  · exact ⟨mn_sIA, o328_129⟩
  · exact ⟨mn_sCV, o328_130⟩
  · exact ⟨mn_sLR, o328_133⟩
  · exact ⟨mn_sLR, o328_134⟩
  · exact ⟨mn_sLI, o328_135⟩
  · exact ⟨mn_sK, o328_136⟩
  · exact ⟨mn_sB2, o328_137⟩
  · exact ⟨mn_sIA, o328_138⟩
  · exact ⟨mn_sLR, o328_139⟩
  · exact ⟨mn_sLI, o328_140⟩
  · exact ⟨mn_sK, o328_141⟩
  · exact ⟨mn_sB2, o328_142⟩
  · exact ⟨mn_sIA, o328_143⟩
  · exact ⟨mn_sX, ok_X⟩
theorem oc328_6 : ∀ pc, Mnp (c328_6 pc) ∧ Okp RL cL_law 4 (some .boolean) "law" false pc (c328_6 pc) := by
  intro pc
  unfold c328_6
  split
  · exact ⟨mn_sLR, o328_144⟩
  · exact ⟨mn_sLI, o328_145⟩
  · exact ⟨mn_sK, o328_146⟩
  · exact ⟨mn_sB2, o328_147⟩
  · exact ⟨mn_sIA, o328_148⟩
  · exact ⟨mn_sLR, o328_149⟩
  · exact ⟨mn_sLI, o328_150⟩
  · exact ⟨mn_sK, o328_151⟩
  · exact ⟨mn_sB2, o328_152⟩
  · exact ⟨mn_sIA, o328_153⟩
  · exact ⟨mn_sLR, o328_154⟩
  · exact ⟨mn_sLI, o328_155⟩
  · exact ⟨mn_sK, o328_156⟩
  · exact ⟨mn_sB2, o328_157⟩
  · exact ⟨mn_sIA, o328_158⟩
  · exact ⟨mn_sCV, o328_159⟩
  · exact ⟨mn_sI2, o328_162⟩
  · exact ⟨mn_sK, o328_165⟩
  · exact ⟨mn_sRZ, o328_166⟩
  · exact ⟨mn_sLR, o328_167⟩
  · exact ⟨mn_sX, ok_X⟩
theorem oc328_7 : ∀ pc, Mnp (c328_7 pc) ∧ Okp RL cL_law 4 (some .boolean) "law" false pc (c328_7 pc) := by
  intro pc
  unfold c328_7
  split
  · exact ⟨mn_sLR, o328_168⟩
  · exact ⟨mn_sLI, o328_169⟩
  · exact ⟨mn_sK, o328_170⟩
  · exact ⟨mn_sB2, o328_171⟩
  · exact ⟨mn_sIA, o328_172⟩
  · exact ⟨mn_sCV, o328_173⟩
  · exact ⟨mn_sLR, o328_176⟩
  · exact ⟨mn_sLR, o328_177⟩
  · exact ⟨mn_sLI, o328_178⟩
  · exact ⟨mn_sK, o328_179⟩
  · exact ⟨mn_sB2, o328_180⟩
  · exact ⟨mn_sIA, o328_181⟩
  · exact ⟨mn_sCV, o328_182⟩
  · exact ⟨mn_sI2, o328_185⟩
  · exact ⟨mn_sK, o328_188⟩
  · exact ⟨mn_sRZ, o328_189⟩
  · exact ⟨mn_sLR, o328_190⟩
  · exact ⟨mn_sLR, o328_191⟩
  · exact ⟨mn_sX, ok_X⟩
theorem oc328_8 : ∀ pc, Mnp (c328_8 pc) ∧ Okp RL cL_law 4 (some .boolean) "law" false pc (c328_8 pc) := by
  intro pc
  unfold c328_8
  split
  · exact ⟨mn_sLI, o328_192⟩
  · exact ⟨mn_sK, o328_193⟩
  · exact ⟨mn_sB2, o328_194⟩
  · exact ⟨mn_sIA, o328_195⟩
  · exact ⟨mn_sCV, o328_196⟩
  · exact ⟨mn_sLR, o328_199⟩
  · exact ⟨mn_sLR, o328_200⟩
  · exact ⟨mn_sLI, o328_201⟩
  · exact ⟨mn_sK, o328_202⟩
  · exact ⟨mn_sB2, o328_203⟩
  · exact ⟨mn_sIA, o328_204⟩
  · exact ⟨mn_sCV, o328_205⟩
  · exact ⟨mn_sI2, o328_208⟩
  · exact ⟨mn_sK, o328_211⟩
  · exact ⟨mn_sRZ, o328_212⟩
  · exact ⟨mn_sLR, o328_213⟩
  · exact ⟨mn_sLR, o328_214⟩
  · exact ⟨mn_sLI, o328_215⟩
  · exact ⟨mn_sX, ok_X⟩
theorem oc328_9 : ∀ pc, Mnp (c328_9 pc) ∧ Okp RL cL_law 4 (some .boolean) "law" false pc (c328_9 pc) := by
  intro pc
  unfold c328_9
  split
  · exact ⟨mn_sK, o328_216⟩
  · exact ⟨mn_sB2, o328_217⟩
  · exact ⟨mn_sIA, o328_218⟩
  · exact ⟨mn_sCV, o328_219⟩
  · exact ⟨mn_sLR, o328_222⟩
  · exact ⟨mn_sLR, o328_223⟩
  · exact ⟨mn_sLI, o328_224⟩
  · exact ⟨mn_sK, o328_225⟩
  · exact ⟨mn_sB2, o328_226⟩
  · exact ⟨mn_sIA, o328_227⟩
  · exact ⟨mn_sCV, o328_228⟩
  · exact ⟨mn_sI2, o328_231⟩
  · exact ⟨mn_sK, o328_234⟩
  · exact ⟨mn_sRZ, o328_235⟩
  · exact ⟨mn_sLR, o328_236⟩
  · exact ⟨mn_sLR, o328_237⟩
  · exact ⟨mn_sLI, o328_238⟩
  · exact ⟨mn_sK, o328_239⟩
  · exact ⟨mn_sX, ok_X⟩
theorem oc328_10 : ∀ pc, Mnp (c328_10 pc) ∧ Okp RL cL_law 4 (some .boolean) "law" false pc (c328_10 pc) := by
  intro pc
  unfold c328_10
  split
  · exact ⟨mn_sB2, o328_240⟩
  · exact ⟨mn_sIA, o328_241⟩
  · exact ⟨mn_sLR, o328_242⟩
  · exact ⟨mn_sLI, o328_243⟩
  · exact ⟨mn_sK, o328_244⟩
  · exact ⟨mn_sB2, o328_245⟩
  · exact ⟨mn_sIA, o328_246⟩
  · exact ⟨mn_sLR, o328_247⟩
  · exact ⟨mn_sLI, o328_248⟩
  · exact ⟨mn_sK, o328_249⟩
  · exact ⟨mn_sB2, o328_250⟩
  · exact ⟨mn_sIA, o328_251⟩
  · exact ⟨mn_sCV, o328_252⟩
  · exact ⟨mn_sLR, o328_255⟩
  · exact ⟨mn_sLR, o328_256⟩
  · exact ⟨mn_sLI, o328_257⟩
  · exact ⟨mn_sK, o328_258⟩
  · exact ⟨mn_sB2, o328_259⟩
  · exact ⟨mn_sIA, o328_260⟩
  · exact ⟨mn_sLR, o328_261⟩
  · exact ⟨mn_sLI, o328_262⟩
  · exact ⟨mn_sK, o328_263⟩
  · exact ⟨mn_sX, ok_X⟩
theorem oc328_11 : ∀ pc, Mnp (c328_11 pc) ∧ Okp RL cL_law 4 (some .boolean) "law" false pc (c328_11 pc) := by
  intro pc
  unfold c328_11
  split
  · exact ⟨mn_sB2, o328_264⟩
  · exact ⟨mn_sIA, o328_265⟩
  · exact ⟨mn_sLR, o328_266⟩
  · exact ⟨mn_sLI, o328_267⟩
  · exact ⟨mn_sK, o328_268⟩
  · exact ⟨mn_sB2, o328_269⟩
  · exact ⟨mn_sIA, o328_270⟩
  · exact ⟨mn_sCV, o328_271⟩
  · exact ⟨mn_sI2, o328_274⟩
  · exact ⟨mn_sK, o328_277⟩
  · exact ⟨mn_sRZ, o328_278⟩
  · exact ⟨mn_sLR, o328_279⟩
  · exact ⟨mn_sLR, o328_280⟩
  · exact ⟨mn_sLI, o328_281⟩
  · exact ⟨mn_sK, o328_282⟩
  · exact ⟨mn_sB2, o328_283⟩
  · exact ⟨mn_sIA, o328_284⟩
  · exact ⟨mn_sLR, o328_285⟩
  · exact ⟨mn_sLI, o328_286⟩
  · exact ⟨mn_sK, o328_287⟩
  · exact ⟨mn_sX, ok_X⟩
theorem oc328_12 : ∀ pc, Mnp (c328_12 pc) ∧ Okp RL cL_law 4 (some .boolean) "law" false pc (c328_12 pc) := by
  intro pc
  unfold c328_12
  split
  · exact ⟨mn_sB2, o328_288⟩
  · exact ⟨mn_sIA, o328_289⟩
  · exact ⟨mn_sLR, o328_290⟩
  · exact ⟨mn_sLI, o328_291⟩
  · exact ⟨mn_sK, o328_292⟩
  · exact ⟨mn_sB2, o328_293⟩
  · exact ⟨mn_sIA, o328_294⟩
  · exact ⟨mn_sLR, o328_295⟩
  · exact ⟨mn_sLI, o328_296⟩
  · exact ⟨mn_sK, o328_297⟩
  · exact ⟨mn_sB2, o328_298⟩
  · exact ⟨mn_sIA, o328_299⟩
  · exact ⟨mn_sLR, o328_300⟩
  · exact ⟨mn_sLI, o328_301⟩
  · exact ⟨mn_sK, o328_302⟩
  · exact ⟨mn_sB2, o328_303⟩
  · exact ⟨mn_sIA, o328_304⟩
  · exact ⟨mn_sCV, o328_305⟩
  · exact ⟨mn_sLR, o328_308⟩
  · exact ⟨mn_sLR, o328_309⟩
  · exact ⟨mn_sLI, o328_310⟩
  · exact ⟨mn_sK, o328_311⟩
  · exact ⟨mn_sX, ok_X⟩
theorem oc328_13 : ∀ pc, Mnp (c328_13 pc) ∧ Okp RL cL_law 4 (some .boolean) "law" false pc (c328_13 pc) := by
  intro pc
  unfold c328_13
  split
  · exact ⟨mn_sB2, o328_312⟩
  · exact ⟨mn_sIA, o328_313⟩
  · exact ⟨mn_sLR, o328_314⟩
  · exact ⟨mn_sLI, o328_315⟩
  · exact ⟨mn_sK, o328_316⟩
  · exact ⟨mn_sB2, o328_317⟩
  · exact ⟨mn_sIA, o328_318⟩
  · exact ⟨mn_sLR, o328_319⟩
  · exact ⟨mn_sLI, o328_320⟩
  · exact ⟨mn_sK, o328_321⟩
  · exact ⟨mn_sB2, o328_322⟩
  · exact ⟨mn_sIA, o328_323⟩
  · exact ⟨mn_sLR, o328_324⟩
  · exact ⟨mn_sLI, o328_325⟩
  · exact ⟨mn_sK, o328_326⟩
  · exact ⟨mn_sB2, o328_327⟩
  · exact ⟨mn_sIA, o328_328⟩
  · exact ⟨mn_sLR, o328_329⟩
  · exact ⟨mn_sLI, o328_330⟩
  · exact ⟨mn_sK, o328_331⟩
  · exact ⟨mn_sB2, o328_332⟩
  · exact ⟨mn_sIA, o328_333⟩
  · exact ⟨mn_sCV, o328_334⟩
  · exact ⟨mn_sX, ok_X⟩
theorem oc328_14 : ∀ pc, Mnp (c328_14 pc) ∧ Okp RL cL_law 4 (some .boolean) "law" false pc (c328_14 pc) := by
  intro pc
  unfold c328_14
  split
  · exact ⟨mn_sI2, o328_337⟩
  · exact ⟨mn_sK, o328_340⟩
  · exact ⟨mn_sRZ, o328_341⟩
  · exact ⟨mn_sLR, o328_342⟩
  · exact ⟨mn_sLR, o328_343⟩
  · exact ⟨mn_sLI, o328_344⟩
  · exact ⟨mn_sK, o328_345⟩
  · exact ⟨mn_sB2, o328_346⟩
  · exact ⟨mn_sIA, o328_347⟩
  · exact ⟨mn_sCV, o328_348⟩
  · exact ⟨mn_sLR, o328_351⟩
  · exact ⟨mn_sLR, o328_352⟩
  · exact ⟨mn_sLI, o328_353⟩
  · exact ⟨mn_sK, o328_354⟩
  · exact ⟨mn_sB2, o328_355⟩
  · exact ⟨mn_sIA, o328_356⟩
  · exact ⟨mn_sCV, o328_357⟩
  · exact ⟨mn_sX, ok_X⟩
theorem oc328_15 : ∀ pc, Mnp (c328_15 pc) ∧ Okp RL cL_law 4 (some .boolean) "law" false pc (c328_15 pc) := by
  intro pc
  unfold c328_15
  split
  · exact ⟨mn_sI2, o328_360⟩
  · exact ⟨mn_sK, o328_363⟩
  · exact ⟨mn_sRZ, o328_364⟩
  · exact ⟨mn_sLR, o328_365⟩
  · exact ⟨mn_sLR, o328_366⟩
  · exact ⟨mn_sLI, o328_367⟩
  · exact ⟨mn_sK, o328_368⟩
  · exact ⟨mn_sB2, o328_369⟩
  · exact ⟨mn_sIA, o328_370⟩
  · exact ⟨mn_sCV, o328_371⟩
  · exact ⟨mn_sLR, o328_374⟩
  · exact ⟨mn_sLR, o328_375⟩
  · exact ⟨mn_sLI, o328_376⟩
  · exact ⟨mn_sK, o328_377⟩
  · exact ⟨mn_sB2, o328_378⟩
  · exact ⟨mn_sIA, o328_379⟩
  · exact ⟨mn_sCV, o328_380⟩
  · exact ⟨mn_sI2, o328_383⟩
  · exact ⟨mn_sX, ok_X⟩
theorem oc328_16 : ∀ pc, Mnp (c328_16 pc) ∧ Okp RL cL_law 4 (some .boolean) "law" false pc (c328_16 pc) := by
  intro pc
  unfold c328_16
  split
  · exact ⟨mn_sK, o328_386⟩
  · exact ⟨mn_sRZ, o328_387⟩
  · exact ⟨mn_sLR, o328_388⟩
  · exact ⟨mn_sLR, o328_389⟩
  · exact ⟨mn_sLI, o328_390⟩
  · exact ⟨mn_sK, o328_391⟩
  · exact ⟨mn_sB2, o328_392⟩
  · exact ⟨mn_sIA, o328_393⟩
  · exact ⟨mn_sCV, o328_394⟩
  · exact ⟨mn_sLR, o328_397⟩
  · exact ⟨mn_sLR, o328_398⟩
  · exact ⟨mn_sLI, o328_399⟩
  · exact ⟨mn_sK, o328_400⟩
  · exact ⟨mn_sB2, o328_401⟩
  · exact ⟨mn_sIA, o328_402⟩
  · exact ⟨mn_sCV, o328_403⟩
  · exact ⟨mn_sI2, o328_406⟩
  · exact ⟨mn_sX, ok_X⟩
theorem oc328_17 : ∀ pc, Mnp (c328_17 pc) ∧ Okp RL cL_law 4 (some .boolean) "law" false pc (c328_17 pc) := by
  intro pc
  unfold c328_17
  split
  · exact ⟨mn_sK, o328_409⟩
  · exact ⟨mn_sRZ, o328_410⟩
  · exact ⟨mn_sLR, o328_411⟩
  · exact ⟨mn_sLR, o328_412⟩
  · exact ⟨mn_sLI, o328_413⟩
  · exact ⟨mn_sK, o328_414⟩
  · exact ⟨mn_sB2, o328_415⟩
  · exact ⟨mn_sIA, o328_416⟩
  · exact ⟨mn_sLR, o328_417⟩
  · exact ⟨mn_sLI, o328_418⟩
  · exact ⟨mn_sK, o328_419⟩
  · exact ⟨mn_sB2, o328_420⟩
  · exact ⟨mn_sIA, o328_421⟩
  · exact ⟨mn_sCV, o328_422⟩
  · exact ⟨mn_sLR, o328_425⟩
  · exact ⟨mn_sLR, o328_426⟩
  · exact ⟨mn_sLI, o328_427⟩
  · exact ⟨mn_sK, o328_428⟩
  · exact ⟨mn_sB2, o328_429⟩
  · exact ⟨mn_sIA, o328_430⟩
  · exact ⟨mn_sLR, o328_431⟩
  · exact ⟨mn_sX, ok_X⟩
theorem oc328_18 : ∀ pc, Mnp (c328_18 pc) ∧ Okp RL cL_law 4 (some .boolean) "law" false pc (c328_18 pc) := by
  intro pc
  unfold c328_18
  split
  · exact ⟨mn_sLI, o328_432⟩
  · exact ⟨mn_sK, o328_433⟩
  · exact ⟨mn_sB2, o328_434⟩
  · exact ⟨mn_sIA, o328_435⟩
  · exact ⟨mn_sCV, o328_436⟩
  · exact ⟨mn_sI2, o328_439⟩
  · exact ⟨mn_sK, o328_442⟩
  · exact ⟨mn_sRZ, o328_443⟩
  · exact ⟨mn_sLR, o328_444⟩
  · exact ⟨mn_sLR, o328_445⟩
  · exact ⟨mn_sLI, o328_446⟩
  · exact ⟨mn_sK, o328_447⟩
  · exact ⟨mn_sB2, o328_448⟩
  · exact ⟨mn_sIA, o328_449⟩
  · exact ⟨mn_sLR, o328_450⟩
  · exact ⟨mn_sLI, o328_451⟩
  · exact ⟨mn_sK, o328_452⟩
  · exact ⟨mn_sB2, o328_453⟩
  · exact ⟨mn_sIA, o328_454⟩
  · exact ⟨mn_sLR, o328_455⟩
  · exact ⟨mn_sX, ok_X⟩
theorem oc328_19 : ∀ pc, Mnp (c328_19 pc) ∧ Okp RL cL_law 4 (some .boolean) "law" false pc (c328_19 pc) := by
  intro pc
  unfold c328_19
  split
  · exact ⟨mn_sLI, o328_456⟩
  · exact ⟨mn_sK, o328_457⟩
  · exact ⟨mn_sB2, o328_458⟩
  · exact ⟨mn_sIA, o328_459⟩
  · exact ⟨mn_sCV, o328_460⟩
  · exact ⟨mn_sLR, o328_463⟩
  · exact ⟨mn_sLR, o328_464⟩
  · exact ⟨mn_sLI, o328_465⟩
  · exact ⟨mn_sK, o328_466⟩
  · exact ⟨mn_sB2, o328_467⟩
  · exact ⟨mn_sIA, o328_468⟩
  · exact ⟨mn_sLR, o328_469⟩
  · exact ⟨mn_sLI, o328_470⟩
  · exact ⟨mn_sK, o328_471⟩
  · exact ⟨mn_sB2, o328_472⟩
  · exact ⟨mn_sIA, o328_473⟩
  · exact ⟨mn_sLR, o328_474⟩
  · exact ⟨mn_sLI, o328_475⟩
  · exact ⟨mn_sK, o328_476⟩
  · exact ⟨mn_sB2, o328_477⟩
  · exact ⟨mn_sIA, o328_478⟩
  · exact ⟨mn_sCV, o328_479⟩
  · exact ⟨mn_sX, ok_X⟩
theorem oc328_20 : ∀ pc, Mnp (c328_20 pc) ∧ Okp RL cL_law 4 (some .boolean) "law" false pc (c328_20 pc) := by
  intro pc
  unfold c328_20
  split
  · exact ⟨mn_sI2, o328_482⟩
  · exact ⟨mn_sK, o328_485⟩
  · exact ⟨mn_sRZ, o328_486⟩
  · exact ⟨mn_sLR, o328_487⟩
  · exact ⟨mn_sLR, o328_488⟩
  · exact ⟨mn_sLI, o328_489⟩
  · exact ⟨mn_sK, o328_490⟩
  · exact ⟨mn_sB2, o328_491⟩
  · exact ⟨mn_sIA, o328_492⟩
  · exact ⟨mn_sLR, o328_493⟩
  · exact ⟨mn_sLI, o328_494⟩
  · exact ⟨mn_sK, o328_495⟩
  · exact ⟨mn_sB2, o328_496⟩
  · exact ⟨mn_sIA, o328_497⟩
  · exact ⟨mn_sCV, o328_498⟩
  · exact ⟨mn_sLR, o328_501⟩
  · exact ⟨mn_sLR, o328_502⟩
  · exact ⟨mn_sLI, o328_503⟩
  · exact ⟨mn_sX, ok_X⟩
theorem oc328_21 : ∀ pc, Mnp (c328_21 pc) ∧ Okp RL cL_law 4 (some .boolean) "law" false pc (c328_21 pc) := by
  intro pc
  unfold c328_21
  split
  · exact ⟨mn_sK, o328_504⟩
  · exact ⟨mn_sB2, o328_505⟩
  · exact ⟨mn_sIA, o328_506⟩
  · exact ⟨mn_sLR, o328_507⟩
  · exact ⟨mn_sLI, o328_508⟩
  · exact ⟨mn_sK, o328_509⟩
  · exact ⟨mn_sB2, o328_510⟩
  · exact ⟨mn_sIA, o328_511⟩
  · exact ⟨mn_sCV, o328_512⟩
  · exact ⟨mn_sI2, o328_515⟩
  · exact ⟨mn_sK, o328_518⟩
  · exact ⟨mn_sRZ, o328_519⟩
  · exact ⟨mn_sLR, o328_520⟩
  · exact ⟨mn_sLR, o328_521⟩
  · exact ⟨mn_sLI, o328_522⟩
  · exact ⟨mn_sK, o328_523⟩
  · exact ⟨mn_sB2, o328_524⟩
  · exact ⟨mn_sIA, o328_525⟩
  · exact ⟨mn_sLR, o328_526⟩
  · exact ⟨mn_sLI, o328_527⟩
  · exact ⟨mn_sX, ok_X⟩
theorem oc328_22 : ∀ pc, Mnp (c328_22 pc) ∧ Okp RL cL_law 4 (some .boolean) "law" false pc (c328_22 pc) := by
  intro pc
  unfold c328_22
  split
  · exact ⟨mn_sK, o328_528⟩
  · exact ⟨mn_sB2, o328_529⟩
  · exact ⟨mn_sIA, o328_530⟩
  · exact ⟨mn_sLR, o328_531⟩
  · exact ⟨mn_sLI, o328_532⟩
  · exact ⟨mn_sK, o328_533⟩
  · exact ⟨mn_sB2, o328_534⟩
  · exact ⟨mn_sIA, o328_535⟩
  · exact ⟨mn_sCV, o328_536⟩
  · exact ⟨mn_sLR, o328_539⟩
  · exact ⟨mn_sLR, o328_540⟩
  · exact ⟨mn_sLI, o328_541⟩
  · exact ⟨mn_sK, o328_542⟩
  · exact ⟨mn_sB2, o328_543⟩
  · exact ⟨mn_sIA, o328_544⟩
  · exact ⟨mn_sLR, o328_545⟩
  · exact ⟨mn_sLI, o328_546⟩
  · exact ⟨mn_sK, o328_547⟩
  · exact ⟨mn_sB2, o328_548⟩
  · exact ⟨mn_sIA, o328_549⟩
  · exact ⟨mn_sLR, o328_550⟩
  · exact ⟨mn_sLI, o328_551⟩
  · exact ⟨mn_sX, ok_X⟩
theorem oc328_23 : ∀ pc, Mnp (c328_23 pc) ∧ Okp RL cL_law 4 (some .boolean) "law" false pc (c328_23 pc) := by
  intro pc
  unfold c328_23
  split
  · exact ⟨mn_sK, o328_552⟩
  · exact ⟨mn_sB2, o328_553⟩
  · exact ⟨mn_sIA, o328_554⟩
  · exact ⟨mn_sCV, o328_555⟩
  · exact ⟨mn_sI2, o328_558⟩
  · exact ⟨mn_sK, o328_561⟩
  · exact ⟨mn_sRZ, o328_562⟩
  · exact ⟨mn_sLR, o328_563⟩
  · exact ⟨mn_sLR, o328_564⟩
  · exact ⟨mn_sLI, o328_565⟩
  · exact ⟨mn_sK, o328_566⟩
  · exact ⟨mn_sB2, o328_567⟩
  · exact ⟨mn_sIA, o328_568⟩
  · exact ⟨mn_sLR, o328_569⟩
  · exact ⟨mn_sLI, o328_570⟩
  · exact ⟨mn_sK, o328_571⟩
  · exact ⟨mn_sB2, o328_572⟩
  · exact ⟨mn_sIA, o328_573⟩
  · exact ⟨mn_sCV, o328_574⟩
  · exact ⟨mn_sX, ok_X⟩
theorem oc328_24 : ∀ pc, Mnp (c328_24 pc) ∧ Okp RL cL_law 4 (some .boolean) "law" false pc (c328_24 pc) := by
  intro pc
  unfold c328_24
  split
  · exact ⟨mn_sLR, o328_577⟩
  · exact ⟨mn_sLR, o328_578⟩
  · exact ⟨mn_sLI, o328_579⟩
  · exact ⟨mn_sK, o328_580⟩
  · exact ⟨mn_sB2, o328_581⟩
  · exact ⟨mn_sIA, o328_582⟩
  · exact ⟨mn_sLR, o328_583⟩
  · exact ⟨mn_sLI, o328_584⟩
  · exact ⟨mn_sK, o328_585⟩
  · exact ⟨mn_sB2, o328_586⟩
  · exact ⟨mn_sIA, o328_587⟩
  · exact ⟨mn_sCV, o328_588⟩
  · exact ⟨mn_sI2, o328_591⟩
  · exact ⟨mn_sK, o328_594⟩
  · exact ⟨mn_sRZ, o328_595⟩
  · exact ⟨mn_sInc, o328_596⟩
  · exact ⟨mn_sGo, o328_599⟩
  · exact ⟨mn_sX, ok_X⟩
theorem oc328_25 : ∀ pc, Mnp (c328_25 pc) ∧ Okp RL cL_law 4 (some .boolean) "law" false pc (c328_25 pc) := by
  intro pc
  unfold c328_25
  split
  · exact ⟨mn_sK, o328_602⟩
  · exact ⟨mn_sRZ, o328_603⟩
  · exact ⟨mn_sX, ok_X⟩
theorem oc328 : ∀ pc, Mnp (c328 pc) ∧ Okp RL cL_law 4 (some .boolean) "law" false pc (c328 pc) := by
  intro pc
  unfold c328
  split
  · exact oc328_0 pc
  · exact oc328_1 pc
  · exact oc328_4 pc
  · exact oc328_5 pc
  · exact oc328_6 pc
  · exact oc328_7 pc
  · exact oc328_8 pc
  · exact oc328_9 pc
  · exact oc328_10 pc
  · exact oc328_11 pc
  · exact oc328_12 pc
  · exact oc328_13 pc
  · exact oc328_14 pc
  · exact oc328_15 pc
  · exact oc328_16 pc
  · exact oc328_17 pc
  · exact oc328_18 pc
  · exact oc328_19 pc
  · exact oc328_20 pc
  · exact oc328_21 pc
  · exact oc328_22 pc
  · exact oc328_23 pc
  · exact oc328_24 pc
  · exact oc328_25 pc
  · exact ⟨mn_sX, ok_X⟩
