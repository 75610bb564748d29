theorem o64_0 : Okp RX5 cX5_startTask 10 none "startTask" false 0 (sLR 1 1) := ok_aload_n (by decide +kernel : decode cX5_startTask 0 = .ok (.aload_n 1, 1)) rfl
theorem o64_1 : Okp RX5 cX5_startTask 10 none "startTask" false 1 (sGR 7 2 4) := ok_getR (by decide +kernel : decode cX5_startTask 1 = .ok (.getfield 86, 3)) fw_X5_86 rfl
theorem o64_4 : Okp RX5 cX5_startTask 10 none "startTask" false 4 (sLI 2 5) := ok_iload_n (by decide +kernel : decode cX5_startTask 4 = .ok (.iload_n 2, 1)) rfl
theorem o64_5 : Okp RX5 cX5_startTask 10 none "startTask" false 5 (sRA 6) := ok_aaload (by decide +kernel : decode cX5_startTask 5 = .ok (.aaload, 1))
theorem o64_6 : Okp RX5 cX5_startTask 10 none "startTask" false 6 (sSR 3 7) := ok_astore_n (by decide +kernel : decode cX5_startTask 6 = .ok (.astore_n 3, 1)) rfl (by decide) (by decide)
theorem o64_7 : Okp RX5 cX5_startTask 10 none "startTask" false 7 (sLR 3 8) := ok_aload_n (by decide +kernel : decode cX5_startTask 7 = .ok (.aload_n 3, 1)) rfl
theorem o64_8 : Okp RX5 cX5_startTask 10 none "startTask" false 8 (sNl 11 15) := ok_ifnonnull (by decide +kernel : decode cX5_startTask 8 = .ok (.ifnonnull 7, 3)) (by decide)
theorem o64_11 : Okp RX5 cX5_startTask 10 none "startTask" false 11 (sNul 12) := ok_null (by decide +kernel : decode cX5_startTask 11 = .ok (.aconst_null, 1))
theorem o64_12 : Okp RX5 cX5_startTask 10 none "startTask" false 12 (sGo 25) := ok_goto (by decide +kernel : decode cX5_startTask 12 = .ok (.goto 13, 3)) (by decide)
theorem o64_15 : Okp RX5 cX5_startTask 10 none "startTask" false 15 (sLR 3 16) := ok_aload_n (by decide +kernel : decode cX5_startTask 15 = .ok (.aload_n 3, 1)) rfl
theorem o64_16 : Okp RX5 cX5_startTask 10 none "startTask" false 16 (sLR 1 17) := ok_aload_n (by decide +kernel : decode cX5_startTask 16 = .ok (.aload_n 1, 1)) rfl
theorem o64_17 : Okp RX5 cX5_startTask 10 none "startTask" false 17 (sGR 7 4 20) := ok_getR (by decide +kernel : decode cX5_startTask 17 = .ok (.getfield 90, 3)) fw_X5_90 rfl
theorem o64_20 : Okp RX5 cX5_startTask 10 none "startTask" false 20 (sLI 2 21) := ok_iload_n (by decide +kernel : decode cX5_startTask 20 = .ok (.iload_n 2, 1)) rfl
theorem o64_21 : Okp RX5 cX5_startTask 10 none "startTask" false 21 (sIA 22) := ok_iaload (by decide +kernel : decode cX5_startTask 21 = .ok (.iaload, 1))
theorem o64_22 : Okp RX5 cX5_startTask 10 none "startTask" false 22 (sCV false 149 2 10 25) := ok_cv (by decide +kernel : decode cX5_startTask 22 = .ok (.invokevirtual 93, 3)) mw_X5_93 rfl (by decide) wm_X9_routineAt wse_X9_routineAt (by decide) rfl
theorem o64_25 : Okp RX5 cX5_startTask 10 none "startTask" false 25 (sSR 4 27) := ok_astore (by decide +kernel : decode cX5_startTask 25 = .ok (.astore 4, 2)) (by decide) (by decide)
theorem o64_27 : Okp RX5 cX5_startTask 10 none "startTask" false 27 (sLR 4 29) := ok_aload (by decide +kernel : decode cX5_startTask 27 = .ok (.aload 4, 2))
theorem o64_29 : Okp RX5 cX5_startTask 10 none "startTask" false 29 (sNl 32 33) := ok_ifnonnull (by decide +kernel : decode cX5_startTask 29 = .ok (.ifnonnull 4, 3)) (by decide)
theorem o64_32 : Okp RX5 cX5_startTask 10 none "startTask" false 32 sRV := ok_vret rfl (by decide +kernel : decode cX5_startTask 32 = .ok (.return_, 1))
theorem o64_33 : Okp RX5 cX5_startTask 10 none "startTask" false 33 (sK 16 35) := ok_bipush (by decide +kernel : decode cX5_startTask 33 = .ok (.bipush 16, 2)) (by decide)
theorem o64_35 : Okp RX5 cX5_startTask 10 none "startTask" false 35 (sLR 1 36) := ok_aload_n (by decide +kernel : decode cX5_startTask 35 = .ok (.aload_n 1, 1)) rfl
theorem o64_36 : Okp RX5 cX5_startTask 10 none "startTask" false 36 (sGR 7 5 39) := ok_getR (by decide +kernel : decode cX5_startTask 36 = .ok (.getfield 99, 3)) fw_X5_99 rfl
theorem o64_39 : Okp RX5 cX5_startTask 10 none "startTask" false 39 (sLI 2 40) := ok_iload_n (by decide +kernel : decode cX5_startTask 39 = .ok (.iload_n 2, 1)) rfl
theorem o64_40 : Okp RX5 cX5_startTask 10 none "startTask" false 40 (sIA 41) := ok_iaload (by decide +kernel : decode cX5_startTask 40 = .ok (.iaload, 1))
theorem o64_41 : Okp RX5 cX5_startTask 10 none "startTask" false 41 (sB2 fMul 42) := ok_imul (by decide +kernel : decode cX5_startTask 41 = .ok (.imul, 1))
theorem o64_42 : Okp RX5 cX5_startTask 10 none "startTask" false 42 (sSI 5 44) := ok_istore (by decide +kernel : decode cX5_startTask 42 = .ok (.istore 5, 2)) (by decide) (by decide)
theorem o64_44 : Okp RX5 cX5_startTask 10 none "startTask" false 44 (sLR 0 45) := ok_aload_n (by decide +kernel : decode cX5_startTask 44 = .ok (.aload_n 0, 1)) rfl
theorem o64_45 : Okp RX5 cX5_startTask 10 none "startTask" false 45 (sLI 2 46) := ok_iload_n (by decide +kernel : decode cX5_startTask 45 = .ok (.iload_n 2, 1)) rfl
theorem o64_46 : Okp RX5 cX5_startTask 10 none "startTask" false 46 (sLR 3 47) := ok_aload_n (by decide +kernel : decode cX5_startTask 46 = .ok (.aload_n 3, 1)) rfl
theorem o64_47 : Okp RX5 cX5_startTask 10 none "startTask" false 47 (sLR 1 48) := ok_aload_n (by decide +kernel : decode cX5_startTask 47 = .ok (.aload_n 1, 1)) rfl
theorem o64_48 : Okp RX5 cX5_startTask 10 none "startTask" false 48 (sGR 7 3 51) := ok_getR (by decide +kernel : decode cX5_startTask 48 = .ok (.getfield 102, 3)) fw_X5_102 rfl
theorem o64_51 : Okp RX5 cX5_startTask 10 none "startTask" false 51 (sLI 2 52) := ok_iload_n (by decide +kernel : decode cX5_startTask 51 = .ok (.iload_n 2, 1)) rfl
theorem o64_52 : Okp RX5 cX5_startTask 10 none "startTask" false 52 (sIA 53) := ok_iaload (by decide +kernel : decode cX5_startTask 52 = .ok (.iaload, 1))
theorem o64_53 : Okp RX5 cX5_startTask 10 none "startTask" false 53 (sLR 1 54) := ok_aload_n (by decide +kernel : decode cX5_startTask 53 = .ok (.aload_n 1, 1)) rfl
theorem o64_54 : Okp RX5 cX5_startTask 10 none "startTask" false 54 (sGR 7 4 57) := ok_getR (by decide +kernel : decode cX5_startTask 54 = .ok (.getfield 90, 3)) fw_X5_90 rfl
theorem o64_57 : Okp RX5 cX5_startTask 10 none "startTask" false 57 (sLI 2 58) := ok_iload_n (by decide +kernel : decode cX5_startTask 57 = .ok (.iload_n 2, 1)) rfl
theorem o64_58 : Okp RX5 cX5_startTask 10 none "startTask" false 58 (sIA 59) := ok_iaload (by decide +kernel : decode cX5_startTask 58 = .ok (.iaload, 1))
theorem o64_59 : Okp RX5 cX5_startTask 10 none "startTask" false 59 (sLI 5 61) := ok_iload (by decide +kernel : decode cX5_startTask 59 = .ok (.iload 5, 2))
theorem o64_61 : Okp RX5 cX5_startTask 10 none "startTask" false 61 (sCV false 66 6 6 64) := ok_cv (by decide +kernel : decode cX5_startTask 61 = .ok (.invokevirtual 105, 3)) mw_X5_105 rfl (by decide) wm_X5_begin wse_X5_begin (by decide) rfl
theorem o64_64 : Okp RX5 cX5_startTask 10 none "startTask" false 64 (sSR 6 66) := ok_astore (by decide +kernel : decode cX5_startTask 64 = .ok (.astore 6, 2)) (by decide) (by decide)
theorem o64_66 : Okp RX5 cX5_startTask 10 none "startTask" false 66 (sK 0 67) := ok_iconst (by decide +kernel : decode cX5_startTask 66 = .ok (.iconst 0, 1)) (by decide)
theorem o64_67 : Okp RX5 cX5_startTask 10 none "startTask" false 67 (sSI 7 69) := ok_istore (by decide +kernel : decode cX5_startTask 67 = .ok (.istore 7, 2)) (by decide) (by decide)
theorem o64_69 : Okp RX5 cX5_startTask 10 none "startTask" false 69 (sLI 7 71) := ok_iload (by decide +kernel : decode cX5_startTask 69 = .ok (.iload 7, 2))
theorem o64_71 : Okp RX5 cX5_startTask 10 none "startTask" false 71 (sLR 4 73) := ok_aload (by decide +kernel : decode cX5_startTask 71 = .ok (.aload 4, 2))
theorem o64_73 : Okp RX5 cX5_startTask 10 none "startTask" false 73 (sGI 8 0 76) := ok_getI (by decide +kernel : decode cX5_startTask 73 = .ok (.getfield 109, 3)) fw_X5_109 rfl
theorem o64_76 : Okp RX5 cX5_startTask 10 none "startTask" false 76 (sI2 3 159 79) := ok_icmp_ge (by decide +kernel : decode cX5_startTask 76 = .ok (.if_icmp .ge 83, 3)) (by decide)
theorem o64_79 : Okp RX5 cX5_startTask 10 none "startTask" false 79 (sLI 7 81) := ok_iload (by decide +kernel : decode cX5_startTask 79 = .ok (.iload 7, 2))
theorem o64_81 : Okp RX5 cX5_startTask 10 none "startTask" false 81 (sK 4 82) := ok_iconst (by decide +kernel : decode cX5_startTask 81 = .ok (.iconst 4, 1)) (by decide)
theorem o64_82 : Okp RX5 cX5_startTask 10 none "startTask" false 82 (sI2 3 159 85) := ok_icmp_ge (by decide +kernel : decode cX5_startTask 82 = .ok (.if_icmp .ge 77, 3)) (by decide)
theorem o64_85 : Okp RX5 cX5_startTask 10 none "startTask" false 85 (sLR 4 87) := ok_aload (by decide +kernel : decode cX5_startTask 85 = .ok (.aload 4, 2))
theorem o64_87 : Okp RX5 cX5_startTask 10 none "startTask" false 87 (sLI 7 89) := ok_iload (by decide +kernel : decode cX5_startTask 87 = .ok (.iload 7, 2))
theorem o64_89 : Okp RX5 cX5_startTask 10 none "startTask" false 89 (sCV false 107 2 8 92) := ok_cv (by decide +kernel : decode cX5_startTask 89 = .ok (.invokevirtual 114, 3)) mw_X5_114 rfl (by decide) wm_X7_typeOfParameter wse_X7_typeOfParameter (by decide) rfl
theorem o64_92 : Okp RX5 cX5_startTask 10 none "startTask" false 92 (sSI 8 94) := ok_istore (by decide +kernel : decode cX5_startTask 92 = .ok (.istore 8, 2)) (by decide) (by decide)
theorem o64_94 : Okp RX5 cX5_startTask 10 none "startTask" false 94 (sLR 1 95) := ok_aload_n (by decide +kernel : decode cX5_startTask 94 = .ok (.aload_n 1, 1)) rfl
theorem o64_95 : Okp RX5 cX5_startTask 10 none "startTask" false 95 (sGR 7 6 98) := ok_getR (by decide +kernel : decode cX5_startTask 95 = .ok (.getfield 118, 3)) fw_X5_118 rfl
theorem o64_98 : Okp RX5 cX5_startTask 10 none "startTask" false 98 (sLI 2 99) := ok_iload_n (by decide +kernel : decode cX5_startTask 98 = .ok (.iload_n 2, 1)) rfl
theorem o64_99 : Okp RX5 cX5_startTask 10 none "startTask" false 99 (sK 4 100) := ok_iconst (by decide +kernel : decode cX5_startTask 99 = .ok (.iconst 4, 1)) (by decide)
theorem o64_100 : Okp RX5 cX5_startTask 10 none "startTask" false 100 (sB2 fMul 101) := ok_imul (by decide +kernel : decode cX5_startTask 100 = .ok (.imul, 1))
theorem o64_101 : Okp RX5 cX5_startTask 10 none "startTask" false 101 (sLI 7 103) := ok_iload (by decide +kernel : decode cX5_startTask 101 = .ok (.iload 7, 2))
theorem o64_103 : Okp RX5 cX5_startTask 10 none "startTask" false 103 (sB2 fAdd 104) := ok_iadd (by decide +kernel : decode cX5_startTask 103 = .ok (.iadd, 1))
theorem o64_104 : Okp RX5 cX5_startTask 10 none "startTask" false 104 (sIA 105) := ok_iaload (by decide +kernel : decode cX5_startTask 104 = .ok (.iaload, 1))
theorem o64_105 : Okp RX5 cX5_startTask 10 none "startTask" false 105 (sSI 9 107) := ok_istore (by decide +kernel : decode cX5_startTask 105 = .ok (.istore 9, 2)) (by decide) (by decide)
theorem o64_107 : Okp RX5 cX5_startTask 10 none "startTask" false 107 (sLI 8 109) := ok_iload (by decide +kernel : decode cX5_startTask 107 = .ok (.iload 8, 2))
theorem o64_109 : Okp RX5 cX5_startTask 10 none "startTask" false 109 (sCS false 207 1 112) := ok_cs (by decide +kernel : decode cX5_startTask 109 = .ok (.invokestatic 121, 3)) mw_X5_121 wt_X11_kindOf (by decide) rfl
theorem o64_112 : Okp RX5 cX5_startTask 10 none "startTask" false 112 (sK 5 113) := ok_iconst (by decide +kernel : decode cX5_startTask 112 = .ok (.iconst 5, 1)) (by decide)
theorem o64_113 : Okp RX5 cX5_startTask 10 none "startTask" false 113 (sI2 1 139 116) := ok_icmp_ne (by decide +kernel : decode cX5_startTask 113 = .ok (.if_icmp .ne 26, 3)) (by decide)
theorem o64_116 : Okp RX5 cX5_startTask 10 none "startTask" false 116 (sLR 0 117) := ok_aload_n (by decide +kernel : decode cX5_startTask 116 = .ok (.aload_n 0, 1)) rfl
theorem o64_117 : Okp RX5 cX5_startTask 10 none "startTask" false 117 (sLI 9 119) := ok_iload (by decide +kernel : decode cX5_startTask 117 = .ok (.iload 9, 2))
theorem o64_119 : Okp RX5 cX5_startTask 10 none "startTask" false 119 (sLI 8 121) := ok_iload (by decide +kernel : decode cX5_startTask 119 = .ok (.iload 8, 2))
theorem o64_121 : Okp RX5 cX5_startTask 10 none "startTask" false 121 (sCS false 210 1 124) := ok_cs (by decide +kernel : decode cX5_startTask 121 = .ok (.invokestatic 124, 3)) mw_X5_124 wt_X11_sideOfEnd (by decide) rfl
theorem o64_124 : Okp RX5 cX5_startTask 10 none "startTask" false 124 (sLR 3 125) := ok_aload_n (by decide +kernel : decode cX5_startTask 124 = .ok (.aload_n 3, 1)) rfl
theorem o64_125 : Okp RX5 cX5_startTask 10 none "startTask" false 125 (sLI 8 127) := ok_iload (by decide +kernel : decode cX5_startTask 125 = .ok (.iload 8, 2))
theorem o64_127 : Okp RX5 cX5_startTask 10 none "startTask" false 127 (sCS false 208 1 130) := ok_cs (by decide +kernel : decode cX5_startTask 127 = .ok (.invokestatic 127, 3)) mw_X5_127 wt_X11_namedBy (by decide) rfl
theorem o64_130 : Okp RX5 cX5_startTask 10 none "startTask" false 130 (sCV false 148 2 10 133) := ok_cv (by decide +kernel : decode cX5_startTask 130 = .ok (.invokevirtual 130, 3)) mw_X5_130 rfl (by decide) wm_X9_contractAt wse_X9_contractAt (by decide) rfl
theorem o64_133 : Okp RX5 cX5_startTask 10 none "startTask" false 133 (sLI 2 134) := ok_iload_n (by decide +kernel : decode cX5_startTask 133 = .ok (.iload_n 2, 1)) rfl
theorem o64_134 : Okp RX5 cX5_startTask 10 none "startTask" false 134 (sCV false 65 5 6 137) := ok_cv (by decide +kernel : decode cX5_startTask 134 = .ok (.invokevirtual 134, 3)) mw_X5_134 rfl (by decide) wm_X5_bootedEnd wse_X5_bootedEnd (by decide) rfl
theorem o64_137 : Okp RX5 cX5_startTask 10 none "startTask" false 137 (sSI 9 139) := ok_istore (by decide +kernel : decode cX5_startTask 137 = .ok (.istore 9, 2)) (by decide) (by decide)
theorem o64_139 : Okp RX5 cX5_startTask 10 none "startTask" false 139 (sLR 6 141) := ok_aload (by decide +kernel : decode cX5_startTask 139 = .ok (.aload 6, 2))
theorem o64_141 : Okp RX5 cX5_startTask 10 none "startTask" false 141 (sLI 7 143) := ok_iload (by decide +kernel : decode cX5_startTask 141 = .ok (.iload 7, 2))
theorem o64_143 : Okp RX5 cX5_startTask 10 none "startTask" false 143 (sLI 8 145) := ok_iload (by decide +kernel : decode cX5_startTask 143 = .ok (.iload 8, 2))
theorem o64_145 : Okp RX5 cX5_startTask 10 none "startTask" false 145 (sCS false 207 1 148) := ok_cs (by decide +kernel : decode cX5_startTask 145 = .ok (.invokestatic 121, 3)) mw_X5_121 wt_X11_kindOf (by decide) rfl
theorem o64_148 : Okp RX5 cX5_startTask 10 none "startTask" false 148 (sLI 9 150) := ok_iload (by decide +kernel : decode cX5_startTask 148 = .ok (.iload 9, 2))
theorem o64_150 : Okp RX5 cX5_startTask 10 none "startTask" false 150 (sCV false 129 4 9 153) := ok_cv (by decide +kernel : decode cX5_startTask 150 = .ok (.invokevirtual 138, 3)) mw_X5_138 rfl (by decide) wm_X8_setLocal wse_X8_setLocal (by decide) rfl
theorem o64_153 : Okp RX5 cX5_startTask 10 none "startTask" false 153 (sInc 7 1 156) := ok_iinc (by decide +kernel : decode cX5_startTask 153 = .ok (.iinc 7 1, 3)) (by decide) (by decide)
theorem o64_156 : Okp RX5 cX5_startTask 10 none "startTask" false 156 (sGo 69) := ok_goto (by decide +kernel : decode cX5_startTask 156 = .ok (.goto (-87), 3)) (by decide)
theorem o64_159 : Okp RX5 cX5_startTask 10 none "startTask" false 159 sRV := ok_vret rfl (by decide +kernel : decode cX5_startTask 159 = .ok (.return_, 1))
theorem oc64_0 : ∀ pc, Mnp (c64_0 pc) ∧ Okp RX5 cX5_startTask 10 none "startTask" false pc (c64_0 pc) := by
  intro pc
  unfold c64_0
  split
  · exact ⟨mn_sLR, o64_0⟩
  · exact ⟨mn_sGR, o64_1⟩
  · exact ⟨mn_sLI, o64_4⟩
  · exact ⟨mn_sRA, o64_5⟩
  · exact ⟨mn_sSR, o64_6⟩
  · exact ⟨mn_sLR, o64_7⟩
  · exact ⟨mn_sNl, o64_8⟩
  · exact ⟨mn_sNul, o64_11⟩
  · exact ⟨mn_sGo, o64_12⟩
  · exact ⟨mn_sLR, o64_15⟩
  · exact ⟨mn_sLR, o64_16⟩
  · exact ⟨mn_sGR, o64_17⟩
  · exact ⟨mn_sLI, o64_20⟩
  · exact ⟨mn_sIA, o64_21⟩
  · exact ⟨mn_sCV, o64_22⟩
  · exact ⟨mn_sX, ok_X⟩
theorem oc64_1 : ∀ pc, Mnp (c64_1 pc) ∧ Okp RX5 cX5_startTask 10 none "startTask" false pc (c64_1 pc) := by
  intro pc
  unfold c64_1
  split
  · exact ⟨mn_sSR, o64_25⟩
  · exact ⟨mn_sLR, o64_27⟩
  · exact ⟨mn_sNl, o64_29⟩
  · exact ⟨mn_sRV, o64_32⟩
  · exact ⟨mn_sK, o64_33⟩
  · exact ⟨mn_sLR, o64_35⟩
  · exact ⟨mn_sGR, o64_36⟩
  · exact ⟨mn_sLI, o64_39⟩
  · exact ⟨mn_sIA, o64_40⟩
  · exact ⟨mn_sB2, o64_41⟩
  · exact ⟨mn_sSI, o64_42⟩
  · exact ⟨mn_sLR, o64_44⟩
  · exact ⟨mn_sLI, o64_45⟩
  · exact ⟨mn_sLR, o64_46⟩
  · exact ⟨mn_sLR, o64_47⟩
  · exact ⟨mn_sX, ok_X⟩
theorem oc64_2 : ∀ pc, Mnp (c64_2 pc) ∧ Okp RX5 cX5_startTask 10 none "startTask" false pc (c64_2 pc) := by
  intro pc
  unfold c64_2
  split
  · exact ⟨mn_sGR, o64_48⟩
  · exact ⟨mn_sLI, o64_51⟩
  · exact ⟨mn_sIA, o64_52⟩
  · exact ⟨mn_sLR, o64_53⟩
  · exact ⟨mn_sGR, o64_54⟩
  · exact ⟨mn_sLI, o64_57⟩
  · exact ⟨mn_sIA, o64_58⟩
  · exact ⟨mn_sLI, o64_59⟩
  · exact ⟨mn_sCV, o64_61⟩
  · exact ⟨mn_sSR, o64_64⟩
  · exact ⟨mn_sK, o64_66⟩
  · exact ⟨mn_sSI, o64_67⟩
  · exact ⟨mn_sLI, o64_69⟩
  · exact ⟨mn_sLR, o64_71⟩
  · exact ⟨mn_sX, ok_X⟩
theorem oc64_3 : ∀ pc, Mnp (c64_3 pc) ∧ Okp RX5 cX5_startTask 10 none "startTask" false pc (c64_3 pc) := by
  intro pc
  unfold c64_3
  split
  · exact ⟨mn_sGI, o64_73⟩
  · exact ⟨mn_sI2, o64_76⟩
  · exact ⟨mn_sLI, o64_79⟩
  · exact ⟨mn_sK, o64_81⟩
  · exact ⟨mn_sI2, o64_82⟩
  · exact ⟨mn_sLR, o64_85⟩
  · exact ⟨mn_sLI, o64_87⟩
  · exact ⟨mn_sCV, o64_89⟩
  · exact ⟨mn_sSI, o64_92⟩
  · exact ⟨mn_sLR, o64_94⟩
  · exact ⟨mn_sGR, o64_95⟩
  · exact ⟨mn_sX, ok_X⟩
theorem oc64_4 : ∀ pc, Mnp (c64_4 pc) ∧ Okp RX5 cX5_startTask 10 none "startTask" false pc (c64_4 pc) := by
  intro pc
  unfold c64_4
  split
  · exact ⟨mn_sLI, o64_98⟩
  · exact ⟨mn_sK, o64_99⟩
  · exact ⟨mn_sB2, o64_100⟩
  · exact ⟨mn_sLI, o64_101⟩
  · exact ⟨mn_sB2, o64_103⟩
  · exact ⟨mn_sIA, o64_104⟩
  · exact ⟨mn_sSI, o64_105⟩
  · exact ⟨mn_sLI, o64_107⟩
  · exact ⟨mn_sCS, o64_109⟩
  · exact ⟨mn_sK, o64_112⟩
  · exact ⟨mn_sI2, o64_113⟩
  · exact ⟨mn_sLR, o64_116⟩
  · exact ⟨mn_sLI, o64_117⟩
  · exact ⟨mn_sLI, o64_119⟩
  · exact ⟨mn_sX, ok_X⟩
theorem oc64_5 : ∀ pc, Mnp (c64_5 pc) ∧ Okp RX5 cX5_startTask 10 none "startTask" false pc (c64_5 pc) := by
  intro pc
  unfold c64_5
  split
  · exact ⟨mn_sCS, o64_121⟩
  · exact ⟨mn_sLR, o64_124⟩
  · exact ⟨mn_sLI, o64_125⟩
  · exact ⟨mn_sCS, o64_127⟩
  · exact ⟨mn_sCV, o64_130⟩
  · exact ⟨mn_sLI, o64_133⟩
  · exact ⟨mn_sCV, o64_134⟩
  · exact ⟨mn_sSI, o64_137⟩
  · exact ⟨mn_sLR, o64_139⟩
  · exact ⟨mn_sLI, o64_141⟩
  · exact ⟨mn_sLI, o64_143⟩
  · exact ⟨mn_sX, ok_X⟩
theorem oc64_6 : ∀ pc, Mnp (c64_6 pc) ∧ Okp RX5 cX5_startTask 10 none "startTask" false pc (c64_6 pc) := by
  intro pc
  unfold c64_6
  split
  · exact ⟨mn_sCS, o64_145⟩
  · exact ⟨mn_sLI, o64_148⟩
  · exact ⟨mn_sCV, o64_150⟩
  · exact ⟨mn_sInc, o64_153⟩
  · exact ⟨mn_sGo, o64_156⟩
  · exact ⟨mn_sRV, o64_159⟩
  · exact ⟨mn_sX, ok_X⟩
theorem oc64 : ∀ pc, Mnp (c64 pc) ∧ Okp RX5 cX5_startTask 10 none "startTask" false pc (c64 pc) := by
  intro pc
  unfold c64
  split
  · exact oc64_0 pc
  · exact oc64_1 pc
  · exact oc64_2 pc
  · exact oc64_3 pc
  · exact oc64_4 pc
  · exact oc64_5 pc
  · exact oc64_6 pc
  · exact ⟨mn_sX, ok_X⟩
theorem o65_0 : Okp RX5 cX5_bootedEnd 6 (some .int) "bootedEnd" false 0 (sLI 1 1) := ok_iload_n (by decide +kernel : decode cX5_bootedEnd 0 = .ok (.iload_n 1, 1)) rfl
theorem o65_1 : Okp RX5 cX5_bootedEnd 6 (some .int) "bootedEnd" false 1 (sI1 2 10 4) := ok_if_lt (by decide +kernel : decode cX5_bootedEnd 1 = .ok (.ifCond .lt 9, 3)) (by decide)
theorem o65_4 : Okp RX5 cX5_bootedEnd 6 (some .int) "bootedEnd" false 4 (sLI 1 5) := ok_iload_n (by decide +kernel : decode cX5_bootedEnd 4 = .ok (.iload_n 1, 1)) rfl
theorem o65_5 : Okp RX5 cX5_bootedEnd 6 (some .int) "bootedEnd" false 5 (sK 8 7) := ok_bipush (by decide +kernel : decode cX5_bootedEnd 5 = .ok (.bipush 8, 2)) (by decide)
theorem o65_7 : Okp RX5 cX5_bootedEnd 6 (some .int) "bootedEnd" false 7 (sI2 2 12 10) := ok_icmp_lt (by decide +kernel : decode cX5_bootedEnd 7 = .ok (.if_icmp .lt 5, 3)) (by decide)
theorem o65_10 : Okp RX5 cX5_bootedEnd 6 (some .int) "bootedEnd" false 10 (sK (-1) 11) := ok_iconst (by decide +kernel : decode cX5_bootedEnd 10 = .ok (.iconst (-1), 1)) (by decide)
theorem o65_11 : Okp RX5 cX5_bootedEnd 6 (some .int) "bootedEnd" false 11 sRI := ok_iret rfl (by decide +kernel : decode cX5_bootedEnd 11 = .ok (.ireturn, 1))
theorem o65_12 : Okp RX5 cX5_bootedEnd 6 (some .int) "bootedEnd" false 12 (sLR 0 13) := ok_aload_n (by decide +kernel : decode cX5_bootedEnd 12 = .ok (.aload_n 0, 1)) rfl
theorem o65_13 : Okp RX5 cX5_bootedEnd 6 (some .int) "bootedEnd" false 13 (sGR 6 12 16) := ok_getR (by decide +kernel : decode cX5_bootedEnd 13 = .ok (.getfield 64, 3)) fw_X5_64 rfl
theorem o65_16 : Okp RX5 cX5_bootedEnd 6 (some .int) "bootedEnd" false 16 (sLI 1 17) := ok_iload_n (by decide +kernel : decode cX5_bootedEnd 16 = .ok (.iload_n 1, 1)) rfl
theorem o65_17 : Okp RX5 cX5_bootedEnd 6 (some .int) "bootedEnd" false 17 (sIA 18) := ok_iaload (by decide +kernel : decode cX5_bootedEnd 17 = .ok (.iaload, 1))
theorem o65_18 : Okp RX5 cX5_bootedEnd 6 (some .int) "bootedEnd" false 18 (sK (-1) 19) := ok_iconst (by decide +kernel : decode cX5_bootedEnd 18 = .ok (.iconst (-1), 1)) (by decide)
theorem o65_19 : Okp RX5 cX5_bootedEnd 6 (some .int) "bootedEnd" false 19 (sI2 1 38 22) := ok_icmp_ne (by decide +kernel : decode cX5_bootedEnd 19 = .ok (.if_icmp .ne 19, 3)) (by decide)
theorem o65_22 : Okp RX5 cX5_bootedEnd 6 (some .int) "bootedEnd" false 22 (sLR 0 23) := ok_aload_n (by decide +kernel : decode cX5_bootedEnd 22 = .ok (.aload_n 0, 1)) rfl
theorem o65_23 : Okp RX5 cX5_bootedEnd 6 (some .int) "bootedEnd" false 23 (sGR 6 12 26) := ok_getR (by decide +kernel : decode cX5_bootedEnd 23 = .ok (.getfield 64, 3)) fw_X5_64 rfl
theorem o65_26 : Okp RX5 cX5_bootedEnd 6 (some .int) "bootedEnd" false 26 (sLI 1 27) := ok_iload_n (by decide +kernel : decode cX5_bootedEnd 26 = .ok (.iload_n 1, 1)) rfl
theorem o65_27 : Okp RX5 cX5_bootedEnd 6 (some .int) "bootedEnd" false 27 (sLR 0 28) := ok_aload_n (by decide +kernel : decode cX5_bootedEnd 27 = .ok (.aload_n 0, 1)) rfl
theorem o65_28 : Okp RX5 cX5_bootedEnd 6 (some .int) "bootedEnd" false 28 (sGR 6 4 31) := ok_getR (by decide +kernel : decode cX5_bootedEnd 28 = .ok (.getfield 37, 3)) fw_X5_37 rfl
theorem o65_31 : Okp RX5 cX5_bootedEnd 6 (some .int) "bootedEnd" false 31 (sLR 3 32) := ok_aload_n (by decide +kernel : decode cX5_bootedEnd 31 = .ok (.aload_n 3, 1)) rfl
theorem o65_32 : Okp RX5 cX5_bootedEnd 6 (some .int) "bootedEnd" false 32 (sLI 4 34) := ok_iload (by decide +kernel : decode cX5_bootedEnd 32 = .ok (.iload 4, 2))
theorem o65_34 : Okp RX5 cX5_bootedEnd 6 (some .int) "bootedEnd" false 34 (sCV false 43 3 5 37) := ok_cv (by decide +kernel : decode cX5_bootedEnd 34 = .ok (.invokevirtual 142, 3)) mw_X5_142 rfl (by decide) wm_X4_make wse_X4_make (by decide) rfl
theorem o65_37 : Okp RX5 cX5_bootedEnd 6 (some .int) "bootedEnd" false 37 (sIS 38) := ok_iastore (by decide +kernel : decode cX5_bootedEnd 37 = .ok (.iastore, 1))
theorem o65_38 : Okp RX5 cX5_bootedEnd 6 (some .int) "bootedEnd" false 38 (sK 2 39) := ok_iconst (by decide +kernel : decode cX5_bootedEnd 38 = .ok (.iconst 2, 1)) (by decide)
theorem o65_39 : Okp RX5 cX5_bootedEnd 6 (some .int) "bootedEnd" false 39 (sLR 0 40) := ok_aload_n (by decide +kernel : decode cX5_bootedEnd 39 = .ok (.aload_n 0, 1)) rfl
theorem o65_40 : Okp RX5 cX5_bootedEnd 6 (some .int) "bootedEnd" false 40 (sGR 6 12 43) := ok_getR (by decide +kernel : decode cX5_bootedEnd 40 = .ok (.getfield 64, 3)) fw_X5_64 rfl
theorem o65_43 : Okp RX5 cX5_bootedEnd 6 (some .int) "bootedEnd" false 43 (sLI 1 44) := ok_iload_n (by decide +kernel : decode cX5_bootedEnd 43 = .ok (.iload_n 1, 1)) rfl
theorem o65_44 : Okp RX5 cX5_bootedEnd 6 (some .int) "bootedEnd" false 44 (sIA 45) := ok_iaload (by decide +kernel : decode cX5_bootedEnd 44 = .ok (.iaload, 1))
theorem o65_45 : Okp RX5 cX5_bootedEnd 6 (some .int) "bootedEnd" false 45 (sB2 fMul 46) := ok_imul (by decide +kernel : decode cX5_bootedEnd 45 = .ok (.imul, 1))
theorem o65_46 : Okp RX5 cX5_bootedEnd 6 (some .int) "bootedEnd" false 46 (sLI 2 47) := ok_iload_n (by decide +kernel : decode cX5_bootedEnd 46 = .ok (.iload_n 2, 1)) rfl
theorem o65_47 : Okp RX5 cX5_bootedEnd 6 (some .int) "bootedEnd" false 47 (sB2 fAdd 48) := ok_iadd (by decide +kernel : decode cX5_bootedEnd 47 = .ok (.iadd, 1))
theorem o65_48 : Okp RX5 cX5_bootedEnd 6 (some .int) "bootedEnd" false 48 (sSI 5 50) := ok_istore (by decide +kernel : decode cX5_bootedEnd 48 = .ok (.istore 5, 2)) (by decide) (by decide)
theorem o65_50 : Okp RX5 cX5_bootedEnd 6 (some .int) "bootedEnd" false 50 (sLR 0 51) := ok_aload_n (by decide +kernel : decode cX5_bootedEnd 50 = .ok (.aload_n 0, 1)) rfl
theorem o65_51 : Okp RX5 cX5_bootedEnd 6 (some .int) "bootedEnd" false 51 (sGR 6 4 54) := ok_getR (by decide +kernel : decode cX5_bootedEnd 51 = .ok (.getfield 37, 3)) fw_X5_37 rfl
theorem o65_54 : Okp RX5 cX5_bootedEnd 6 (some .int) "bootedEnd" false 54 (sLI 5 56) := ok_iload (by decide +kernel : decode cX5_bootedEnd 54 = .ok (.iload 5, 2))
theorem o65_56 : Okp RX5 cX5_bootedEnd 6 (some .int) "bootedEnd" false 56 (sLI 4 58) := ok_iload (by decide +kernel : decode cX5_bootedEnd 56 = .ok (.iload 4, 2))
theorem o65_58 : Okp RX5 cX5_bootedEnd 6 (some .int) "bootedEnd" false 58 (sCV false 47 3 5 61) := ok_cv (by decide +kernel : decode cX5_bootedEnd 58 = .ok (.invokevirtual 146, 3)) mw_X5_146 rfl (by decide) wm_X4_give wse_X4_give (by decide) rfl
theorem o65_61 : Okp RX5 cX5_bootedEnd 6 (some .int) "bootedEnd" false 61 (sLI 5 63) := ok_iload (by decide +kernel : decode cX5_bootedEnd 61 = .ok (.iload 5, 2))
theorem o65_63 : Okp RX5 cX5_bootedEnd 6 (some .int) "bootedEnd" false 63 sRI := ok_iret rfl (by decide +kernel : decode cX5_bootedEnd 63 = .ok (.ireturn, 1))
theorem oc65_0 : ∀ pc, Mnp (c65_0 pc) ∧ Okp RX5 cX5_bootedEnd 6 (some .int) "bootedEnd" false pc (c65_0 pc) := by
  intro pc
  unfold c65_0
  split
  · exact ⟨mn_sLI, o65_0⟩
  · exact ⟨mn_sI1, o65_1⟩
  · exact ⟨mn_sLI, o65_4⟩
  · exact ⟨mn_sK, o65_5⟩
  · exact ⟨mn_sI2, o65_7⟩
  · exact ⟨mn_sK, o65_10⟩
  · exact ⟨mn_sRI, o65_11⟩
  · exact ⟨mn_sLR, o65_12⟩
  · exact ⟨mn_sGR, o65_13⟩
  · exact ⟨mn_sLI, o65_16⟩
  · exact ⟨mn_sIA, o65_17⟩
  · exact ⟨mn_sK, o65_18⟩
  · exact ⟨mn_sI2, o65_19⟩
  · exact ⟨mn_sLR, o65_22⟩
  · exact ⟨mn_sGR, o65_23⟩
  · exact ⟨mn_sX, ok_X⟩
theorem oc65_1 : ∀ pc, Mnp (c65_1 pc) ∧ Okp RX5 cX5_bootedEnd 6 (some .int) "bootedEnd" false pc (c65_1 pc) := by
  intro pc
  unfold c65_1
  split
  · exact ⟨mn_sLI, o65_26⟩
  · exact ⟨mn_sLR, o65_27⟩
  · exact ⟨mn_sGR, o65_28⟩
  · exact ⟨mn_sLR, o65_31⟩
  · exact ⟨mn_sLI, o65_32⟩
  · exact ⟨mn_sCV, o65_34⟩
  · exact ⟨mn_sIS, o65_37⟩
  · exact ⟨mn_sK, o65_38⟩
  · exact ⟨mn_sLR, o65_39⟩
  · exact ⟨mn_sGR, o65_40⟩
  · exact ⟨mn_sLI, o65_43⟩
  · exact ⟨mn_sIA, o65_44⟩
  · exact ⟨mn_sB2, o65_45⟩
  · exact ⟨mn_sLI, o65_46⟩
  · exact ⟨mn_sB2, o65_47⟩
  · exact ⟨mn_sX, ok_X⟩
theorem oc65_2 : ∀ pc, Mnp (c65_2 pc) ∧ Okp RX5 cX5_bootedEnd 6 (some .int) "bootedEnd" false pc (c65_2 pc) := by
  intro pc
  unfold c65_2
  split
  · exact ⟨mn_sSI, o65_48⟩
  · exact ⟨mn_sLR, o65_50⟩
  · exact ⟨mn_sGR, o65_51⟩
  · exact ⟨mn_sLI, o65_54⟩
  · exact ⟨mn_sLI, o65_56⟩
  · exact ⟨mn_sCV, o65_58⟩
  · exact ⟨mn_sLI, o65_61⟩
  · exact ⟨mn_sRI, o65_63⟩
  · exact ⟨mn_sX, ok_X⟩
theorem oc65 : ∀ pc, Mnp (c65 pc) ∧ Okp RX5 cX5_bootedEnd 6 (some .int) "bootedEnd" false pc (c65 pc) := by
  intro pc
  unfold c65
  split
  · exact oc65_0 pc
  · exact oc65_1 pc
  · exact oc65_2 pc
  · exact ⟨mn_sX, ok_X⟩
theorem o66_0 : Okp RX5 cX5_begin 6 (some (.object "SealedProcesses$Task")) "begin" false 0 (sLR 0 1) := ok_aload_n (by decide +kernel : decode cX5_begin 0 = .ok (.aload_n 0, 1)) rfl
theorem o66_1 : Okp RX5 cX5_begin 6 (some (.object "SealedProcesses$Task")) "begin" false 1 (sGR 6 1 4) := ok_getR (by decide +kernel : decode cX5_begin 1 = .ok (.getfield 17, 3)) fw_X5_17 rfl
theorem o66_4 : Okp RX5 cX5_begin 6 (some (.object "SealedProcesses$Task")) "begin" false 4 (sLI 1 5) := ok_iload_n (by decide +kernel : decode cX5_begin 4 = .ok (.iload_n 1, 1)) rfl
theorem o66_5 : Okp RX5 cX5_begin 6 (some (.object "SealedProcesses$Task")) "begin" false 5 (sRA 6) := ok_aaload (by decide +kernel : decode cX5_begin 5 = .ok (.aaload, 1))
theorem o66_6 : Okp RX5 cX5_begin 6 (some (.object "SealedProcesses$Task")) "begin" false 6 (sNl 9 24) := ok_ifnonnull (by decide +kernel : decode cX5_begin 6 = .ok (.ifnonnull 18, 3)) (by decide)
theorem o66_9 : Okp RX5 cX5_begin 6 (some (.object "SealedProcesses$Task")) "begin" false 9 (sLR 0 10) := ok_aload_n (by decide +kernel : decode cX5_begin 9 = .ok (.aload_n 0, 1)) rfl
theorem o66_10 : Okp RX5 cX5_begin 6 (some (.object "SealedProcesses$Task")) "begin" false 10 (sGR 6 1 13) := ok_getR (by decide +kernel : decode cX5_begin 10 = .ok (.getfield 17, 3)) fw_X5_17 rfl
theorem o66_13 : Okp RX5 cX5_begin 6 (some (.object "SealedProcesses$Task")) "begin" false 13 (sLI 1 14) := ok_iload_n (by decide +kernel : decode cX5_begin 13 = .ok (.iload_n 1, 1)) rfl
theorem o66_14 : Okp RX5 cX5_begin 6 (some (.object "SealedProcesses$Task")) "begin" false 14 (sNew 9 17 17) := ok_new (by decide +kernel : decode cX5_begin 14 = .ok (.new 15, 3)) ⟨rfl, rfl, by decide, cw_X8, tyX8_ok, wl_X5_15, wn_X8, wi_SealedProcesses_Task, df_X8⟩
theorem o66_17 : Okp RX5 cX5_begin 6 (some (.object "SealedProcesses$Task")) "begin" false 17 (sDup 18) := ok_dup (by decide +kernel : decode cX5_begin 17 = .ok (.dup, 1))
theorem o66_18 : Okp RX5 cX5_begin 6 (some (.object "SealedProcesses$Task")) "begin" false 18 (sLI 1 19) := ok_iload_n (by decide +kernel : decode cX5_begin 18 = .ok (.iload_n 1, 1)) rfl
theorem o66_19 : Okp RX5 cX5_begin 6 (some (.object "SealedProcesses$Task")) "begin" false 19 (sLR 2 20) := ok_aload_n (by decide +kernel : decode cX5_begin 19 = .ok (.aload_n 2, 1)) rfl
theorem o66_20 : Okp RX5 cX5_begin 6 (some (.object "SealedProcesses$Task")) "begin" false 20 (sCI 115 3 23) := ok_ci (by decide +kernel : decode cX5_begin 20 = .ok (.invokespecial 150, 3)) mw_X5_150 rfl rfl wm_X8_init (by decide) rfl
theorem o66_23 : Okp RX5 cX5_begin 6 (some (.object "SealedProcesses$Task")) "begin" false 23 (sRS 24) := ok_aastore (by decide +kernel : decode cX5_begin 23 = .ok (.aastore, 1))
theorem o66_24 : Okp RX5 cX5_begin 6 (some (.object "SealedProcesses$Task")) "begin" false 24 (sLR 0 25) := ok_aload_n (by decide +kernel : decode cX5_begin 24 = .ok (.aload_n 0, 1)) rfl
theorem o66_25 : Okp RX5 cX5_begin 6 (some (.object "SealedProcesses$Task")) "begin" false 25 (sGR 6 2 28) := ok_getR (by decide +kernel : decode cX5_begin 25 = .ok (.getfield 21, 3)) fw_X5_21 rfl
theorem o66_28 : Okp RX5 cX5_begin 6 (some (.object "SealedProcesses$Task")) "begin" false 28 (sLI 1 29) := ok_iload_n (by decide +kernel : decode cX5_begin 28 = .ok (.iload_n 1, 1)) rfl
theorem o66_29 : Okp RX5 cX5_begin 6 (some (.object "SealedProcesses$Task")) "begin" false 29 (sK 1 30) := ok_iconst (by decide +kernel : decode cX5_begin 29 = .ok (.iconst 1, 1)) (by decide)
theorem o66_30 : Okp RX5 cX5_begin 6 (some (.object "SealedProcesses$Task")) "begin" false 30 (sBS 31) := ok_bastore (by decide +kernel : decode cX5_begin 30 = .ok (.bastore, 1))
theorem o66_31 : Okp RX5 cX5_begin 6 (some (.object "SealedProcesses$Task")) "begin" false 31 (sLR 0 32) := ok_aload_n (by decide +kernel : decode cX5_begin 31 = .ok (.aload_n 0, 1)) rfl
theorem o66_32 : Okp RX5 cX5_begin 6 (some (.object "SealedProcesses$Task")) "begin" false 32 (sGR 6 1 35) := ok_getR (by decide +kernel : decode cX5_begin 32 = .ok (.getfield 17, 3)) fw_X5_17 rfl
theorem o66_35 : Okp RX5 cX5_begin 6 (some (.object "SealedProcesses$Task")) "begin" false 35 (sLI 1 36) := ok_iload_n (by decide +kernel : decode cX5_begin 35 = .ok (.iload_n 1, 1)) rfl
theorem o66_36 : Okp RX5 cX5_begin 6 (some (.object "SealedProcesses$Task")) "begin" false 36 (sRA 37) := ok_aaload (by decide +kernel : decode cX5_begin 36 = .ok (.aaload, 1))
theorem o66_37 : Okp RX5 cX5_begin 6 (some (.object "SealedProcesses$Task")) "begin" false 37 (sLR 2 38) := ok_aload_n (by decide +kernel : decode cX5_begin 37 = .ok (.aload_n 2, 1)) rfl
theorem o66_38 : Okp RX5 cX5_begin 6 (some (.object "SealedProcesses$Task")) "begin" false 38 (sLI 3 39) := ok_iload_n (by decide +kernel : decode cX5_begin 38 = .ok (.iload_n 3, 1)) rfl
theorem o66_39 : Okp RX5 cX5_begin 6 (some (.object "SealedProcesses$Task")) "begin" false 39 (sLI 4 41) := ok_iload (by decide +kernel : decode cX5_begin 39 = .ok (.iload 4, 2))
theorem o66_41 : Okp RX5 cX5_begin 6 (some (.object "SealedProcesses$Task")) "begin" false 41 (sLI 5 43) := ok_iload (by decide +kernel : decode cX5_begin 41 = .ok (.iload 5, 2))
theorem o66_43 : Okp RX5 cX5_begin 6 (some (.object "SealedProcesses$Task")) "begin" false 43 (sCV false 116 5 9 46) := ok_cv (by decide +kernel : decode cX5_begin 43 = .ok (.invokevirtual 153, 3)) mw_X5_153 rfl (by decide) wm_X8_begin wse_X8_begin (by decide) rfl
theorem o66_46 : Okp RX5 cX5_begin 6 (some (.object "SealedProcesses$Task")) "begin" false 46 (sLR 0 47) := ok_aload_n (by decide +kernel : decode cX5_begin 46 = .ok (.aload_n 0, 1)) rfl
theorem o66_47 : Okp RX5 cX5_begin 6 (some (.object "SealedProcesses$Task")) "begin" false 47 (sGR 6 1 50) := ok_getR (by decide +kernel : decode cX5_begin 47 = .ok (.getfield 17, 3)) fw_X5_17 rfl
theorem o66_50 : Okp RX5 cX5_begin 6 (some (.object "SealedProcesses$Task")) "begin" false 50 (sLI 1 51) := ok_iload_n (by decide +kernel : decode cX5_begin 50 = .ok (.iload_n 1, 1)) rfl
theorem o66_51 : Okp RX5 cX5_begin 6 (some (.object "SealedProcesses$Task")) "begin" false 51 (sRA 52) := ok_aaload (by decide +kernel : decode cX5_begin 51 = .ok (.aaload, 1))
theorem o66_52 : Okp RX5 cX5_begin 6 (some (.object "SealedProcesses$Task")) "begin" false 52 sRR := ok_aret rfl (Or.inl ⟨_, rfl⟩) (by decide +kernel : decode cX5_begin 52 = .ok (.areturn, 1))
theorem oc66_0 : ∀ pc, Mnp (c66_0 pc) ∧ Okp RX5 cX5_begin 6 (some (.object "SealedProcesses$Task")) "begin" false pc (c66_0 pc) := by
  intro pc
  unfold c66_0
  split
  · exact ⟨mn_sLR, o66_0⟩
  · exact ⟨mn_sGR, o66_1⟩
  · exact ⟨mn_sLI, o66_4⟩
  · exact ⟨mn_sRA, o66_5⟩
  · exact ⟨mn_sNl, o66_6⟩
  · exact ⟨mn_sLR, o66_9⟩
  · exact ⟨mn_sGR, o66_10⟩
  · exact ⟨mn_sLI, o66_13⟩
  · exact ⟨mn_sNew, o66_14⟩
  · exact ⟨mn_sDup, o66_17⟩
  · exact ⟨mn_sLI, o66_18⟩
  · exact ⟨mn_sLR, o66_19⟩
  · exact ⟨mn_sCI, o66_20⟩
  · exact ⟨mn_sRS, o66_23⟩
  · exact ⟨mn_sX, ok_X⟩
theorem oc66_1 : ∀ pc, Mnp (c66_1 pc) ∧ Okp RX5 cX5_begin 6 (some (.object "SealedProcesses$Task")) "begin" false pc (c66_1 pc) := by
  intro pc
  unfold c66_1
  split
  · exact ⟨mn_sLR, o66_24⟩
  · exact ⟨mn_sGR, o66_25⟩
  · exact ⟨mn_sLI, o66_28⟩
  · exact ⟨mn_sK, o66_29⟩
  · exact ⟨mn_sBS, o66_30⟩
  · exact ⟨mn_sLR, o66_31⟩
  · exact ⟨mn_sGR, o66_32⟩
  · exact ⟨mn_sLI, o66_35⟩
  · exact ⟨mn_sRA, o66_36⟩
  · exact ⟨mn_sLR, o66_37⟩
  · exact ⟨mn_sLI, o66_38⟩
  · exact ⟨mn_sLI, o66_39⟩
  · exact ⟨mn_sLI, o66_41⟩
  · exact ⟨mn_sCV, o66_43⟩
  · exact ⟨mn_sLR, o66_46⟩
  · exact ⟨mn_sGR, o66_47⟩
  · exact ⟨mn_sX, ok_X⟩
theorem oc66_2 : ∀ pc, Mnp (c66_2 pc) ∧ Okp RX5 cX5_begin 6 (some (.object "SealedProcesses$Task")) "begin" false pc (c66_2 pc) := by
  intro pc
  unfold c66_2
  split
  · exact ⟨mn_sLI, o66_50⟩
  · exact ⟨mn_sRA, o66_51⟩
  · exact ⟨mn_sRR, o66_52⟩
  · exact ⟨mn_sX, ok_X⟩
theorem oc66 : ∀ pc, Mnp (c66 pc) ∧ Okp RX5 cX5_begin 6 (some (.object "SealedProcesses$Task")) "begin" false pc (c66 pc) := by
  intro pc
  unfold c66
  split
  · exact oc66_0 pc
  · exact oc66_1 pc
  · exact oc66_2 pc
  · exact ⟨mn_sX, ok_X⟩
theorem o67_0 : Okp RX5 cX5_taskAt 2 (some (.object "SealedProcesses$Task")) "taskAt" false 0 (sLI 1 1) := ok_iload_n (by decide +kernel : decode cX5_taskAt 0 = .ok (.iload_n 1, 1)) rfl
theorem o67_1 : Okp RX5 cX5_taskAt 2 (some (.object "SealedProcesses$Task")) "taskAt" false 1 (sI1 2 19 4) := ok_if_lt (by decide +kernel : decode cX5_taskAt 1 = .ok (.ifCond .lt 18, 3)) (by decide)
theorem o67_4 : Okp RX5 cX5_taskAt 2 (some (.object "SealedProcesses$Task")) "taskAt" false 4 (sLI 1 5) := ok_iload_n (by decide +kernel : decode cX5_taskAt 4 = .ok (.iload_n 1, 1)) rfl
theorem o67_5 : Okp RX5 cX5_taskAt 2 (some (.object "SealedProcesses$Task")) "taskAt" false 5 (sK 12 7) := ok_bipush (by decide +kernel : decode cX5_taskAt 5 = .ok (.bipush 12, 2)) (by decide)
theorem o67_7 : Okp RX5 cX5_taskAt 2 (some (.object "SealedProcesses$Task")) "taskAt" false 7 (sI2 3 19 10) := ok_icmp_ge (by decide +kernel : decode cX5_taskAt 7 = .ok (.if_icmp .ge 12, 3)) (by decide)
theorem o67_10 : Okp RX5 cX5_taskAt 2 (some (.object "SealedProcesses$Task")) "taskAt" false 10 (sLR 0 11) := ok_aload_n (by decide +kernel : decode cX5_taskAt 10 = .ok (.aload_n 0, 1)) rfl
theorem o67_11 : Okp RX5 cX5_taskAt 2 (some (.object "SealedProcesses$Task")) "taskAt" false 11 (sGR 6 2 14) := ok_getR (by decide +kernel : decode cX5_taskAt 11 = .ok (.getfield 21, 3)) fw_X5_21 rfl
theorem o67_14 : Okp RX5 cX5_taskAt 2 (some (.object "SealedProcesses$Task")) "taskAt" false 14 (sLI 1 15) := ok_iload_n (by decide +kernel : decode cX5_taskAt 14 = .ok (.iload_n 1, 1)) rfl
theorem o67_15 : Okp RX5 cX5_taskAt 2 (some (.object "SealedProcesses$Task")) "taskAt" false 15 (sBA 16) := ok_baload (by decide +kernel : decode cX5_taskAt 15 = .ok (.baload, 1))
theorem o67_16 : Okp RX5 cX5_taskAt 2 (some (.object "SealedProcesses$Task")) "taskAt" false 16 (sI1 1 23 19) := ok_if_ne (by decide +kernel : decode cX5_taskAt 16 = .ok (.ifCond .ne 7, 3)) (by decide)
theorem o67_19 : Okp RX5 cX5_taskAt 2 (some (.object "SealedProcesses$Task")) "taskAt" false 19 (sNul 20) := ok_null (by decide +kernel : decode cX5_taskAt 19 = .ok (.aconst_null, 1))
theorem o67_20 : Okp RX5 cX5_taskAt 2 (some (.object "SealedProcesses$Task")) "taskAt" false 20 (sGo 29) := ok_goto (by decide +kernel : decode cX5_taskAt 20 = .ok (.goto 9, 3)) (by decide)
theorem o67_23 : Okp RX5 cX5_taskAt 2 (some (.object "SealedProcesses$Task")) "taskAt" false 23 (sLR 0 24) := ok_aload_n (by decide +kernel : decode cX5_taskAt 23 = .ok (.aload_n 0, 1)) rfl
theorem o67_24 : Okp RX5 cX5_taskAt 2 (some (.object "SealedProcesses$Task")) "taskAt" false 24 (sGR 6 1 27) := ok_getR (by decide +kernel : decode cX5_taskAt 24 = .ok (.getfield 17, 3)) fw_X5_17 rfl
theorem o67_27 : Okp RX5 cX5_taskAt 2 (some (.object "SealedProcesses$Task")) "taskAt" false 27 (sLI 1 28) := ok_iload_n (by decide +kernel : decode cX5_taskAt 27 = .ok (.iload_n 1, 1)) rfl
theorem o67_28 : Okp RX5 cX5_taskAt 2 (some (.object "SealedProcesses$Task")) "taskAt" false 28 (sRA 29) := ok_aaload (by decide +kernel : decode cX5_taskAt 28 = .ok (.aaload, 1))
theorem o67_29 : Okp RX5 cX5_taskAt 2 (some (.object "SealedProcesses$Task")) "taskAt" false 29 sRR := ok_aret rfl (Or.inl ⟨_, rfl⟩) (by decide +kernel : decode cX5_taskAt 29 = .ok (.areturn, 1))
theorem oc67_0 : ∀ pc, Mnp (c67_0 pc) ∧ Okp RX5 cX5_taskAt 2 (some (.object "SealedProcesses$Task")) "taskAt" false pc (c67_0 pc) := by
  intro pc
  unfold c67_0
  split
  · exact ⟨mn_sLI, o67_0⟩
  · exact ⟨mn_sI1, o67_1⟩
  · exact ⟨mn_sLI, o67_4⟩
  · exact ⟨mn_sK, o67_5⟩
  · exact ⟨mn_sI2, o67_7⟩
  · exact ⟨mn_sLR, o67_10⟩
  · exact ⟨mn_sGR, o67_11⟩
  · exact ⟨mn_sLI, o67_14⟩
  · exact ⟨mn_sBA, o67_15⟩
  · exact ⟨mn_sI1, o67_16⟩
  · exact ⟨mn_sNul, o67_19⟩
  · exact ⟨mn_sGo, o67_20⟩
  · exact ⟨mn_sLR, o67_23⟩
  · exact ⟨mn_sX, ok_X⟩
theorem oc67_1 : ∀ pc, Mnp (c67_1 pc) ∧ Okp RX5 cX5_taskAt 2 (some (.object "SealedProcesses$Task")) "taskAt" false pc (c67_1 pc) := by
  intro pc
  unfold c67_1
  split
  · exact ⟨mn_sGR, o67_24⟩
  · exact ⟨mn_sLI, o67_27⟩
  · exact ⟨mn_sRA, o67_28⟩
  · exact ⟨mn_sRR, o67_29⟩
  · exact ⟨mn_sX, ok_X⟩
theorem oc67 : ∀ pc, Mnp (c67 pc) ∧ Okp RX5 cX5_taskAt 2 (some (.object "SealedProcesses$Task")) "taskAt" false pc (c67 pc) := by
  intro pc
  unfold c67
  split
  · exact oc67_0 pc
  · exact oc67_1 pc
  · exact ⟨mn_sX, ok_X⟩
theorem o68_0 : Okp RX5 cX5_livingAt 3 (some (.object "SealedProcesses$Task")) "livingAt" false 0 (sLR 0 1) := ok_aload_n (by decide +kernel : decode cX5_livingAt 0 = .ok (.aload_n 0, 1)) rfl
theorem o68_1 : Okp RX5 cX5_livingAt 3 (some (.object "SealedProcesses$Task")) "livingAt" false 1 (sLI 1 2) := ok_iload_n (by decide +kernel : decode cX5_livingAt 1 = .ok (.iload_n 1, 1)) rfl
theorem o68_2 : Okp RX5 cX5_livingAt 3 (some (.object "SealedProcesses$Task")) "livingAt" false 2 (sCV false 67 2 6 5) := ok_cv (by decide +kernel : decode cX5_livingAt 2 = .ok (.invokevirtual 156, 3)) mw_X5_156 rfl (by decide) wm_X5_taskAt wse_X5_taskAt (by decide) rfl
theorem o68_5 : Okp RX5 cX5_livingAt 3 (some (.object "SealedProcesses$Task")) "livingAt" false 5 (sSR 2 6) := ok_astore_n (by decide +kernel : decode cX5_livingAt 5 = .ok (.astore_n 2, 1)) rfl (by decide) (by decide)
theorem o68_6 : Okp RX5 cX5_livingAt 3 (some (.object "SealedProcesses$Task")) "livingAt" false 6 (sLR 2 7) := ok_aload_n (by decide +kernel : decode cX5_livingAt 6 = .ok (.aload_n 2, 1)) rfl
theorem o68_7 : Okp RX5 cX5_livingAt 3 (some (.object "SealedProcesses$Task")) "livingAt" false 7 (sNl 17 10) := ok_ifnull (by decide +kernel : decode cX5_livingAt 7 = .ok (.ifnull 10, 3)) (by decide)
theorem o68_10 : Okp RX5 cX5_livingAt 3 (some (.object "SealedProcesses$Task")) "livingAt" false 10 (sLR 2 11) := ok_aload_n (by decide +kernel : decode cX5_livingAt 10 = .ok (.aload_n 2, 1)) rfl
theorem o68_11 : Okp RX5 cX5_livingAt 3 (some (.object "SealedProcesses$Task")) "livingAt" false 11 (sCV false 117 1 9 14) := ok_cv (by decide +kernel : decode cX5_livingAt 11 = .ok (.invokevirtual 160, 3)) mw_X5_160 rfl (by decide) wm_X8_isOver wse_X8_isOver (by decide) rfl
theorem o68_14 : Okp RX5 cX5_livingAt 3 (some (.object "SealedProcesses$Task")) "livingAt" false 14 (sI1 0 21 17) := ok_if_eq (by decide +kernel : decode cX5_livingAt 14 = .ok (.ifCond .eq 7, 3)) (by decide)
theorem o68_17 : Okp RX5 cX5_livingAt 3 (some (.object "SealedProcesses$Task")) "livingAt" false 17 (sNul 18) := ok_null (by decide +kernel : decode cX5_livingAt 17 = .ok (.aconst_null, 1))
theorem o68_18 : Okp RX5 cX5_livingAt 3 (some (.object "SealedProcesses$Task")) "livingAt" false 18 (sGo 22) := ok_goto (by decide +kernel : decode cX5_livingAt 18 = .ok (.goto 4, 3)) (by decide)
theorem o68_21 : Okp RX5 cX5_livingAt 3 (some (.object "SealedProcesses$Task")) "livingAt" false 21 (sLR 2 22) := ok_aload_n (by decide +kernel : decode cX5_livingAt 21 = .ok (.aload_n 2, 1)) rfl
theorem o68_22 : Okp RX5 cX5_livingAt 3 (some (.object "SealedProcesses$Task")) "livingAt" false 22 sRR := ok_aret rfl (Or.inl ⟨_, rfl⟩) (by decide +kernel : decode cX5_livingAt 22 = .ok (.areturn, 1))
theorem oc68 : ∀ pc, Mnp (c68 pc) ∧ Okp RX5 cX5_livingAt 3 (some (.object "SealedProcesses$Task")) "livingAt" false pc (c68 pc) := by
  intro pc
  unfold c68
  split
  · exact ⟨mn_sLR, o68_0⟩
  · exact ⟨mn_sLI, o68_1⟩
  · exact ⟨mn_sCV, o68_2⟩
  · exact ⟨mn_sSR, o68_5⟩
  · exact ⟨mn_sLR, o68_6⟩
  · exact ⟨mn_sNl, o68_7⟩
  · exact ⟨mn_sLR, o68_10⟩
  · exact ⟨mn_sCV, o68_11⟩
  · exact ⟨mn_sI1, o68_14⟩
  · exact ⟨mn_sNul, o68_17⟩
  · exact ⟨mn_sGo, o68_18⟩
  · exact ⟨mn_sLR, o68_21⟩
  · exact ⟨mn_sRR, o68_22⟩
  · exact ⟨mn_sX, ok_X⟩
theorem o69_0 : Okp RX5 cX5_living 3 (some .int) "living" false 0 (sK 0 1) := ok_iconst (by decide +kernel : decode cX5_living 0 = .ok (.iconst 0, 1)) (by decide)
theorem o69_1 : Okp RX5 cX5_living 3 (some .int) "living" false 1 (sSI 1 2) := ok_istore_n (by decide +kernel : decode cX5_living 1 = .ok (.istore_n 1, 1)) rfl (by decide) (by decide)
theorem o69_2 : Okp RX5 cX5_living 3 (some .int) "living" false 2 (sK 0 3) := ok_iconst (by decide +kernel : decode cX5_living 2 = .ok (.iconst 0, 1)) (by decide)
theorem o69_3 : Okp RX5 cX5_living 3 (some .int) "living" false 3 (sSI 2 4) := ok_istore_n (by decide +kernel : decode cX5_living 3 = .ok (.istore_n 2, 1)) rfl (by decide) (by decide)
theorem o69_4 : Okp RX5 cX5_living 3 (some .int) "living" false 4 (sLI 2 5) := ok_iload_n (by decide +kernel : decode cX5_living 4 = .ok (.iload_n 2, 1)) rfl
theorem o69_5 : Okp RX5 cX5_living 3 (some .int) "living" false 5 (sK 12 7) := ok_bipush (by decide +kernel : decode cX5_living 5 = .ok (.bipush 12, 2)) (by decide)
theorem o69_7 : Okp RX5 cX5_living 3 (some .int) "living" false 7 (sI2 3 27 10) := ok_icmp_ge (by decide +kernel : decode cX5_living 7 = .ok (.if_icmp .ge 20, 3)) (by decide)
theorem o69_10 : Okp RX5 cX5_living 3 (some .int) "living" false 10 (sLR 0 11) := ok_aload_n (by decide +kernel : decode cX5_living 10 = .ok (.aload_n 0, 1)) rfl
theorem o69_11 : Okp RX5 cX5_living 3 (some .int) "living" false 11 (sLI 2 12) := ok_iload_n (by decide +kernel : decode cX5_living 11 = .ok (.iload_n 2, 1)) rfl
theorem o69_12 : Okp RX5 cX5_living 3 (some .int) "living" false 12 (sCV false 68 2 6 15) := ok_cv (by decide +kernel : decode cX5_living 12 = .ok (.invokevirtual 164, 3)) mw_X5_164 rfl (by decide) wm_X5_livingAt wse_X5_livingAt (by decide) rfl
theorem o69_15 : Okp RX5 cX5_living 3 (some .int) "living" false 15 (sNl 21 18) := ok_ifnull (by decide +kernel : decode cX5_living 15 = .ok (.ifnull 6, 3)) (by decide)
theorem o69_18 : Okp RX5 cX5_living 3 (some .int) "living" false 18 (sInc 1 1 21) := ok_iinc (by decide +kernel : decode cX5_living 18 = .ok (.iinc 1 1, 3)) (by decide) (by decide)
theorem o69_21 : Okp RX5 cX5_living 3 (some .int) "living" false 21 (sInc 2 1 24) := ok_iinc (by decide +kernel : decode cX5_living 21 = .ok (.iinc 2 1, 3)) (by decide) (by decide)
theorem o69_24 : Okp RX5 cX5_living 3 (some .int) "living" false 24 (sGo 4) := ok_goto (by decide +kernel : decode cX5_living 24 = .ok (.goto (-20), 3)) (by decide)
theorem o69_27 : Okp RX5 cX5_living 3 (some .int) "living" false 27 (sLI 1 28) := ok_iload_n (by decide +kernel : decode cX5_living 27 = .ok (.iload_n 1, 1)) rfl
theorem o69_28 : Okp RX5 cX5_living 3 (some .int) "living" false 28 sRI := ok_iret rfl (by decide +kernel : decode cX5_living 28 = .ok (.ireturn, 1))
theorem oc69_0 : ∀ pc, Mnp (c69_0 pc) ∧ Okp RX5 cX5_living 3 (some .int) "living" false pc (c69_0 pc) := by
  intro pc
  unfold c69_0
  split
  · exact ⟨mn_sK, o69_0⟩
  · exact ⟨mn_sSI, o69_1⟩
  · exact ⟨mn_sK, o69_2⟩
  · exact ⟨mn_sSI, o69_3⟩
  · exact ⟨mn_sLI, o69_4⟩
  · exact ⟨mn_sK, o69_5⟩
  · exact ⟨mn_sI2, o69_7⟩
  · exact ⟨mn_sLR, o69_10⟩
  · exact ⟨mn_sLI, o69_11⟩
  · exact ⟨mn_sCV, o69_12⟩
  · exact ⟨mn_sNl, o69_15⟩
  · exact ⟨mn_sInc, o69_18⟩
  · exact ⟨mn_sInc, o69_21⟩
  · exact ⟨mn_sX, ok_X⟩
theorem oc69_1 : ∀ pc, Mnp (c69_1 pc) ∧ Okp RX5 cX5_living 3 (some .int) "living" false pc (c69_1 pc) := by
  intro pc
  unfold c69_1
  split
  · exact ⟨mn_sGo, o69_24⟩
  · exact ⟨mn_sLI, o69_27⟩
  · exact ⟨mn_sRI, o69_28⟩
  · exact ⟨mn_sX, ok_X⟩
theorem oc69 : ∀ pc, Mnp (c69 pc) ∧ Okp RX5 cX5_living 3 (some .int) "living" false pc (c69 pc) := by
  intro pc
  unfold c69
  split
  · exact oc69_0 pc
  · exact oc69_1 pc
  · exact ⟨mn_sX, ok_X⟩
theorem o70_0 : Okp RX5 cX5_isStill 3 (some .boolean) "isStill" false 0 (sK 0 1) := ok_iconst (by decide +kernel : decode cX5_isStill 0 = .ok (.iconst 0, 1)) (by decide)
theorem o70_1 : Okp RX5 cX5_isStill 3 (some .boolean) "isStill" false 1 (sSI 1 2) := ok_istore_n (by decide +kernel : decode cX5_isStill 1 = .ok (.istore_n 1, 1)) rfl (by decide) (by decide)
theorem o70_2 : Okp RX5 cX5_isStill 3 (some .boolean) "isStill" false 2 (sLI 1 3) := ok_iload_n (by decide +kernel : decode cX5_isStill 2 = .ok (.iload_n 1, 1)) rfl
theorem o70_3 : Okp RX5 cX5_isStill 3 (some .boolean) "isStill" false 3 (sK 12 5) := ok_bipush (by decide +kernel : decode cX5_isStill 3 = .ok (.bipush 12, 2)) (by decide)
theorem o70_5 : Okp RX5 cX5_isStill 3 (some .boolean) "isStill" false 5 (sI2 3 35 8) := ok_icmp_ge (by decide +kernel : decode cX5_isStill 5 = .ok (.if_icmp .ge 30, 3)) (by decide)
theorem o70_8 : Okp RX5 cX5_isStill 3 (some .boolean) "isStill" false 8 (sLR 0 9) := ok_aload_n (by decide +kernel : decode cX5_isStill 8 = .ok (.aload_n 0, 1)) rfl
theorem o70_9 : Okp RX5 cX5_isStill 3 (some .boolean) "isStill" false 9 (sLI 1 10) := ok_iload_n (by decide +kernel : decode cX5_isStill 9 = .ok (.iload_n 1, 1)) rfl
theorem o70_10 : Okp RX5 cX5_isStill 3 (some .boolean) "isStill" false 10 (sCV false 68 2 6 13) := ok_cv (by decide +kernel : decode cX5_isStill 10 = .ok (.invokevirtual 164, 3)) mw_X5_164 rfl (by decide) wm_X5_livingAt wse_X5_livingAt (by decide) rfl
theorem o70_13 : Okp RX5 cX5_isStill 3 (some .boolean) "isStill" false 13 (sSR 2 14) := ok_astore_n (by decide +kernel : decode cX5_isStill 13 = .ok (.astore_n 2, 1)) rfl (by decide) (by decide)
theorem o70_14 : Okp RX5 cX5_isStill 3 (some .boolean) "isStill" false 14 (sLR 2 15) := ok_aload_n (by decide +kernel : decode cX5_isStill 14 = .ok (.aload_n 2, 1)) rfl
theorem o70_15 : Okp RX5 cX5_isStill 3 (some .boolean) "isStill" false 15 (sNl 29 18) := ok_ifnull (by decide +kernel : decode cX5_isStill 15 = .ok (.ifnull 14, 3)) (by decide)
theorem o70_18 : Okp RX5 cX5_isStill 3 (some .boolean) "isStill" false 18 (sLR 0 19) := ok_aload_n (by decide +kernel : decode cX5_isStill 18 = .ok (.aload_n 0, 1)) rfl
theorem o70_19 : Okp RX5 cX5_isStill 3 (some .boolean) "isStill" false 19 (sLR 2 20) := ok_aload_n (by decide +kernel : decode cX5_isStill 19 = .ok (.aload_n 2, 1)) rfl
theorem o70_20 : Okp RX5 cX5_isStill 3 (some .boolean) "isStill" false 20 (sCV false 74 2 6 23) := ok_cv (by decide +kernel : decode cX5_isStill 20 = .ok (.invokevirtual 167, 3)) mw_X5_167 rfl (by decide) wm_X5_outlookOf wse_X5_outlookOf (by decide) rfl
theorem o70_23 : Okp RX5 cX5_isStill 3 (some .boolean) "isStill" false 23 (sK 1 24) := ok_iconst (by decide +kernel : decode cX5_isStill 23 = .ok (.iconst 1, 1)) (by decide)
theorem o70_24 : Okp RX5 cX5_isStill 3 (some .boolean) "isStill" false 24 (sI2 1 29 27) := ok_icmp_ne (by decide +kernel : decode cX5_isStill 24 = .ok (.if_icmp .ne 5, 3)) (by decide)
theorem o70_27 : Okp RX5 cX5_isStill 3 (some .boolean) "isStill" false 27 (sK 0 28) := ok_iconst (by decide +kernel : decode cX5_isStill 27 = .ok (.iconst 0, 1)) (by decide)
theorem o70_28 : Okp RX5 cX5_isStill 3 (some .boolean) "isStill" false 28 sRZ := ok_zret rfl (by decide +kernel : decode cX5_isStill 28 = .ok (.ireturn, 1))
theorem o70_29 : Okp RX5 cX5_isStill 3 (some .boolean) "isStill" false 29 (sInc 1 1 32) := ok_iinc (by decide +kernel : decode cX5_isStill 29 = .ok (.iinc 1 1, 3)) (by decide) (by decide)
theorem o70_32 : Okp RX5 cX5_isStill 3 (some .boolean) "isStill" false 32 (sGo 2) := ok_goto (by decide +kernel : decode cX5_isStill 32 = .ok (.goto (-30), 3)) (by decide)
theorem o70_35 : Okp RX5 cX5_isStill 3 (some .boolean) "isStill" false 35 (sK 1 36) := ok_iconst (by decide +kernel : decode cX5_isStill 35 = .ok (.iconst 1, 1)) (by decide)
theorem o70_36 : Okp RX5 cX5_isStill 3 (some .boolean) "isStill" false 36 sRZ := ok_zret rfl (by decide +kernel : decode cX5_isStill 36 = .ok (.ireturn, 1))
theorem oc70_0 : ∀ pc, Mnp (c70_0 pc) ∧ Okp RX5 cX5_isStill 3 (some .boolean) "isStill" false pc (c70_0 pc) := by
  intro pc
  unfold c70_0
  split
  · exact ⟨mn_sK, o70_0⟩
  · exact ⟨mn_sSI, o70_1⟩
  · exact ⟨mn_sLI, o70_2⟩
  · exact ⟨mn_sK, o70_3⟩
  · exact ⟨mn_sI2, o70_5⟩
  · exact ⟨mn_sLR, o70_8⟩
  · exact ⟨mn_sLI, o70_9⟩
  · exact ⟨mn_sCV, o70_10⟩
  · exact ⟨mn_sSR, o70_13⟩
  · exact ⟨mn_sLR, o70_14⟩
  · exact ⟨mn_sNl, o70_15⟩
  · exact ⟨mn_sLR, o70_18⟩
  · exact ⟨mn_sLR, o70_19⟩
  · exact ⟨mn_sCV, o70_20⟩
  · exact ⟨mn_sK, o70_23⟩
  · exact ⟨mn_sX, ok_X⟩
theorem oc70_1 : ∀ pc, Mnp (c70_1 pc) ∧ Okp RX5 cX5_isStill 3 (some .boolean) "isStill" false pc (c70_1 pc) := by
  intro pc
  unfold c70_1
  split
  · exact ⟨mn_sI2, o70_24⟩
  · exact ⟨mn_sK, o70_27⟩
  · exact ⟨mn_sRZ, o70_28⟩
  · exact ⟨mn_sInc, o70_29⟩
  · exact ⟨mn_sGo, o70_32⟩
  · exact ⟨mn_sK, o70_35⟩
  · exact ⟨mn_sRZ, o70_36⟩
  · exact ⟨mn_sX, ok_X⟩
theorem oc70 : ∀ pc, Mnp (c70 pc) ∧ Okp RX5 cX5_isStill 3 (some .boolean) "isStill" false pc (c70 pc) := by
  intro pc
  unfold c70
  split
  · exact oc70_0 pc
  · exact oc70_1 pc
  · exact ⟨mn_sX, ok_X⟩
theorem o71_0 : Okp RX5 cX5_reachedBy 2 (some .int) "reachedBy" false 0 (sLR 0 1) := ok_aload_n (by decide +kernel : decode cX5_reachedBy 0 = .ok (.aload_n 0, 1)) rfl
theorem o71_1 : Okp RX5 cX5_reachedBy 2 (some .int) "reachedBy" false 1 (sLR 1 2) := ok_aload_n (by decide +kernel : decode cX5_reachedBy 1 = .ok (.aload_n 1, 1)) rfl
theorem o71_2 : Okp RX5 cX5_reachedBy 2 (some .int) "reachedBy" false 2 (sLR 0 3) := ok_aload_n (by decide +kernel : decode cX5_reachedBy 2 = .ok (.aload_n 0, 1)) rfl
theorem o71_3 : Okp RX5 cX5_reachedBy 2 (some .int) "reachedBy" false 3 (sGR 6 5 6) := ok_getR (by decide +kernel : decode cX5_reachedBy 3 = .ok (.getfield 41, 3)) fw_X5_41 rfl
theorem o71_6 : Okp RX5 cX5_reachedBy 2 (some .int) "reachedBy" false 6 (sCV false 141 2 9 9) := ok_cv (by decide +kernel : decode cX5_reachedBy 6 = .ok (.invokevirtual 171, 3)) mw_X5_171 rfl (by decide) wm_X8_collect wse_X8_collect (by decide) rfl
theorem o71_9 : Okp RX5 cX5_reachedBy 2 (some .int) "reachedBy" false 9 (sPR 6 5 12) := ok_putR (by decide +kernel : decode cX5_reachedBy 9 = .ok (.putfield 41, 3)) fw_X5_41 ⟨⟨tyX5_ok, nmX5⟩, Or.inl rfl, rfl⟩ (Or.inr ⟨_, rfl⟩) rfl
theorem o71_12 : Okp RX5 cX5_reachedBy 2 (some .int) "reachedBy" false 12 (sLR 1 13) := ok_aload_n (by decide +kernel : decode cX5_reachedBy 12 = .ok (.aload_n 1, 1)) rfl
theorem o71_13 : Okp RX5 cX5_reachedBy 2 (some .int) "reachedBy" false 13 (sGI 9 16 16) := ok_getI (by decide +kernel : decode cX5_reachedBy 13 = .ok (.getfield 175, 3)) fw_X5_175 rfl
theorem o71_16 : Okp RX5 cX5_reachedBy 2 (some .int) "reachedBy" false 16 (sK 1 17) := ok_iconst (by decide +kernel : decode cX5_reachedBy 16 = .ok (.iconst 1, 1)) (by decide)
theorem o71_17 : Okp RX5 cX5_reachedBy 2 (some .int) "reachedBy" false 17 (sB2 fSub 18) := ok_isub (by decide +kernel : decode cX5_reachedBy 17 = .ok (.isub, 1))
theorem o71_18 : Okp RX5 cX5_reachedBy 2 (some .int) "reachedBy" false 18 sRI := ok_iret rfl (by decide +kernel : decode cX5_reachedBy 18 = .ok (.ireturn, 1))
theorem oc71 : ∀ pc, Mnp (c71 pc) ∧ Okp RX5 cX5_reachedBy 2 (some .int) "reachedBy" false pc (c71 pc) := by
  intro pc
  unfold c71
  split
  · exact ⟨mn_sLR, o71_0⟩
  · exact ⟨mn_sLR, o71_1⟩
  · exact ⟨mn_sLR, o71_2⟩
  · exact ⟨mn_sGR, o71_3⟩
  · exact ⟨mn_sCV, o71_6⟩
  · exact ⟨mn_sPR, o71_9⟩
  · exact ⟨mn_sLR, o71_12⟩
  · exact ⟨mn_sGI, o71_13⟩
  · exact ⟨mn_sK, o71_16⟩
  · exact ⟨mn_sB2, o71_17⟩
  · exact ⟨mn_sRI, o71_18⟩
  · exact ⟨mn_sX, ok_X⟩
theorem o72_0 : Okp RX5 cX5_goOn 7 (some .int) "goOn" false 0 (sK 0 1) := ok_iconst (by decide +kernel : decode cX5_goOn 0 = .ok (.iconst 0, 1)) (by decide)
theorem o72_1 : Okp RX5 cX5_goOn 7 (some .int) "goOn" false 1 (sSI 2 2) := ok_istore_n (by decide +kernel : decode cX5_goOn 1 = .ok (.istore_n 2, 1)) rfl (by decide) (by decide)
theorem o72_2 : Okp RX5 cX5_goOn 7 (some .int) "goOn" false 2 (sK 0 3) := ok_iconst (by decide +kernel : decode cX5_goOn 2 = .ok (.iconst 0, 1)) (by decide)
theorem o72_3 : Okp RX5 cX5_goOn 7 (some .int) "goOn" false 3 (sSI 3 4) := ok_istore_n (by decide +kernel : decode cX5_goOn 3 = .ok (.istore_n 3, 1)) rfl (by decide) (by decide)
theorem o72_4 : Okp RX5 cX5_goOn 7 (some .int) "goOn" false 4 (sLI 1 5) := ok_iload_n (by decide +kernel : decode cX5_goOn 4 = .ok (.iload_n 1, 1)) rfl
theorem o72_5 : Okp RX5 cX5_goOn 7 (some .int) "goOn" false 5 (sK 1 6) := ok_iconst (by decide +kernel : decode cX5_goOn 5 = .ok (.iconst 1, 1)) (by decide)
theorem o72_6 : Okp RX5 cX5_goOn 7 (some .int) "goOn" false 6 (sB2 fAdd 7) := ok_iadd (by decide +kernel : decode cX5_goOn 6 = .ok (.iadd, 1))
theorem o72_7 : Okp RX5 cX5_goOn 7 (some .int) "goOn" false 7 (sK 13 9) := ok_bipush (by decide +kernel : decode cX5_goOn 7 = .ok (.bipush 13, 2)) (by decide)
theorem o72_9 : Okp RX5 cX5_goOn 7 (some .int) "goOn" false 9 (sB2 fMul 10) := ok_imul (by decide +kernel : decode cX5_goOn 9 = .ok (.imul, 1))
theorem o72_10 : Okp RX5 cX5_goOn 7 (some .int) "goOn" false 10 (sSI 4 12) := ok_istore (by decide +kernel : decode cX5_goOn 10 = .ok (.istore 4, 2)) (by decide) (by decide)
theorem o72_12 : Okp RX5 cX5_goOn 7 (some .int) "goOn" false 12 (sK 0 13) := ok_iconst (by decide +kernel : decode cX5_goOn 12 = .ok (.iconst 0, 1)) (by decide)
theorem o72_13 : Okp RX5 cX5_goOn 7 (some .int) "goOn" false 13 (sSI 5 15) := ok_istore (by decide +kernel : decode cX5_goOn 13 = .ok (.istore 5, 2)) (by decide) (by decide)
theorem o72_15 : Okp RX5 cX5_goOn 7 (some .int) "goOn" false 15 (sLI 5 17) := ok_iload (by decide +kernel : decode cX5_goOn 15 = .ok (.iload 5, 2))
theorem o72_17 : Okp RX5 cX5_goOn 7 (some .int) "goOn" false 17 (sLI 4 19) := ok_iload (by decide +kernel : decode cX5_goOn 17 = .ok (.iload 4, 2))
theorem o72_19 : Okp RX5 cX5_goOn 7 (some .int) "goOn" false 19 (sI2 3 100 22) := ok_icmp_ge (by decide +kernel : decode cX5_goOn 19 = .ok (.if_icmp .ge 81, 3)) (by decide)
theorem o72_22 : Okp RX5 cX5_goOn 7 (some .int) "goOn" false 22 (sLI 2 23) := ok_iload_n (by decide +kernel : decode cX5_goOn 22 = .ok (.iload_n 2, 1)) rfl
theorem o72_23 : Okp RX5 cX5_goOn 7 (some .int) "goOn" false 23 (sLI 1 24) := ok_iload_n (by decide +kernel : decode cX5_goOn 23 = .ok (.iload_n 1, 1)) rfl
theorem o72_24 : Okp RX5 cX5_goOn 7 (some .int) "goOn" false 24 (sI2 3 100 27) := ok_icmp_ge (by decide +kernel : decode cX5_goOn 24 = .ok (.if_icmp .ge 76, 3)) (by decide)
theorem o72_27 : Okp RX5 cX5_goOn 7 (some .int) "goOn" false 27 (sLI 3 28) := ok_iload_n (by decide +kernel : decode cX5_goOn 27 = .ok (.iload_n 3, 1)) rfl
theorem o72_28 : Okp RX5 cX5_goOn 7 (some .int) "goOn" false 28 (sK 12 30) := ok_bipush (by decide +kernel : decode cX5_goOn 28 = .ok (.bipush 12, 2)) (by decide)
theorem o72_30 : Okp RX5 cX5_goOn 7 (some .int) "goOn" false 30 (sI2 3 100 33) := ok_icmp_ge (by decide +kernel : decode cX5_goOn 30 = .ok (.if_icmp .ge 70, 3)) (by decide)
theorem o72_33 : Okp RX5 cX5_goOn 7 (some .int) "goOn" false 33 (sLR 0 34) := ok_aload_n (by decide +kernel : decode cX5_goOn 33 = .ok (.aload_n 0, 1)) rfl
theorem o72_34 : Okp RX5 cX5_goOn 7 (some .int) "goOn" false 34 (sLR 0 35) := ok_aload_n (by decide +kernel : decode cX5_goOn 34 = .ok (.aload_n 0, 1)) rfl
theorem o72_35 : Okp RX5 cX5_goOn 7 (some .int) "goOn" false 35 (sGI 6 10 38) := ok_getI (by decide +kernel : decode cX5_goOn 35 = .ok (.getfield 58, 3)) fw_X5_58 rfl
theorem o72_38 : Okp RX5 cX5_goOn 7 (some .int) "goOn" false 38 (sCV false 68 2 6 41) := ok_cv (by decide +kernel : decode cX5_goOn 38 = .ok (.invokevirtual 164, 3)) mw_X5_164 rfl (by decide) wm_X5_livingAt wse_X5_livingAt (by decide) rfl
theorem o72_41 : Okp RX5 cX5_goOn 7 (some .int) "goOn" false 41 (sSR 6 43) := ok_astore (by decide +kernel : decode cX5_goOn 41 = .ok (.astore 6, 2)) (by decide) (by decide)
theorem o72_43 : Okp RX5 cX5_goOn 7 (some .int) "goOn" false 43 (sLR 6 45) := ok_aload (by decide +kernel : decode cX5_goOn 43 = .ok (.aload 6, 2))
theorem o72_45 : Okp RX5 cX5_goOn 7 (some .int) "goOn" false 45 (sNl 59 48) := ok_ifnull (by decide +kernel : decode cX5_goOn 45 = .ok (.ifnull 14, 3)) (by decide)
theorem o72_48 : Okp RX5 cX5_goOn 7 (some .int) "goOn" false 48 (sLR 6 50) := ok_aload (by decide +kernel : decode cX5_goOn 48 = .ok (.aload 6, 2))
theorem o72_50 : Okp RX5 cX5_goOn 7 (some .int) "goOn" false 50 (sLR 0 51) := ok_aload_n (by decide +kernel : decode cX5_goOn 50 = .ok (.aload_n 0, 1)) rfl
theorem o72_51 : Okp RX5 cX5_goOn 7 (some .int) "goOn" false 51 (sLR 6 53) := ok_aload (by decide +kernel : decode cX5_goOn 51 = .ok (.aload 6, 2))
theorem o72_53 : Okp RX5 cX5_goOn 7 (some .int) "goOn" false 53 (sCV false 74 2 6 56) := ok_cv (by decide +kernel : decode cX5_goOn 53 = .ok (.invokevirtual 167, 3)) mw_X5_167 rfl (by decide) wm_X5_outlookOf wse_X5_outlookOf (by decide) rfl
theorem o72_56 : Okp RX5 cX5_goOn 7 (some .int) "goOn" false 56 (sPI 9 4 59) := ok_putI (by decide +kernel : decode cX5_goOn 56 = .ok (.putfield 178, 3)) fw_X5_178 ⟨⟨tyX8_ok, nmX8⟩, Or.inl rfl, rfl⟩ rfl
theorem o72_59 : Okp RX5 cX5_goOn 7 (some .int) "goOn" false 59 (sLR 6 61) := ok_aload (by decide +kernel : decode cX5_goOn 59 = .ok (.aload 6, 2))
theorem o72_61 : Okp RX5 cX5_goOn 7 (some .int) "goOn" false 61 (sNl 87 64) := ok_ifnull (by decide +kernel : decode cX5_goOn 61 = .ok (.ifnull 26, 3)) (by decide)
theorem o72_64 : Okp RX5 cX5_goOn 7 (some .int) "goOn" false 64 (sLR 6 66) := ok_aload (by decide +kernel : decode cX5_goOn 64 = .ok (.aload 6, 2))
theorem o72_66 : Okp RX5 cX5_goOn 7 (some .int) "goOn" false 66 (sGI 9 4 69) := ok_getI (by decide +kernel : decode cX5_goOn 66 = .ok (.getfield 178, 3)) fw_X5_178 rfl
theorem o72_69 : Okp RX5 cX5_goOn 7 (some .int) "goOn" false 69 (sK 1 70) := ok_iconst (by decide +kernel : decode cX5_goOn 69 = .ok (.iconst 1, 1)) (by decide)
theorem o72_70 : Okp RX5 cX5_goOn 7 (some .int) "goOn" false 70 (sI2 1 87 73) := ok_icmp_ne (by decide +kernel : decode cX5_goOn 70 = .ok (.if_icmp .ne 17, 3)) (by decide)
theorem o72_73 : Okp RX5 cX5_goOn 7 (some .int) "goOn" false 73 (sLR 0 74) := ok_aload_n (by decide +kernel : decode cX5_goOn 73 = .ok (.aload_n 0, 1)) rfl
theorem o72_74 : Okp RX5 cX5_goOn 7 (some .int) "goOn" false 74 (sLR 6 76) := ok_aload (by decide +kernel : decode cX5_goOn 74 = .ok (.aload 6, 2))
theorem o72_76 : Okp RX5 cX5_goOn 7 (some .int) "goOn" false 76 (sCV false 77 2 6 79) := ok_cv (by decide +kernel : decode cX5_goOn 76 = .ok (.invokevirtual 181, 3)) mw_X5_181 rfl (by decide) wm_X5_step wse_X5_step (by decide) rfl
theorem o72_79 : Okp RX5 cX5_goOn 7 (some .int) "goOn" false 79 (sInc 2 1 82) := ok_iinc (by decide +kernel : decode cX5_goOn 79 = .ok (.iinc 2 1, 3)) (by decide) (by decide)
theorem o72_82 : Okp RX5 cX5_goOn 7 (some .int) "goOn" false 82 (sK 0 83) := ok_iconst (by decide +kernel : decode cX5_goOn 82 = .ok (.iconst 0, 1)) (by decide)
theorem o72_83 : Okp RX5 cX5_goOn 7 (some .int) "goOn" false 83 (sSI 3 84) := ok_istore_n (by decide +kernel : decode cX5_goOn 83 = .ok (.istore_n 3, 1)) rfl (by decide) (by decide)
theorem o72_84 : Okp RX5 cX5_goOn 7 (some .int) "goOn" false 84 (sGo 94) := ok_goto (by decide +kernel : decode cX5_goOn 84 = .ok (.goto 10, 3)) (by decide)
theorem o72_87 : Okp RX5 cX5_goOn 7 (some .int) "goOn" false 87 (sInc 3 1 90) := ok_iinc (by decide +kernel : decode cX5_goOn 87 = .ok (.iinc 3 1, 3)) (by decide) (by decide)
theorem o72_90 : Okp RX5 cX5_goOn 7 (some .int) "goOn" false 90 (sLR 0 91) := ok_aload_n (by decide +kernel : decode cX5_goOn 90 = .ok (.aload_n 0, 1)) rfl
theorem o72_91 : Okp RX5 cX5_goOn 7 (some .int) "goOn" false 91 (sCV false 73 1 6 94) := ok_cv (by decide +kernel : decode cX5_goOn 91 = .ok (.invokevirtual 185, 3)) mw_X5_185 rfl (by decide) wm_X5_passOn wse_X5_passOn (by decide) rfl
theorem o72_94 : Okp RX5 cX5_goOn 7 (some .int) "goOn" false 94 (sInc 5 1 97) := ok_iinc (by decide +kernel : decode cX5_goOn 94 = .ok (.iinc 5 1, 3)) (by decide) (by decide)
theorem o72_97 : Okp RX5 cX5_goOn 7 (some .int) "goOn" false 97 (sGo 15) := ok_goto (by decide +kernel : decode cX5_goOn 97 = .ok (.goto (-82), 3)) (by decide)
theorem o72_100 : Okp RX5 cX5_goOn 7 (some .int) "goOn" false 100 (sLI 2 101) := ok_iload_n (by decide +kernel : decode cX5_goOn 100 = .ok (.iload_n 2, 1)) rfl
theorem o72_101 : Okp RX5 cX5_goOn 7 (some .int) "goOn" false 101 sRI := ok_iret rfl (by decide +kernel : decode cX5_goOn 101 = .ok (.ireturn, 1))
theorem oc72_0 : ∀ pc, Mnp (c72_0 pc) ∧ Okp RX5 cX5_goOn 7 (some .int) "goOn" false pc (c72_0 pc) := by
  intro pc
  unfold c72_0
  split
  · exact ⟨mn_sK, o72_0⟩
  · exact ⟨mn_sSI, o72_1⟩
  · exact ⟨mn_sK, o72_2⟩
  · exact ⟨mn_sSI, o72_3⟩
  · exact ⟨mn_sLI, o72_4⟩
  · exact ⟨mn_sK, o72_5⟩
  · exact ⟨mn_sB2, o72_6⟩
  · exact ⟨mn_sK, o72_7⟩
  · exact ⟨mn_sB2, o72_9⟩
  · exact ⟨mn_sSI, o72_10⟩
  · exact ⟨mn_sK, o72_12⟩
  · exact ⟨mn_sSI, o72_13⟩
  · exact ⟨mn_sLI, o72_15⟩
  · exact ⟨mn_sLI, o72_17⟩
  · exact ⟨mn_sI2, o72_19⟩
  · exact ⟨mn_sLI, o72_22⟩
  · exact ⟨mn_sLI, o72_23⟩
  · exact ⟨mn_sX, ok_X⟩
theorem oc72_1 : ∀ pc, Mnp (c72_1 pc) ∧ Okp RX5 cX5_goOn 7 (some .int) "goOn" false pc (c72_1 pc) := by
  intro pc
  unfold c72_1
  split
  · exact ⟨mn_sI2, o72_24⟩
  · exact ⟨mn_sLI, o72_27⟩
  · exact ⟨mn_sK, o72_28⟩
  · exact ⟨mn_sI2, o72_30⟩
  · exact ⟨mn_sLR, o72_33⟩
  · exact ⟨mn_sLR, o72_34⟩
  · exact ⟨mn_sGI, o72_35⟩
  · exact ⟨mn_sCV, o72_38⟩
  · exact ⟨mn_sSR, o72_41⟩
  · exact ⟨mn_sLR, o72_43⟩
  · exact ⟨mn_sNl, o72_45⟩
  · exact ⟨mn_sX, ok_X⟩
theorem oc72_2 : ∀ pc, Mnp (c72_2 pc) ∧ Okp RX5 cX5_goOn 7 (some .int) "goOn" false pc (c72_2 pc) := by
  intro pc
  unfold c72_2
  split
  · exact ⟨mn_sLR, o72_48⟩
  · exact ⟨mn_sLR, o72_50⟩
  · exact ⟨mn_sLR, o72_51⟩
  · exact ⟨mn_sCV, o72_53⟩
  · exact ⟨mn_sPI, o72_56⟩
  · exact ⟨mn_sLR, o72_59⟩
  · exact ⟨mn_sNl, o72_61⟩
  · exact ⟨mn_sLR, o72_64⟩
  · exact ⟨mn_sGI, o72_66⟩
  · exact ⟨mn_sK, o72_69⟩
  · exact ⟨mn_sI2, o72_70⟩
  · exact ⟨mn_sX, ok_X⟩
theorem oc72_3 : ∀ pc, Mnp (c72_3 pc) ∧ Okp RX5 cX5_goOn 7 (some .int) "goOn" false pc (c72_3 pc) := by
  intro pc
  unfold c72_3
  split
  · exact ⟨mn_sLR, o72_73⟩
  · exact ⟨mn_sLR, o72_74⟩
  · exact ⟨mn_sCV, o72_76⟩
  · exact ⟨mn_sInc, o72_79⟩
  · exact ⟨mn_sK, o72_82⟩
  · exact ⟨mn_sSI, o72_83⟩
  · exact ⟨mn_sGo, o72_84⟩
  · exact ⟨mn_sInc, o72_87⟩
  · exact ⟨mn_sLR, o72_90⟩
  · exact ⟨mn_sCV, o72_91⟩
  · exact ⟨mn_sInc, o72_94⟩
  · exact ⟨mn_sX, ok_X⟩
theorem oc72_4 : ∀ pc, Mnp (c72_4 pc) ∧ Okp RX5 cX5_goOn 7 (some .int) "goOn" false pc (c72_4 pc) := by
  intro pc
  unfold c72_4
  split
  · exact ⟨mn_sGo, o72_97⟩
  · exact ⟨mn_sLI, o72_100⟩
  · exact ⟨mn_sRI, o72_101⟩
  · exact ⟨mn_sX, ok_X⟩
theorem oc72 : ∀ pc, Mnp (c72 pc) ∧ Okp RX5 cX5_goOn 7 (some .int) "goOn" false pc (c72 pc) := by
  intro pc
  unfold c72
  split
  · exact oc72_0 pc
  · exact oc72_1 pc
  · exact oc72_2 pc
  · exact oc72_3 pc
  · exact oc72_4 pc
  · exact ⟨mn_sX, ok_X⟩
theorem o73_0 : Okp RX5 cX5_passOn 1 none "passOn" false 0 (sLR 0 1) := ok_aload_n (by decide +kernel : decode cX5_passOn 0 = .ok (.aload_n 0, 1)) rfl
theorem o73_1 : Okp RX5 cX5_passOn 1 none "passOn" false 1 (sLR 0 2) := ok_aload_n (by decide +kernel : decode cX5_passOn 1 = .ok (.aload_n 0, 1)) rfl
theorem o73_2 : Okp RX5 cX5_passOn 1 none "passOn" false 2 (sGI 6 10 5) := ok_getI (by decide +kernel : decode cX5_passOn 2 = .ok (.getfield 58, 3)) fw_X5_58 rfl
theorem o73_5 : Okp RX5 cX5_passOn 1 none "passOn" false 5 (sK 1 6) := ok_iconst (by decide +kernel : decode cX5_passOn 5 = .ok (.iconst 1, 1)) (by decide)
theorem o73_6 : Okp RX5 cX5_passOn 1 none "passOn" false 6 (sB2 fAdd 7) := ok_iadd (by decide +kernel : decode cX5_passOn 6 = .ok (.iadd, 1))
theorem o73_7 : Okp RX5 cX5_passOn 1 none "passOn" false 7 (sK 12 9) := ok_bipush (by decide +kernel : decode cX5_passOn 7 = .ok (.bipush 12, 2)) (by decide)
theorem o73_9 : Okp RX5 cX5_passOn 1 none "passOn" false 9 (sD2 fRem 10) := ok_irem (by decide +kernel : decode cX5_passOn 9 = .ok (.irem, 1))
theorem o73_10 : Okp RX5 cX5_passOn 1 none "passOn" false 10 (sPI 6 10 13) := ok_putI (by decide +kernel : decode cX5_passOn 10 = .ok (.putfield 58, 3)) fw_X5_58 ⟨⟨tyX5_ok, nmX5⟩, Or.inl rfl, rfl⟩ rfl
theorem o73_13 : Okp RX5 cX5_passOn 1 none "passOn" false 13 (sLR 0 14) := ok_aload_n (by decide +kernel : decode cX5_passOn 13 = .ok (.aload_n 0, 1)) rfl
theorem o73_14 : Okp RX5 cX5_passOn 1 none "passOn" false 14 (sK 0 15) := ok_iconst (by decide +kernel : decode cX5_passOn 14 = .ok (.iconst 0, 1)) (by decide)
theorem o73_15 : Okp RX5 cX5_passOn 1 none "passOn" false 15 (sPI 6 11 18) := ok_putI (by decide +kernel : decode cX5_passOn 15 = .ok (.putfield 61, 3)) fw_X5_61 ⟨⟨tyX5_ok, nmX5⟩, Or.inl rfl, rfl⟩ rfl
theorem o73_18 : Okp RX5 cX5_passOn 1 none "passOn" false 18 sRV := ok_vret rfl (by decide +kernel : decode cX5_passOn 18 = .ok (.return_, 1))
theorem oc73 : ∀ pc, Mnp (c73 pc) ∧ Okp RX5 cX5_passOn 1 none "passOn" false pc (c73 pc) := by
  intro pc
  unfold c73
  split
  · exact ⟨mn_sLR, o73_0⟩
  · exact ⟨mn_sLR, o73_1⟩
  · exact ⟨mn_sGI, o73_2⟩
  · exact ⟨mn_sK, o73_5⟩
  · exact ⟨mn_sB2, o73_6⟩
  · exact ⟨mn_sK, o73_7⟩
  · exact ⟨mn_sD2, o73_9⟩
  · exact ⟨mn_sPI, o73_10⟩
  · exact ⟨mn_sLR, o73_13⟩
  · exact ⟨mn_sK, o73_14⟩
  · exact ⟨mn_sPI, o73_15⟩
  · exact ⟨mn_sRV, o73_18⟩
  · exact ⟨mn_sX, ok_X⟩
theorem o74_0 : Okp RX5 cX5_outlookOf 5 (some .int) "outlookOf" false 0 (sLR 1 1) := ok_aload_n (by decide +kernel : decode cX5_outlookOf 0 = .ok (.aload_n 1, 1)) rfl
theorem o74_1 : Okp RX5 cX5_outlookOf 5 (some .int) "outlookOf" false 1 (sCV false 126 1 9 4) := ok_cv (by decide +kernel : decode cX5_outlookOf 1 = .ok (.invokevirtual 188, 3)) mw_X5_188 rfl (by decide) wm_X8_addressOfNext wse_X8_addressOfNext (by decide) rfl
theorem o74_4 : Okp RX5 cX5_outlookOf 5 (some .int) "outlookOf" false 4 (sSI 2 5) := ok_istore_n (by decide +kernel : decode cX5_outlookOf 4 = .ok (.istore_n 2, 1)) rfl (by decide) (by decide)
theorem o74_5 : Okp RX5 cX5_outlookOf 5 (some .int) "outlookOf" false 5 (sLR 1 6) := ok_aload_n (by decide +kernel : decode cX5_outlookOf 5 = .ok (.aload_n 1, 1)) rfl
theorem o74_6 : Okp RX5 cX5_outlookOf 5 (some .int) "outlookOf" false 6 (sGR 9 1 9) := ok_getR (by decide +kernel : decode cX5_outlookOf 6 = .ok (.getfield 192, 3)) fw_X5_192 rfl
theorem o74_9 : Okp RX5 cX5_outlookOf 5 (some .int) "outlookOf" false 9 (sLI 2 10) := ok_iload_n (by decide +kernel : decode cX5_outlookOf 9 = .ok (.iload_n 2, 1)) rfl
theorem o74_10 : Okp RX5 cX5_outlookOf 5 (some .int) "outlookOf" false 10 (sCV false 145 2 10 13) := ok_cv (by decide +kernel : decode cX5_outlookOf 10 = .ok (.invokevirtual 196, 3)) mw_X5_196 rfl (by decide) wm_X9_byteAt wse_X9_byteAt (by decide) rfl
theorem o74_13 : Okp RX5 cX5_outlookOf 5 (some .int) "outlookOf" false 13 (sSI 3 14) := ok_istore_n (by decide +kernel : decode cX5_outlookOf 13 = .ok (.istore_n 3, 1)) rfl (by decide) (by decide)
theorem o74_14 : Okp RX5 cX5_outlookOf 5 (some .int) "outlookOf" false 14 (sLI 3 15) := ok_iload_n (by decide +kernel : decode cX5_outlookOf 14 = .ok (.iload_n 3, 1)) rfl
theorem o74_15 : Okp RX5 cX5_outlookOf 5 (some .int) "outlookOf" false 15 (sK 38 17) := ok_bipush (by decide +kernel : decode cX5_outlookOf 15 = .ok (.bipush 38, 2)) (by decide)
theorem o74_17 : Okp RX5 cX5_outlookOf 5 (some .int) "outlookOf" false 17 (sI2 1 44 20) := ok_icmp_ne (by decide +kernel : decode cX5_outlookOf 17 = .ok (.if_icmp .ne 27, 3)) (by decide)
theorem o74_20 : Okp RX5 cX5_outlookOf 5 (some .int) "outlookOf" false 20 (sLR 1 21) := ok_aload_n (by decide +kernel : decode cX5_outlookOf 20 = .ok (.aload_n 1, 1)) rfl
theorem o74_21 : Okp RX5 cX5_outlookOf 5 (some .int) "outlookOf" false 21 (sCV false 132 1 9 24) := ok_cv (by decide +kernel : decode cX5_outlookOf 21 = .ok (.invokevirtual 199, 3)) mw_X5_199 rfl (by decide) wm_X8_highest wse_X8_highest (by decide) rfl
theorem o74_24 : Okp RX5 cX5_outlookOf 5 (some .int) "outlookOf" false 24 (sSI 4 26) := ok_istore (by decide +kernel : decode cX5_outlookOf 24 = .ok (.istore 4, 2)) (by decide) (by decide)
theorem o74_26 : Okp RX5 cX5_outlookOf 5 (some .int) "outlookOf" false 26 (sLR 0 27) := ok_aload_n (by decide +kernel : decode cX5_outlookOf 26 = .ok (.aload_n 0, 1)) rfl
theorem o74_27 : Okp RX5 cX5_outlookOf 5 (some .int) "outlookOf" false 27 (sGR 6 4 30) := ok_getR (by decide +kernel : decode cX5_outlookOf 27 = .ok (.getfield 37, 3)) fw_X5_37 rfl
theorem o74_30 : Okp RX5 cX5_outlookOf 5 (some .int) "outlookOf" false 30 (sLI 4 32) := ok_iload (by decide +kernel : decode cX5_outlookOf 30 = .ok (.iload 4, 2))
theorem o74_32 : Okp RX5 cX5_outlookOf 5 (some .int) "outlookOf" false 32 (sCV false 48 2 5 35) := ok_cv (by decide +kernel : decode cX5_outlookOf 32 = .ok (.invokevirtual 202, 3)) mw_X5_202 rfl (by decide) wm_X4_waitingFor wse_X4_waitingFor (by decide) rfl
theorem o74_35 : Okp RX5 cX5_outlookOf 5 (some .int) "outlookOf" false 35 (sI1 5 42 38) := ok_if_le (by decide +kernel : decode cX5_outlookOf 35 = .ok (.ifCond .le 7, 3)) (by decide)
theorem o74_38 : Okp RX5 cX5_outlookOf 5 (some .int) "outlookOf" false 38 (sK 1 39) := ok_iconst (by decide +kernel : decode cX5_outlookOf 38 = .ok (.iconst 1, 1)) (by decide)
theorem o74_39 : Okp RX5 cX5_outlookOf 5 (some .int) "outlookOf" false 39 (sGo 43) := ok_goto (by decide +kernel : decode cX5_outlookOf 39 = .ok (.goto 4, 3)) (by decide)
theorem o74_42 : Okp RX5 cX5_outlookOf 5 (some .int) "outlookOf" false 42 (sK 2 43) := ok_iconst (by decide +kernel : decode cX5_outlookOf 42 = .ok (.iconst 2, 1)) (by decide)
theorem o74_43 : Okp RX5 cX5_outlookOf 5 (some .int) "outlookOf" false 43 sRI := ok_iret rfl (by decide +kernel : decode cX5_outlookOf 43 = .ok (.ireturn, 1))
theorem o74_44 : Okp RX5 cX5_outlookOf 5 (some .int) "outlookOf" false 44 (sLI 3 45) := ok_iload_n (by decide +kernel : decode cX5_outlookOf 44 = .ok (.iload_n 3, 1)) rfl
theorem o74_45 : Okp RX5 cX5_outlookOf 5 (some .int) "outlookOf" false 45 (sK 37 47) := ok_bipush (by decide +kernel : decode cX5_outlookOf 45 = .ok (.bipush 37, 2)) (by decide)
theorem o74_47 : Okp RX5 cX5_outlookOf 5 (some .int) "outlookOf" false 47 (sI2 1 87 50) := ok_icmp_ne (by decide +kernel : decode cX5_outlookOf 47 = .ok (.if_icmp .ne 40, 3)) (by decide)
theorem o74_50 : Okp RX5 cX5_outlookOf 5 (some .int) "outlookOf" false 50 (sLR 0 51) := ok_aload_n (by decide +kernel : decode cX5_outlookOf 50 = .ok (.aload_n 0, 1)) rfl
theorem o74_51 : Okp RX5 cX5_outlookOf 5 (some .int) "outlookOf" false 51 (sLR 1 52) := ok_aload_n (by decide +kernel : decode cX5_outlookOf 51 = .ok (.aload_n 1, 1)) rfl
theorem o74_52 : Okp RX5 cX5_outlookOf 5 (some .int) "outlookOf" false 52 (sLR 1 53) := ok_aload_n (by decide +kernel : decode cX5_outlookOf 52 = .ok (.aload_n 1, 1)) rfl
theorem o74_53 : Okp RX5 cX5_outlookOf 5 (some .int) "outlookOf" false 53 (sGR 9 1 56) := ok_getR (by decide +kernel : decode cX5_outlookOf 53 = .ok (.getfield 192, 3)) fw_X5_192 rfl
theorem o74_56 : Okp RX5 cX5_outlookOf 5 (some .int) "outlookOf" false 56 (sLI 2 57) := ok_iload_n (by decide +kernel : decode cX5_outlookOf 56 = .ok (.iload_n 2, 1)) rfl
theorem o74_57 : Okp RX5 cX5_outlookOf 5 (some .int) "outlookOf" false 57 (sK 1 58) := ok_iconst (by decide +kernel : decode cX5_outlookOf 57 = .ok (.iconst 1, 1)) (by decide)
theorem o74_58 : Okp RX5 cX5_outlookOf 5 (some .int) "outlookOf" false 58 (sB2 fAdd 59) := ok_iadd (by decide +kernel : decode cX5_outlookOf 58 = .ok (.iadd, 1))
theorem o74_59 : Okp RX5 cX5_outlookOf 5 (some .int) "outlookOf" false 59 (sCV false 145 2 10 62) := ok_cv (by decide +kernel : decode cX5_outlookOf 59 = .ok (.invokevirtual 196, 3)) mw_X5_196 rfl (by decide) wm_X9_byteAt wse_X9_byteAt (by decide) rfl
theorem o74_62 : Okp RX5 cX5_outlookOf 5 (some .int) "outlookOf" false 62 (sCV false 76 3 6 65) := ok_cv (by decide +kernel : decode cX5_outlookOf 62 = .ok (.invokevirtual 205, 3)) mw_X5_205 rfl (by decide) wm_X5_sendingEnd wse_X5_sendingEnd (by decide) rfl
theorem o74_65 : Okp RX5 cX5_outlookOf 5 (some .int) "outlookOf" false 65 (sSI 4 67) := ok_istore (by decide +kernel : decode cX5_outlookOf 65 = .ok (.istore 4, 2)) (by decide) (by decide)
theorem o74_67 : Okp RX5 cX5_outlookOf 5 (some .int) "outlookOf" false 67 (sLR 0 68) := ok_aload_n (by decide +kernel : decode cX5_outlookOf 67 = .ok (.aload_n 0, 1)) rfl
theorem o74_68 : Okp RX5 cX5_outlookOf 5 (some .int) "outlookOf" false 68 (sGR 6 4 71) := ok_getR (by decide +kernel : decode cX5_outlookOf 68 = .ok (.getfield 37, 3)) fw_X5_37 rfl
theorem o74_71 : Okp RX5 cX5_outlookOf 5 (some .int) "outlookOf" false 71 (sLI 4 73) := ok_iload (by decide +kernel : decode cX5_outlookOf 71 = .ok (.iload 4, 2))
theorem o74_73 : Okp RX5 cX5_outlookOf 5 (some .int) "outlookOf" false 73 (sK 1 74) := ok_iconst (by decide +kernel : decode cX5_outlookOf 73 = .ok (.iconst 1, 1)) (by decide)
theorem o74_74 : Okp RX5 cX5_outlookOf 5 (some .int) "outlookOf" false 74 (sB2 fXor 75) := ok_ixor (by decide +kernel : decode cX5_outlookOf 74 = .ok (.ixor, 1))
theorem o74_75 : Okp RX5 cX5_outlookOf 5 (some .int) "outlookOf" false 75 (sCV false 50 2 5 78) := ok_cv (by decide +kernel : decode cX5_outlookOf 75 = .ok (.invokevirtual 209, 3)) mw_X5_209 rfl (by decide) wm_X4_isFull wse_X4_isFull (by decide) rfl
theorem o74_78 : Okp RX5 cX5_outlookOf 5 (some .int) "outlookOf" false 78 (sI1 0 85 81) := ok_if_eq (by decide +kernel : decode cX5_outlookOf 78 = .ok (.ifCond .eq 7, 3)) (by decide)
theorem o74_81 : Okp RX5 cX5_outlookOf 5 (some .int) "outlookOf" false 81 (sK 3 82) := ok_iconst (by decide +kernel : decode cX5_outlookOf 81 = .ok (.iconst 3, 1)) (by decide)
theorem o74_82 : Okp RX5 cX5_outlookOf 5 (some .int) "outlookOf" false 82 (sGo 86) := ok_goto (by decide +kernel : decode cX5_outlookOf 82 = .ok (.goto 4, 3)) (by decide)
theorem o74_85 : Okp RX5 cX5_outlookOf 5 (some .int) "outlookOf" false 85 (sK 1 86) := ok_iconst (by decide +kernel : decode cX5_outlookOf 85 = .ok (.iconst 1, 1)) (by decide)
theorem o74_86 : Okp RX5 cX5_outlookOf 5 (some .int) "outlookOf" false 86 sRI := ok_iret rfl (by decide +kernel : decode cX5_outlookOf 86 = .ok (.ireturn, 1))
theorem o74_87 : Okp RX5 cX5_outlookOf 5 (some .int) "outlookOf" false 87 (sK 1 88) := ok_iconst (by decide +kernel : decode cX5_outlookOf 87 = .ok (.iconst 1, 1)) (by decide)
theorem o74_88 : Okp RX5 cX5_outlookOf 5 (some .int) "outlookOf" false 88 sRI := ok_iret rfl (by decide +kernel : decode cX5_outlookOf 88 = .ok (.ireturn, 1))
theorem oc74_0 : ∀ pc, Mnp (c74_0 pc) ∧ Okp RX5 cX5_outlookOf 5 (some .int) "outlookOf" false pc (c74_0 pc) := by
  intro pc
  unfold c74_0
  split
  · exact ⟨mn_sLR, o74_0⟩
  · exact ⟨mn_sCV, o74_1⟩
  · exact ⟨mn_sSI, o74_4⟩
  · exact ⟨mn_sLR, o74_5⟩
  · exact ⟨mn_sGR, o74_6⟩
  · exact ⟨mn_sLI, o74_9⟩
  · exact ⟨mn_sCV, o74_10⟩
  · exact ⟨mn_sSI, o74_13⟩
  · exact ⟨mn_sLI, o74_14⟩
  · exact ⟨mn_sK, o74_15⟩
  · exact ⟨mn_sI2, o74_17⟩
  · exact ⟨mn_sLR, o74_20⟩
  · exact ⟨mn_sCV, o74_21⟩
  · exact ⟨mn_sX, ok_X⟩
theorem oc74_1 : ∀ pc, Mnp (c74_1 pc) ∧ Okp RX5 cX5_outlookOf 5 (some .int) "outlookOf" false pc (c74_1 pc) := by
  intro pc
  unfold c74_1
  split
  · exact ⟨mn_sSI, o74_24⟩
  · exact ⟨mn_sLR, o74_26⟩
  · exact ⟨mn_sGR, o74_27⟩
  · exact ⟨mn_sLI, o74_30⟩
  · exact ⟨mn_sCV, o74_32⟩
  · exact ⟨mn_sI1, o74_35⟩
  · exact ⟨mn_sK, o74_38⟩
  · exact ⟨mn_sGo, o74_39⟩
  · exact ⟨mn_sK, o74_42⟩
  · exact ⟨mn_sRI, o74_43⟩
  · exact ⟨mn_sLI, o74_44⟩
  · exact ⟨mn_sK, o74_45⟩
  · exact ⟨mn_sI2, o74_47⟩
  · exact ⟨mn_sX, ok_X⟩
theorem oc74_2 : ∀ pc, Mnp (c74_2 pc) ∧ Okp RX5 cX5_outlookOf 5 (some .int) "outlookOf" false pc (c74_2 pc) := by
  intro pc
  unfold c74_2
  split
  · exact ⟨mn_sLR, o74_50⟩
  · exact ⟨mn_sLR, o74_51⟩
  · exact ⟨mn_sLR, o74_52⟩
  · exact ⟨mn_sGR, o74_53⟩
  · exact ⟨mn_sLI, o74_56⟩
  · exact ⟨mn_sK, o74_57⟩
  · exact ⟨mn_sB2, o74_58⟩
  · exact ⟨mn_sCV, o74_59⟩
  · exact ⟨mn_sCV, o74_62⟩
  · exact ⟨mn_sSI, o74_65⟩
  · exact ⟨mn_sLR, o74_67⟩
  · exact ⟨mn_sGR, o74_68⟩
  · exact ⟨mn_sLI, o74_71⟩
  · exact ⟨mn_sX, ok_X⟩
theorem oc74_3 : ∀ pc, Mnp (c74_3 pc) ∧ Okp RX5 cX5_outlookOf 5 (some .int) "outlookOf" false pc (c74_3 pc) := by
  intro pc
  unfold c74_3
  split
  · exact ⟨mn_sK, o74_73⟩
  · exact ⟨mn_sB2, o74_74⟩
  · exact ⟨mn_sCV, o74_75⟩
  · exact ⟨mn_sI1, o74_78⟩
  · exact ⟨mn_sK, o74_81⟩
  · exact ⟨mn_sGo, o74_82⟩
  · exact ⟨mn_sK, o74_85⟩
  · exact ⟨mn_sRI, o74_86⟩
  · exact ⟨mn_sK, o74_87⟩
  · exact ⟨mn_sRI, o74_88⟩
  · exact ⟨mn_sX, ok_X⟩
theorem oc74 : ∀ pc, Mnp (c74 pc) ∧ Okp RX5 cX5_outlookOf 5 (some .int) "outlookOf" false pc (c74 pc) := by
  intro pc
  unfold c74
  split
  · exact oc74_0 pc
  · exact oc74_1 pc
  · exact oc74_2 pc
  · exact oc74_3 pc
  · exact ⟨mn_sX, ok_X⟩
theorem o75_0 : Okp RX5 cX5_isBare 4 (some .boolean) "isBare" false 0 (sLR 1 1) := ok_aload_n (by decide +kernel : decode cX5_isBare 0 = .ok (.aload_n 1, 1)) rfl
theorem o75_1 : Okp RX5 cX5_isBare 4 (some .boolean) "isBare" false 1 (sCV false 125 1 9 4) := ok_cv (by decide +kernel : decode cX5_isBare 1 = .ok (.invokevirtual 213, 3)) mw_X5_213 rfl (by decide) wm_X8_height wse_X8_height (by decide) rfl
theorem o75_4 : Okp RX5 cX5_isBare 4 (some .boolean) "isBare" false 4 (sK 1 5) := ok_iconst (by decide +kernel : decode cX5_isBare 4 = .ok (.iconst 1, 1)) (by decide)
theorem o75_5 : Okp RX5 cX5_isBare 4 (some .boolean) "isBare" false 5 (sB2 fSub 6) := ok_isub (by decide +kernel : decode cX5_isBare 5 = .ok (.isub, 1))
theorem o75_6 : Okp RX5 cX5_isBare 4 (some .boolean) "isBare" false 6 (sSI 3 7) := ok_istore_n (by decide +kernel : decode cX5_isBare 6 = .ok (.istore_n 3, 1)) rfl (by decide) (by decide)
theorem o75_7 : Okp RX5 cX5_isBare 4 (some .boolean) "isBare" false 7 (sLR 1 8) := ok_aload_n (by decide +kernel : decode cX5_isBare 7 = .ok (.aload_n 1, 1)) rfl
theorem o75_8 : Okp RX5 cX5_isBare 4 (some .boolean) "isBare" false 8 (sLI 3 9) := ok_iload_n (by decide +kernel : decode cX5_isBare 8 = .ok (.iload_n 3, 1)) rfl
theorem o75_9 : Okp RX5 cX5_isBare 4 (some .boolean) "isBare" false 9 (sCV false 130 2 9 12) := ok_cv (by decide +kernel : decode cX5_isBare 9 = .ok (.invokevirtual 216, 3)) mw_X5_216 rfl (by decide) wm_X8_kindIn wse_X8_kindIn (by decide) rfl
theorem o75_12 : Okp RX5 cX5_isBare 4 (some .boolean) "isBare" false 12 (sK 5 13) := ok_iconst (by decide +kernel : decode cX5_isBare 12 = .ok (.iconst 5, 1)) (by decide)
theorem o75_13 : Okp RX5 cX5_isBare 4 (some .boolean) "isBare" false 13 (sI2 1 36 16) := ok_icmp_ne (by decide +kernel : decode cX5_isBare 13 = .ok (.if_icmp .ne 23, 3)) (by decide)
theorem o75_16 : Okp RX5 cX5_isBare 4 (some .boolean) "isBare" false 16 (sLR 0 17) := ok_aload_n (by decide +kernel : decode cX5_isBare 16 = .ok (.aload_n 0, 1)) rfl
theorem o75_17 : Okp RX5 cX5_isBare 4 (some .boolean) "isBare" false 17 (sGR 6 4 20) := ok_getR (by decide +kernel : decode cX5_isBare 17 = .ok (.getfield 37, 3)) fw_X5_37 rfl
theorem o75_20 : Okp RX5 cX5_isBare 4 (some .boolean) "isBare" false 20 (sLR 1 21) := ok_aload_n (by decide +kernel : decode cX5_isBare 20 = .ok (.aload_n 1, 1)) rfl
theorem o75_21 : Okp RX5 cX5_isBare 4 (some .boolean) "isBare" false 21 (sLI 3 22) := ok_iload_n (by decide +kernel : decode cX5_isBare 21 = .ok (.iload_n 3, 1)) rfl
theorem o75_22 : Okp RX5 cX5_isBare 4 (some .boolean) "isBare" false 22 (sCV false 131 2 9 25) := ok_cv (by decide +kernel : decode cX5_isBare 22 = .ok (.invokevirtual 219, 3)) mw_X5_219 rfl (by decide) wm_X8_numberIn wse_X8_numberIn (by decide) rfl
theorem o75_25 : Okp RX5 cX5_isBare 4 (some .boolean) "isBare" false 25 (sLI 2 26) := ok_iload_n (by decide +kernel : decode cX5_isBare 25 = .ok (.iload_n 2, 1)) rfl
theorem o75_26 : Okp RX5 cX5_isBare 4 (some .boolean) "isBare" false 26 (sCV false 49 3 5 29) := ok_cv (by decide +kernel : decode cX5_isBare 26 = .ok (.invokevirtual 222, 3)) mw_X5_222 rfl (by decide) wm_X4_sendsBare wse_X4_sendsBare (by decide) rfl
theorem o75_29 : Okp RX5 cX5_isBare 4 (some .boolean) "isBare" false 29 (sI1 0 36 32) := ok_if_eq (by decide +kernel : decode cX5_isBare 29 = .ok (.ifCond .eq 7, 3)) (by decide)
theorem o75_32 : Okp RX5 cX5_isBare 4 (some .boolean) "isBare" false 32 (sK 1 33) := ok_iconst (by decide +kernel : decode cX5_isBare 32 = .ok (.iconst 1, 1)) (by decide)
theorem o75_33 : Okp RX5 cX5_isBare 4 (some .boolean) "isBare" false 33 (sGo 37) := ok_goto (by decide +kernel : decode cX5_isBare 33 = .ok (.goto 4, 3)) (by decide)
theorem o75_36 : Okp RX5 cX5_isBare 4 (some .boolean) "isBare" false 36 (sK 0 37) := ok_iconst (by decide +kernel : decode cX5_isBare 36 = .ok (.iconst 0, 1)) (by decide)
theorem o75_37 : Okp RX5 cX5_isBare 4 (some .boolean) "isBare" false 37 sRZ := ok_zret rfl (by decide +kernel : decode cX5_isBare 37 = .ok (.ireturn, 1))
theorem oc75_0 : ∀ pc, Mnp (c75_0 pc) ∧ Okp RX5 cX5_isBare 4 (some .boolean) "isBare" false pc (c75_0 pc) := by
  intro pc
  unfold c75_0
  split
  · exact ⟨mn_sLR, o75_0⟩
  · exact ⟨mn_sCV, o75_1⟩
  · exact ⟨mn_sK, o75_4⟩
  · exact ⟨mn_sB2, o75_5⟩
  · exact ⟨mn_sSI, o75_6⟩
  · exact ⟨mn_sLR, o75_7⟩
  · exact ⟨mn_sLI, o75_8⟩
  · exact ⟨mn_sCV, o75_9⟩
  · exact ⟨mn_sK, o75_12⟩
  · exact ⟨mn_sI2, o75_13⟩
  · exact ⟨mn_sLR, o75_16⟩
  · exact ⟨mn_sGR, o75_17⟩
  · exact ⟨mn_sLR, o75_20⟩
  · exact ⟨mn_sLI, o75_21⟩
  · exact ⟨mn_sCV, o75_22⟩
  · exact ⟨mn_sX, ok_X⟩
theorem oc75_1 : ∀ pc, Mnp (c75_1 pc) ∧ Okp RX5 cX5_isBare 4 (some .boolean) "isBare" false pc (c75_1 pc) := by
  intro pc
  unfold c75_1
  split
  · exact ⟨mn_sLI, o75_25⟩
  · exact ⟨mn_sCV, o75_26⟩
  · exact ⟨mn_sI1, o75_29⟩
  · exact ⟨mn_sK, o75_32⟩
  · exact ⟨mn_sGo, o75_33⟩
  · exact ⟨mn_sK, o75_36⟩
  · exact ⟨mn_sRZ, o75_37⟩
  · exact ⟨mn_sX, ok_X⟩
theorem oc75 : ∀ pc, Mnp (c75 pc) ∧ Okp RX5 cX5_isBare 4 (some .boolean) "isBare" false pc (c75 pc) := by
  intro pc
  unfold c75
  split
  · exact oc75_0 pc
  · exact oc75_1 pc
  · exact ⟨mn_sX, ok_X⟩
theorem o76_0 : Okp RX5 cX5_sendingEnd 4 (some .int) "sendingEnd" false 0 (sLR 1 1) := ok_aload_n (by decide +kernel : decode cX5_sendingEnd 0 = .ok (.aload_n 1, 1)) rfl
theorem o76_1 : Okp RX5 cX5_sendingEnd 4 (some .int) "sendingEnd" false 1 (sCV false 125 1 9 4) := ok_cv (by decide +kernel : decode cX5_sendingEnd 1 = .ok (.invokevirtual 213, 3)) mw_X5_213 rfl (by decide) wm_X8_height wse_X8_height (by decide) rfl
theorem o76_4 : Okp RX5 cX5_sendingEnd 4 (some .int) "sendingEnd" false 4 (sK 1 5) := ok_iconst (by decide +kernel : decode cX5_sendingEnd 4 = .ok (.iconst 1, 1)) (by decide)
theorem o76_5 : Okp RX5 cX5_sendingEnd 4 (some .int) "sendingEnd" false 5 (sB2 fSub 6) := ok_isub (by decide +kernel : decode cX5_sendingEnd 5 = .ok (.isub, 1))
theorem o76_6 : Okp RX5 cX5_sendingEnd 4 (some .int) "sendingEnd" false 6 (sSI 3 7) := ok_istore_n (by decide +kernel : decode cX5_sendingEnd 6 = .ok (.istore_n 3, 1)) rfl (by decide) (by decide)
theorem o76_7 : Okp RX5 cX5_sendingEnd 4 (some .int) "sendingEnd" false 7 (sLR 1 8) := ok_aload_n (by decide +kernel : decode cX5_sendingEnd 7 = .ok (.aload_n 1, 1)) rfl
theorem o76_8 : Okp RX5 cX5_sendingEnd 4 (some .int) "sendingEnd" false 8 (sLR 0 9) := ok_aload_n (by decide +kernel : decode cX5_sendingEnd 8 = .ok (.aload_n 0, 1)) rfl
theorem o76_9 : Okp RX5 cX5_sendingEnd 4 (some .int) "sendingEnd" false 9 (sLR 1 10) := ok_aload_n (by decide +kernel : decode cX5_sendingEnd 9 = .ok (.aload_n 1, 1)) rfl
theorem o76_10 : Okp RX5 cX5_sendingEnd 4 (some .int) "sendingEnd" false 10 (sLI 2 11) := ok_iload_n (by decide +kernel : decode cX5_sendingEnd 10 = .ok (.iload_n 2, 1)) rfl
theorem o76_11 : Okp RX5 cX5_sendingEnd 4 (some .int) "sendingEnd" false 11 (sCV false 75 3 6 14) := ok_cv (by decide +kernel : decode cX5_sendingEnd 11 = .ok (.invokevirtual 226, 3)) mw_X5_226 rfl (by decide) wm_X5_isBare wse_X5_isBare (by decide) rfl
theorem o76_14 : Okp RX5 cX5_sendingEnd 4 (some .int) "sendingEnd" false 14 (sI1 0 21 17) := ok_if_eq (by decide +kernel : decode cX5_sendingEnd 14 = .ok (.ifCond .eq 7, 3)) (by decide)
theorem o76_17 : Okp RX5 cX5_sendingEnd 4 (some .int) "sendingEnd" false 17 (sLI 3 18) := ok_iload_n (by decide +kernel : decode cX5_sendingEnd 17 = .ok (.iload_n 3, 1)) rfl
theorem o76_18 : Okp RX5 cX5_sendingEnd 4 (some .int) "sendingEnd" false 18 (sGo 24) := ok_goto (by decide +kernel : decode cX5_sendingEnd 18 = .ok (.goto 6, 3)) (by decide)
theorem o76_21 : Okp RX5 cX5_sendingEnd 4 (some .int) "sendingEnd" false 21 (sLI 3 22) := ok_iload_n (by decide +kernel : decode cX5_sendingEnd 21 = .ok (.iload_n 3, 1)) rfl
theorem o76_22 : Okp RX5 cX5_sendingEnd 4 (some .int) "sendingEnd" false 22 (sK 1 23) := ok_iconst (by decide +kernel : decode cX5_sendingEnd 22 = .ok (.iconst 1, 1)) (by decide)
theorem o76_23 : Okp RX5 cX5_sendingEnd 4 (some .int) "sendingEnd" false 23 (sB2 fSub 24) := ok_isub (by decide +kernel : decode cX5_sendingEnd 23 = .ok (.isub, 1))
theorem o76_24 : Okp RX5 cX5_sendingEnd 4 (some .int) "sendingEnd" false 24 (sCV false 131 2 9 27) := ok_cv (by decide +kernel : decode cX5_sendingEnd 24 = .ok (.invokevirtual 219, 3)) mw_X5_219 rfl (by decide) wm_X8_numberIn wse_X8_numberIn (by decide) rfl
theorem o76_27 : Okp RX5 cX5_sendingEnd 4 (some .int) "sendingEnd" false 27 sRI := ok_iret rfl (by decide +kernel : decode cX5_sendingEnd 27 = .ok (.ireturn, 1))
theorem oc76_0 : ∀ pc, Mnp (c76_0 pc) ∧ Okp RX5 cX5_sendingEnd 4 (some .int) "sendingEnd" false pc (c76_0 pc) := by
  intro pc
  unfold c76_0
  split
  · exact ⟨mn_sLR, o76_0⟩
  · exact ⟨mn_sCV, o76_1⟩
  · exact ⟨mn_sK, o76_4⟩
  · exact ⟨mn_sB2, o76_5⟩
  · exact ⟨mn_sSI, o76_6⟩
  · exact ⟨mn_sLR, o76_7⟩
  · exact ⟨mn_sLR, o76_8⟩
  · exact ⟨mn_sLR, o76_9⟩
  · exact ⟨mn_sLI, o76_10⟩
  · exact ⟨mn_sCV, o76_11⟩
  · exact ⟨mn_sI1, o76_14⟩
  · exact ⟨mn_sLI, o76_17⟩
  · exact ⟨mn_sGo, o76_18⟩
  · exact ⟨mn_sLI, o76_21⟩
  · exact ⟨mn_sK, o76_22⟩
  · exact ⟨mn_sB2, o76_23⟩
  · exact ⟨mn_sX, ok_X⟩
theorem oc76_1 : ∀ pc, Mnp (c76_1 pc) ∧ Okp RX5 cX5_sendingEnd 4 (some .int) "sendingEnd" false pc (c76_1 pc) := by
  intro pc
  unfold c76_1
  split
  · exact ⟨mn_sCV, o76_24⟩
  · exact ⟨mn_sRI, o76_27⟩
  · exact ⟨mn_sX, ok_X⟩
theorem oc76 : ∀ pc, Mnp (c76 pc) ∧ Okp RX5 cX5_sendingEnd 4 (some .int) "sendingEnd" false pc (c76 pc) := by
  intro pc
  unfold c76
  split
  · exact oc76_0 pc
  · exact oc76_1 pc
  · exact ⟨mn_sX, ok_X⟩
theorem o77_0 : Okp RX5 cX5_step 5 none "step" false 0 (sLR 1 1) := ok_aload_n (by decide +kernel : decode cX5_step 0 = .ok (.aload_n 1, 1)) rfl
theorem o77_1 : Okp RX5 cX5_step 5 none "step" false 1 (sCV false 126 1 9 4) := ok_cv (by decide +kernel : decode cX5_step 1 = .ok (.invokevirtual 188, 3)) mw_X5_188 rfl (by decide) wm_X8_addressOfNext wse_X8_addressOfNext (by decide) rfl
theorem o77_4 : Okp RX5 cX5_step 5 none "step" false 4 (sSI 2 5) := ok_istore_n (by decide +kernel : decode cX5_step 4 = .ok (.istore_n 2, 1)) rfl (by decide) (by decide)
theorem o77_5 : Okp RX5 cX5_step 5 none "step" false 5 (sLR 1 6) := ok_aload_n (by decide +kernel : decode cX5_step 5 = .ok (.aload_n 1, 1)) rfl
theorem o77_6 : Okp RX5 cX5_step 5 none "step" false 6 (sGR 9 1 9) := ok_getR (by decide +kernel : decode cX5_step 6 = .ok (.getfield 192, 3)) fw_X5_192 rfl
theorem o77_9 : Okp RX5 cX5_step 5 none "step" false 9 (sLI 2 10) := ok_iload_n (by decide +kernel : decode cX5_step 9 = .ok (.iload_n 2, 1)) rfl
theorem o77_10 : Okp RX5 cX5_step 5 none "step" false 10 (sCV false 145 2 10 13) := ok_cv (by decide +kernel : decode cX5_step 10 = .ok (.invokevirtual 196, 3)) mw_X5_196 rfl (by decide) wm_X9_byteAt wse_X9_byteAt (by decide) rfl
theorem o77_13 : Okp RX5 cX5_step 5 none "step" false 13 (sSI 3 14) := ok_istore_n (by decide +kernel : decode cX5_step 13 = .ok (.istore_n 3, 1)) rfl (by decide) (by decide)
theorem o77_14 : Okp RX5 cX5_step 5 none "step" false 14 (sLR 0 15) := ok_aload_n (by decide +kernel : decode cX5_step 14 = .ok (.aload_n 0, 1)) rfl
theorem o77_15 : Okp RX5 cX5_step 5 none "step" false 15 (sDup 16) := ok_dup (by decide +kernel : decode cX5_step 15 = .ok (.dup, 1))
theorem o77_16 : Okp RX5 cX5_step 5 none "step" false 16 (sGI 6 9 19) := ok_getI (by decide +kernel : decode cX5_step 16 = .ok (.getfield 55, 3)) fw_X5_55 rfl
theorem o77_19 : Okp RX5 cX5_step 5 none "step" false 19 (sK 1 20) := ok_iconst (by decide +kernel : decode cX5_step 19 = .ok (.iconst 1, 1)) (by decide)
theorem o77_20 : Okp RX5 cX5_step 5 none "step" false 20 (sB2 fAdd 21) := ok_iadd (by decide +kernel : decode cX5_step 20 = .ok (.iadd, 1))
theorem o77_21 : Okp RX5 cX5_step 5 none "step" false 21 (sPI 6 9 24) := ok_putI (by decide +kernel : decode cX5_step 21 = .ok (.putfield 55, 3)) fw_X5_55 ⟨⟨tyX5_ok, nmX5⟩, Or.inl rfl, rfl⟩ rfl
theorem o77_24 : Okp RX5 cX5_step 5 none "step" false 24 (sLR 1 25) := ok_aload_n (by decide +kernel : decode cX5_step 24 = .ok (.aload_n 1, 1)) rfl
theorem o77_25 : Okp RX5 cX5_step 5 none "step" false 25 (sDup 26) := ok_dup (by decide +kernel : decode cX5_step 25 = .ok (.dup, 1))
theorem o77_26 : Okp RX5 cX5_step 5 none "step" false 26 (sGI 9 6 29) := ok_getI (by decide +kernel : decode cX5_step 26 = .ok (.getfield 230, 3)) fw_X5_230 rfl
theorem o77_29 : Okp RX5 cX5_step 5 none "step" false 29 (sK 1 30) := ok_iconst (by decide +kernel : decode cX5_step 29 = .ok (.iconst 1, 1)) (by decide)
theorem o77_30 : Okp RX5 cX5_step 5 none "step" false 30 (sB2 fAdd 31) := ok_iadd (by decide +kernel : decode cX5_step 30 = .ok (.iadd, 1))
theorem o77_31 : Okp RX5 cX5_step 5 none "step" false 31 (sPI 9 6 34) := ok_putI (by decide +kernel : decode cX5_step 31 = .ok (.putfield 230, 3)) fw_X5_230 ⟨⟨tyX8_ok, nmX8⟩, Or.inl rfl, rfl⟩ rfl
theorem o77_34 : Okp RX5 cX5_step 5 none "step" false 34 (sLR 0 35) := ok_aload_n (by decide +kernel : decode cX5_step 34 = .ok (.aload_n 0, 1)) rfl
theorem o77_35 : Okp RX5 cX5_step 5 none "step" false 35 (sDup 36) := ok_dup (by decide +kernel : decode cX5_step 35 = .ok (.dup, 1))
theorem o77_36 : Okp RX5 cX5_step 5 none "step" false 36 (sGI 6 11 39) := ok_getI (by decide +kernel : decode cX5_step 36 = .ok (.getfield 61, 3)) fw_X5_61 rfl
theorem o77_39 : Okp RX5 cX5_step 5 none "step" false 39 (sK 1 40) := ok_iconst (by decide +kernel : decode cX5_step 39 = .ok (.iconst 1, 1)) (by decide)
theorem o77_40 : Okp RX5 cX5_step 5 none "step" false 40 (sB2 fAdd 41) := ok_iadd (by decide +kernel : decode cX5_step 40 = .ok (.iadd, 1))
theorem o77_41 : Okp RX5 cX5_step 5 none "step" false 41 (sPI 6 11 44) := ok_putI (by decide +kernel : decode cX5_step 41 = .ok (.putfield 61, 3)) fw_X5_61 ⟨⟨tyX5_ok, nmX5⟩, Or.inl rfl, rfl⟩ rfl
theorem o77_44 : Okp RX5 cX5_step 5 none "step" false 44 (sLR 1 45) := ok_aload_n (by decide +kernel : decode cX5_step 44 = .ok (.aload_n 1, 1)) rfl
theorem o77_45 : Okp RX5 cX5_step 5 none "step" false 45 (sLR 1 46) := ok_aload_n (by decide +kernel : decode cX5_step 45 = .ok (.aload_n 1, 1)) rfl
theorem o77_46 : Okp RX5 cX5_step 5 none "step" false 46 (sCV false 123 1 9 49) := ok_cv (by decide +kernel : decode cX5_step 46 = .ok (.invokevirtual 231, 3)) mw_X5_231 rfl (by decide) wm_X8_place wse_X8_place (by decide) rfl
theorem o77_49 : Okp RX5 cX5_step 5 none "step" false 49 (sLR 1 50) := ok_aload_n (by decide +kernel : decode cX5_step 49 = .ok (.aload_n 1, 1)) rfl
theorem o77_50 : Okp RX5 cX5_step 5 none "step" false 50 (sGR 9 1 53) := ok_getR (by decide +kernel : decode cX5_step 50 = .ok (.getfield 192, 3)) fw_X5_192 rfl
theorem o77_53 : Okp RX5 cX5_step 5 none "step" false 53 (sLI 2 54) := ok_iload_n (by decide +kernel : decode cX5_step 53 = .ok (.iload_n 2, 1)) rfl
theorem o77_54 : Okp RX5 cX5_step 5 none "step" false 54 (sCV false 147 2 10 57) := ok_cv (by decide +kernel : decode cX5_step 54 = .ok (.invokevirtual 234, 3)) mw_X5_234 rfl (by decide) wm_X9_lengthOfInstruction wse_X9_lengthOfInstruction (by decide) rfl
theorem o77_57 : Okp RX5 cX5_step 5 none "step" false 57 (sB2 fAdd 58) := ok_iadd (by decide +kernel : decode cX5_step 57 = .ok (.iadd, 1))
theorem o77_58 : Okp RX5 cX5_step 5 none "step" false 58 (sCV false 124 2 9 61) := ok_cv (by decide +kernel : decode cX5_step 58 = .ok (.invokevirtual 237, 3)) mw_X5_237 rfl (by decide) wm_X8_goTo wse_X8_goTo (by decide) rfl
theorem o77_61 : Okp RX5 cX5_step 5 none "step" false 61 (sLR 0 62) := ok_aload_n (by decide +kernel : decode cX5_step 61 = .ok (.aload_n 0, 1)) rfl
theorem o77_62 : Okp RX5 cX5_step 5 none "step" false 62 (sLR 1 63) := ok_aload_n (by decide +kernel : decode cX5_step 62 = .ok (.aload_n 1, 1)) rfl
theorem o77_63 : Okp RX5 cX5_step 5 none "step" false 63 (sLI 3 64) := ok_iload_n (by decide +kernel : decode cX5_step 63 = .ok (.iload_n 3, 1)) rfl
theorem o77_64 : Okp RX5 cX5_step 5 none "step" false 64 (sLI 2 65) := ok_iload_n (by decide +kernel : decode cX5_step 64 = .ok (.iload_n 2, 1)) rfl
theorem o77_65 : Okp RX5 cX5_step 5 none "step" false 65 (sCV false 78 4 6 68) := ok_cv (by decide +kernel : decode cX5_step 65 = .ok (.invokevirtual 241, 3)) mw_X5_241 rfl (by decide) wm_X5_perform wse_X5_perform (by decide) rfl
theorem o77_68 : Okp RX5 cX5_step 5 none "step" false 68 (sSI 4 70) := ok_istore (by decide +kernel : decode cX5_step 68 = .ok (.istore 4, 2)) (by decide) (by decide)
theorem o77_70 : Okp RX5 cX5_step 5 none "step" false 70 (sLI 4 72) := ok_iload (by decide +kernel : decode cX5_step 70 = .ok (.iload 4, 2))
theorem o77_72 : Okp RX5 cX5_step 5 none "step" false 72 (sI1 0 128 75) := ok_if_eq (by decide +kernel : decode cX5_step 72 = .ok (.ifCond .eq 56, 3)) (by decide)
theorem o77_75 : Okp RX5 cX5_step 5 none "step" false 75 (sLR 1 76) := ok_aload_n (by decide +kernel : decode cX5_step 75 = .ok (.aload_n 1, 1)) rfl
theorem o77_76 : Okp RX5 cX5_step 5 none "step" false 76 (sLI 4 78) := ok_iload (by decide +kernel : decode cX5_step 76 = .ok (.iload 4, 2))
theorem o77_78 : Okp RX5 cX5_step 5 none "step" false 78 (sK (-1) 79) := ok_iconst (by decide +kernel : decode cX5_step 78 = .ok (.iconst (-1), 1)) (by decide)
theorem o77_79 : Okp RX5 cX5_step 5 none "step" false 79 (sI2 1 86 82) := ok_icmp_ne (by decide +kernel : decode cX5_step 79 = .ok (.if_icmp .ne 7, 3)) (by decide)
theorem o77_82 : Okp RX5 cX5_step 5 none "step" false 82 (sK 4 83) := ok_iconst (by decide +kernel : decode cX5_step 82 = .ok (.iconst 4, 1)) (by decide)
theorem o77_83 : Okp RX5 cX5_step 5 none "step" false 83 (sGo 87) := ok_goto (by decide +kernel : decode cX5_step 83 = .ok (.goto 4, 3)) (by decide)
theorem o77_86 : Okp RX5 cX5_step 5 none "step" false 86 (sK 5 87) := ok_iconst (by decide +kernel : decode cX5_step 86 = .ok (.iconst 5, 1)) (by decide)
theorem o77_87 : Okp RX5 cX5_step 5 none "step" false 87 (sPI 9 4 90) := ok_putI (by decide +kernel : decode cX5_step 87 = .ok (.putfield 178, 3)) fw_X5_178 ⟨⟨tyX8_ok, nmX8⟩, Or.inl rfl, rfl⟩ rfl
theorem o77_90 : Okp RX5 cX5_step 5 none "step" false 90 (sLR 1 91) := ok_aload_n (by decide +kernel : decode cX5_step 90 = .ok (.aload_n 1, 1)) rfl
theorem o77_91 : Okp RX5 cX5_step 5 none "step" false 91 (sLI 4 93) := ok_iload (by decide +kernel : decode cX5_step 91 = .ok (.iload 4, 2))
theorem o77_93 : Okp RX5 cX5_step 5 none "step" false 93 (sK (-1) 94) := ok_iconst (by decide +kernel : decode cX5_step 93 = .ok (.iconst (-1), 1)) (by decide)
theorem o77_94 : Okp RX5 cX5_step 5 none "step" false 94 (sI2 1 101 97) := ok_icmp_ne (by decide +kernel : decode cX5_step 94 = .ok (.if_icmp .ne 7, 3)) (by decide)
theorem o77_97 : Okp RX5 cX5_step 5 none "step" false 97 (sK 0 98) := ok_iconst (by decide +kernel : decode cX5_step 97 = .ok (.iconst 0, 1)) (by decide)
theorem o77_98 : Okp RX5 cX5_step 5 none "step" false 98 (sGo 103) := ok_goto (by decide +kernel : decode cX5_step 98 = .ok (.goto 5, 3)) (by decide)
theorem o77_101 : Okp RX5 cX5_step 5 none "step" false 101 (sLI 4 103) := ok_iload (by decide +kernel : decode cX5_step 101 = .ok (.iload 4, 2))
theorem o77_103 : Okp RX5 cX5_step 5 none "step" false 103 (sPI 9 5 106) := ok_putI (by decide +kernel : decode cX5_step 103 = .ok (.putfield 245, 3)) fw_X5_245 ⟨⟨tyX8_ok, nmX8⟩, Or.inl rfl, rfl⟩ rfl
theorem o77_106 : Okp RX5 cX5_step 5 none "step" false 106 (sLR 0 107) := ok_aload_n (by decide +kernel : decode cX5_step 106 = .ok (.aload_n 0, 1)) rfl
theorem o77_107 : Okp RX5 cX5_step 5 none "step" false 107 (sGR 6 3 110) := ok_getR (by decide +kernel : decode cX5_step 107 = .ok (.getfield 28, 3)) fw_X5_28 rfl
theorem o77_110 : Okp RX5 cX5_step 5 none "step" false 110 (sLR 1 111) := ok_aload_n (by decide +kernel : decode cX5_step 110 = .ok (.aload_n 1, 1)) rfl
theorem o77_111 : Okp RX5 cX5_step 5 none "step" false 111 (sGI 9 0 114) := ok_getI (by decide +kernel : decode cX5_step 111 = .ok (.getfield 248, 3)) fw_X5_248 rfl
theorem o77_114 : Okp RX5 cX5_step 5 none "step" false 114 (sCV false 9 2 1 117) := ok_cv (by decide +kernel : decode cX5_step 114 = .ok (.invokevirtual 251, 3)) mw_X5_251 rfl (by decide) wm_X0_freeAllOf wse_X0_freeAllOf (by decide) rfl
theorem o77_117 : Okp RX5 cX5_step 5 none "step" false 117 (sLR 0 118) := ok_aload_n (by decide +kernel : decode cX5_step 117 = .ok (.aload_n 0, 1)) rfl
theorem o77_118 : Okp RX5 cX5_step 5 none "step" false 118 (sGR 6 4 121) := ok_getR (by decide +kernel : decode cX5_step 118 = .ok (.getfield 37, 3)) fw_X5_37 rfl
theorem o77_121 : Okp RX5 cX5_step 5 none "step" false 121 (sLR 1 122) := ok_aload_n (by decide +kernel : decode cX5_step 121 = .ok (.aload_n 1, 1)) rfl
theorem o77_122 : Okp RX5 cX5_step 5 none "step" false 122 (sGI 9 0 125) := ok_getI (by decide +kernel : decode cX5_step 122 = .ok (.getfield 248, 3)) fw_X5_248 rfl
theorem o77_125 : Okp RX5 cX5_step 5 none "step" false 125 (sCV false 59 2 5 128) := ok_cv (by decide +kernel : decode cX5_step 125 = .ok (.invokevirtual 254, 3)) mw_X5_254 rfl (by decide) wm_X4_closeAllOf wse_X4_closeAllOf (by decide) rfl
theorem o77_128 : Okp RX5 cX5_step 5 none "step" false 128 (sLR 0 129) := ok_aload_n (by decide +kernel : decode cX5_step 128 = .ok (.aload_n 0, 1)) rfl
theorem o77_129 : Okp RX5 cX5_step 5 none "step" false 129 (sGR 6 4 132) := ok_getR (by decide +kernel : decode cX5_step 129 = .ok (.getfield 37, 3)) fw_X5_37 rfl
theorem o77_132 : Okp RX5 cX5_step 5 none "step" false 132 (sCV false 61 1 5 135) := ok_cv (by decide +kernel : decode cX5_step 132 = .ok (.invokevirtual 257, 3)) mw_X5_257 rfl (by decide) wm_X4_settle wse_X4_settle (by decide) rfl
theorem o77_135 : Okp RX5 cX5_step 5 none "step" false 135 (sLR 1 136) := ok_aload_n (by decide +kernel : decode cX5_step 135 = .ok (.aload_n 1, 1)) rfl
theorem o77_136 : Okp RX5 cX5_step 5 none "step" false 136 (sCV false 117 1 9 139) := ok_cv (by decide +kernel : decode cX5_step 136 = .ok (.invokevirtual 160, 3)) mw_X5_160 rfl (by decide) wm_X8_isOver wse_X8_isOver (by decide) rfl
theorem o77_139 : Okp RX5 cX5_step 5 none "step" false 139 (sI1 1 157 142) := ok_if_ne (by decide +kernel : decode cX5_step 139 = .ok (.ifCond .ne 18, 3)) (by decide)
theorem o77_142 : Okp RX5 cX5_step 5 none "step" false 142 (sLI 3 143) := ok_iload_n (by decide +kernel : decode cX5_step 142 = .ok (.iload_n 3, 1)) rfl
theorem o77_143 : Okp RX5 cX5_step 5 none "step" false 143 (sK 41 145) := ok_bipush (by decide +kernel : decode cX5_step 143 = .ok (.bipush 41, 2)) (by decide)
theorem o77_145 : Okp RX5 cX5_step 5 none "step" false 145 (sI2 0 157 148) := ok_icmp_eq (by decide +kernel : decode cX5_step 145 = .ok (.if_icmp .eq 12, 3)) (by decide)
theorem o77_148 : Okp RX5 cX5_step 5 none "step" false 148 (sLR 0 149) := ok_aload_n (by decide +kernel : decode cX5_step 148 = .ok (.aload_n 0, 1)) rfl
theorem o77_149 : Okp RX5 cX5_step 5 none "step" false 149 (sGI 6 11 152) := ok_getI (by decide +kernel : decode cX5_step 149 = .ok (.getfield 61, 3)) fw_X5_61 rfl
theorem o77_152 : Okp RX5 cX5_step 5 none "step" false 152 (sK 8 154) := ok_bipush (by decide +kernel : decode cX5_step 152 = .ok (.bipush 8, 2)) (by decide)
theorem o77_154 : Okp RX5 cX5_step 5 none "step" false 154 (sI2 2 161 157) := ok_icmp_lt (by decide +kernel : decode cX5_step 154 = .ok (.if_icmp .lt 7, 3)) (by decide)
theorem o77_157 : Okp RX5 cX5_step 5 none "step" false 157 (sLR 0 158) := ok_aload_n (by decide +kernel : decode cX5_step 157 = .ok (.aload_n 0, 1)) rfl
theorem o77_158 : Okp RX5 cX5_step 5 none "step" false 158 (sCV false 73 1 6 161) := ok_cv (by decide +kernel : decode cX5_step 158 = .ok (.invokevirtual 185, 3)) mw_X5_185 rfl (by decide) wm_X5_passOn wse_X5_passOn (by decide) rfl
theorem o77_161 : Okp RX5 cX5_step 5 none "step" false 161 sRV := ok_vret rfl (by decide +kernel : decode cX5_step 161 = .ok (.return_, 1))
theorem oc77_0 : ∀ pc, Mnp (c77_0 pc) ∧ Okp RX5 cX5_step 5 none "step" false pc (c77_0 pc) := by
  intro pc
  unfold c77_0
  split
  · exact ⟨mn_sLR, o77_0⟩
  · exact ⟨mn_sCV, o77_1⟩
  · exact ⟨mn_sSI, o77_4⟩
  · exact ⟨mn_sLR, o77_5⟩
  · exact ⟨mn_sGR, o77_6⟩
  · exact ⟨mn_sLI, o77_9⟩
  · exact ⟨mn_sCV, o77_10⟩
  · exact ⟨mn_sSI, o77_13⟩
  · exact ⟨mn_sLR, o77_14⟩
  · exact ⟨mn_sDup, o77_15⟩
  · exact ⟨mn_sGI, o77_16⟩
  · exact ⟨mn_sK, o77_19⟩
  · exact ⟨mn_sB2, o77_20⟩
  · exact ⟨mn_sPI, o77_21⟩
  · exact ⟨mn_sX, ok_X⟩
theorem oc77_1 : ∀ pc, Mnp (c77_1 pc) ∧ Okp RX5 cX5_step 5 none "step" false pc (c77_1 pc) := by
  intro pc
  unfold c77_1
  split
  · exact ⟨mn_sLR, o77_24⟩
  · exact ⟨mn_sDup, o77_25⟩
  · exact ⟨mn_sGI, o77_26⟩
  · exact ⟨mn_sK, o77_29⟩
  · exact ⟨mn_sB2, o77_30⟩
  · exact ⟨mn_sPI, o77_31⟩
  · exact ⟨mn_sLR, o77_34⟩
  · exact ⟨mn_sDup, o77_35⟩
  · exact ⟨mn_sGI, o77_36⟩
  · exact ⟨mn_sK, o77_39⟩
  · exact ⟨mn_sB2, o77_40⟩
  · exact ⟨mn_sPI, o77_41⟩
  · exact ⟨mn_sLR, o77_44⟩
  · exact ⟨mn_sLR, o77_45⟩
  · exact ⟨mn_sCV, o77_46⟩
  · exact ⟨mn_sX, ok_X⟩
theorem oc77_2 : ∀ pc, Mnp (c77_2 pc) ∧ Okp RX5 cX5_step 5 none "step" false pc (c77_2 pc) := by
  intro pc
  unfold c77_2
  split
  · exact ⟨mn_sLR, o77_49⟩
  · exact ⟨mn_sGR, o77_50⟩
  · exact ⟨mn_sLI, o77_53⟩
  · exact ⟨mn_sCV, o77_54⟩
  · exact ⟨mn_sB2, o77_57⟩
  · exact ⟨mn_sCV, o77_58⟩
  · exact ⟨mn_sLR, o77_61⟩
  · exact ⟨mn_sLR, o77_62⟩
  · exact ⟨mn_sLI, o77_63⟩
  · exact ⟨mn_sLI, o77_64⟩
  · exact ⟨mn_sCV, o77_65⟩
  · exact ⟨mn_sSI, o77_68⟩
  · exact ⟨mn_sLI, o77_70⟩
  · exact ⟨mn_sX, ok_X⟩
theorem oc77_3 : ∀ pc, Mnp (c77_3 pc) ∧ Okp RX5 cX5_step 5 none "step" false pc (c77_3 pc) := by
  intro pc
  unfold c77_3
  split
  · exact ⟨mn_sI1, o77_72⟩
  · exact ⟨mn_sLR, o77_75⟩
  · exact ⟨mn_sLI, o77_76⟩
  · exact ⟨mn_sK, o77_78⟩
  · exact ⟨mn_sI2, o77_79⟩
  · exact ⟨mn_sK, o77_82⟩
  · exact ⟨mn_sGo, o77_83⟩
  · exact ⟨mn_sK, o77_86⟩
  · exact ⟨mn_sPI, o77_87⟩
  · exact ⟨mn_sLR, o77_90⟩
  · exact ⟨mn_sLI, o77_91⟩
  · exact ⟨mn_sK, o77_93⟩
  · exact ⟨mn_sI2, o77_94⟩
  · exact ⟨mn_sX, ok_X⟩
theorem oc77_4 : ∀ pc, Mnp (c77_4 pc) ∧ Okp RX5 cX5_step 5 none "step" false pc (c77_4 pc) := by
  intro pc
  unfold c77_4
  split
  · exact ⟨mn_sK, o77_97⟩
  · exact ⟨mn_sGo, o77_98⟩
  · exact ⟨mn_sLI, o77_101⟩
  · exact ⟨mn_sPI, o77_103⟩
  · exact ⟨mn_sLR, o77_106⟩
  · exact ⟨mn_sGR, o77_107⟩
  · exact ⟨mn_sLR, o77_110⟩
  · exact ⟨mn_sGI, o77_111⟩
  · exact ⟨mn_sCV, o77_114⟩
  · exact ⟨mn_sLR, o77_117⟩
  · exact ⟨mn_sGR, o77_118⟩
  · exact ⟨mn_sX, ok_X⟩
theorem oc77_5 : ∀ pc, Mnp (c77_5 pc) ∧ Okp RX5 cX5_step 5 none "step" false pc (c77_5 pc) := by
  intro pc
  unfold c77_5
  split
  · exact ⟨mn_sLR, o77_121⟩
  · exact ⟨mn_sGI, o77_122⟩
  · exact ⟨mn_sCV, o77_125⟩
  · exact ⟨mn_sLR, o77_128⟩
  · exact ⟨mn_sGR, o77_129⟩
  · exact ⟨mn_sCV, o77_132⟩
  · exact ⟨mn_sLR, o77_135⟩
  · exact ⟨mn_sCV, o77_136⟩
  · exact ⟨mn_sI1, o77_139⟩
  · exact ⟨mn_sLI, o77_142⟩
  · exact ⟨mn_sK, o77_143⟩
  · exact ⟨mn_sX, ok_X⟩
theorem oc77_6 : ∀ pc, Mnp (c77_6 pc) ∧ Okp RX5 cX5_step 5 none "step" false pc (c77_6 pc) := by
  intro pc
  unfold c77_6
  split
  · exact ⟨mn_sI2, o77_145⟩
  · exact ⟨mn_sLR, o77_148⟩
  · exact ⟨mn_sGI, o77_149⟩
  · exact ⟨mn_sK, o77_152⟩
  · exact ⟨mn_sI2, o77_154⟩
  · exact ⟨mn_sLR, o77_157⟩
  · exact ⟨mn_sCV, o77_158⟩
  · exact ⟨mn_sRV, o77_161⟩
  · exact ⟨mn_sX, ok_X⟩
theorem oc77 : ∀ pc, Mnp (c77 pc) ∧ Okp RX5 cX5_step 5 none "step" false pc (c77 pc) := by
  intro pc
  unfold c77
  split
  · exact oc77_0 pc
  · exact oc77_1 pc
  · exact oc77_2 pc
  · exact oc77_3 pc
  · exact oc77_4 pc
  · exact oc77_5 pc
  · exact oc77_6 pc
  · exact ⟨mn_sX, ok_X⟩
theorem o78_0 : Okp RX5 cX5_perform 6 (some .int) "perform" false 0 (sLR 1 1) := ok_aload_n (by decide +kernel : decode cX5_perform 0 = .ok (.aload_n 1, 1)) rfl
theorem o78_1 : Okp RX5 cX5_perform 6 (some .int) "perform" false 1 (sGR 9 1 4) := ok_getR (by decide +kernel : decode cX5_perform 1 = .ok (.getfield 192, 3)) fw_X5_192 rfl
theorem o78_4 : Okp RX5 cX5_perform 6 (some .int) "perform" false 4 (sLI 3 5) := ok_iload_n (by decide +kernel : decode cX5_perform 4 = .ok (.iload_n 3, 1)) rfl
theorem o78_5 : Okp RX5 cX5_perform 6 (some .int) "perform" false 5 (sK 1 6) := ok_iconst (by decide +kernel : decode cX5_perform 5 = .ok (.iconst 1, 1)) (by decide)
theorem o78_6 : Okp RX5 cX5_perform 6 (some .int) "perform" false 6 (sB2 fAdd 7) := ok_iadd (by decide +kernel : decode cX5_perform 6 = .ok (.iadd, 1))
theorem o78_7 : Okp RX5 cX5_perform 6 (some .int) "perform" false 7 (sCV false 145 2 10 10) := ok_cv (by decide +kernel : decode cX5_perform 7 = .ok (.invokevirtual 196, 3)) mw_X5_196 rfl (by decide) wm_X9_byteAt wse_X9_byteAt (by decide) rfl
theorem o78_10 : Okp RX5 cX5_perform 6 (some .int) "perform" false 10 (sSI 4 12) := ok_istore (by decide +kernel : decode cX5_perform 10 = .ok (.istore 4, 2)) (by decide) (by decide)
theorem o78_12 : Okp RX5 cX5_perform 6 (some .int) "perform" false 12 (sLI 2 13) := ok_iload_n (by decide +kernel : decode cX5_perform 12 = .ok (.iload_n 2, 1)) rfl
theorem o78_13 : Okp RX5 cX5_perform 6 (some .int) "perform" false 13 (sK 6 15) := ok_bipush (by decide +kernel : decode cX5_perform 13 = .ok (.bipush 6, 2)) (by decide)
theorem o78_15 : Okp RX5 cX5_perform 6 (some .int) "perform" false 15 (sI2 4 29 18) := ok_icmp_gt (by decide +kernel : decode cX5_perform 15 = .ok (.if_icmp .gt 14, 3)) (by decide)
theorem o78_18 : Okp RX5 cX5_perform 6 (some .int) "perform" false 18 (sLR 0 19) := ok_aload_n (by decide +kernel : decode cX5_perform 18 = .ok (.aload_n 0, 1)) rfl
theorem o78_19 : Okp RX5 cX5_perform 6 (some .int) "perform" false 19 (sLR 1 20) := ok_aload_n (by decide +kernel : decode cX5_perform 19 = .ok (.aload_n 1, 1)) rfl
theorem o78_20 : Okp RX5 cX5_perform 6 (some .int) "perform" false 20 (sLI 2 21) := ok_iload_n (by decide +kernel : decode cX5_perform 20 = .ok (.iload_n 2, 1)) rfl
theorem o78_21 : Okp RX5 cX5_perform 6 (some .int) "perform" false 21 (sLI 4 23) := ok_iload (by decide +kernel : decode cX5_perform 21 = .ok (.iload 4, 2))
theorem o78_23 : Okp RX5 cX5_perform 6 (some .int) "perform" false 23 (sLI 3 24) := ok_iload_n (by decide +kernel : decode cX5_perform 23 = .ok (.iload_n 3, 1)) rfl
theorem o78_24 : Okp RX5 cX5_perform 6 (some .int) "perform" false 24 (sCV false 79 5 6 27) := ok_cv (by decide +kernel : decode cX5_perform 24 = .ok (.invokevirtual 260, 3)) mw_X5_260 rfl (by decide) wm_X5_performMove wse_X5_performMove (by decide) rfl
theorem o78_27 : Okp RX5 cX5_perform 6 (some .int) "perform" false 27 (sK 0 28) := ok_iconst (by decide +kernel : decode cX5_perform 27 = .ok (.iconst 0, 1)) (by decide)
theorem o78_28 : Okp RX5 cX5_perform 6 (some .int) "perform" false 28 sRI := ok_iret rfl (by decide +kernel : decode cX5_perform 28 = .ok (.ireturn, 1))
theorem o78_29 : Okp RX5 cX5_perform 6 (some .int) "perform" false 29 (sLI 2 30) := ok_iload_n (by decide +kernel : decode cX5_perform 29 = .ok (.iload_n 2, 1)) rfl
theorem o78_30 : Okp RX5 cX5_perform 6 (some .int) "perform" false 30 (sK 18 32) := ok_bipush (by decide +kernel : decode cX5_perform 30 = .ok (.bipush 18, 2)) (by decide)
theorem o78_32 : Okp RX5 cX5_perform 6 (some .int) "perform" false 32 (sI2 4 42 35) := ok_icmp_gt (by decide +kernel : decode cX5_perform 32 = .ok (.if_icmp .gt 10, 3)) (by decide)
theorem o78_35 : Okp RX5 cX5_perform 6 (some .int) "perform" false 35 (sLR 0 36) := ok_aload_n (by decide +kernel : decode cX5_perform 35 = .ok (.aload_n 0, 1)) rfl
theorem o78_36 : Okp RX5 cX5_perform 6 (some .int) "perform" false 36 (sLR 1 37) := ok_aload_n (by decide +kernel : decode cX5_perform 36 = .ok (.aload_n 1, 1)) rfl
theorem o78_37 : Okp RX5 cX5_perform 6 (some .int) "perform" false 37 (sLI 2 38) := ok_iload_n (by decide +kernel : decode cX5_perform 37 = .ok (.iload_n 2, 1)) rfl
theorem o78_38 : Okp RX5 cX5_perform 6 (some .int) "perform" false 38 (sCV false 80 3 6 41) := ok_cv (by decide +kernel : decode cX5_perform 38 = .ok (.invokevirtual 264, 3)) mw_X5_264 rfl (by decide) wm_X5_performInts wse_X5_performInts (by decide) rfl
theorem o78_41 : Okp RX5 cX5_perform 6 (some .int) "perform" false 41 sRI := ok_iret rfl (by decide +kernel : decode cX5_perform 41 = .ok (.ireturn, 1))
theorem o78_42 : Okp RX5 cX5_perform 6 (some .int) "perform" false 42 (sLI 2 43) := ok_iload_n (by decide +kernel : decode cX5_perform 42 = .ok (.iload_n 2, 1)) rfl
theorem o78_43 : Okp RX5 cX5_perform 6 (some .int) "perform" false 43 (sK 32 45) := ok_bipush (by decide +kernel : decode cX5_perform 43 = .ok (.bipush 32, 2)) (by decide)
theorem o78_45 : Okp RX5 cX5_perform 6 (some .int) "perform" false 45 (sI2 2 63 48) := ok_icmp_lt (by decide +kernel : decode cX5_perform 45 = .ok (.if_icmp .lt 18, 3)) (by decide)
theorem o78_48 : Okp RX5 cX5_perform 6 (some .int) "perform" false 48 (sLI 2 49) := ok_iload_n (by decide +kernel : decode cX5_perform 48 = .ok (.iload_n 2, 1)) rfl
theorem o78_49 : Okp RX5 cX5_perform 6 (some .int) "perform" false 49 (sK 35 51) := ok_bipush (by decide +kernel : decode cX5_perform 49 = .ok (.bipush 35, 2)) (by decide)
theorem o78_51 : Okp RX5 cX5_perform 6 (some .int) "perform" false 51 (sI2 4 63 54) := ok_icmp_gt (by decide +kernel : decode cX5_perform 51 = .ok (.if_icmp .gt 12, 3)) (by decide)
theorem o78_54 : Okp RX5 cX5_perform 6 (some .int) "perform" false 54 (sLR 0 55) := ok_aload_n (by decide +kernel : decode cX5_perform 54 = .ok (.aload_n 0, 1)) rfl
theorem o78_55 : Okp RX5 cX5_perform 6 (some .int) "perform" false 55 (sLR 1 56) := ok_aload_n (by decide +kernel : decode cX5_perform 55 = .ok (.aload_n 1, 1)) rfl
theorem o78_56 : Okp RX5 cX5_perform 6 (some .int) "perform" false 56 (sLI 2 57) := ok_iload_n (by decide +kernel : decode cX5_perform 56 = .ok (.iload_n 2, 1)) rfl
theorem o78_57 : Okp RX5 cX5_perform 6 (some .int) "perform" false 57 (sLI 4 59) := ok_iload (by decide +kernel : decode cX5_perform 57 = .ok (.iload 4, 2))
theorem o78_59 : Okp RX5 cX5_perform 6 (some .int) "perform" false 59 (sCV false 93 4 6 62) := ok_cv (by decide +kernel : decode cX5_perform 59 = .ok (.invokevirtual 267, 3)) mw_X5_267 rfl (by decide) wm_X5_performBlock wse_X5_performBlock (by decide) rfl
theorem o78_62 : Okp RX5 cX5_perform 6 (some .int) "perform" false 62 sRI := ok_iret rfl (by decide +kernel : decode cX5_perform 62 = .ok (.ireturn, 1))
theorem o78_63 : Okp RX5 cX5_perform 6 (some .int) "perform" false 63 (sLI 2 64) := ok_iload_n (by decide +kernel : decode cX5_perform 63 = .ok (.iload_n 2, 1)) rfl
theorem o78_64 : Okp RX5 cX5_perform 6 (some .int) "perform" false 64 (sSw [(22, 156), (23, 206), (24, 206), (25, 180), (26, 193), (27, 215), (28, 215), (29, 215), (30, 222), (31, 253), (32, 253), (33, 253), (34, 253), (35, 253), (36, 253), (37, 230), (38, 238), (39, 253), (40, 245)] 253) := ok_tsw (by decide +kernel : decode cX5_perform 64 = .ok (.tableswitch 189 22 40 #[92, 142, 142, 116, 129, 151, 151, 151, 158, 189, 189, 189, 189, 189, 189, 166, 174, 189, 181], 92)) (by decide) (by decide) (by decide)
theorem o78_156 : Okp RX5 cX5_perform 6 (some .int) "perform" false 156 (sLR 1 157) := ok_aload_n (by decide +kernel : decode cX5_perform 156 = .ok (.aload_n 1, 1)) rfl
theorem o78_157 : Okp RX5 cX5_perform 6 (some .int) "perform" false 157 (sGR 9 1 160) := ok_getR (by decide +kernel : decode cX5_perform 157 = .ok (.getfield 192, 3)) fw_X5_192 rfl
theorem o78_160 : Okp RX5 cX5_perform 6 (some .int) "perform" false 160 (sLI 4 162) := ok_iload (by decide +kernel : decode cX5_perform 160 = .ok (.iload 4, 2))
theorem o78_162 : Okp RX5 cX5_perform 6 (some .int) "perform" false 162 (sCV false 152 2 10 165) := ok_cv (by decide +kernel : decode cX5_perform 162 = .ok (.invokevirtual 270, 3)) mw_X5_270 rfl (by decide) wm_X9_sizeOfRecord wse_X9_sizeOfRecord (by decide) rfl
theorem o78_165 : Okp RX5 cX5_perform 6 (some .int) "perform" false 165 (sSI 5 167) := ok_istore (by decide +kernel : decode cX5_perform 165 = .ok (.istore 5, 2)) (by decide) (by decide)
theorem o78_167 : Okp RX5 cX5_perform 6 (some .int) "perform" false 167 (sLR 0 168) := ok_aload_n (by decide +kernel : decode cX5_perform 167 = .ok (.aload_n 0, 1)) rfl
theorem o78_168 : Okp RX5 cX5_perform 6 (some .int) "perform" false 168 (sLR 1 169) := ok_aload_n (by decide +kernel : decode cX5_perform 168 = .ok (.aload_n 1, 1)) rfl
theorem o78_169 : Okp RX5 cX5_perform 6 (some .int) "perform" false 169 (sLI 4 171) := ok_iload (by decide +kernel : decode cX5_perform 169 = .ok (.iload 4, 2))
theorem o78_171 : Okp RX5 cX5_perform 6 (some .int) "perform" false 171 (sK 16 173) := ok_bipush (by decide +kernel : decode cX5_perform 171 = .ok (.bipush 16, 2)) (by decide)
theorem o78_173 : Okp RX5 cX5_perform 6 (some .int) "perform" false 173 (sB2 fShl 174) := ok_ishl (by decide +kernel : decode cX5_perform 173 = .ok (.ishl, 1))
theorem o78_174 : Okp RX5 cX5_perform 6 (some .int) "perform" false 174 (sLI 5 176) := ok_iload (by decide +kernel : decode cX5_perform 174 = .ok (.iload 5, 2))
theorem o78_176 : Okp RX5 cX5_perform 6 (some .int) "perform" false 176 (sCV false 90 4 6 179) := ok_cv (by decide +kernel : decode cX5_perform 176 = .ok (.invokevirtual 273, 3)) mw_X5_273 rfl (by decide) wm_X5_layInHeap wse_X5_layInHeap (by decide) rfl
theorem o78_179 : Okp RX5 cX5_perform 6 (some .int) "perform" false 179 sRI := ok_iret rfl (by decide +kernel : decode cX5_perform 179 = .ok (.ireturn, 1))
theorem o78_180 : Okp RX5 cX5_perform 6 (some .int) "perform" false 180 (sLR 0 181) := ok_aload_n (by decide +kernel : decode cX5_perform 180 = .ok (.aload_n 0, 1)) rfl
theorem o78_181 : Okp RX5 cX5_perform 6 (some .int) "perform" false 181 (sLR 1 182) := ok_aload_n (by decide +kernel : decode cX5_perform 181 = .ok (.aload_n 1, 1)) rfl
theorem o78_182 : Okp RX5 cX5_perform 6 (some .int) "perform" false 182 (sK 524288 185) := ok_ldcw (by decide +kernel : decode cX5_perform 182 = .ok (.ldc_w 276, 3)) wk_X5_276 (by decide)
theorem o78_185 : Okp RX5 cX5_perform 6 (some .int) "perform" false 185 (sLR 1 186) := ok_aload_n (by decide +kernel : decode cX5_perform 185 = .ok (.aload_n 1, 1)) rfl
theorem o78_186 : Okp RX5 cX5_perform 6 (some .int) "perform" false 186 (sCV false 128 1 9 189) := ok_cv (by decide +kernel : decode cX5_perform 186 = .ok (.invokevirtual 277, 3)) mw_X5_277 rfl (by decide) wm_X8_pop wse_X8_pop (by decide) rfl
theorem o78_189 : Okp RX5 cX5_perform 6 (some .int) "perform" false 189 (sCV false 90 4 6 192) := ok_cv (by decide +kernel : decode cX5_perform 189 = .ok (.invokevirtual 273, 3)) mw_X5_273 rfl (by decide) wm_X5_layInHeap wse_X5_layInHeap (by decide) rfl
theorem o78_192 : Okp RX5 cX5_perform 6 (some .int) "perform" false 192 sRI := ok_iret rfl (by decide +kernel : decode cX5_perform 192 = .ok (.ireturn, 1))
theorem o78_193 : Okp RX5 cX5_perform 6 (some .int) "perform" false 193 (sLR 0 194) := ok_aload_n (by decide +kernel : decode cX5_perform 193 = .ok (.aload_n 0, 1)) rfl
theorem o78_194 : Okp RX5 cX5_perform 6 (some .int) "perform" false 194 (sLR 1 195) := ok_aload_n (by decide +kernel : decode cX5_perform 194 = .ok (.aload_n 1, 1)) rfl
theorem o78_195 : Okp RX5 cX5_perform 6 (some .int) "perform" false 195 (sK 589824 198) := ok_ldcw (by decide +kernel : decode cX5_perform 195 = .ok (.ldc_w 280, 3)) wk_X5_280 (by decide)
theorem o78_198 : Okp RX5 cX5_perform 6 (some .int) "perform" false 198 (sLR 1 199) := ok_aload_n (by decide +kernel : decode cX5_perform 198 = .ok (.aload_n 1, 1)) rfl
theorem o78_199 : Okp RX5 cX5_perform 6 (some .int) "perform" false 199 (sCV false 128 1 9 202) := ok_cv (by decide +kernel : decode cX5_perform 199 = .ok (.invokevirtual 277, 3)) mw_X5_277 rfl (by decide) wm_X8_pop wse_X8_pop (by decide) rfl
theorem o78_202 : Okp RX5 cX5_perform 6 (some .int) "perform" false 202 (sCV false 90 4 6 205) := ok_cv (by decide +kernel : decode cX5_perform 202 = .ok (.invokevirtual 273, 3)) mw_X5_273 rfl (by decide) wm_X5_layInHeap wse_X5_layInHeap (by decide) rfl
theorem o78_205 : Okp RX5 cX5_perform 6 (some .int) "perform" false 205 sRI := ok_iret rfl (by decide +kernel : decode cX5_perform 205 = .ok (.ireturn, 1))
theorem o78_206 : Okp RX5 cX5_perform 6 (some .int) "perform" false 206 (sLR 0 207) := ok_aload_n (by decide +kernel : decode cX5_perform 206 = .ok (.aload_n 0, 1)) rfl
theorem o78_207 : Okp RX5 cX5_perform 6 (some .int) "perform" false 207 (sLR 1 208) := ok_aload_n (by decide +kernel : decode cX5_perform 207 = .ok (.aload_n 1, 1)) rfl
theorem o78_208 : Okp RX5 cX5_perform 6 (some .int) "perform" false 208 (sLI 2 209) := ok_iload_n (by decide +kernel : decode cX5_perform 208 = .ok (.iload_n 2, 1)) rfl
theorem o78_209 : Okp RX5 cX5_perform 6 (some .int) "perform" false 209 (sLI 4 211) := ok_iload (by decide +kernel : decode cX5_perform 209 = .ok (.iload 4, 2))
theorem o78_211 : Okp RX5 cX5_perform 6 (some .int) "perform" false 211 (sCV false 91 4 6 214) := ok_cv (by decide +kernel : decode cX5_perform 211 = .ok (.invokevirtual 281, 3)) mw_X5_281 rfl (by decide) wm_X5_performNode wse_X5_performNode (by decide) rfl
theorem o78_214 : Okp RX5 cX5_perform 6 (some .int) "perform" false 214 sRI := ok_iret rfl (by decide +kernel : decode cX5_perform 214 = .ok (.ireturn, 1))
theorem o78_215 : Okp RX5 cX5_perform 6 (some .int) "perform" false 215 (sLR 0 216) := ok_aload_n (by decide +kernel : decode cX5_perform 215 = .ok (.aload_n 0, 1)) rfl
theorem o78_216 : Okp RX5 cX5_perform 6 (some .int) "perform" false 216 (sLR 1 217) := ok_aload_n (by decide +kernel : decode cX5_perform 216 = .ok (.aload_n 1, 1)) rfl
theorem o78_217 : Okp RX5 cX5_perform 6 (some .int) "perform" false 217 (sLI 2 218) := ok_iload_n (by decide +kernel : decode cX5_perform 217 = .ok (.iload_n 2, 1)) rfl
theorem o78_218 : Okp RX5 cX5_perform 6 (some .int) "perform" false 218 (sCV false 92 3 6 221) := ok_cv (by decide +kernel : decode cX5_perform 218 = .ok (.invokevirtual 284, 3)) mw_X5_284 rfl (by decide) wm_X5_performRow wse_X5_performRow (by decide) rfl
theorem o78_221 : Okp RX5 cX5_perform 6 (some .int) "perform" false 221 sRI := ok_iret rfl (by decide +kernel : decode cX5_perform 221 = .ok (.ireturn, 1))
theorem o78_222 : Okp RX5 cX5_perform 6 (some .int) "perform" false 222 (sLR 0 223) := ok_aload_n (by decide +kernel : decode cX5_perform 222 = .ok (.aload_n 0, 1)) rfl
theorem o78_223 : Okp RX5 cX5_perform 6 (some .int) "perform" false 223 (sLR 1 224) := ok_aload_n (by decide +kernel : decode cX5_perform 223 = .ok (.aload_n 1, 1)) rfl
theorem o78_224 : Okp RX5 cX5_perform 6 (some .int) "perform" false 224 (sLI 4 226) := ok_iload (by decide +kernel : decode cX5_perform 224 = .ok (.iload 4, 2))
theorem o78_226 : Okp RX5 cX5_perform 6 (some .int) "perform" false 226 (sCV false 83 3 6 229) := ok_cv (by decide +kernel : decode cX5_perform 226 = .ok (.invokevirtual 287, 3)) mw_X5_287 rfl (by decide) wm_X5_call wse_X5_call (by decide) rfl
theorem o78_229 : Okp RX5 cX5_perform 6 (some .int) "perform" false 229 sRI := ok_iret rfl (by decide +kernel : decode cX5_perform 229 = .ok (.ireturn, 1))
theorem o78_230 : Okp RX5 cX5_perform 6 (some .int) "perform" false 230 (sLR 0 231) := ok_aload_n (by decide +kernel : decode cX5_perform 230 = .ok (.aload_n 0, 1)) rfl
theorem o78_231 : Okp RX5 cX5_perform 6 (some .int) "perform" false 231 (sLR 1 232) := ok_aload_n (by decide +kernel : decode cX5_perform 231 = .ok (.aload_n 1, 1)) rfl
theorem o78_232 : Okp RX5 cX5_perform 6 (some .int) "perform" false 232 (sLI 4 234) := ok_iload (by decide +kernel : decode cX5_perform 232 = .ok (.iload 4, 2))
theorem o78_234 : Okp RX5 cX5_perform 6 (some .int) "perform" false 234 (sCV false 95 3 6 237) := ok_cv (by decide +kernel : decode cX5_perform 234 = .ok (.invokevirtual 290, 3)) mw_X5_290 rfl (by decide) wm_X5_send wse_X5_send (by decide) rfl
theorem o78_237 : Okp RX5 cX5_perform 6 (some .int) "perform" false 237 sRI := ok_iret rfl (by decide +kernel : decode cX5_perform 237 = .ok (.ireturn, 1))
theorem o78_238 : Okp RX5 cX5_perform 6 (some .int) "perform" false 238 (sLR 0 239) := ok_aload_n (by decide +kernel : decode cX5_perform 238 = .ok (.aload_n 0, 1)) rfl
theorem o78_239 : Okp RX5 cX5_perform 6 (some .int) "perform" false 239 (sLR 1 240) := ok_aload_n (by decide +kernel : decode cX5_perform 239 = .ok (.aload_n 1, 1)) rfl
theorem o78_240 : Okp RX5 cX5_perform 6 (some .int) "perform" false 240 (sLI 3 241) := ok_iload_n (by decide +kernel : decode cX5_perform 240 = .ok (.iload_n 3, 1)) rfl
theorem o78_241 : Okp RX5 cX5_perform 6 (some .int) "perform" false 241 (sCV false 96 3 6 244) := ok_cv (by decide +kernel : decode cX5_perform 241 = .ok (.invokevirtual 293, 3)) mw_X5_293 rfl (by decide) wm_X5_receive wse_X5_receive (by decide) rfl
theorem o78_244 : Okp RX5 cX5_perform 6 (some .int) "perform" false 244 sRI := ok_iret rfl (by decide +kernel : decode cX5_perform 244 = .ok (.ireturn, 1))
theorem o78_245 : Okp RX5 cX5_perform 6 (some .int) "perform" false 245 (sLR 0 246) := ok_aload_n (by decide +kernel : decode cX5_perform 245 = .ok (.aload_n 0, 1)) rfl
theorem o78_246 : Okp RX5 cX5_perform 6 (some .int) "perform" false 246 (sLR 1 247) := ok_aload_n (by decide +kernel : decode cX5_perform 246 = .ok (.aload_n 1, 1)) rfl
theorem o78_247 : Okp RX5 cX5_perform 6 (some .int) "perform" false 247 (sLI 4 249) := ok_iload (by decide +kernel : decode cX5_perform 247 = .ok (.iload 4, 2))
theorem o78_249 : Okp RX5 cX5_perform 6 (some .int) "perform" false 249 (sCV false 88 3 6 252) := ok_cv (by decide +kernel : decode cX5_perform 249 = .ok (.invokevirtual 296, 3)) mw_X5_296 rfl (by decide) wm_X5_spawn wse_X5_spawn (by decide) rfl
theorem o78_252 : Okp RX5 cX5_perform 6 (some .int) "perform" false 252 sRI := ok_iret rfl (by decide +kernel : decode cX5_perform 252 = .ok (.ireturn, 1))
theorem o78_253 : Okp RX5 cX5_perform 6 (some .int) "perform" false 253 (sLR 0 254) := ok_aload_n (by decide +kernel : decode cX5_perform 253 = .ok (.aload_n 0, 1)) rfl
theorem o78_254 : Okp RX5 cX5_perform 6 (some .int) "perform" false 254 (sLR 1 255) := ok_aload_n (by decide +kernel : decode cX5_perform 254 = .ok (.aload_n 1, 1)) rfl
theorem o78_255 : Okp RX5 cX5_perform 6 (some .int) "perform" false 255 (sLI 2 256) := ok_iload_n (by decide +kernel : decode cX5_perform 255 = .ok (.iload_n 2, 1)) rfl
theorem o78_256 : Okp RX5 cX5_perform 6 (some .int) "perform" false 256 (sLI 4 258) := ok_iload (by decide +kernel : decode cX5_perform 256 = .ok (.iload 4, 2))
theorem o78_258 : Okp RX5 cX5_perform 6 (some .int) "perform" false 258 (sCV false 82 4 6 261) := ok_cv (by decide +kernel : decode cX5_perform 258 = .ok (.invokevirtual 299, 3)) mw_X5_299 rfl (by decide) wm_X5_performFlow wse_X5_performFlow (by decide) rfl
theorem o78_261 : Okp RX5 cX5_perform 6 (some .int) "perform" false 261 sRI := ok_iret rfl (by decide +kernel : decode cX5_perform 261 = .ok (.ireturn, 1))
theorem oc78_0 : ∀ pc, Mnp (c78_0 pc) ∧ Okp RX5 cX5_perform 6 (some .int) "perform" false pc (c78_0 pc) := by
  intro pc
  unfold c78_0
  split
  · exact ⟨mn_sLR, o78_0⟩
  · exact ⟨mn_sGR, o78_1⟩
  · exact ⟨mn_sLI, o78_4⟩
  · exact ⟨mn_sK, o78_5⟩
  · exact ⟨mn_sB2, o78_6⟩
  · exact ⟨mn_sCV, o78_7⟩
  · exact ⟨mn_sSI, o78_10⟩
  · exact ⟨mn_sLI, o78_12⟩
  · exact ⟨mn_sK, o78_13⟩
  · exact ⟨mn_sI2, o78_15⟩
  · exact ⟨mn_sLR, o78_18⟩
  · exact ⟨mn_sLR, o78_19⟩
  · exact ⟨mn_sLI, o78_20⟩
  · exact ⟨mn_sLI, o78_21⟩
  · exact ⟨mn_sLI, o78_23⟩
  · exact ⟨mn_sX, ok_X⟩
theorem oc78_1 : ∀ pc, Mnp (c78_1 pc) ∧ Okp RX5 cX5_perform 6 (some .int) "perform" false pc (c78_1 pc) := by
  intro pc
  unfold c78_1
  split
  · exact ⟨mn_sCV, o78_24⟩
  · exact ⟨mn_sK, o78_27⟩
  · exact ⟨mn_sRI, o78_28⟩
  · exact ⟨mn_sLI, o78_29⟩
  · exact ⟨mn_sK, o78_30⟩
  · exact ⟨mn_sI2, o78_32⟩
  · exact ⟨mn_sLR, o78_35⟩
  · exact ⟨mn_sLR, o78_36⟩
  · exact ⟨mn_sLI, o78_37⟩
  · exact ⟨mn_sCV, o78_38⟩
  · exact ⟨mn_sRI, o78_41⟩
  · exact ⟨mn_sLI, o78_42⟩
  · exact ⟨mn_sK, o78_43⟩
  · exact ⟨mn_sI2, o78_45⟩
  · exact ⟨mn_sX, ok_X⟩
theorem oc78_2 : ∀ pc, Mnp (c78_2 pc) ∧ Okp RX5 cX5_perform 6 (some .int) "perform" false pc (c78_2 pc) := by
  intro pc
  unfold c78_2
  split
  · exact ⟨mn_sLI, o78_48⟩
  · exact ⟨mn_sK, o78_49⟩
  · exact ⟨mn_sI2, o78_51⟩
  · exact ⟨mn_sLR, o78_54⟩
  · exact ⟨mn_sLR, o78_55⟩
  · exact ⟨mn_sLI, o78_56⟩
  · exact ⟨mn_sLI, o78_57⟩
  · exact ⟨mn_sCV, o78_59⟩
  · exact ⟨mn_sRI, o78_62⟩
  · exact ⟨mn_sLI, o78_63⟩
  · exact ⟨mn_sSw, o78_64⟩
  · exact ⟨mn_sX, ok_X⟩
theorem oc78_6 : ∀ pc, Mnp (c78_6 pc) ∧ Okp RX5 cX5_perform 6 (some .int) "perform" false pc (c78_6 pc) := by
  intro pc
  unfold c78_6
  split
  · exact ⟨mn_sLR, o78_156⟩
  · exact ⟨mn_sGR, o78_157⟩
  · exact ⟨mn_sLI, o78_160⟩
  · exact ⟨mn_sCV, o78_162⟩
  · exact ⟨mn_sSI, o78_165⟩
  · exact ⟨mn_sLR, o78_167⟩
  · exact ⟨mn_sX, ok_X⟩
theorem oc78_7 : ∀ pc, Mnp (c78_7 pc) ∧ Okp RX5 cX5_perform 6 (some .int) "perform" false pc (c78_7 pc) := by
  intro pc
  unfold c78_7
  split
  · exact ⟨mn_sLR, o78_168⟩
  · exact ⟨mn_sLI, o78_169⟩
  · exact ⟨mn_sK, o78_171⟩
  · exact ⟨mn_sB2, o78_173⟩
  · exact ⟨mn_sLI, o78_174⟩
  · exact ⟨mn_sCV, o78_176⟩
  · exact ⟨mn_sRI, o78_179⟩
  · exact ⟨mn_sLR, o78_180⟩
  · exact ⟨mn_sLR, o78_181⟩
  · exact ⟨mn_sK, o78_182⟩
  · exact ⟨mn_sLR, o78_185⟩
  · exact ⟨mn_sCV, o78_186⟩
  · exact ⟨mn_sCV, o78_189⟩
  · exact ⟨mn_sX, ok_X⟩
theorem oc78_8 : ∀ pc, Mnp (c78_8 pc) ∧ Okp RX5 cX5_perform 6 (some .int) "perform" false pc (c78_8 pc) := by
  intro pc
  unfold c78_8
  split
  · exact ⟨mn_sRI, o78_192⟩
  · exact ⟨mn_sLR, o78_193⟩
  · exact ⟨mn_sLR, o78_194⟩
  · exact ⟨mn_sK, o78_195⟩
  · exact ⟨mn_sLR, o78_198⟩
  · exact ⟨mn_sCV, o78_199⟩
  · exact ⟨mn_sCV, o78_202⟩
  · exact ⟨mn_sRI, o78_205⟩
  · exact ⟨mn_sLR, o78_206⟩
  · exact ⟨mn_sLR, o78_207⟩
  · exact ⟨mn_sLI, o78_208⟩
  · exact ⟨mn_sLI, o78_209⟩
  · exact ⟨mn_sCV, o78_211⟩
  · exact ⟨mn_sRI, o78_214⟩
  · exact ⟨mn_sLR, o78_215⟩
  · exact ⟨mn_sX, ok_X⟩
theorem oc78_9 : ∀ pc, Mnp (c78_9 pc) ∧ Okp RX5 cX5_perform 6 (some .int) "perform" false pc (c78_9 pc) := by
  intro pc
  unfold c78_9
  split
  · exact ⟨mn_sLR, o78_216⟩
  · exact ⟨mn_sLI, o78_217⟩
  · exact ⟨mn_sCV, o78_218⟩
  · exact ⟨mn_sRI, o78_221⟩
  · exact ⟨mn_sLR, o78_222⟩
  · exact ⟨mn_sLR, o78_223⟩
  · exact ⟨mn_sLI, o78_224⟩
  · exact ⟨mn_sCV, o78_226⟩
  · exact ⟨mn_sRI, o78_229⟩
  · exact ⟨mn_sLR, o78_230⟩
  · exact ⟨mn_sLR, o78_231⟩
  · exact ⟨mn_sLI, o78_232⟩
  · exact ⟨mn_sCV, o78_234⟩
  · exact ⟨mn_sRI, o78_237⟩
  · exact ⟨mn_sLR, o78_238⟩
  · exact ⟨mn_sLR, o78_239⟩
  · exact ⟨mn_sX, ok_X⟩
theorem oc78_10 : ∀ pc, Mnp (c78_10 pc) ∧ Okp RX5 cX5_perform 6 (some .int) "perform" false pc (c78_10 pc) := by
  intro pc
  unfold c78_10
  split
  · exact ⟨mn_sLI, o78_240⟩
  · exact ⟨mn_sCV, o78_241⟩
  · exact ⟨mn_sRI, o78_244⟩
  · exact ⟨mn_sLR, o78_245⟩
  · exact ⟨mn_sLR, o78_246⟩
  · exact ⟨mn_sLI, o78_247⟩
  · exact ⟨mn_sCV, o78_249⟩
  · exact ⟨mn_sRI, o78_252⟩
  · exact ⟨mn_sLR, o78_253⟩
  · exact ⟨mn_sLR, o78_254⟩
  · exact ⟨mn_sLI, o78_255⟩
  · exact ⟨mn_sLI, o78_256⟩
  · exact ⟨mn_sCV, o78_258⟩
  · exact ⟨mn_sRI, o78_261⟩
  · exact ⟨mn_sX, ok_X⟩
theorem oc78 : ∀ pc, Mnp (c78 pc) ∧ Okp RX5 cX5_perform 6 (some .int) "perform" false pc (c78 pc) := by
  intro pc
  unfold c78
  split
  · exact oc78_0 pc
  · exact oc78_1 pc
  · exact oc78_2 pc
  · exact oc78_6 pc
  · exact oc78_7 pc
  · exact oc78_8 pc
  · exact oc78_9 pc
  · exact oc78_10 pc
  · exact ⟨mn_sX, ok_X⟩
theorem o79_0 : Okp RX5 cX5_performMove 12 none "performMove" false 0 (sLR 1 1) := ok_aload_n (by decide +kernel : decode cX5_performMove 0 = .ok (.aload_n 1, 1)) rfl
theorem o79_1 : Okp RX5 cX5_performMove 12 none "performMove" false 1 (sCV false 125 1 9 4) := ok_cv (by decide +kernel : decode cX5_performMove 1 = .ok (.invokevirtual 213, 3)) mw_X5_213 rfl (by decide) wm_X8_height wse_X8_height (by decide) rfl
theorem o79_4 : Okp RX5 cX5_performMove 12 none "performMove" false 4 (sK 1 5) := ok_iconst (by decide +kernel : decode cX5_performMove 4 = .ok (.iconst 1, 1)) (by decide)
theorem o79_5 : Okp RX5 cX5_performMove 12 none "performMove" false 5 (sB2 fSub 6) := ok_isub (by decide +kernel : decode cX5_performMove 5 = .ok (.isub, 1))
theorem o79_6 : Okp RX5 cX5_performMove 12 none "performMove" false 6 (sSI 5 8) := ok_istore (by decide +kernel : decode cX5_performMove 6 = .ok (.istore 5, 2)) (by decide) (by decide)
theorem o79_8 : Okp RX5 cX5_performMove 12 none "performMove" false 8 (sLI 2 9) := ok_iload_n (by decide +kernel : decode cX5_performMove 8 = .ok (.iload_n 2, 1)) rfl
theorem o79_9 : Okp RX5 cX5_performMove 12 none "performMove" false 9 (sSw [(0, 48), (1, 67), (2, 76), (3, 121), (4, 141), (5, 149)] 168) := ok_tsw (by decide +kernel : decode cX5_performMove 9 = .ok (.tableswitch 159 0 5 #[39, 58, 67, 112, 132, 140], 39)) (by decide) (by decide) (by decide)
theorem o79_48 : Okp RX5 cX5_performMove 12 none "performMove" false 48 (sLR 1 49) := ok_aload_n (by decide +kernel : decode cX5_performMove 48 = .ok (.aload_n 1, 1)) rfl
theorem o79_49 : Okp RX5 cX5_performMove 12 none "performMove" false 49 (sK 0 50) := ok_iconst (by decide +kernel : decode cX5_performMove 49 = .ok (.iconst 0, 1)) (by decide)
theorem o79_50 : Okp RX5 cX5_performMove 12 none "performMove" false 50 (sLR 1 51) := ok_aload_n (by decide +kernel : decode cX5_performMove 50 = .ok (.aload_n 1, 1)) rfl
theorem o79_51 : Okp RX5 cX5_performMove 12 none "performMove" false 51 (sGR 9 1 54) := ok_getR (by decide +kernel : decode cX5_performMove 51 = .ok (.getfield 192, 3)) fw_X5_192 rfl
theorem o79_54 : Okp RX5 cX5_performMove 12 none "performMove" false 54 (sLI 4 56) := ok_iload (by decide +kernel : decode cX5_performMove 54 = .ok (.iload 4, 2))
theorem o79_56 : Okp RX5 cX5_performMove 12 none "performMove" false 56 (sK 1 57) := ok_iconst (by decide +kernel : decode cX5_performMove 56 = .ok (.iconst 1, 1)) (by decide)
theorem o79_57 : Okp RX5 cX5_performMove 12 none "performMove" false 57 (sB2 fAdd 58) := ok_iadd (by decide +kernel : decode cX5_performMove 57 = .ok (.iadd, 1))
theorem o79_58 : Okp RX5 cX5_performMove 12 none "performMove" false 58 (sCV false 146 2 10 61) := ok_cv (by decide +kernel : decode cX5_performMove 58 = .ok (.invokevirtual 302, 3)) mw_X5_302 rfl (by decide) wm_X9_wordAt wse_X9_wordAt (by decide) rfl
theorem o79_61 : Okp RX5 cX5_performMove 12 none "performMove" false 61 (sCV false 127 3 9 64) := ok_cv (by decide +kernel : decode cX5_performMove 61 = .ok (.invokevirtual 305, 3)) mw_X5_305 rfl (by decide) wm_X8_push wse_X8_push (by decide) rfl
theorem o79_64 : Okp RX5 cX5_performMove 12 none "performMove" false 64 (sGo 208) := ok_goto (by decide +kernel : decode cX5_performMove 64 = .ok (.goto 144, 3)) (by decide)
theorem o79_67 : Okp RX5 cX5_performMove 12 none "performMove" false 67 (sLR 1 68) := ok_aload_n (by decide +kernel : decode cX5_performMove 67 = .ok (.aload_n 1, 1)) rfl
theorem o79_68 : Okp RX5 cX5_performMove 12 none "performMove" false 68 (sK 1 69) := ok_iconst (by decide +kernel : decode cX5_performMove 68 = .ok (.iconst 1, 1)) (by decide)
theorem o79_69 : Okp RX5 cX5_performMove 12 none "performMove" false 69 (sK 0 70) := ok_iconst (by decide +kernel : decode cX5_performMove 69 = .ok (.iconst 0, 1)) (by decide)
theorem o79_70 : Okp RX5 cX5_performMove 12 none "performMove" false 70 (sCV false 127 3 9 73) := ok_cv (by decide +kernel : decode cX5_performMove 70 = .ok (.invokevirtual 305, 3)) mw_X5_305 rfl (by decide) wm_X8_push wse_X8_push (by decide) rfl
theorem o79_73 : Okp RX5 cX5_performMove 12 none "performMove" false 73 (sGo 208) := ok_goto (by decide +kernel : decode cX5_performMove 73 = .ok (.goto 135, 3)) (by decide)
theorem o79_76 : Okp RX5 cX5_performMove 12 none "performMove" false 76 (sK 16 78) := ok_bipush (by decide +kernel : decode cX5_performMove 76 = .ok (.bipush 16, 2)) (by decide)
theorem o79_78 : Okp RX5 cX5_performMove 12 none "performMove" false 78 (sLI 3 79) := ok_iload_n (by decide +kernel : decode cX5_performMove 78 = .ok (.iload_n 3, 1)) rfl
theorem o79_79 : Okp RX5 cX5_performMove 12 none "performMove" false 79 (sB2 fAdd 80) := ok_iadd (by decide +kernel : decode cX5_performMove 79 = .ok (.iadd, 1))
theorem o79_80 : Okp RX5 cX5_performMove 12 none "performMove" false 80 (sSI 6 82) := ok_istore (by decide +kernel : decode cX5_performMove 80 = .ok (.istore 6, 2)) (by decide) (by decide)
theorem o79_82 : Okp RX5 cX5_performMove 12 none "performMove" false 82 (sLR 1 83) := ok_aload_n (by decide +kernel : decode cX5_performMove 82 = .ok (.aload_n 1, 1)) rfl
theorem o79_83 : Okp RX5 cX5_performMove 12 none "performMove" false 83 (sLR 1 84) := ok_aload_n (by decide +kernel : decode cX5_performMove 83 = .ok (.aload_n 1, 1)) rfl
theorem o79_84 : Okp RX5 cX5_performMove 12 none "performMove" false 84 (sLI 6 86) := ok_iload (by decide +kernel : decode cX5_performMove 84 = .ok (.iload 6, 2))
theorem o79_86 : Okp RX5 cX5_performMove 12 none "performMove" false 86 (sCV false 130 2 9 89) := ok_cv (by decide +kernel : decode cX5_performMove 86 = .ok (.invokevirtual 216, 3)) mw_X5_216 rfl (by decide) wm_X8_kindIn wse_X8_kindIn (by decide) rfl
theorem o79_89 : Okp RX5 cX5_performMove 12 none "performMove" false 89 (sLR 1 90) := ok_aload_n (by decide +kernel : decode cX5_performMove 89 = .ok (.aload_n 1, 1)) rfl
theorem o79_90 : Okp RX5 cX5_performMove 12 none "performMove" false 90 (sLI 6 92) := ok_iload (by decide +kernel : decode cX5_performMove 90 = .ok (.iload 6, 2))
theorem o79_92 : Okp RX5 cX5_performMove 12 none "performMove" false 92 (sCV false 131 2 9 95) := ok_cv (by decide +kernel : decode cX5_performMove 92 = .ok (.invokevirtual 219, 3)) mw_X5_219 rfl (by decide) wm_X8_numberIn wse_X8_numberIn (by decide) rfl
theorem o79_95 : Okp RX5 cX5_performMove 12 none "performMove" false 95 (sCV false 127 3 9 98) := ok_cv (by decide +kernel : decode cX5_performMove 95 = .ok (.invokevirtual 305, 3)) mw_X5_305 rfl (by decide) wm_X8_push wse_X8_push (by decide) rfl
theorem o79_98 : Okp RX5 cX5_performMove 12 none "performMove" false 98 (sLR 1 99) := ok_aload_n (by decide +kernel : decode cX5_performMove 98 = .ok (.aload_n 1, 1)) rfl
theorem o79_99 : Okp RX5 cX5_performMove 12 none "performMove" false 99 (sLI 6 101) := ok_iload (by decide +kernel : decode cX5_performMove 99 = .ok (.iload 6, 2))
theorem o79_101 : Okp RX5 cX5_performMove 12 none "performMove" false 101 (sCV false 130 2 9 104) := ok_cv (by decide +kernel : decode cX5_performMove 101 = .ok (.invokevirtual 216, 3)) mw_X5_216 rfl (by decide) wm_X8_kindIn wse_X8_kindIn (by decide) rfl
theorem o79_104 : Okp RX5 cX5_performMove 12 none "performMove" false 104 (sCS false 211 1 107) := ok_cs (by decide +kernel : decode cX5_performMove 104 = .ok (.invokestatic 308, 3)) mw_X5_308 wt_X11_isLinear (by decide) rfl
theorem o79_107 : Okp RX5 cX5_performMove 12 none "performMove" false 107 (sI1 0 208 110) := ok_if_eq (by decide +kernel : decode cX5_performMove 107 = .ok (.ifCond .eq 101, 3)) (by decide)
theorem o79_110 : Okp RX5 cX5_performMove 12 none "performMove" false 110 (sLR 1 111) := ok_aload_n (by decide +kernel : decode cX5_performMove 110 = .ok (.aload_n 1, 1)) rfl
theorem o79_111 : Okp RX5 cX5_performMove 12 none "performMove" false 111 (sLI 3 112) := ok_iload_n (by decide +kernel : decode cX5_performMove 111 = .ok (.iload_n 3, 1)) rfl
theorem o79_112 : Okp RX5 cX5_performMove 12 none "performMove" false 112 (sK 7 114) := ok_bipush (by decide +kernel : decode cX5_performMove 112 = .ok (.bipush 7, 2)) (by decide)
theorem o79_114 : Okp RX5 cX5_performMove 12 none "performMove" false 114 (sK 0 115) := ok_iconst (by decide +kernel : decode cX5_performMove 114 = .ok (.iconst 0, 1)) (by decide)
theorem o79_115 : Okp RX5 cX5_performMove 12 none "performMove" false 115 (sCV false 129 4 9 118) := ok_cv (by decide +kernel : decode cX5_performMove 115 = .ok (.invokevirtual 138, 3)) mw_X5_138 rfl (by decide) wm_X8_setLocal wse_X8_setLocal (by decide) rfl
theorem o79_118 : Okp RX5 cX5_performMove 12 none "performMove" false 118 (sGo 208) := ok_goto (by decide +kernel : decode cX5_performMove 118 = .ok (.goto 90, 3)) (by decide)
theorem o79_121 : Okp RX5 cX5_performMove 12 none "performMove" false 121 (sLR 1 122) := ok_aload_n (by decide +kernel : decode cX5_performMove 121 = .ok (.aload_n 1, 1)) rfl
theorem o79_122 : Okp RX5 cX5_performMove 12 none "performMove" false 122 (sCV false 128 1 9 125) := ok_cv (by decide +kernel : decode cX5_performMove 122 = .ok (.invokevirtual 277, 3)) mw_X5_277 rfl (by decide) wm_X8_pop wse_X8_pop (by decide) rfl
theorem o79_125 : Okp RX5 cX5_performMove 12 none "performMove" false 125 (sSI 7 127) := ok_istore (by decide +kernel : decode cX5_performMove 125 = .ok (.istore 7, 2)) (by decide) (by decide)
theorem o79_127 : Okp RX5 cX5_performMove 12 none "performMove" false 127 (sLR 1 128) := ok_aload_n (by decide +kernel : decode cX5_performMove 127 = .ok (.aload_n 1, 1)) rfl
theorem o79_128 : Okp RX5 cX5_performMove 12 none "performMove" false 128 (sLI 3 129) := ok_iload_n (by decide +kernel : decode cX5_performMove 128 = .ok (.iload_n 3, 1)) rfl
theorem o79_129 : Okp RX5 cX5_performMove 12 none "performMove" false 129 (sLR 1 130) := ok_aload_n (by decide +kernel : decode cX5_performMove 129 = .ok (.aload_n 1, 1)) rfl
theorem o79_130 : Okp RX5 cX5_performMove 12 none "performMove" false 130 (sGI 9 14 133) := ok_getI (by decide +kernel : decode cX5_performMove 130 = .ok (.getfield 311, 3)) fw_X5_311 rfl
theorem o79_133 : Okp RX5 cX5_performMove 12 none "performMove" false 133 (sLI 7 135) := ok_iload (by decide +kernel : decode cX5_performMove 133 = .ok (.iload 7, 2))
theorem o79_135 : Okp RX5 cX5_performMove 12 none "performMove" false 135 (sCV false 129 4 9 138) := ok_cv (by decide +kernel : decode cX5_performMove 135 = .ok (.invokevirtual 138, 3)) mw_X5_138 rfl (by decide) wm_X8_setLocal wse_X8_setLocal (by decide) rfl
theorem o79_138 : Okp RX5 cX5_performMove 12 none "performMove" false 138 (sGo 208) := ok_goto (by decide +kernel : decode cX5_performMove 138 = .ok (.goto 70, 3)) (by decide)
theorem o79_141 : Okp RX5 cX5_performMove 12 none "performMove" false 141 (sLR 1 142) := ok_aload_n (by decide +kernel : decode cX5_performMove 141 = .ok (.aload_n 1, 1)) rfl
theorem o79_142 : Okp RX5 cX5_performMove 12 none "performMove" false 142 (sCV false 128 1 9 145) := ok_cv (by decide +kernel : decode cX5_performMove 142 = .ok (.invokevirtual 277, 3)) mw_X5_277 rfl (by decide) wm_X8_pop wse_X8_pop (by decide) rfl
theorem o79_145 : Okp RX5 cX5_performMove 12 none "performMove" false 145 (sPop 146) := ok_pop (by decide +kernel : decode cX5_performMove 145 = .ok (.pop, 1))
theorem o79_146 : Okp RX5 cX5_performMove 12 none "performMove" false 146 (sGo 208) := ok_goto (by decide +kernel : decode cX5_performMove 146 = .ok (.goto 62, 3)) (by decide)
theorem o79_149 : Okp RX5 cX5_performMove 12 none "performMove" false 149 (sLR 1 150) := ok_aload_n (by decide +kernel : decode cX5_performMove 149 = .ok (.aload_n 1, 1)) rfl
theorem o79_150 : Okp RX5 cX5_performMove 12 none "performMove" false 150 (sLR 1 151) := ok_aload_n (by decide +kernel : decode cX5_performMove 150 = .ok (.aload_n 1, 1)) rfl
theorem o79_151 : Okp RX5 cX5_performMove 12 none "performMove" false 151 (sLI 5 153) := ok_iload (by decide +kernel : decode cX5_performMove 151 = .ok (.iload 5, 2))
theorem o79_153 : Okp RX5 cX5_performMove 12 none "performMove" false 153 (sCV false 130 2 9 156) := ok_cv (by decide +kernel : decode cX5_performMove 153 = .ok (.invokevirtual 216, 3)) mw_X5_216 rfl (by decide) wm_X8_kindIn wse_X8_kindIn (by decide) rfl
theorem o79_156 : Okp RX5 cX5_performMove 12 none "performMove" false 156 (sLR 1 157) := ok_aload_n (by decide +kernel : decode cX5_performMove 156 = .ok (.aload_n 1, 1)) rfl
theorem o79_157 : Okp RX5 cX5_performMove 12 none "performMove" false 157 (sLI 5 159) := ok_iload (by decide +kernel : decode cX5_performMove 157 = .ok (.iload 5, 2))
theorem o79_159 : Okp RX5 cX5_performMove 12 none "performMove" false 159 (sCV false 131 2 9 162) := ok_cv (by decide +kernel : decode cX5_performMove 159 = .ok (.invokevirtual 219, 3)) mw_X5_219 rfl (by decide) wm_X8_numberIn wse_X8_numberIn (by decide) rfl
theorem o79_162 : Okp RX5 cX5_performMove 12 none "performMove" false 162 (sCV false 127 3 9 165) := ok_cv (by decide +kernel : decode cX5_performMove 162 = .ok (.invokevirtual 305, 3)) mw_X5_305 rfl (by decide) wm_X8_push wse_X8_push (by decide) rfl
theorem o79_165 : Okp RX5 cX5_performMove 12 none "performMove" false 165 (sGo 208) := ok_goto (by decide +kernel : decode cX5_performMove 165 = .ok (.goto 43, 3)) (by decide)
theorem o79_168 : Okp RX5 cX5_performMove 12 none "performMove" false 168 (sLR 1 169) := ok_aload_n (by decide +kernel : decode cX5_performMove 168 = .ok (.aload_n 1, 1)) rfl
theorem o79_169 : Okp RX5 cX5_performMove 12 none "performMove" false 169 (sCV false 128 1 9 172) := ok_cv (by decide +kernel : decode cX5_performMove 169 = .ok (.invokevirtual 277, 3)) mw_X5_277 rfl (by decide) wm_X8_pop wse_X8_pop (by decide) rfl
theorem o79_172 : Okp RX5 cX5_performMove 12 none "performMove" false 172 (sSI 8 174) := ok_istore (by decide +kernel : decode cX5_performMove 172 = .ok (.istore 8, 2)) (by decide) (by decide)
theorem o79_174 : Okp RX5 cX5_performMove 12 none "performMove" false 174 (sLR 1 175) := ok_aload_n (by decide +kernel : decode cX5_performMove 174 = .ok (.aload_n 1, 1)) rfl
theorem o79_175 : Okp RX5 cX5_performMove 12 none "performMove" false 175 (sGI 9 14 178) := ok_getI (by decide +kernel : decode cX5_performMove 175 = .ok (.getfield 311, 3)) fw_X5_311 rfl
theorem o79_178 : Okp RX5 cX5_performMove 12 none "performMove" false 178 (sSI 9 180) := ok_istore (by decide +kernel : decode cX5_performMove 178 = .ok (.istore 9, 2)) (by decide) (by decide)
theorem o79_180 : Okp RX5 cX5_performMove 12 none "performMove" false 180 (sLR 1 181) := ok_aload_n (by decide +kernel : decode cX5_performMove 180 = .ok (.aload_n 1, 1)) rfl
theorem o79_181 : Okp RX5 cX5_performMove 12 none "performMove" false 181 (sCV false 128 1 9 184) := ok_cv (by decide +kernel : decode cX5_performMove 181 = .ok (.invokevirtual 277, 3)) mw_X5_277 rfl (by decide) wm_X8_pop wse_X8_pop (by decide) rfl
theorem o79_184 : Okp RX5 cX5_performMove 12 none "performMove" false 184 (sSI 10 186) := ok_istore (by decide +kernel : decode cX5_performMove 184 = .ok (.istore 10, 2)) (by decide) (by decide)
theorem o79_186 : Okp RX5 cX5_performMove 12 none "performMove" false 186 (sLR 1 187) := ok_aload_n (by decide +kernel : decode cX5_performMove 186 = .ok (.aload_n 1, 1)) rfl
theorem o79_187 : Okp RX5 cX5_performMove 12 none "performMove" false 187 (sGI 9 14 190) := ok_getI (by decide +kernel : decode cX5_performMove 187 = .ok (.getfield 311, 3)) fw_X5_311 rfl
theorem o79_190 : Okp RX5 cX5_performMove 12 none "performMove" false 190 (sSI 11 192) := ok_istore (by decide +kernel : decode cX5_performMove 190 = .ok (.istore 11, 2)) (by decide) (by decide)
theorem o79_192 : Okp RX5 cX5_performMove 12 none "performMove" false 192 (sLR 1 193) := ok_aload_n (by decide +kernel : decode cX5_performMove 192 = .ok (.aload_n 1, 1)) rfl
theorem o79_193 : Okp RX5 cX5_performMove 12 none "performMove" false 193 (sLI 9 195) := ok_iload (by decide +kernel : decode cX5_performMove 193 = .ok (.iload 9, 2))
theorem o79_195 : Okp RX5 cX5_performMove 12 none "performMove" false 195 (sLI 8 197) := ok_iload (by decide +kernel : decode cX5_performMove 195 = .ok (.iload 8, 2))
theorem o79_197 : Okp RX5 cX5_performMove 12 none "performMove" false 197 (sCV false 127 3 9 200) := ok_cv (by decide +kernel : decode cX5_performMove 197 = .ok (.invokevirtual 305, 3)) mw_X5_305 rfl (by decide) wm_X8_push wse_X8_push (by decide) rfl
theorem o79_200 : Okp RX5 cX5_performMove 12 none "performMove" false 200 (sLR 1 201) := ok_aload_n (by decide +kernel : decode cX5_performMove 200 = .ok (.aload_n 1, 1)) rfl
theorem o79_201 : Okp RX5 cX5_performMove 12 none "performMove" false 201 (sLI 11 203) := ok_iload (by decide +kernel : decode cX5_performMove 201 = .ok (.iload 11, 2))
theorem o79_203 : Okp RX5 cX5_performMove 12 none "performMove" false 203 (sLI 10 205) := ok_iload (by decide +kernel : decode cX5_performMove 203 = .ok (.iload 10, 2))
theorem o79_205 : Okp RX5 cX5_performMove 12 none "performMove" false 205 (sCV false 127 3 9 208) := ok_cv (by decide +kernel : decode cX5_performMove 205 = .ok (.invokevirtual 305, 3)) mw_X5_305 rfl (by decide) wm_X8_push wse_X8_push (by decide) rfl
theorem o79_208 : Okp RX5 cX5_performMove 12 none "performMove" false 208 sRV := ok_vret rfl (by decide +kernel : decode cX5_performMove 208 = .ok (.return_, 1))
theorem oc79_0 : ∀ pc, Mnp (c79_0 pc) ∧ Okp RX5 cX5_performMove 12 none "performMove" false pc (c79_0 pc) := by
  intro pc
  unfold c79_0
  split
  · exact ⟨mn_sLR, o79_0⟩
  · exact ⟨mn_sCV, o79_1⟩
  · exact ⟨mn_sK, o79_4⟩
  · exact ⟨mn_sB2, o79_5⟩
  · exact ⟨mn_sSI, o79_6⟩
  · exact ⟨mn_sLI, o79_8⟩
  · exact ⟨mn_sSw, o79_9⟩
  · exact ⟨mn_sX, ok_X⟩
theorem oc79_2 : ∀ pc, Mnp (c79_2 pc) ∧ Okp RX5 cX5_performMove 12 none "performMove" false pc (c79_2 pc) := by
  intro pc
  unfold c79_2
  split
  · exact ⟨mn_sLR, o79_48⟩
  · exact ⟨mn_sK, o79_49⟩
  · exact ⟨mn_sLR, o79_50⟩
  · exact ⟨mn_sGR, o79_51⟩
  · exact ⟨mn_sLI, o79_54⟩
  · exact ⟨mn_sK, o79_56⟩
  · exact ⟨mn_sB2, o79_57⟩
  · exact ⟨mn_sCV, o79_58⟩
  · exact ⟨mn_sCV, o79_61⟩
  · exact ⟨mn_sGo, o79_64⟩
  · exact ⟨mn_sLR, o79_67⟩
  · exact ⟨mn_sK, o79_68⟩
  · exact ⟨mn_sK, o79_69⟩
  · exact ⟨mn_sCV, o79_70⟩
  · exact ⟨mn_sX, ok_X⟩
theorem oc79_3 : ∀ pc, Mnp (c79_3 pc) ∧ Okp RX5 cX5_performMove 12 none "performMove" false pc (c79_3 pc) := by
  intro pc
  unfold c79_3
  split
  · exact ⟨mn_sGo, o79_73⟩
  · exact ⟨mn_sK, o79_76⟩
  · exact ⟨mn_sLI, o79_78⟩
  · exact ⟨mn_sB2, o79_79⟩
  · exact ⟨mn_sSI, o79_80⟩
  · exact ⟨mn_sLR, o79_82⟩
  · exact ⟨mn_sLR, o79_83⟩
  · exact ⟨mn_sLI, o79_84⟩
  · exact ⟨mn_sCV, o79_86⟩
  · exact ⟨mn_sLR, o79_89⟩
  · exact ⟨mn_sLI, o79_90⟩
  · exact ⟨mn_sCV, o79_92⟩
  · exact ⟨mn_sCV, o79_95⟩
  · exact ⟨mn_sX, ok_X⟩
theorem oc79_4 : ∀ pc, Mnp (c79_4 pc) ∧ Okp RX5 cX5_performMove 12 none "performMove" false pc (c79_4 pc) := by
  intro pc
  unfold c79_4
  split
  · exact ⟨mn_sLR, o79_98⟩
  · exact ⟨mn_sLI, o79_99⟩
  · exact ⟨mn_sCV, o79_101⟩
  · exact ⟨mn_sCS, o79_104⟩
  · exact ⟨mn_sI1, o79_107⟩
  · exact ⟨mn_sLR, o79_110⟩
  · exact ⟨mn_sLI, o79_111⟩
  · exact ⟨mn_sK, o79_112⟩
  · exact ⟨mn_sK, o79_114⟩
  · exact ⟨mn_sCV, o79_115⟩
  · exact ⟨mn_sGo, o79_118⟩
  · exact ⟨mn_sX, ok_X⟩
theorem oc79_5 : ∀ pc, Mnp (c79_5 pc) ∧ Okp RX5 cX5_performMove 12 none "performMove" false pc (c79_5 pc) := by
  intro pc
  unfold c79_5
  split
  · exact ⟨mn_sLR, o79_121⟩
  · exact ⟨mn_sCV, o79_122⟩
  · exact ⟨mn_sSI, o79_125⟩
  · exact ⟨mn_sLR, o79_127⟩
  · exact ⟨mn_sLI, o79_128⟩
  · exact ⟨mn_sLR, o79_129⟩
  · exact ⟨mn_sGI, o79_130⟩
  · exact ⟨mn_sLI, o79_133⟩
  · exact ⟨mn_sCV, o79_135⟩
  · exact ⟨mn_sGo, o79_138⟩
  · exact ⟨mn_sLR, o79_141⟩
  · exact ⟨mn_sCV, o79_142⟩
  · exact ⟨mn_sX, ok_X⟩
theorem oc79_6 : ∀ pc, Mnp (c79_6 pc) ∧ Okp RX5 cX5_performMove 12 none "performMove" false pc (c79_6 pc) := by
  intro pc
  unfold c79_6
  split
  · exact ⟨mn_sPop, o79_145⟩
  · exact ⟨mn_sGo, o79_146⟩
  · exact ⟨mn_sLR, o79_149⟩
  · exact ⟨mn_sLR, o79_150⟩
  · exact ⟨mn_sLI, o79_151⟩
  · exact ⟨mn_sCV, o79_153⟩
  · exact ⟨mn_sLR, o79_156⟩
  · exact ⟨mn_sLI, o79_157⟩
  · exact ⟨mn_sCV, o79_159⟩
  · exact ⟨mn_sCV, o79_162⟩
  · exact ⟨mn_sGo, o79_165⟩
  · exact ⟨mn_sX, ok_X⟩
theorem oc79_7 : ∀ pc, Mnp (c79_7 pc) ∧ Okp RX5 cX5_performMove 12 none "performMove" false pc (c79_7 pc) := by
  intro pc
  unfold c79_7
  split
  · exact ⟨mn_sLR, o79_168⟩
  · exact ⟨mn_sCV, o79_169⟩
  · exact ⟨mn_sSI, o79_172⟩
  · exact ⟨mn_sLR, o79_174⟩
  · exact ⟨mn_sGI, o79_175⟩
  · exact ⟨mn_sSI, o79_178⟩
  · exact ⟨mn_sLR, o79_180⟩
  · exact ⟨mn_sCV, o79_181⟩
  · exact ⟨mn_sSI, o79_184⟩
  · exact ⟨mn_sLR, o79_186⟩
  · exact ⟨mn_sGI, o79_187⟩
  · exact ⟨mn_sSI, o79_190⟩
  · exact ⟨mn_sX, ok_X⟩
theorem oc79_8 : ∀ pc, Mnp (c79_8 pc) ∧ Okp RX5 cX5_performMove 12 none "performMove" false pc (c79_8 pc) := by
  intro pc
  unfold c79_8
  split
  · exact ⟨mn_sLR, o79_192⟩
  · exact ⟨mn_sLI, o79_193⟩
  · exact ⟨mn_sLI, o79_195⟩
  · exact ⟨mn_sCV, o79_197⟩
  · exact ⟨mn_sLR, o79_200⟩
  · exact ⟨mn_sLI, o79_201⟩
  · exact ⟨mn_sLI, o79_203⟩
  · exact ⟨mn_sCV, o79_205⟩
  · exact ⟨mn_sRV, o79_208⟩
  · exact ⟨mn_sX, ok_X⟩
theorem oc79 : ∀ pc, Mnp (c79 pc) ∧ Okp RX5 cX5_performMove 12 none "performMove" false pc (c79 pc) := by
  intro pc
  unfold c79
  split
  · exact oc79_0 pc
  · exact oc79_2 pc
  · exact oc79_3 pc
  · exact oc79_4 pc
  · exact oc79_5 pc
  · exact oc79_6 pc
  · exact oc79_7 pc
  · exact oc79_8 pc
  · exact ⟨mn_sX, ok_X⟩
theorem o80_0 : Okp RX5 cX5_performInts 5 (some .int) "performInts" false 0 (sLR 1 1) := ok_aload_n (by decide +kernel : decode cX5_performInts 0 = .ok (.aload_n 1, 1)) rfl
theorem o80_1 : Okp RX5 cX5_performInts 5 (some .int) "performInts" false 1 (sCV false 128 1 9 4) := ok_cv (by decide +kernel : decode cX5_performInts 1 = .ok (.invokevirtual 277, 3)) mw_X5_277 rfl (by decide) wm_X8_pop wse_X8_pop (by decide) rfl
theorem o80_4 : Okp RX5 cX5_performInts 5 (some .int) "performInts" false 4 (sSI 3 5) := ok_istore_n (by decide +kernel : decode cX5_performInts 4 = .ok (.istore_n 3, 1)) rfl (by decide) (by decide)
theorem o80_5 : Okp RX5 cX5_performInts 5 (some .int) "performInts" false 5 (sLR 1 6) := ok_aload_n (by decide +kernel : decode cX5_performInts 5 = .ok (.aload_n 1, 1)) rfl
theorem o80_6 : Okp RX5 cX5_performInts 5 (some .int) "performInts" false 6 (sCV false 128 1 9 9) := ok_cv (by decide +kernel : decode cX5_performInts 6 = .ok (.invokevirtual 277, 3)) mw_X5_277 rfl (by decide) wm_X8_pop wse_X8_pop (by decide) rfl
theorem o80_9 : Okp RX5 cX5_performInts 5 (some .int) "performInts" false 9 (sSI 4 11) := ok_istore (by decide +kernel : decode cX5_performInts 9 = .ok (.istore 4, 2)) (by decide) (by decide)
theorem o80_11 : Okp RX5 cX5_performInts 5 (some .int) "performInts" false 11 (sLI 2 12) := ok_iload_n (by decide +kernel : decode cX5_performInts 11 = .ok (.iload_n 2, 1)) rfl
theorem o80_12 : Okp RX5 cX5_performInts 5 (some .int) "performInts" false 12 (sK 10 14) := ok_bipush (by decide +kernel : decode cX5_performInts 12 = .ok (.bipush 10, 2)) (by decide)
theorem o80_14 : Okp RX5 cX5_performInts 5 (some .int) "performInts" false 14 (sI2 0 23 17) := ok_icmp_eq (by decide +kernel : decode cX5_performInts 14 = .ok (.if_icmp .eq 9, 3)) (by decide)
theorem o80_17 : Okp RX5 cX5_performInts 5 (some .int) "performInts" false 17 (sLI 2 18) := ok_iload_n (by decide +kernel : decode cX5_performInts 17 = .ok (.iload_n 2, 1)) rfl
theorem o80_18 : Okp RX5 cX5_performInts 5 (some .int) "performInts" false 18 (sK 11 20) := ok_bipush (by decide +kernel : decode cX5_performInts 18 = .ok (.bipush 11, 2)) (by decide)
theorem o80_20 : Okp RX5 cX5_performInts 5 (some .int) "performInts" false 20 (sI2 1 29 23) := ok_icmp_ne (by decide +kernel : decode cX5_performInts 20 = .ok (.if_icmp .ne 9, 3)) (by decide)
theorem o80_23 : Okp RX5 cX5_performInts 5 (some .int) "performInts" false 23 (sLI 3 24) := ok_iload_n (by decide +kernel : decode cX5_performInts 23 = .ok (.iload_n 3, 1)) rfl
theorem o80_24 : Okp RX5 cX5_performInts 5 (some .int) "performInts" false 24 (sI1 1 29 27) := ok_if_ne (by decide +kernel : decode cX5_performInts 24 = .ok (.ifCond .ne 5, 3)) (by decide)
theorem o80_27 : Okp RX5 cX5_performInts 5 (some .int) "performInts" false 27 (sK 3 28) := ok_iconst (by decide +kernel : decode cX5_performInts 27 = .ok (.iconst 3, 1)) (by decide)
theorem o80_28 : Okp RX5 cX5_performInts 5 (some .int) "performInts" false 28 sRI := ok_iret rfl (by decide +kernel : decode cX5_performInts 28 = .ok (.ireturn, 1))
theorem o80_29 : Okp RX5 cX5_performInts 5 (some .int) "performInts" false 29 (sLR 1 30) := ok_aload_n (by decide +kernel : decode cX5_performInts 29 = .ok (.aload_n 1, 1)) rfl
theorem o80_30 : Okp RX5 cX5_performInts 5 (some .int) "performInts" false 30 (sK 0 31) := ok_iconst (by decide +kernel : decode cX5_performInts 30 = .ok (.iconst 0, 1)) (by decide)
theorem o80_31 : Okp RX5 cX5_performInts 5 (some .int) "performInts" false 31 (sLI 2 32) := ok_iload_n (by decide +kernel : decode cX5_performInts 31 = .ok (.iload_n 2, 1)) rfl
theorem o80_32 : Okp RX5 cX5_performInts 5 (some .int) "performInts" false 32 (sLI 4 34) := ok_iload (by decide +kernel : decode cX5_performInts 32 = .ok (.iload 4, 2))
theorem o80_34 : Okp RX5 cX5_performInts 5 (some .int) "performInts" false 34 (sLI 3 35) := ok_iload_n (by decide +kernel : decode cX5_performInts 34 = .ok (.iload_n 3, 1)) rfl
theorem o80_35 : Okp RX5 cX5_performInts 5 (some .int) "performInts" false 35 (sCS false 81 3 38) := ok_cs (by decide +kernel : decode cX5_performInts 35 = .ok (.invokestatic 314, 3)) mw_X5_314 wt_X5_reckon (by decide) rfl
theorem o80_38 : Okp RX5 cX5_performInts 5 (some .int) "performInts" false 38 (sCV false 127 3 9 41) := ok_cv (by decide +kernel : decode cX5_performInts 38 = .ok (.invokevirtual 305, 3)) mw_X5_305 rfl (by decide) wm_X8_push wse_X8_push (by decide) rfl
theorem o80_41 : Okp RX5 cX5_performInts 5 (some .int) "performInts" false 41 (sK 0 42) := ok_iconst (by decide +kernel : decode cX5_performInts 41 = .ok (.iconst 0, 1)) (by decide)
theorem o80_42 : Okp RX5 cX5_performInts 5 (some .int) "performInts" false 42 sRI := ok_iret rfl (by decide +kernel : decode cX5_performInts 42 = .ok (.ireturn, 1))
theorem oc80_0 : ∀ pc, Mnp (c80_0 pc) ∧ Okp RX5 cX5_performInts 5 (some .int) "performInts" false pc (c80_0 pc) := by
  intro pc
  unfold c80_0
  split
  · exact ⟨mn_sLR, o80_0⟩
  · exact ⟨mn_sCV, o80_1⟩
  · exact ⟨mn_sSI, o80_4⟩
  · exact ⟨mn_sLR, o80_5⟩
  · exact ⟨mn_sCV, o80_6⟩
  · exact ⟨mn_sSI, o80_9⟩
  · exact ⟨mn_sLI, o80_11⟩
  · exact ⟨mn_sK, o80_12⟩
  · exact ⟨mn_sI2, o80_14⟩
  · exact ⟨mn_sLI, o80_17⟩
  · exact ⟨mn_sK, o80_18⟩
  · exact ⟨mn_sI2, o80_20⟩
  · exact ⟨mn_sLI, o80_23⟩
  · exact ⟨mn_sX, ok_X⟩
theorem oc80_1 : ∀ pc, Mnp (c80_1 pc) ∧ Okp RX5 cX5_performInts 5 (some .int) "performInts" false pc (c80_1 pc) := by
  intro pc
  unfold c80_1
  split
  · exact ⟨mn_sI1, o80_24⟩
  · exact ⟨mn_sK, o80_27⟩
  · exact ⟨mn_sRI, o80_28⟩
  · exact ⟨mn_sLR, o80_29⟩
  · exact ⟨mn_sK, o80_30⟩
  · exact ⟨mn_sLI, o80_31⟩
  · exact ⟨mn_sLI, o80_32⟩
  · exact ⟨mn_sLI, o80_34⟩
  · exact ⟨mn_sCS, o80_35⟩
  · exact ⟨mn_sCV, o80_38⟩
  · exact ⟨mn_sK, o80_41⟩
  · exact ⟨mn_sRI, o80_42⟩
  · exact ⟨mn_sX, ok_X⟩
theorem oc80 : ∀ pc, Mnp (c80 pc) ∧ Okp RX5 cX5_performInts 5 (some .int) "performInts" false pc (c80 pc) := by
  intro pc
  unfold c80
  split
  · exact oc80_0 pc
  · exact oc80_1 pc
  · exact ⟨mn_sX, ok_X⟩
theorem o81_0 : Okp RX5 cX5_reckon 3 (some .int) "reckon" false 0 (sLI 0 1) := ok_iload_n (by decide +kernel : decode cX5_reckon 0 = .ok (.iload_n 0, 1)) rfl
theorem o81_1 : Okp RX5 cX5_reckon 3 (some .int) "reckon" false 1 (sSw [(7, 60), (8, 64), (9, 68), (10, 72), (11, 84), (12, 96), (13, 100), (14, 104), (15, 108), (16, 115), (17, 122)] 133) := ok_tsw (by decide +kernel : decode cX5_reckon 1 = .ok (.tableswitch 132 7 17 #[59, 63, 67, 71, 83, 95, 99, 103, 107, 114, 121], 59)) (by decide) (by decide) (by decide)
theorem o81_60 : Okp RX5 cX5_reckon 3 (some .int) "reckon" false 60 (sLI 1 61) := ok_iload_n (by decide +kernel : decode cX5_reckon 60 = .ok (.iload_n 1, 1)) rfl
theorem o81_61 : Okp RX5 cX5_reckon 3 (some .int) "reckon" false 61 (sLI 2 62) := ok_iload_n (by decide +kernel : decode cX5_reckon 61 = .ok (.iload_n 2, 1)) rfl
theorem o81_62 : Okp RX5 cX5_reckon 3 (some .int) "reckon" false 62 (sB2 fAdd 63) := ok_iadd (by decide +kernel : decode cX5_reckon 62 = .ok (.iadd, 1))
theorem o81_63 : Okp RX5 cX5_reckon 3 (some .int) "reckon" false 63 sRI := ok_iret rfl (by decide +kernel : decode cX5_reckon 63 = .ok (.ireturn, 1))
theorem o81_64 : Okp RX5 cX5_reckon 3 (some .int) "reckon" false 64 (sLI 1 65) := ok_iload_n (by decide +kernel : decode cX5_reckon 64 = .ok (.iload_n 1, 1)) rfl
theorem o81_65 : Okp RX5 cX5_reckon 3 (some .int) "reckon" false 65 (sLI 2 66) := ok_iload_n (by decide +kernel : decode cX5_reckon 65 = .ok (.iload_n 2, 1)) rfl
theorem o81_66 : Okp RX5 cX5_reckon 3 (some .int) "reckon" false 66 (sB2 fSub 67) := ok_isub (by decide +kernel : decode cX5_reckon 66 = .ok (.isub, 1))
theorem o81_67 : Okp RX5 cX5_reckon 3 (some .int) "reckon" false 67 sRI := ok_iret rfl (by decide +kernel : decode cX5_reckon 67 = .ok (.ireturn, 1))
theorem o81_68 : Okp RX5 cX5_reckon 3 (some .int) "reckon" false 68 (sLI 1 69) := ok_iload_n (by decide +kernel : decode cX5_reckon 68 = .ok (.iload_n 1, 1)) rfl
theorem o81_69 : Okp RX5 cX5_reckon 3 (some .int) "reckon" false 69 (sLI 2 70) := ok_iload_n (by decide +kernel : decode cX5_reckon 69 = .ok (.iload_n 2, 1)) rfl
theorem o81_70 : Okp RX5 cX5_reckon 3 (some .int) "reckon" false 70 (sB2 fMul 71) := ok_imul (by decide +kernel : decode cX5_reckon 70 = .ok (.imul, 1))
theorem o81_71 : Okp RX5 cX5_reckon 3 (some .int) "reckon" false 71 sRI := ok_iret rfl (by decide +kernel : decode cX5_reckon 71 = .ok (.ireturn, 1))
theorem o81_72 : Okp RX5 cX5_reckon 3 (some .int) "reckon" false 72 (sLI 2 73) := ok_iload_n (by decide +kernel : decode cX5_reckon 72 = .ok (.iload_n 2, 1)) rfl
theorem o81_73 : Okp RX5 cX5_reckon 3 (some .int) "reckon" false 73 (sI1 1 80 76) := ok_if_ne (by decide +kernel : decode cX5_reckon 73 = .ok (.ifCond .ne 7, 3)) (by decide)
theorem o81_76 : Okp RX5 cX5_reckon 3 (some .int) "reckon" false 76 (sK 0 77) := ok_iconst (by decide +kernel : decode cX5_reckon 76 = .ok (.iconst 0, 1)) (by decide)
theorem o81_77 : Okp RX5 cX5_reckon 3 (some .int) "reckon" false 77 (sGo 83) := ok_goto (by decide +kernel : decode cX5_reckon 77 = .ok (.goto 6, 3)) (by decide)
theorem o81_80 : Okp RX5 cX5_reckon 3 (some .int) "reckon" false 80 (sLI 1 81) := ok_iload_n (by decide +kernel : decode cX5_reckon 80 = .ok (.iload_n 1, 1)) rfl
theorem o81_81 : Okp RX5 cX5_reckon 3 (some .int) "reckon" false 81 (sLI 2 82) := ok_iload_n (by decide +kernel : decode cX5_reckon 81 = .ok (.iload_n 2, 1)) rfl
theorem o81_82 : Okp RX5 cX5_reckon 3 (some .int) "reckon" false 82 (sD2 fDiv 83) := ok_idiv (by decide +kernel : decode cX5_reckon 82 = .ok (.idiv, 1))
theorem o81_83 : Okp RX5 cX5_reckon 3 (some .int) "reckon" false 83 sRI := ok_iret rfl (by decide +kernel : decode cX5_reckon 83 = .ok (.ireturn, 1))
theorem o81_84 : Okp RX5 cX5_reckon 3 (some .int) "reckon" false 84 (sLI 2 85) := ok_iload_n (by decide +kernel : decode cX5_reckon 84 = .ok (.iload_n 2, 1)) rfl
theorem o81_85 : Okp RX5 cX5_reckon 3 (some .int) "reckon" false 85 (sI1 1 92 88) := ok_if_ne (by decide +kernel : decode cX5_reckon 85 = .ok (.ifCond .ne 7, 3)) (by decide)
theorem o81_88 : Okp RX5 cX5_reckon 3 (some .int) "reckon" false 88 (sK 0 89) := ok_iconst (by decide +kernel : decode cX5_reckon 88 = .ok (.iconst 0, 1)) (by decide)
theorem o81_89 : Okp RX5 cX5_reckon 3 (some .int) "reckon" false 89 (sGo 95) := ok_goto (by decide +kernel : decode cX5_reckon 89 = .ok (.goto 6, 3)) (by decide)
theorem o81_92 : Okp RX5 cX5_reckon 3 (some .int) "reckon" false 92 (sLI 1 93) := ok_iload_n (by decide +kernel : decode cX5_reckon 92 = .ok (.iload_n 1, 1)) rfl
theorem o81_93 : Okp RX5 cX5_reckon 3 (some .int) "reckon" false 93 (sLI 2 94) := ok_iload_n (by decide +kernel : decode cX5_reckon 93 = .ok (.iload_n 2, 1)) rfl
theorem o81_94 : Okp RX5 cX5_reckon 3 (some .int) "reckon" false 94 (sD2 fRem 95) := ok_irem (by decide +kernel : decode cX5_reckon 94 = .ok (.irem, 1))
theorem o81_95 : Okp RX5 cX5_reckon 3 (some .int) "reckon" false 95 sRI := ok_iret rfl (by decide +kernel : decode cX5_reckon 95 = .ok (.ireturn, 1))
theorem o81_96 : Okp RX5 cX5_reckon 3 (some .int) "reckon" false 96 (sLI 1 97) := ok_iload_n (by decide +kernel : decode cX5_reckon 96 = .ok (.iload_n 1, 1)) rfl
theorem o81_97 : Okp RX5 cX5_reckon 3 (some .int) "reckon" false 97 (sLI 2 98) := ok_iload_n (by decide +kernel : decode cX5_reckon 97 = .ok (.iload_n 2, 1)) rfl
theorem o81_98 : Okp RX5 cX5_reckon 3 (some .int) "reckon" false 98 (sB2 fAnd 99) := ok_iand (by decide +kernel : decode cX5_reckon 98 = .ok (.iand, 1))
theorem o81_99 : Okp RX5 cX5_reckon 3 (some .int) "reckon" false 99 sRI := ok_iret rfl (by decide +kernel : decode cX5_reckon 99 = .ok (.ireturn, 1))
theorem o81_100 : Okp RX5 cX5_reckon 3 (some .int) "reckon" false 100 (sLI 1 101) := ok_iload_n (by decide +kernel : decode cX5_reckon 100 = .ok (.iload_n 1, 1)) rfl
theorem o81_101 : Okp RX5 cX5_reckon 3 (some .int) "reckon" false 101 (sLI 2 102) := ok_iload_n (by decide +kernel : decode cX5_reckon 101 = .ok (.iload_n 2, 1)) rfl
theorem o81_102 : Okp RX5 cX5_reckon 3 (some .int) "reckon" false 102 (sB2 fOr 103) := ok_ior (by decide +kernel : decode cX5_reckon 102 = .ok (.ior, 1))
theorem o81_103 : Okp RX5 cX5_reckon 3 (some .int) "reckon" false 103 sRI := ok_iret rfl (by decide +kernel : decode cX5_reckon 103 = .ok (.ireturn, 1))
theorem o81_104 : Okp RX5 cX5_reckon 3 (some .int) "reckon" false 104 (sLI 1 105) := ok_iload_n (by decide +kernel : decode cX5_reckon 104 = .ok (.iload_n 1, 1)) rfl
theorem o81_105 : Okp RX5 cX5_reckon 3 (some .int) "reckon" false 105 (sLI 2 106) := ok_iload_n (by decide +kernel : decode cX5_reckon 105 = .ok (.iload_n 2, 1)) rfl
theorem o81_106 : Okp RX5 cX5_reckon 3 (some .int) "reckon" false 106 (sB2 fXor 107) := ok_ixor (by decide +kernel : decode cX5_reckon 106 = .ok (.ixor, 1))
theorem o81_107 : Okp RX5 cX5_reckon 3 (some .int) "reckon" false 107 sRI := ok_iret rfl (by decide +kernel : decode cX5_reckon 107 = .ok (.ireturn, 1))
theorem o81_108 : Okp RX5 cX5_reckon 3 (some .int) "reckon" false 108 (sLI 1 109) := ok_iload_n (by decide +kernel : decode cX5_reckon 108 = .ok (.iload_n 1, 1)) rfl
theorem o81_109 : Okp RX5 cX5_reckon 3 (some .int) "reckon" false 109 (sLI 2 110) := ok_iload_n (by decide +kernel : decode cX5_reckon 109 = .ok (.iload_n 2, 1)) rfl
theorem o81_110 : Okp RX5 cX5_reckon 3 (some .int) "reckon" false 110 (sK 31 112) := ok_bipush (by decide +kernel : decode cX5_reckon 110 = .ok (.bipush 31, 2)) (by decide)
theorem o81_112 : Okp RX5 cX5_reckon 3 (some .int) "reckon" false 112 (sB2 fAnd 113) := ok_iand (by decide +kernel : decode cX5_reckon 112 = .ok (.iand, 1))
theorem o81_113 : Okp RX5 cX5_reckon 3 (some .int) "reckon" false 113 (sB2 fShl 114) := ok_ishl (by decide +kernel : decode cX5_reckon 113 = .ok (.ishl, 1))
theorem o81_114 : Okp RX5 cX5_reckon 3 (some .int) "reckon" false 114 sRI := ok_iret rfl (by decide +kernel : decode cX5_reckon 114 = .ok (.ireturn, 1))
theorem o81_115 : Okp RX5 cX5_reckon 3 (some .int) "reckon" false 115 (sLI 1 116) := ok_iload_n (by decide +kernel : decode cX5_reckon 115 = .ok (.iload_n 1, 1)) rfl
theorem o81_116 : Okp RX5 cX5_reckon 3 (some .int) "reckon" false 116 (sLI 2 117) := ok_iload_n (by decide +kernel : decode cX5_reckon 116 = .ok (.iload_n 2, 1)) rfl
theorem o81_117 : Okp RX5 cX5_reckon 3 (some .int) "reckon" false 117 (sK 31 119) := ok_bipush (by decide +kernel : decode cX5_reckon 117 = .ok (.bipush 31, 2)) (by decide)
theorem o81_119 : Okp RX5 cX5_reckon 3 (some .int) "reckon" false 119 (sB2 fAnd 120) := ok_iand (by decide +kernel : decode cX5_reckon 119 = .ok (.iand, 1))
theorem o81_120 : Okp RX5 cX5_reckon 3 (some .int) "reckon" false 120 (sB2 fShr 121) := ok_ishr (by decide +kernel : decode cX5_reckon 120 = .ok (.ishr, 1))
theorem o81_121 : Okp RX5 cX5_reckon 3 (some .int) "reckon" false 121 sRI := ok_iret rfl (by decide +kernel : decode cX5_reckon 121 = .ok (.ireturn, 1))
theorem o81_122 : Okp RX5 cX5_reckon 3 (some .int) "reckon" false 122 (sLI 1 123) := ok_iload_n (by decide +kernel : decode cX5_reckon 122 = .ok (.iload_n 1, 1)) rfl
theorem o81_123 : Okp RX5 cX5_reckon 3 (some .int) "reckon" false 123 (sLI 2 124) := ok_iload_n (by decide +kernel : decode cX5_reckon 123 = .ok (.iload_n 2, 1)) rfl
theorem o81_124 : Okp RX5 cX5_reckon 3 (some .int) "reckon" false 124 (sI2 3 131 127) := ok_icmp_ge (by decide +kernel : decode cX5_reckon 124 = .ok (.if_icmp .ge 7, 3)) (by decide)
theorem o81_127 : Okp RX5 cX5_reckon 3 (some .int) "reckon" false 127 (sK 1 128) := ok_iconst (by decide +kernel : decode cX5_reckon 127 = .ok (.iconst 1, 1)) (by decide)
theorem o81_128 : Okp RX5 cX5_reckon 3 (some .int) "reckon" false 128 (sGo 132) := ok_goto (by decide +kernel : decode cX5_reckon 128 = .ok (.goto 4, 3)) (by decide)
theorem o81_131 : Okp RX5 cX5_reckon 3 (some .int) "reckon" false 131 (sK 0 132) := ok_iconst (by decide +kernel : decode cX5_reckon 131 = .ok (.iconst 0, 1)) (by decide)
theorem o81_132 : Okp RX5 cX5_reckon 3 (some .int) "reckon" false 132 sRI := ok_iret rfl (by decide +kernel : decode cX5_reckon 132 = .ok (.ireturn, 1))
theorem o81_133 : Okp RX5 cX5_reckon 3 (some .int) "reckon" false 133 (sLI 1 134) := ok_iload_n (by decide +kernel : decode cX5_reckon 133 = .ok (.iload_n 1, 1)) rfl
theorem o81_134 : Okp RX5 cX5_reckon 3 (some .int) "reckon" false 134 (sLI 2 135) := ok_iload_n (by decide +kernel : decode cX5_reckon 134 = .ok (.iload_n 2, 1)) rfl
theorem o81_135 : Okp RX5 cX5_reckon 3 (some .int) "reckon" false 135 (sI2 1 142 138) := ok_icmp_ne (by decide +kernel : decode cX5_reckon 135 = .ok (.if_icmp .ne 7, 3)) (by decide)
theorem o81_138 : Okp RX5 cX5_reckon 3 (some .int) "reckon" false 138 (sK 1 139) := ok_iconst (by decide +kernel : decode cX5_reckon 138 = .ok (.iconst 1, 1)) (by decide)
theorem o81_139 : Okp RX5 cX5_reckon 3 (some .int) "reckon" false 139 (sGo 143) := ok_goto (by decide +kernel : decode cX5_reckon 139 = .ok (.goto 4, 3)) (by decide)
theorem o81_142 : Okp RX5 cX5_reckon 3 (some .int) "reckon" false 142 (sK 0 143) := ok_iconst (by decide +kernel : decode cX5_reckon 142 = .ok (.iconst 0, 1)) (by decide)
theorem o81_143 : Okp RX5 cX5_reckon 3 (some .int) "reckon" false 143 sRI := ok_iret rfl (by decide +kernel : decode cX5_reckon 143 = .ok (.ireturn, 1))
theorem oc81_0 : ∀ pc, Mnp (c81_0 pc) ∧ Okp RX5 cX5_reckon 3 (some .int) "reckon" false pc (c81_0 pc) := by
  intro pc
  unfold c81_0
  split
  · exact ⟨mn_sLI, o81_0⟩
  · exact ⟨mn_sSw, o81_1⟩
  · exact ⟨mn_sX, ok_X⟩
theorem oc81_2 : ∀ pc, Mnp (c81_2 pc) ∧ Okp RX5 cX5_reckon 3 (some .int) "reckon" false pc (c81_2 pc) := by
  intro pc
  unfold c81_2
  split
  · exact ⟨mn_sLI, o81_60⟩
  · exact ⟨mn_sLI, o81_61⟩
  · exact ⟨mn_sB2, o81_62⟩
  · exact ⟨mn_sRI, o81_63⟩
  · exact ⟨mn_sLI, o81_64⟩
  · exact ⟨mn_sLI, o81_65⟩
  · exact ⟨mn_sB2, o81_66⟩
  · exact ⟨mn_sRI, o81_67⟩
  · exact ⟨mn_sLI, o81_68⟩
  · exact ⟨mn_sLI, o81_69⟩
  · exact ⟨mn_sB2, o81_70⟩
  · exact ⟨mn_sRI, o81_71⟩
  · exact ⟨mn_sX, ok_X⟩
theorem oc81_3 : ∀ pc, Mnp (c81_3 pc) ∧ Okp RX5 cX5_reckon 3 (some .int) "reckon" false pc (c81_3 pc) := by
  intro pc
  unfold c81_3
  split
  · exact ⟨mn_sLI, o81_72⟩
  · exact ⟨mn_sI1, o81_73⟩
  · exact ⟨mn_sK, o81_76⟩
  · exact ⟨mn_sGo, o81_77⟩
  · exact ⟨mn_sLI, o81_80⟩
  · exact ⟨mn_sLI, o81_81⟩
  · exact ⟨mn_sD2, o81_82⟩
  · exact ⟨mn_sRI, o81_83⟩
  · exact ⟨mn_sLI, o81_84⟩
  · exact ⟨mn_sI1, o81_85⟩
  · exact ⟨mn_sK, o81_88⟩
  · exact ⟨mn_sGo, o81_89⟩
  · exact ⟨mn_sLI, o81_92⟩
  · exact ⟨mn_sLI, o81_93⟩
  · exact ⟨mn_sD2, o81_94⟩
  · exact ⟨mn_sRI, o81_95⟩
  · exact ⟨mn_sX, ok_X⟩
theorem oc81_4 : ∀ pc, Mnp (c81_4 pc) ∧ Okp RX5 cX5_reckon 3 (some .int) "reckon" false pc (c81_4 pc) := by
  intro pc
  unfold c81_4
  split
  · exact ⟨mn_sLI, o81_96⟩
  · exact ⟨mn_sLI, o81_97⟩
  · exact ⟨mn_sB2, o81_98⟩
  · exact ⟨mn_sRI, o81_99⟩
  · exact ⟨mn_sLI, o81_100⟩
  · exact ⟨mn_sLI, o81_101⟩
  · exact ⟨mn_sB2, o81_102⟩
  · exact ⟨mn_sRI, o81_103⟩
  · exact ⟨mn_sLI, o81_104⟩
  · exact ⟨mn_sLI, o81_105⟩
  · exact ⟨mn_sB2, o81_106⟩
  · exact ⟨mn_sRI, o81_107⟩
  · exact ⟨mn_sLI, o81_108⟩
  · exact ⟨mn_sLI, o81_109⟩
  · exact ⟨mn_sK, o81_110⟩
  · exact ⟨mn_sB2, o81_112⟩
  · exact ⟨mn_sB2, o81_113⟩
  · exact ⟨mn_sRI, o81_114⟩
  · exact ⟨mn_sLI, o81_115⟩
  · exact ⟨mn_sLI, o81_116⟩
  · exact ⟨mn_sK, o81_117⟩
  · exact ⟨mn_sB2, o81_119⟩
  · exact ⟨mn_sX, ok_X⟩
theorem oc81_5 : ∀ pc, Mnp (c81_5 pc) ∧ Okp RX5 cX5_reckon 3 (some .int) "reckon" false pc (c81_5 pc) := by
  intro pc
  unfold c81_5
  split
  · exact ⟨mn_sB2, o81_120⟩
  · exact ⟨mn_sRI, o81_121⟩
  · exact ⟨mn_sLI, o81_122⟩
  · exact ⟨mn_sLI, o81_123⟩
  · exact ⟨mn_sI2, o81_124⟩
  · exact ⟨mn_sK, o81_127⟩
  · exact ⟨mn_sGo, o81_128⟩
  · exact ⟨mn_sK, o81_131⟩
  · exact ⟨mn_sRI, o81_132⟩
  · exact ⟨mn_sLI, o81_133⟩
  · exact ⟨mn_sLI, o81_134⟩
  · exact ⟨mn_sI2, o81_135⟩
  · exact ⟨mn_sK, o81_138⟩
  · exact ⟨mn_sGo, o81_139⟩
  · exact ⟨mn_sK, o81_142⟩
  · exact ⟨mn_sRI, o81_143⟩
  · exact ⟨mn_sX, ok_X⟩
theorem oc81 : ∀ pc, Mnp (c81 pc) ∧ Okp RX5 cX5_reckon 3 (some .int) "reckon" false pc (c81 pc) := by
  intro pc
  unfold c81
  split
  · exact oc81_0 pc
  · exact oc81_2 pc
  · exact oc81_3 pc
  · exact oc81_4 pc
  · exact oc81_5 pc
  · exact ⟨mn_sX, ok_X⟩
theorem o82_0 : Okp RX5 cX5_performFlow 4 (some .int) "performFlow" false 0 (sLI 2 1) := ok_iload_n (by decide +kernel : decode cX5_performFlow 0 = .ok (.iload_n 2, 1)) rfl
theorem o82_1 : Okp RX5 cX5_performFlow 4 (some .int) "performFlow" false 1 (sSw [(19, 116), (20, 135), (21, 142), (22, 190), (23, 190), (24, 190), (25, 190), (26, 190), (27, 190), (28, 190), (29, 190), (30, 190), (31, 156), (32, 190), (33, 190), (34, 190), (35, 190), (36, 162), (37, 190), (38, 190), (39, 169), (40, 190), (41, 190), (42, 182), (43, 184)] 190) := ok_tsw (by decide +kernel : decode cX5_performFlow 1 = .ok (.tableswitch 189 19 43 #[115, 134, 141, 189, 189, 189, 189, 189, 189, 189, 189, 189, 155, 189, 189, 189, 189, 161, 189, 189, 168, 189, 189, 181, 183], 115)) (by decide) (by decide) (by decide)
theorem o82_116 : Okp RX5 cX5_performFlow 4 (some .int) "performFlow" false 116 (sLR 1 117) := ok_aload_n (by decide +kernel : decode cX5_performFlow 116 = .ok (.aload_n 1, 1)) rfl
theorem o82_117 : Okp RX5 cX5_performFlow 4 (some .int) "performFlow" false 117 (sK 0 118) := ok_iconst (by decide +kernel : decode cX5_performFlow 117 = .ok (.iconst 0, 1)) (by decide)
theorem o82_118 : Okp RX5 cX5_performFlow 4 (some .int) "performFlow" false 118 (sLR 1 119) := ok_aload_n (by decide +kernel : decode cX5_performFlow 118 = .ok (.aload_n 1, 1)) rfl
theorem o82_119 : Okp RX5 cX5_performFlow 4 (some .int) "performFlow" false 119 (sCV false 128 1 9 122) := ok_cv (by decide +kernel : decode cX5_performFlow 119 = .ok (.invokevirtual 277, 3)) mw_X5_277 rfl (by decide) wm_X8_pop wse_X8_pop (by decide) rfl
theorem o82_122 : Okp RX5 cX5_performFlow 4 (some .int) "performFlow" false 122 (sI1 1 129 125) := ok_if_ne (by decide +kernel : decode cX5_performFlow 122 = .ok (.ifCond .ne 7, 3)) (by decide)
theorem o82_125 : Okp RX5 cX5_performFlow 4 (some .int) "performFlow" false 125 (sK 1 126) := ok_iconst (by decide +kernel : decode cX5_performFlow 125 = .ok (.iconst 1, 1)) (by decide)
theorem o82_126 : Okp RX5 cX5_performFlow 4 (some .int) "performFlow" false 126 (sGo 130) := ok_goto (by decide +kernel : decode cX5_performFlow 126 = .ok (.goto 4, 3)) (by decide)
theorem o82_129 : Okp RX5 cX5_performFlow 4 (some .int) "performFlow" false 129 (sK 0 130) := ok_iconst (by decide +kernel : decode cX5_performFlow 129 = .ok (.iconst 0, 1)) (by decide)
theorem o82_130 : Okp RX5 cX5_performFlow 4 (some .int) "performFlow" false 130 (sCV false 127 3 9 133) := ok_cv (by decide +kernel : decode cX5_performFlow 130 = .ok (.invokevirtual 305, 3)) mw_X5_305 rfl (by decide) wm_X8_push wse_X8_push (by decide) rfl
theorem o82_133 : Okp RX5 cX5_performFlow 4 (some .int) "performFlow" false 133 (sK 0 134) := ok_iconst (by decide +kernel : decode cX5_performFlow 133 = .ok (.iconst 0, 1)) (by decide)
theorem o82_134 : Okp RX5 cX5_performFlow 4 (some .int) "performFlow" false 134 sRI := ok_iret rfl (by decide +kernel : decode cX5_performFlow 134 = .ok (.ireturn, 1))
theorem o82_135 : Okp RX5 cX5_performFlow 4 (some .int) "performFlow" false 135 (sLR 1 136) := ok_aload_n (by decide +kernel : decode cX5_performFlow 135 = .ok (.aload_n 1, 1)) rfl
theorem o82_136 : Okp RX5 cX5_performFlow 4 (some .int) "performFlow" false 136 (sLI 3 137) := ok_iload_n (by decide +kernel : decode cX5_performFlow 136 = .ok (.iload_n 3, 1)) rfl
theorem o82_137 : Okp RX5 cX5_performFlow 4 (some .int) "performFlow" false 137 (sCV false 124 2 9 140) := ok_cv (by decide +kernel : decode cX5_performFlow 137 = .ok (.invokevirtual 237, 3)) mw_X5_237 rfl (by decide) wm_X8_goTo wse_X8_goTo (by decide) rfl
theorem o82_140 : Okp RX5 cX5_performFlow 4 (some .int) "performFlow" false 140 (sK 0 141) := ok_iconst (by decide +kernel : decode cX5_performFlow 140 = .ok (.iconst 0, 1)) (by decide)
theorem o82_141 : Okp RX5 cX5_performFlow 4 (some .int) "performFlow" false 141 sRI := ok_iret rfl (by decide +kernel : decode cX5_performFlow 141 = .ok (.ireturn, 1))
theorem o82_142 : Okp RX5 cX5_performFlow 4 (some .int) "performFlow" false 142 (sLR 1 143) := ok_aload_n (by decide +kernel : decode cX5_performFlow 142 = .ok (.aload_n 1, 1)) rfl
theorem o82_143 : Okp RX5 cX5_performFlow 4 (some .int) "performFlow" false 143 (sCV false 128 1 9 146) := ok_cv (by decide +kernel : decode cX5_performFlow 143 = .ok (.invokevirtual 277, 3)) mw_X5_277 rfl (by decide) wm_X8_pop wse_X8_pop (by decide) rfl
theorem o82_146 : Okp RX5 cX5_performFlow 4 (some .int) "performFlow" false 146 (sI1 1 154 149) := ok_if_ne (by decide +kernel : decode cX5_performFlow 146 = .ok (.ifCond .ne 8, 3)) (by decide)
theorem o82_149 : Okp RX5 cX5_performFlow 4 (some .int) "performFlow" false 149 (sLR 1 150) := ok_aload_n (by decide +kernel : decode cX5_performFlow 149 = .ok (.aload_n 1, 1)) rfl
theorem o82_150 : Okp RX5 cX5_performFlow 4 (some .int) "performFlow" false 150 (sLI 3 151) := ok_iload_n (by decide +kernel : decode cX5_performFlow 150 = .ok (.iload_n 3, 1)) rfl
theorem o82_151 : Okp RX5 cX5_performFlow 4 (some .int) "performFlow" false 151 (sCV false 124 2 9 154) := ok_cv (by decide +kernel : decode cX5_performFlow 151 = .ok (.invokevirtual 237, 3)) mw_X5_237 rfl (by decide) wm_X8_goTo wse_X8_goTo (by decide) rfl
theorem o82_154 : Okp RX5 cX5_performFlow 4 (some .int) "performFlow" false 154 (sK 0 155) := ok_iconst (by decide +kernel : decode cX5_performFlow 154 = .ok (.iconst 0, 1)) (by decide)
theorem o82_155 : Okp RX5 cX5_performFlow 4 (some .int) "performFlow" false 155 sRI := ok_iret rfl (by decide +kernel : decode cX5_performFlow 155 = .ok (.ireturn, 1))
theorem o82_156 : Okp RX5 cX5_performFlow 4 (some .int) "performFlow" false 156 (sLR 0 157) := ok_aload_n (by decide +kernel : decode cX5_performFlow 156 = .ok (.aload_n 0, 1)) rfl
theorem o82_157 : Okp RX5 cX5_performFlow 4 (some .int) "performFlow" false 157 (sLR 1 158) := ok_aload_n (by decide +kernel : decode cX5_performFlow 157 = .ok (.aload_n 1, 1)) rfl
theorem o82_158 : Okp RX5 cX5_performFlow 4 (some .int) "performFlow" false 158 (sCV false 87 2 6 161) := ok_cv (by decide +kernel : decode cX5_performFlow 158 = .ok (.invokevirtual 318, 3)) mw_X5_318 rfl (by decide) wm_X5_giveBack wse_X5_giveBack (by decide) rfl
theorem o82_161 : Okp RX5 cX5_performFlow 4 (some .int) "performFlow" false 161 sRI := ok_iret rfl (by decide +kernel : decode cX5_performFlow 161 = .ok (.ireturn, 1))
theorem o82_162 : Okp RX5 cX5_performFlow 4 (some .int) "performFlow" false 162 (sLR 0 163) := ok_aload_n (by decide +kernel : decode cX5_performFlow 162 = .ok (.aload_n 0, 1)) rfl
theorem o82_163 : Okp RX5 cX5_performFlow 4 (some .int) "performFlow" false 163 (sLR 1 164) := ok_aload_n (by decide +kernel : decode cX5_performFlow 163 = .ok (.aload_n 1, 1)) rfl
theorem o82_164 : Okp RX5 cX5_performFlow 4 (some .int) "performFlow" false 164 (sLI 3 165) := ok_iload_n (by decide +kernel : decode cX5_performFlow 164 = .ok (.iload_n 3, 1)) rfl
theorem o82_165 : Okp RX5 cX5_performFlow 4 (some .int) "performFlow" false 165 (sCV false 94 3 6 168) := ok_cv (by decide +kernel : decode cX5_performFlow 165 = .ok (.invokevirtual 321, 3)) mw_X5_321 rfl (by decide) wm_X5_openChannel wse_X5_openChannel (by decide) rfl
theorem o82_168 : Okp RX5 cX5_performFlow 4 (some .int) "performFlow" false 168 sRI := ok_iret rfl (by decide +kernel : decode cX5_performFlow 168 = .ok (.ireturn, 1))
theorem o82_169 : Okp RX5 cX5_performFlow 4 (some .int) "performFlow" false 169 (sLR 0 170) := ok_aload_n (by decide +kernel : decode cX5_performFlow 169 = .ok (.aload_n 0, 1)) rfl
theorem o82_170 : Okp RX5 cX5_performFlow 4 (some .int) "performFlow" false 170 (sGR 6 4 173) := ok_getR (by decide +kernel : decode cX5_performFlow 170 = .ok (.getfield 37, 3)) fw_X5_37 rfl
theorem o82_173 : Okp RX5 cX5_performFlow 4 (some .int) "performFlow" false 173 (sLR 1 174) := ok_aload_n (by decide +kernel : decode cX5_performFlow 173 = .ok (.aload_n 1, 1)) rfl
theorem o82_174 : Okp RX5 cX5_performFlow 4 (some .int) "performFlow" false 174 (sCV false 128 1 9 177) := ok_cv (by decide +kernel : decode cX5_performFlow 174 = .ok (.invokevirtual 277, 3)) mw_X5_277 rfl (by decide) wm_X8_pop wse_X8_pop (by decide) rfl
theorem o82_177 : Okp RX5 cX5_performFlow 4 (some .int) "performFlow" false 177 (sCV false 58 2 5 180) := ok_cv (by decide +kernel : decode cX5_performFlow 177 = .ok (.invokevirtual 324, 3)) mw_X5_324 rfl (by decide) wm_X4_close wse_X4_close (by decide) rfl
theorem o82_180 : Okp RX5 cX5_performFlow 4 (some .int) "performFlow" false 180 (sK 0 181) := ok_iconst (by decide +kernel : decode cX5_performFlow 180 = .ok (.iconst 0, 1)) (by decide)
theorem o82_181 : Okp RX5 cX5_performFlow 4 (some .int) "performFlow" false 181 sRI := ok_iret rfl (by decide +kernel : decode cX5_performFlow 181 = .ok (.ireturn, 1))
theorem o82_182 : Okp RX5 cX5_performFlow 4 (some .int) "performFlow" false 182 (sK (-1) 183) := ok_iconst (by decide +kernel : decode cX5_performFlow 182 = .ok (.iconst (-1), 1)) (by decide)
theorem o82_183 : Okp RX5 cX5_performFlow 4 (some .int) "performFlow" false 183 sRI := ok_iret rfl (by decide +kernel : decode cX5_performFlow 183 = .ok (.ireturn, 1))
theorem o82_184 : Okp RX5 cX5_performFlow 4 (some .int) "performFlow" false 184 (sLR 0 185) := ok_aload_n (by decide +kernel : decode cX5_performFlow 184 = .ok (.aload_n 0, 1)) rfl
theorem o82_185 : Okp RX5 cX5_performFlow 4 (some .int) "performFlow" false 185 (sLR 1 186) := ok_aload_n (by decide +kernel : decode cX5_performFlow 185 = .ok (.aload_n 1, 1)) rfl
theorem o82_186 : Okp RX5 cX5_performFlow 4 (some .int) "performFlow" false 186 (sCV false 89 2 6 189) := ok_cv (by decide +kernel : decode cX5_performFlow 186 = .ok (.invokevirtual 327, 3)) mw_X5_327 rfl (by decide) wm_X5_out wse_X5_out (by decide) rfl
theorem o82_189 : Okp RX5 cX5_performFlow 4 (some .int) "performFlow" false 189 sRI := ok_iret rfl (by decide +kernel : decode cX5_performFlow 189 = .ok (.ireturn, 1))
theorem o82_190 : Okp RX5 cX5_performFlow 4 (some .int) "performFlow" false 190 (sK 0 191) := ok_iconst (by decide +kernel : decode cX5_performFlow 190 = .ok (.iconst 0, 1)) (by decide)
theorem o82_191 : Okp RX5 cX5_performFlow 4 (some .int) "performFlow" false 191 sRI := ok_iret rfl (by decide +kernel : decode cX5_performFlow 191 = .ok (.ireturn, 1))
theorem oc82_0 : ∀ pc, Mnp (c82_0 pc) ∧ Okp RX5 cX5_performFlow 4 (some .int) "performFlow" false pc (c82_0 pc) := by
  intro pc
  unfold c82_0
  split
  · exact ⟨mn_sLI, o82_0⟩
  · exact ⟨mn_sSw, o82_1⟩
  · exact ⟨mn_sX, ok_X⟩
theorem oc82_4 : ∀ pc, Mnp (c82_4 pc) ∧ Okp RX5 cX5_performFlow 4 (some .int) "performFlow" false pc (c82_4 pc) := by
  intro pc
  unfold c82_4
  split
  · exact ⟨mn_sLR, o82_116⟩
  · exact ⟨mn_sK, o82_117⟩
  · exact ⟨mn_sLR, o82_118⟩
  · exact ⟨mn_sCV, o82_119⟩
  · exact ⟨mn_sX, ok_X⟩
theorem oc82_5 : ∀ pc, Mnp (c82_5 pc) ∧ Okp RX5 cX5_performFlow 4 (some .int) "performFlow" false pc (c82_5 pc) := by
  intro pc
  unfold c82_5
  split
  · exact ⟨mn_sI1, o82_122⟩
  · exact ⟨mn_sK, o82_125⟩
  · exact ⟨mn_sGo, o82_126⟩
  · exact ⟨mn_sK, o82_129⟩
  · exact ⟨mn_sCV, o82_130⟩
  · exact ⟨mn_sK, o82_133⟩
  · exact ⟨mn_sRI, o82_134⟩
  · exact ⟨mn_sLR, o82_135⟩
  · exact ⟨mn_sLI, o82_136⟩
  · exact ⟨mn_sCV, o82_137⟩
  · exact ⟨mn_sK, o82_140⟩
  · exact ⟨mn_sRI, o82_141⟩
  · exact ⟨mn_sLR, o82_142⟩
  · exact ⟨mn_sCV, o82_143⟩
  · exact ⟨mn_sX, ok_X⟩
theorem oc82_6 : ∀ pc, Mnp (c82_6 pc) ∧ Okp RX5 cX5_performFlow 4 (some .int) "performFlow" false pc (c82_6 pc) := by
  intro pc
  unfold c82_6
  split
  · exact ⟨mn_sI1, o82_146⟩
  · exact ⟨mn_sLR, o82_149⟩
  · exact ⟨mn_sLI, o82_150⟩
  · exact ⟨mn_sCV, o82_151⟩
  · exact ⟨mn_sK, o82_154⟩
  · exact ⟨mn_sRI, o82_155⟩
  · exact ⟨mn_sLR, o82_156⟩
  · exact ⟨mn_sLR, o82_157⟩
  · exact ⟨mn_sCV, o82_158⟩
  · exact ⟨mn_sRI, o82_161⟩
  · exact ⟨mn_sLR, o82_162⟩
  · exact ⟨mn_sLR, o82_163⟩
  · exact ⟨mn_sLI, o82_164⟩
  · exact ⟨mn_sCV, o82_165⟩
  · exact ⟨mn_sX, ok_X⟩
theorem oc82_7 : ∀ pc, Mnp (c82_7 pc) ∧ Okp RX5 cX5_performFlow 4 (some .int) "performFlow" false pc (c82_7 pc) := by
  intro pc
  unfold c82_7
  split
  · exact ⟨mn_sRI, o82_168⟩
  · exact ⟨mn_sLR, o82_169⟩
  · exact ⟨mn_sGR, o82_170⟩
  · exact ⟨mn_sLR, o82_173⟩
  · exact ⟨mn_sCV, o82_174⟩
  · exact ⟨mn_sCV, o82_177⟩
  · exact ⟨mn_sK, o82_180⟩
  · exact ⟨mn_sRI, o82_181⟩
  · exact ⟨mn_sK, o82_182⟩
  · exact ⟨mn_sRI, o82_183⟩
  · exact ⟨mn_sLR, o82_184⟩
  · exact ⟨mn_sLR, o82_185⟩
  · exact ⟨mn_sCV, o82_186⟩
  · exact ⟨mn_sRI, o82_189⟩
  · exact ⟨mn_sK, o82_190⟩
  · exact ⟨mn_sRI, o82_191⟩
  · exact ⟨mn_sX, ok_X⟩
theorem oc82 : ∀ pc, Mnp (c82 pc) ∧ Okp RX5 cX5_performFlow 4 (some .int) "performFlow" false pc (c82 pc) := by
  intro pc
  unfold c82
  split
  · exact oc82_0 pc
  · exact oc82_4 pc
  · exact oc82_5 pc
  · exact oc82_6 pc
  · exact oc82_7 pc
  · exact ⟨mn_sX, ok_X⟩
theorem o83_0 : Okp RX5 cX5_call 4 (some .int) "call" false 0 (sLR 1 1) := ok_aload_n (by decide +kernel : decode cX5_call 0 = .ok (.aload_n 1, 1)) rfl
theorem o83_1 : Okp RX5 cX5_call 4 (some .int) "call" false 1 (sLI 2 2) := ok_iload_n (by decide +kernel : decode cX5_call 1 = .ok (.iload_n 2, 1)) rfl
theorem o83_2 : Okp RX5 cX5_call 4 (some .int) "call" false 2 (sCS false 84 2 5) := ok_cs (by decide +kernel : decode cX5_call 2 = .ok (.invokestatic 330, 3)) mw_X5_330 wt_X5_parametersOf (by decide) rfl
theorem o83_5 : Okp RX5 cX5_call 4 (some .int) "call" false 5 (sSI 3 6) := ok_istore_n (by decide +kernel : decode cX5_call 5 = .ok (.istore_n 3, 1)) rfl (by decide) (by decide)
theorem o83_6 : Okp RX5 cX5_call 4 (some .int) "call" false 6 (sLR 0 7) := ok_aload_n (by decide +kernel : decode cX5_call 6 = .ok (.aload_n 0, 1)) rfl
theorem o83_7 : Okp RX5 cX5_call 4 (some .int) "call" false 7 (sLR 1 8) := ok_aload_n (by decide +kernel : decode cX5_call 7 = .ok (.aload_n 1, 1)) rfl
theorem o83_8 : Okp RX5 cX5_call 4 (some .int) "call" false 8 (sLI 3 9) := ok_iload_n (by decide +kernel : decode cX5_call 8 = .ok (.iload_n 3, 1)) rfl
theorem o83_9 : Okp RX5 cX5_call 4 (some .int) "call" false 9 (sCV false 85 3 6 12) := ok_cv (by decide +kernel : decode cX5_call 9 = .ok (.invokevirtual 333, 3)) mw_X5_333 rfl (by decide) wm_X5_takeParameters wse_X5_takeParameters (by decide) rfl
theorem o83_12 : Okp RX5 cX5_call 4 (some .int) "call" false 12 (sLR 1 13) := ok_aload_n (by decide +kernel : decode cX5_call 12 = .ok (.aload_n 1, 1)) rfl
theorem o83_13 : Okp RX5 cX5_call 4 (some .int) "call" false 13 (sLI 2 14) := ok_iload_n (by decide +kernel : decode cX5_call 13 = .ok (.iload_n 2, 1)) rfl
theorem o83_14 : Okp RX5 cX5_call 4 (some .int) "call" false 14 (sCV false 118 2 9 17) := ok_cv (by decide +kernel : decode cX5_call 14 = .ok (.invokevirtual 337, 3)) mw_X5_337 rfl (by decide) wm_X8_enter wse_X8_enter (by decide) rfl
theorem o83_17 : Okp RX5 cX5_call 4 (some .int) "call" false 17 (sI1 1 23 20) := ok_if_ne (by decide +kernel : decode cX5_call 17 = .ok (.ifCond .ne 6, 3)) (by decide)
theorem o83_20 : Okp RX5 cX5_call 4 (some .int) "call" false 20 (sK 9 22) := ok_bipush (by decide +kernel : decode cX5_call 20 = .ok (.bipush 9, 2)) (by decide)
theorem o83_22 : Okp RX5 cX5_call 4 (some .int) "call" false 22 sRI := ok_iret rfl (by decide +kernel : decode cX5_call 22 = .ok (.ireturn, 1))
theorem o83_23 : Okp RX5 cX5_call 4 (some .int) "call" false 23 (sLR 0 24) := ok_aload_n (by decide +kernel : decode cX5_call 23 = .ok (.aload_n 0, 1)) rfl
theorem o83_24 : Okp RX5 cX5_call 4 (some .int) "call" false 24 (sLR 1 25) := ok_aload_n (by decide +kernel : decode cX5_call 24 = .ok (.aload_n 1, 1)) rfl
theorem o83_25 : Okp RX5 cX5_call 4 (some .int) "call" false 25 (sLI 3 26) := ok_iload_n (by decide +kernel : decode cX5_call 25 = .ok (.iload_n 3, 1)) rfl
theorem o83_26 : Okp RX5 cX5_call 4 (some .int) "call" false 26 (sCV false 86 3 6 29) := ok_cv (by decide +kernel : decode cX5_call 26 = .ok (.invokevirtual 340, 3)) mw_X5_340 rfl (by decide) wm_X5_layParameters wse_X5_layParameters (by decide) rfl
theorem o83_29 : Okp RX5 cX5_call 4 (some .int) "call" false 29 (sK 0 30) := ok_iconst (by decide +kernel : decode cX5_call 29 = .ok (.iconst 0, 1)) (by decide)
theorem o83_30 : Okp RX5 cX5_call 4 (some .int) "call" false 30 sRI := ok_iret rfl (by decide +kernel : decode cX5_call 30 = .ok (.ireturn, 1))
theorem oc83_0 : ∀ pc, Mnp (c83_0 pc) ∧ Okp RX5 cX5_call 4 (some .int) "call" false pc (c83_0 pc) := by
  intro pc
  unfold c83_0
  split
  · exact ⟨mn_sLR, o83_0⟩
  · exact ⟨mn_sLI, o83_1⟩
  · exact ⟨mn_sCS, o83_2⟩
  · exact ⟨mn_sSI, o83_5⟩
  · exact ⟨mn_sLR, o83_6⟩
  · exact ⟨mn_sLR, o83_7⟩
  · exact ⟨mn_sLI, o83_8⟩
  · exact ⟨mn_sCV, o83_9⟩
  · exact ⟨mn_sLR, o83_12⟩
  · exact ⟨mn_sLI, o83_13⟩
  · exact ⟨mn_sCV, o83_14⟩
  · exact ⟨mn_sI1, o83_17⟩
  · exact ⟨mn_sK, o83_20⟩
  · exact ⟨mn_sRI, o83_22⟩
  · exact ⟨mn_sLR, o83_23⟩
  · exact ⟨mn_sX, ok_X⟩
theorem oc83_1 : ∀ pc, Mnp (c83_1 pc) ∧ Okp RX5 cX5_call 4 (some .int) "call" false pc (c83_1 pc) := by
  intro pc
  unfold c83_1
  split
  · exact ⟨mn_sLR, o83_24⟩
  · exact ⟨mn_sLI, o83_25⟩
  · exact ⟨mn_sCV, o83_26⟩
  · exact ⟨mn_sK, o83_29⟩
  · exact ⟨mn_sRI, o83_30⟩
  · exact ⟨mn_sX, ok_X⟩
theorem oc83 : ∀ pc, Mnp (c83 pc) ∧ Okp RX5 cX5_call 4 (some .int) "call" false pc (c83 pc) := by
  intro pc
  unfold c83
  split
  · exact oc83_0 pc
  · exact oc83_1 pc
  · exact ⟨mn_sX, ok_X⟩
theorem o84_0 : Okp RX5 cX5_parametersOf 3 (some .int) "parametersOf" false 0 (sLR 0 1) := ok_aload_n (by decide +kernel : decode cX5_parametersOf 0 = .ok (.aload_n 0, 1)) rfl
theorem o84_1 : Okp RX5 cX5_parametersOf 3 (some .int) "parametersOf" false 1 (sGR 9 1 4) := ok_getR (by decide +kernel : decode cX5_parametersOf 1 = .ok (.getfield 192, 3)) fw_X5_192 rfl
theorem o84_4 : Okp RX5 cX5_parametersOf 3 (some .int) "parametersOf" false 4 (sLI 1 5) := ok_iload_n (by decide +kernel : decode cX5_parametersOf 4 = .ok (.iload_n 1, 1)) rfl
theorem o84_5 : Okp RX5 cX5_parametersOf 3 (some .int) "parametersOf" false 5 (sCV false 149 2 10 8) := ok_cv (by decide +kernel : decode cX5_parametersOf 5 = .ok (.invokevirtual 93, 3)) mw_X5_93 rfl (by decide) wm_X9_routineAt wse_X9_routineAt (by decide) rfl
theorem o84_8 : Okp RX5 cX5_parametersOf 3 (some .int) "parametersOf" false 8 (sSR 2 9) := ok_astore_n (by decide +kernel : decode cX5_parametersOf 8 = .ok (.astore_n 2, 1)) rfl (by decide) (by decide)
theorem o84_9 : Okp RX5 cX5_parametersOf 3 (some .int) "parametersOf" false 9 (sLR 2 10) := ok_aload_n (by decide +kernel : decode cX5_parametersOf 9 = .ok (.aload_n 2, 1)) rfl
theorem o84_10 : Okp RX5 cX5_parametersOf 3 (some .int) "parametersOf" false 10 (sNl 13 17) := ok_ifnonnull (by decide +kernel : decode cX5_parametersOf 10 = .ok (.ifnonnull 7, 3)) (by decide)
theorem o84_13 : Okp RX5 cX5_parametersOf 3 (some .int) "parametersOf" false 13 (sK 0 14) := ok_iconst (by decide +kernel : decode cX5_parametersOf 13 = .ok (.iconst 0, 1)) (by decide)
theorem o84_14 : Okp RX5 cX5_parametersOf 3 (some .int) "parametersOf" false 14 (sGo 25) := ok_goto (by decide +kernel : decode cX5_parametersOf 14 = .ok (.goto 11, 3)) (by decide)
theorem o84_17 : Okp RX5 cX5_parametersOf 3 (some .int) "parametersOf" false 17 (sLR 2 18) := ok_aload_n (by decide +kernel : decode cX5_parametersOf 17 = .ok (.aload_n 2, 1)) rfl
theorem o84_18 : Okp RX5 cX5_parametersOf 3 (some .int) "parametersOf" false 18 (sGI 8 0 21) := ok_getI (by decide +kernel : decode cX5_parametersOf 18 = .ok (.getfield 109, 3)) fw_X5_109 rfl
theorem o84_21 : Okp RX5 cX5_parametersOf 3 (some .int) "parametersOf" false 21 (sK 4 22) := ok_iconst (by decide +kernel : decode cX5_parametersOf 21 = .ok (.iconst 4, 1)) (by decide)
theorem o84_22 : Okp RX5 cX5_parametersOf 3 (some .int) "parametersOf" false 22 (sM2 fMin 25) := ok_min (by decide +kernel : decode cX5_parametersOf 22 = .ok (.invokestatic 343, 3)) wq_X5_343 wq_smin wq_im wq_cmin
theorem o84_25 : Okp RX5 cX5_parametersOf 3 (some .int) "parametersOf" false 25 sRI := ok_iret rfl (by decide +kernel : decode cX5_parametersOf 25 = .ok (.ireturn, 1))
theorem oc84_0 : ∀ pc, Mnp (c84_0 pc) ∧ Okp RX5 cX5_parametersOf 3 (some .int) "parametersOf" false pc (c84_0 pc) := by
  intro pc
  unfold c84_0
  split
  · exact ⟨mn_sLR, o84_0⟩
  · exact ⟨mn_sGR, o84_1⟩
  · exact ⟨mn_sLI, o84_4⟩
  · exact ⟨mn_sCV, o84_5⟩
  · exact ⟨mn_sSR, o84_8⟩
  · exact ⟨mn_sLR, o84_9⟩
  · exact ⟨mn_sNl, o84_10⟩
  · exact ⟨mn_sK, o84_13⟩
  · exact ⟨mn_sGo, o84_14⟩
  · exact ⟨mn_sLR, o84_17⟩
  · exact ⟨mn_sGI, o84_18⟩
  · exact ⟨mn_sK, o84_21⟩
  · exact ⟨mn_sM2, o84_22⟩
  · exact ⟨mn_sX, ok_X⟩
theorem oc84_1 : ∀ pc, Mnp (c84_1 pc) ∧ Okp RX5 cX5_parametersOf 3 (some .int) "parametersOf" false pc (c84_1 pc) := by
  intro pc
  unfold c84_1
  split
  · exact ⟨mn_sRI, o84_25⟩
  · exact ⟨mn_sX, ok_X⟩
theorem oc84 : ∀ pc, Mnp (c84 pc) ∧ Okp RX5 cX5_parametersOf 3 (some .int) "parametersOf" false pc (c84 pc) := by
  intro pc
  unfold c84
  split
  · exact oc84_0 pc
  · exact oc84_1 pc
  · exact ⟨mn_sX, ok_X⟩
theorem o85_0 : Okp RX5 cX5_takeParameters 4 none "takeParameters" false 0 (sLI 2 1) := ok_iload_n (by decide +kernel : decode cX5_takeParameters 0 = .ok (.iload_n 2, 1)) rfl
theorem o85_1 : Okp RX5 cX5_takeParameters 4 none "takeParameters" false 1 (sK 1 2) := ok_iconst (by decide +kernel : decode cX5_takeParameters 1 = .ok (.iconst 1, 1)) (by decide)
theorem o85_2 : Okp RX5 cX5_takeParameters 4 none "takeParameters" false 2 (sB2 fSub 3) := ok_isub (by decide +kernel : decode cX5_takeParameters 2 = .ok (.isub, 1))
theorem o85_3 : Okp RX5 cX5_takeParameters 4 none "takeParameters" false 3 (sSI 3 4) := ok_istore_n (by decide +kernel : decode cX5_takeParameters 3 = .ok (.istore_n 3, 1)) rfl (by decide) (by decide)
theorem o85_4 : Okp RX5 cX5_takeParameters 4 none "takeParameters" false 4 (sLI 3 5) := ok_iload_n (by decide +kernel : decode cX5_takeParameters 4 = .ok (.iload_n 3, 1)) rfl
theorem o85_5 : Okp RX5 cX5_takeParameters 4 none "takeParameters" false 5 (sI1 2 34 8) := ok_if_lt (by decide +kernel : decode cX5_takeParameters 5 = .ok (.ifCond .lt 29, 3)) (by decide)
theorem o85_8 : Okp RX5 cX5_takeParameters 4 none "takeParameters" false 8 (sLR 0 9) := ok_aload_n (by decide +kernel : decode cX5_takeParameters 8 = .ok (.aload_n 0, 1)) rfl
theorem o85_9 : Okp RX5 cX5_takeParameters 4 none "takeParameters" false 9 (sGR 6 14 12) := ok_getR (by decide +kernel : decode cX5_takeParameters 9 = .ok (.getfield 70, 3)) fw_X5_70 rfl
theorem o85_12 : Okp RX5 cX5_takeParameters 4 none "takeParameters" false 12 (sLI 3 13) := ok_iload_n (by decide +kernel : decode cX5_takeParameters 12 = .ok (.iload_n 3, 1)) rfl
theorem o85_13 : Okp RX5 cX5_takeParameters 4 none "takeParameters" false 13 (sLR 1 14) := ok_aload_n (by decide +kernel : decode cX5_takeParameters 13 = .ok (.aload_n 1, 1)) rfl
theorem o85_14 : Okp RX5 cX5_takeParameters 4 none "takeParameters" false 14 (sCV false 128 1 9 17) := ok_cv (by decide +kernel : decode cX5_takeParameters 14 = .ok (.invokevirtual 277, 3)) mw_X5_277 rfl (by decide) wm_X8_pop wse_X8_pop (by decide) rfl
theorem o85_17 : Okp RX5 cX5_takeParameters 4 none "takeParameters" false 17 (sIS 18) := ok_iastore (by decide +kernel : decode cX5_takeParameters 17 = .ok (.iastore, 1))
theorem o85_18 : Okp RX5 cX5_takeParameters 4 none "takeParameters" false 18 (sLR 0 19) := ok_aload_n (by decide +kernel : decode cX5_takeParameters 18 = .ok (.aload_n 0, 1)) rfl
theorem o85_19 : Okp RX5 cX5_takeParameters 4 none "takeParameters" false 19 (sGR 6 13 22) := ok_getR (by decide +kernel : decode cX5_takeParameters 19 = .ok (.getfield 67, 3)) fw_X5_67 rfl
theorem o85_22 : Okp RX5 cX5_takeParameters 4 none "takeParameters" false 22 (sLI 3 23) := ok_iload_n (by decide +kernel : decode cX5_takeParameters 22 = .ok (.iload_n 3, 1)) rfl
theorem o85_23 : Okp RX5 cX5_takeParameters 4 none "takeParameters" false 23 (sLR 1 24) := ok_aload_n (by decide +kernel : decode cX5_takeParameters 23 = .ok (.aload_n 1, 1)) rfl
theorem o85_24 : Okp RX5 cX5_takeParameters 4 none "takeParameters" false 24 (sGI 9 14 27) := ok_getI (by decide +kernel : decode cX5_takeParameters 24 = .ok (.getfield 311, 3)) fw_X5_311 rfl
theorem o85_27 : Okp RX5 cX5_takeParameters 4 none "takeParameters" false 27 (sIS 28) := ok_iastore (by decide +kernel : decode cX5_takeParameters 27 = .ok (.iastore, 1))
theorem o85_28 : Okp RX5 cX5_takeParameters 4 none "takeParameters" false 28 (sInc 3 (-1) 31) := ok_iinc (by decide +kernel : decode cX5_takeParameters 28 = .ok (.iinc 3 (-1), 3)) (by decide) (by decide)
theorem o85_31 : Okp RX5 cX5_takeParameters 4 none "takeParameters" false 31 (sGo 4) := ok_goto (by decide +kernel : decode cX5_takeParameters 31 = .ok (.goto (-27), 3)) (by decide)
theorem o85_34 : Okp RX5 cX5_takeParameters 4 none "takeParameters" false 34 sRV := ok_vret rfl (by decide +kernel : decode cX5_takeParameters 34 = .ok (.return_, 1))
theorem oc85_0 : ∀ pc, Mnp (c85_0 pc) ∧ Okp RX5 cX5_takeParameters 4 none "takeParameters" false pc (c85_0 pc) := by
  intro pc
  unfold c85_0
  split
  · exact ⟨mn_sLI, o85_0⟩
  · exact ⟨mn_sK, o85_1⟩
  · exact ⟨mn_sB2, o85_2⟩
  · exact ⟨mn_sSI, o85_3⟩
  · exact ⟨mn_sLI, o85_4⟩
  · exact ⟨mn_sI1, o85_5⟩
  · exact ⟨mn_sLR, o85_8⟩
  · exact ⟨mn_sGR, o85_9⟩
  · exact ⟨mn_sLI, o85_12⟩
  · exact ⟨mn_sLR, o85_13⟩
  · exact ⟨mn_sCV, o85_14⟩
  · exact ⟨mn_sIS, o85_17⟩
  · exact ⟨mn_sLR, o85_18⟩
  · exact ⟨mn_sGR, o85_19⟩
  · exact ⟨mn_sLI, o85_22⟩
  · exact ⟨mn_sLR, o85_23⟩
  · exact ⟨mn_sX, ok_X⟩
theorem oc85_1 : ∀ pc, Mnp (c85_1 pc) ∧ Okp RX5 cX5_takeParameters 4 none "takeParameters" false pc (c85_1 pc) := by
  intro pc
  unfold c85_1
  split
  · exact ⟨mn_sGI, o85_24⟩
  · exact ⟨mn_sIS, o85_27⟩
  · exact ⟨mn_sInc, o85_28⟩
  · exact ⟨mn_sGo, o85_31⟩
  · exact ⟨mn_sRV, o85_34⟩
  · exact ⟨mn_sX, ok_X⟩
theorem oc85 : ∀ pc, Mnp (c85 pc) ∧ Okp RX5 cX5_takeParameters 4 none "takeParameters" false pc (c85 pc) := by
  intro pc
  unfold c85
  split
  · exact oc85_0 pc
  · exact oc85_1 pc
  · exact ⟨mn_sX, ok_X⟩
theorem o86_0 : Okp RX5 cX5_layParameters 4 none "layParameters" false 0 (sK 0 1) := ok_iconst (by decide +kernel : decode cX5_layParameters 0 = .ok (.iconst 0, 1)) (by decide)
theorem o86_1 : Okp RX5 cX5_layParameters 4 none "layParameters" false 1 (sSI 3 2) := ok_istore_n (by decide +kernel : decode cX5_layParameters 1 = .ok (.istore_n 3, 1)) rfl (by decide) (by decide)
theorem o86_2 : Okp RX5 cX5_layParameters 4 none "layParameters" false 2 (sLI 3 3) := ok_iload_n (by decide +kernel : decode cX5_layParameters 2 = .ok (.iload_n 3, 1)) rfl
theorem o86_3 : Okp RX5 cX5_layParameters 4 none "layParameters" false 3 (sLI 2 4) := ok_iload_n (by decide +kernel : decode cX5_layParameters 3 = .ok (.iload_n 2, 1)) rfl
theorem o86_4 : Okp RX5 cX5_layParameters 4 none "layParameters" false 4 (sI2 3 30 7) := ok_icmp_ge (by decide +kernel : decode cX5_layParameters 4 = .ok (.if_icmp .ge 26, 3)) (by decide)
theorem o86_7 : Okp RX5 cX5_layParameters 4 none "layParameters" false 7 (sLR 1 8) := ok_aload_n (by decide +kernel : decode cX5_layParameters 7 = .ok (.aload_n 1, 1)) rfl
theorem o86_8 : Okp RX5 cX5_layParameters 4 none "layParameters" false 8 (sLI 3 9) := ok_iload_n (by decide +kernel : decode cX5_layParameters 8 = .ok (.iload_n 3, 1)) rfl
theorem o86_9 : Okp RX5 cX5_layParameters 4 none "layParameters" false 9 (sLR 0 10) := ok_aload_n (by decide +kernel : decode cX5_layParameters 9 = .ok (.aload_n 0, 1)) rfl
theorem o86_10 : Okp RX5 cX5_layParameters 4 none "layParameters" false 10 (sGR 6 13 13) := ok_getR (by decide +kernel : decode cX5_layParameters 10 = .ok (.getfield 67, 3)) fw_X5_67 rfl
theorem o86_13 : Okp RX5 cX5_layParameters 4 none "layParameters" false 13 (sLI 3 14) := ok_iload_n (by decide +kernel : decode cX5_layParameters 13 = .ok (.iload_n 3, 1)) rfl
theorem o86_14 : Okp RX5 cX5_layParameters 4 none "layParameters" false 14 (sIA 15) := ok_iaload (by decide +kernel : decode cX5_layParameters 14 = .ok (.iaload, 1))
theorem o86_15 : Okp RX5 cX5_layParameters 4 none "layParameters" false 15 (sLR 0 16) := ok_aload_n (by decide +kernel : decode cX5_layParameters 15 = .ok (.aload_n 0, 1)) rfl
theorem o86_16 : Okp RX5 cX5_layParameters 4 none "layParameters" false 16 (sGR 6 14 19) := ok_getR (by decide +kernel : decode cX5_layParameters 16 = .ok (.getfield 70, 3)) fw_X5_70 rfl
theorem o86_19 : Okp RX5 cX5_layParameters 4 none "layParameters" false 19 (sLI 3 20) := ok_iload_n (by decide +kernel : decode cX5_layParameters 19 = .ok (.iload_n 3, 1)) rfl
theorem o86_20 : Okp RX5 cX5_layParameters 4 none "layParameters" false 20 (sIA 21) := ok_iaload (by decide +kernel : decode cX5_layParameters 20 = .ok (.iaload, 1))
theorem o86_21 : Okp RX5 cX5_layParameters 4 none "layParameters" false 21 (sCV false 129 4 9 24) := ok_cv (by decide +kernel : decode cX5_layParameters 21 = .ok (.invokevirtual 138, 3)) mw_X5_138 rfl (by decide) wm_X8_setLocal wse_X8_setLocal (by decide) rfl
theorem o86_24 : Okp RX5 cX5_layParameters 4 none "layParameters" false 24 (sInc 3 1 27) := ok_iinc (by decide +kernel : decode cX5_layParameters 24 = .ok (.iinc 3 1, 3)) (by decide) (by decide)
theorem o86_27 : Okp RX5 cX5_layParameters 4 none "layParameters" false 27 (sGo 2) := ok_goto (by decide +kernel : decode cX5_layParameters 27 = .ok (.goto (-25), 3)) (by decide)
theorem o86_30 : Okp RX5 cX5_layParameters 4 none "layParameters" false 30 sRV := ok_vret rfl (by decide +kernel : decode cX5_layParameters 30 = .ok (.return_, 1))
theorem oc86_0 : ∀ pc, Mnp (c86_0 pc) ∧ Okp RX5 cX5_layParameters 4 none "layParameters" false pc (c86_0 pc) := by
  intro pc
  unfold c86_0
  split
  · exact ⟨mn_sK, o86_0⟩
  · exact ⟨mn_sSI, o86_1⟩
  · exact ⟨mn_sLI, o86_2⟩
  · exact ⟨mn_sLI, o86_3⟩
  · exact ⟨mn_sI2, o86_4⟩
  · exact ⟨mn_sLR, o86_7⟩
  · exact ⟨mn_sLI, o86_8⟩
  · exact ⟨mn_sLR, o86_9⟩
  · exact ⟨mn_sGR, o86_10⟩
  · exact ⟨mn_sLI, o86_13⟩
  · exact ⟨mn_sIA, o86_14⟩
  · exact ⟨mn_sLR, o86_15⟩
  · exact ⟨mn_sGR, o86_16⟩
  · exact ⟨mn_sLI, o86_19⟩
  · exact ⟨mn_sIA, o86_20⟩
  · exact ⟨mn_sCV, o86_21⟩
  · exact ⟨mn_sX, ok_X⟩
theorem oc86_1 : ∀ pc, Mnp (c86_1 pc) ∧ Okp RX5 cX5_layParameters 4 none "layParameters" false pc (c86_1 pc) := by
  intro pc
  unfold c86_1
  split
  · exact ⟨mn_sInc, o86_24⟩
  · exact ⟨mn_sGo, o86_27⟩
  · exact ⟨mn_sRV, o86_30⟩
  · exact ⟨mn_sX, ok_X⟩
theorem oc86 : ∀ pc, Mnp (c86 pc) ∧ Okp RX5 cX5_layParameters 4 none "layParameters" false pc (c86 pc) := by
  intro pc
  unfold c86
  split
  · exact oc86_0 pc
  · exact oc86_1 pc
  · exact ⟨mn_sX, ok_X⟩
theorem o87_0 : Okp RX5 cX5_giveBack 5 (some .int) "giveBack" false 0 (sLR 1 1) := ok_aload_n (by decide +kernel : decode cX5_giveBack 0 = .ok (.aload_n 1, 1)) rfl
theorem o87_1 : Okp RX5 cX5_giveBack 5 (some .int) "giveBack" false 1 (sCV false 121 1 9 4) := ok_cv (by decide +kernel : decode cX5_giveBack 1 = .ok (.invokevirtual 349, 3)) mw_X5_349 rfl (by decide) wm_X8_routine wse_X8_routine (by decide) rfl
theorem o87_4 : Okp RX5 cX5_giveBack 5 (some .int) "giveBack" false 4 (sSR 2 5) := ok_astore_n (by decide +kernel : decode cX5_giveBack 4 = .ok (.astore_n 2, 1)) rfl (by decide) (by decide)
theorem o87_5 : Okp RX5 cX5_giveBack 5 (some .int) "giveBack" false 5 (sLR 2 6) := ok_aload_n (by decide +kernel : decode cX5_giveBack 5 = .ok (.aload_n 2, 1)) rfl
theorem o87_6 : Okp RX5 cX5_giveBack 5 (some .int) "giveBack" false 6 (sNl 21 9) := ok_ifnull (by decide +kernel : decode cX5_giveBack 6 = .ok (.ifnull 15, 3)) (by decide)
theorem o87_9 : Okp RX5 cX5_giveBack 5 (some .int) "giveBack" false 9 (sLR 2 10) := ok_aload_n (by decide +kernel : decode cX5_giveBack 9 = .ok (.aload_n 2, 1)) rfl
theorem o87_10 : Okp RX5 cX5_giveBack 5 (some .int) "giveBack" false 10 (sGI 8 2 13) := ok_getI (by decide +kernel : decode cX5_giveBack 10 = .ok (.getfield 353, 3)) fw_X5_353 rfl
theorem o87_13 : Okp RX5 cX5_giveBack 5 (some .int) "giveBack" false 13 (sK (-1) 14) := ok_iconst (by decide +kernel : decode cX5_giveBack 13 = .ok (.iconst (-1), 1)) (by decide)
theorem o87_14 : Okp RX5 cX5_giveBack 5 (some .int) "giveBack" false 14 (sI2 0 21 17) := ok_icmp_eq (by decide +kernel : decode cX5_giveBack 14 = .ok (.if_icmp .eq 7, 3)) (by decide)
theorem o87_17 : Okp RX5 cX5_giveBack 5 (some .int) "giveBack" false 17 (sK 1 18) := ok_iconst (by decide +kernel : decode cX5_giveBack 17 = .ok (.iconst 1, 1)) (by decide)
theorem o87_18 : Okp RX5 cX5_giveBack 5 (some .int) "giveBack" false 18 (sGo 22) := ok_goto (by decide +kernel : decode cX5_giveBack 18 = .ok (.goto 4, 3)) (by decide)
theorem o87_21 : Okp RX5 cX5_giveBack 5 (some .int) "giveBack" false 21 (sK 0 22) := ok_iconst (by decide +kernel : decode cX5_giveBack 21 = .ok (.iconst 0, 1)) (by decide)
theorem o87_22 : Okp RX5 cX5_giveBack 5 (some .int) "giveBack" false 22 (sSI 3 23) := ok_istore_n (by decide +kernel : decode cX5_giveBack 22 = .ok (.istore_n 3, 1)) rfl (by decide) (by decide)
theorem o87_23 : Okp RX5 cX5_giveBack 5 (some .int) "giveBack" false 23 (sLI 3 24) := ok_iload_n (by decide +kernel : decode cX5_giveBack 23 = .ok (.iload_n 3, 1)) rfl
theorem o87_24 : Okp RX5 cX5_giveBack 5 (some .int) "giveBack" false 24 (sI1 0 34 27) := ok_if_eq (by decide +kernel : decode cX5_giveBack 24 = .ok (.ifCond .eq 10, 3)) (by decide)
theorem o87_27 : Okp RX5 cX5_giveBack 5 (some .int) "giveBack" false 27 (sLR 1 28) := ok_aload_n (by decide +kernel : decode cX5_giveBack 27 = .ok (.aload_n 1, 1)) rfl
theorem o87_28 : Okp RX5 cX5_giveBack 5 (some .int) "giveBack" false 28 (sCV false 128 1 9 31) := ok_cv (by decide +kernel : decode cX5_giveBack 28 = .ok (.invokevirtual 277, 3)) mw_X5_277 rfl (by decide) wm_X8_pop wse_X8_pop (by decide) rfl
theorem o87_31 : Okp RX5 cX5_giveBack 5 (some .int) "giveBack" false 31 (sGo 35) := ok_goto (by decide +kernel : decode cX5_giveBack 31 = .ok (.goto 4, 3)) (by decide)
theorem o87_34 : Okp RX5 cX5_giveBack 5 (some .int) "giveBack" false 34 (sK 0 35) := ok_iconst (by decide +kernel : decode cX5_giveBack 34 = .ok (.iconst 0, 1)) (by decide)
theorem o87_35 : Okp RX5 cX5_giveBack 5 (some .int) "giveBack" false 35 (sSI 4 37) := ok_istore (by decide +kernel : decode cX5_giveBack 35 = .ok (.istore 4, 2)) (by decide) (by decide)
theorem o87_37 : Okp RX5 cX5_giveBack 5 (some .int) "giveBack" false 37 (sLR 1 38) := ok_aload_n (by decide +kernel : decode cX5_giveBack 37 = .ok (.aload_n 1, 1)) rfl
theorem o87_38 : Okp RX5 cX5_giveBack 5 (some .int) "giveBack" false 38 (sGI 9 7 41) := ok_getI (by decide +kernel : decode cX5_giveBack 38 = .ok (.getfield 356, 3)) fw_X5_356 rfl
theorem o87_41 : Okp RX5 cX5_giveBack 5 (some .int) "giveBack" false 41 (sK 1 42) := ok_iconst (by decide +kernel : decode cX5_giveBack 41 = .ok (.iconst 1, 1)) (by decide)
theorem o87_42 : Okp RX5 cX5_giveBack 5 (some .int) "giveBack" false 42 (sI2 4 47 45) := ok_icmp_gt (by decide +kernel : decode cX5_giveBack 42 = .ok (.if_icmp .gt 5, 3)) (by decide)
theorem o87_45 : Okp RX5 cX5_giveBack 5 (some .int) "giveBack" false 45 (sK (-1) 46) := ok_iconst (by decide +kernel : decode cX5_giveBack 45 = .ok (.iconst (-1), 1)) (by decide)
theorem o87_46 : Okp RX5 cX5_giveBack 5 (some .int) "giveBack" false 46 sRI := ok_iret rfl (by decide +kernel : decode cX5_giveBack 46 = .ok (.ireturn, 1))
theorem o87_47 : Okp RX5 cX5_giveBack 5 (some .int) "giveBack" false 47 (sLR 1 48) := ok_aload_n (by decide +kernel : decode cX5_giveBack 47 = .ok (.aload_n 1, 1)) rfl
theorem o87_48 : Okp RX5 cX5_giveBack 5 (some .int) "giveBack" false 48 (sCV false 119 1 9 51) := ok_cv (by decide +kernel : decode cX5_giveBack 48 = .ok (.invokevirtual 359, 3)) mw_X5_359 rfl (by decide) wm_X8_leave wse_X8_leave (by decide) rfl
theorem o87_51 : Okp RX5 cX5_giveBack 5 (some .int) "giveBack" false 51 (sLI 3 52) := ok_iload_n (by decide +kernel : decode cX5_giveBack 51 = .ok (.iload_n 3, 1)) rfl
theorem o87_52 : Okp RX5 cX5_giveBack 5 (some .int) "giveBack" false 52 (sI1 0 65 55) := ok_if_eq (by decide +kernel : decode cX5_giveBack 52 = .ok (.ifCond .eq 13, 3)) (by decide)
theorem o87_55 : Okp RX5 cX5_giveBack 5 (some .int) "giveBack" false 55 (sLR 1 56) := ok_aload_n (by decide +kernel : decode cX5_giveBack 55 = .ok (.aload_n 1, 1)) rfl
theorem o87_56 : Okp RX5 cX5_giveBack 5 (some .int) "giveBack" false 56 (sLR 1 57) := ok_aload_n (by decide +kernel : decode cX5_giveBack 56 = .ok (.aload_n 1, 1)) rfl
theorem o87_57 : Okp RX5 cX5_giveBack 5 (some .int) "giveBack" false 57 (sGI 9 14 60) := ok_getI (by decide +kernel : decode cX5_giveBack 57 = .ok (.getfield 311, 3)) fw_X5_311 rfl
theorem o87_60 : Okp RX5 cX5_giveBack 5 (some .int) "giveBack" false 60 (sLI 4 62) := ok_iload (by decide +kernel : decode cX5_giveBack 60 = .ok (.iload 4, 2))
theorem o87_62 : Okp RX5 cX5_giveBack 5 (some .int) "giveBack" false 62 (sCV false 127 3 9 65) := ok_cv (by decide +kernel : decode cX5_giveBack 62 = .ok (.invokevirtual 305, 3)) mw_X5_305 rfl (by decide) wm_X8_push wse_X8_push (by decide) rfl
theorem o87_65 : Okp RX5 cX5_giveBack 5 (some .int) "giveBack" false 65 (sK 0 66) := ok_iconst (by decide +kernel : decode cX5_giveBack 65 = .ok (.iconst 0, 1)) (by decide)
theorem o87_66 : Okp RX5 cX5_giveBack 5 (some .int) "giveBack" false 66 sRI := ok_iret rfl (by decide +kernel : decode cX5_giveBack 66 = .ok (.ireturn, 1))
theorem oc87_0 : ∀ pc, Mnp (c87_0 pc) ∧ Okp RX5 cX5_giveBack 5 (some .int) "giveBack" false pc (c87_0 pc) := by
  intro pc
  unfold c87_0
  split
  · exact ⟨mn_sLR, o87_0⟩
  · exact ⟨mn_sCV, o87_1⟩
  · exact ⟨mn_sSR, o87_4⟩
  · exact ⟨mn_sLR, o87_5⟩
  · exact ⟨mn_sNl, o87_6⟩
  · exact ⟨mn_sLR, o87_9⟩
  · exact ⟨mn_sGI, o87_10⟩
  · exact ⟨mn_sK, o87_13⟩
  · exact ⟨mn_sI2, o87_14⟩
  · exact ⟨mn_sK, o87_17⟩
  · exact ⟨mn_sGo, o87_18⟩
  · exact ⟨mn_sK, o87_21⟩
  · exact ⟨mn_sSI, o87_22⟩
  · exact ⟨mn_sLI, o87_23⟩
  · exact ⟨mn_sX, ok_X⟩
theorem oc87_1 : ∀ pc, Mnp (c87_1 pc) ∧ Okp RX5 cX5_giveBack 5 (some .int) "giveBack" false pc (c87_1 pc) := by
  intro pc
  unfold c87_1
  split
  · exact ⟨mn_sI1, o87_24⟩
  · exact ⟨mn_sLR, o87_27⟩
  · exact ⟨mn_sCV, o87_28⟩
  · exact ⟨mn_sGo, o87_31⟩
  · exact ⟨mn_sK, o87_34⟩
  · exact ⟨mn_sSI, o87_35⟩
  · exact ⟨mn_sLR, o87_37⟩
  · exact ⟨mn_sGI, o87_38⟩
  · exact ⟨mn_sK, o87_41⟩
  · exact ⟨mn_sI2, o87_42⟩
  · exact ⟨mn_sK, o87_45⟩
  · exact ⟨mn_sRI, o87_46⟩
  · exact ⟨mn_sLR, o87_47⟩
  · exact ⟨mn_sX, ok_X⟩
theorem oc87_2 : ∀ pc, Mnp (c87_2 pc) ∧ Okp RX5 cX5_giveBack 5 (some .int) "giveBack" false pc (c87_2 pc) := by
  intro pc
  unfold c87_2
  split
  · exact ⟨mn_sCV, o87_48⟩
  · exact ⟨mn_sLI, o87_51⟩
  · exact ⟨mn_sI1, o87_52⟩
  · exact ⟨mn_sLR, o87_55⟩
  · exact ⟨mn_sLR, o87_56⟩
  · exact ⟨mn_sGI, o87_57⟩
  · exact ⟨mn_sLI, o87_60⟩
  · exact ⟨mn_sCV, o87_62⟩
  · exact ⟨mn_sK, o87_65⟩
  · exact ⟨mn_sRI, o87_66⟩
  · exact ⟨mn_sX, ok_X⟩
theorem oc87 : ∀ pc, Mnp (c87 pc) ∧ Okp RX5 cX5_giveBack 5 (some .int) "giveBack" false pc (c87 pc) := by
  intro pc
  unfold c87
  split
  · exact oc87_0 pc
  · exact oc87_1 pc
  · exact oc87_2 pc
  · exact ⟨mn_sX, ok_X⟩
