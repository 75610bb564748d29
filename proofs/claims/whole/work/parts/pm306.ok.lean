theorem o170_0 : Okp RX10 cX10_followMove 6 (some .boolean) "followMove" false 0 (sLI 1 1) := ok_iload_n (by decide +kernel : decode cX10_followMove 0 = .ok (.iload_n 1, 1)) rfl
theorem o170_1 : Okp RX10 cX10_followMove 6 (some .boolean) "followMove" false 1 (sSw [(0, 40), (1, 48), (2, 57), (3, 65), (4, 105), (5, 127)] 161) := ok_tsw (by decide +kernel : decode cX10_followMove 1 = .ok (.tableswitch 160 0 5 #[39, 47, 56, 64, 104, 126], 39)) (by decide) (by decide) (by decide)
theorem o170_40 : Okp RX10 cX10_followMove 6 (some .boolean) "followMove" false 40 (sLR 0 41) := ok_aload_n (by decide +kernel : decode cX10_followMove 40 = .ok (.aload_n 0, 1)) rfl
theorem o170_41 : Okp RX10 cX10_followMove 6 (some .boolean) "followMove" false 41 (sK 0 42) := ok_iconst (by decide +kernel : decode cX10_followMove 41 = .ok (.iconst 0, 1)) (by decide)
theorem o170_42 : Okp RX10 cX10_followMove 6 (some .boolean) "followMove" false 42 (sCV false 164 2 11 45) := ok_cv (by decide +kernel : decode cX10_followMove 42 = .ok (.invokevirtual 169, 3)) mw_X10_169 rfl (by decide) wm_X10_push wse_X10_push (by decide) rfl
theorem o170_45 : Okp RX10 cX10_followMove 6 (some .boolean) "followMove" false 45 (sGo 185) := ok_goto (by decide +kernel : decode cX10_followMove 45 = .ok (.goto 140, 3)) (by decide)
theorem o170_48 : Okp RX10 cX10_followMove 6 (some .boolean) "followMove" false 48 (sLR 0 49) := ok_aload_n (by decide +kernel : decode cX10_followMove 48 = .ok (.aload_n 0, 1)) rfl
theorem o170_49 : Okp RX10 cX10_followMove 6 (some .boolean) "followMove" false 49 (sK 6 51) := ok_bipush (by decide +kernel : decode cX10_followMove 49 = .ok (.bipush 6, 2)) (by decide)
theorem o170_51 : Okp RX10 cX10_followMove 6 (some .boolean) "followMove" false 51 (sCV false 164 2 11 54) := ok_cv (by decide +kernel : decode cX10_followMove 51 = .ok (.invokevirtual 169, 3)) mw_X10_169 rfl (by decide) wm_X10_push wse_X10_push (by decide) rfl
theorem o170_54 : Okp RX10 cX10_followMove 6 (some .boolean) "followMove" false 54 (sGo 185) := ok_goto (by decide +kernel : decode cX10_followMove 54 = .ok (.goto 131, 3)) (by decide)
theorem o170_57 : Okp RX10 cX10_followMove 6 (some .boolean) "followMove" false 57 (sLR 0 58) := ok_aload_n (by decide +kernel : decode cX10_followMove 57 = .ok (.aload_n 0, 1)) rfl
theorem o170_58 : Okp RX10 cX10_followMove 6 (some .boolean) "followMove" false 58 (sLI 2 59) := ok_iload_n (by decide +kernel : decode cX10_followMove 58 = .ok (.iload_n 2, 1)) rfl
theorem o170_59 : Okp RX10 cX10_followMove 6 (some .boolean) "followMove" false 59 (sCV false 171 2 11 62) := ok_cv (by decide +kernel : decode cX10_followMove 59 = .ok (.invokevirtual 172, 3)) mw_X10_172 rfl (by decide) wm_X10_followLoad wse_X10_followLoad (by decide) rfl
theorem o170_62 : Okp RX10 cX10_followMove 6 (some .boolean) "followMove" false 62 (sGo 185) := ok_goto (by decide +kernel : decode cX10_followMove 62 = .ok (.goto 123, 3)) (by decide)
theorem o170_65 : Okp RX10 cX10_followMove 6 (some .boolean) "followMove" false 65 (sLI 2 66) := ok_iload_n (by decide +kernel : decode cX10_followMove 65 = .ok (.iload_n 2, 1)) rfl
theorem o170_66 : Okp RX10 cX10_followMove 6 (some .boolean) "followMove" false 66 (sK 10 68) := ok_bipush (by decide +kernel : decode cX10_followMove 66 = .ok (.bipush 10, 2)) (by decide)
theorem o170_68 : Okp RX10 cX10_followMove 6 (some .boolean) "followMove" false 68 (sI2 3 185 71) := ok_icmp_ge (by decide +kernel : decode cX10_followMove 68 = .ok (.if_icmp .ge 117, 3)) (by decide)
theorem o170_71 : Okp RX10 cX10_followMove 6 (some .boolean) "followMove" false 71 (sLR 0 72) := ok_aload_n (by decide +kernel : decode cX10_followMove 71 = .ok (.aload_n 0, 1)) rfl
theorem o170_72 : Okp RX10 cX10_followMove 6 (some .boolean) "followMove" false 72 (sLR 0 73) := ok_aload_n (by decide +kernel : decode cX10_followMove 72 = .ok (.aload_n 0, 1)) rfl
theorem o170_73 : Okp RX10 cX10_followMove 6 (some .boolean) "followMove" false 73 (sGR 11 2 76) := ok_getR (by decide +kernel : decode cX10_followMove 73 = .ok (.getfield 22, 3)) fw_X10_22 rfl
theorem o170_76 : Okp RX10 cX10_followMove 6 (some .boolean) "followMove" false 76 (sLI 2 77) := ok_iload_n (by decide +kernel : decode cX10_followMove 76 = .ok (.iload_n 2, 1)) rfl
theorem o170_77 : Okp RX10 cX10_followMove 6 (some .boolean) "followMove" false 77 (sIA 78) := ok_iaload (by decide +kernel : decode cX10_followMove 77 = .ok (.iaload, 1))
theorem o170_78 : Okp RX10 cX10_followMove 6 (some .boolean) "followMove" false 78 (sCS false 211 1 81) := ok_cs (by decide +kernel : decode cX10_followMove 78 = .ok (.invokestatic 125, 3)) mw_X10_125 wt_X11_isLinear (by decide) rfl
theorem o170_81 : Okp RX10 cX10_followMove 6 (some .boolean) "followMove" false 81 (sI1 1 88 84) := ok_if_ne (by decide +kernel : decode cX10_followMove 81 = .ok (.ifCond .ne 7, 3)) (by decide)
theorem o170_84 : Okp RX10 cX10_followMove 6 (some .boolean) "followMove" false 84 (sK 1 85) := ok_iconst (by decide +kernel : decode cX10_followMove 84 = .ok (.iconst 1, 1)) (by decide)
theorem o170_85 : Okp RX10 cX10_followMove 6 (some .boolean) "followMove" false 85 (sGo 89) := ok_goto (by decide +kernel : decode cX10_followMove 85 = .ok (.goto 4, 3)) (by decide)
theorem o170_88 : Okp RX10 cX10_followMove 6 (some .boolean) "followMove" false 88 (sK 0 89) := ok_iconst (by decide +kernel : decode cX10_followMove 88 = .ok (.iconst 0, 1)) (by decide)
theorem o170_89 : Okp RX10 cX10_followMove 6 (some .boolean) "followMove" false 89 (sCV false 166 2 11 92) := ok_cv (by decide +kernel : decode cX10_followMove 89 = .ok (.invokevirtual 129, 3)) mw_X10_129 rfl (by decide) wm_X10_want wse_X10_want (by decide) rfl
theorem o170_92 : Okp RX10 cX10_followMove 6 (some .boolean) "followMove" false 92 (sLR 0 93) := ok_aload_n (by decide +kernel : decode cX10_followMove 92 = .ok (.aload_n 0, 1)) rfl
theorem o170_93 : Okp RX10 cX10_followMove 6 (some .boolean) "followMove" false 93 (sGR 11 2 96) := ok_getR (by decide +kernel : decode cX10_followMove 93 = .ok (.getfield 22, 3)) fw_X10_22 rfl
theorem o170_96 : Okp RX10 cX10_followMove 6 (some .boolean) "followMove" false 96 (sLI 2 97) := ok_iload_n (by decide +kernel : decode cX10_followMove 96 = .ok (.iload_n 2, 1)) rfl
theorem o170_97 : Okp RX10 cX10_followMove 6 (some .boolean) "followMove" false 97 (sLR 0 98) := ok_aload_n (by decide +kernel : decode cX10_followMove 97 = .ok (.aload_n 0, 1)) rfl
theorem o170_98 : Okp RX10 cX10_followMove 6 (some .boolean) "followMove" false 98 (sCV false 165 1 11 101) := ok_cv (by decide +kernel : decode cX10_followMove 98 = .ok (.invokevirtual 137, 3)) mw_X10_137 rfl (by decide) wm_X10_pop wse_X10_pop (by decide) rfl
theorem o170_101 : Okp RX10 cX10_followMove 6 (some .boolean) "followMove" false 101 (sIS 102) := ok_iastore (by decide +kernel : decode cX10_followMove 101 = .ok (.iastore, 1))
theorem o170_102 : Okp RX10 cX10_followMove 6 (some .boolean) "followMove" false 102 (sGo 185) := ok_goto (by decide +kernel : decode cX10_followMove 102 = .ok (.goto 83, 3)) (by decide)
theorem o170_105 : Okp RX10 cX10_followMove 6 (some .boolean) "followMove" false 105 (sLR 0 106) := ok_aload_n (by decide +kernel : decode cX10_followMove 105 = .ok (.aload_n 0, 1)) rfl
theorem o170_106 : Okp RX10 cX10_followMove 6 (some .boolean) "followMove" false 106 (sLR 0 107) := ok_aload_n (by decide +kernel : decode cX10_followMove 106 = .ok (.aload_n 0, 1)) rfl
theorem o170_107 : Okp RX10 cX10_followMove 6 (some .boolean) "followMove" false 107 (sCV false 165 1 11 110) := ok_cv (by decide +kernel : decode cX10_followMove 107 = .ok (.invokevirtual 137, 3)) mw_X10_137 rfl (by decide) wm_X10_pop wse_X10_pop (by decide) rfl
theorem o170_110 : Okp RX10 cX10_followMove 6 (some .boolean) "followMove" false 110 (sCS false 211 1 113) := ok_cs (by decide +kernel : decode cX10_followMove 110 = .ok (.invokestatic 125, 3)) mw_X10_125 wt_X11_isLinear (by decide) rfl
theorem o170_113 : Okp RX10 cX10_followMove 6 (some .boolean) "followMove" false 113 (sI1 1 120 116) := ok_if_ne (by decide +kernel : decode cX10_followMove 113 = .ok (.ifCond .ne 7, 3)) (by decide)
theorem o170_116 : Okp RX10 cX10_followMove 6 (some .boolean) "followMove" false 116 (sK 1 117) := ok_iconst (by decide +kernel : decode cX10_followMove 116 = .ok (.iconst 1, 1)) (by decide)
theorem o170_117 : Okp RX10 cX10_followMove 6 (some .boolean) "followMove" false 117 (sGo 121) := ok_goto (by decide +kernel : decode cX10_followMove 117 = .ok (.goto 4, 3)) (by decide)
theorem o170_120 : Okp RX10 cX10_followMove 6 (some .boolean) "followMove" false 120 (sK 0 121) := ok_iconst (by decide +kernel : decode cX10_followMove 120 = .ok (.iconst 0, 1)) (by decide)
theorem o170_121 : Okp RX10 cX10_followMove 6 (some .boolean) "followMove" false 121 (sCV false 166 2 11 124) := ok_cv (by decide +kernel : decode cX10_followMove 121 = .ok (.invokevirtual 129, 3)) mw_X10_129 rfl (by decide) wm_X10_want wse_X10_want (by decide) rfl
theorem o170_124 : Okp RX10 cX10_followMove 6 (some .boolean) "followMove" false 124 (sGo 185) := ok_goto (by decide +kernel : decode cX10_followMove 124 = .ok (.goto 61, 3)) (by decide)
theorem o170_127 : Okp RX10 cX10_followMove 6 (some .boolean) "followMove" false 127 (sLR 0 128) := ok_aload_n (by decide +kernel : decode cX10_followMove 127 = .ok (.aload_n 0, 1)) rfl
theorem o170_128 : Okp RX10 cX10_followMove 6 (some .boolean) "followMove" false 128 (sCV false 165 1 11 131) := ok_cv (by decide +kernel : decode cX10_followMove 128 = .ok (.invokevirtual 137, 3)) mw_X10_137 rfl (by decide) wm_X10_pop wse_X10_pop (by decide) rfl
theorem o170_131 : Okp RX10 cX10_followMove 6 (some .boolean) "followMove" false 131 (sSI 3 132) := ok_istore_n (by decide +kernel : decode cX10_followMove 131 = .ok (.istore_n 3, 1)) rfl (by decide) (by decide)
theorem o170_132 : Okp RX10 cX10_followMove 6 (some .boolean) "followMove" false 132 (sLR 0 133) := ok_aload_n (by decide +kernel : decode cX10_followMove 132 = .ok (.aload_n 0, 1)) rfl
theorem o170_133 : Okp RX10 cX10_followMove 6 (some .boolean) "followMove" false 133 (sLI 3 134) := ok_iload_n (by decide +kernel : decode cX10_followMove 133 = .ok (.iload_n 3, 1)) rfl
theorem o170_134 : Okp RX10 cX10_followMove 6 (some .boolean) "followMove" false 134 (sCS false 211 1 137) := ok_cs (by decide +kernel : decode cX10_followMove 134 = .ok (.invokestatic 125, 3)) mw_X10_125 wt_X11_isLinear (by decide) rfl
theorem o170_137 : Okp RX10 cX10_followMove 6 (some .boolean) "followMove" false 137 (sI1 1 144 140) := ok_if_ne (by decide +kernel : decode cX10_followMove 137 = .ok (.ifCond .ne 7, 3)) (by decide)
theorem o170_140 : Okp RX10 cX10_followMove 6 (some .boolean) "followMove" false 140 (sK 1 141) := ok_iconst (by decide +kernel : decode cX10_followMove 140 = .ok (.iconst 1, 1)) (by decide)
theorem o170_141 : Okp RX10 cX10_followMove 6 (some .boolean) "followMove" false 141 (sGo 145) := ok_goto (by decide +kernel : decode cX10_followMove 141 = .ok (.goto 4, 3)) (by decide)
theorem o170_144 : Okp RX10 cX10_followMove 6 (some .boolean) "followMove" false 144 (sK 0 145) := ok_iconst (by decide +kernel : decode cX10_followMove 144 = .ok (.iconst 0, 1)) (by decide)
theorem o170_145 : Okp RX10 cX10_followMove 6 (some .boolean) "followMove" false 145 (sCV false 166 2 11 148) := ok_cv (by decide +kernel : decode cX10_followMove 145 = .ok (.invokevirtual 129, 3)) mw_X10_129 rfl (by decide) wm_X10_want wse_X10_want (by decide) rfl
theorem o170_148 : Okp RX10 cX10_followMove 6 (some .boolean) "followMove" false 148 (sLR 0 149) := ok_aload_n (by decide +kernel : decode cX10_followMove 148 = .ok (.aload_n 0, 1)) rfl
theorem o170_149 : Okp RX10 cX10_followMove 6 (some .boolean) "followMove" false 149 (sLI 3 150) := ok_iload_n (by decide +kernel : decode cX10_followMove 149 = .ok (.iload_n 3, 1)) rfl
theorem o170_150 : Okp RX10 cX10_followMove 6 (some .boolean) "followMove" false 150 (sCV false 164 2 11 153) := ok_cv (by decide +kernel : decode cX10_followMove 150 = .ok (.invokevirtual 169, 3)) mw_X10_169 rfl (by decide) wm_X10_push wse_X10_push (by decide) rfl
theorem o170_153 : Okp RX10 cX10_followMove 6 (some .boolean) "followMove" false 153 (sLR 0 154) := ok_aload_n (by decide +kernel : decode cX10_followMove 153 = .ok (.aload_n 0, 1)) rfl
theorem o170_154 : Okp RX10 cX10_followMove 6 (some .boolean) "followMove" false 154 (sLI 3 155) := ok_iload_n (by decide +kernel : decode cX10_followMove 154 = .ok (.iload_n 3, 1)) rfl
theorem o170_155 : Okp RX10 cX10_followMove 6 (some .boolean) "followMove" false 155 (sCV false 164 2 11 158) := ok_cv (by decide +kernel : decode cX10_followMove 155 = .ok (.invokevirtual 169, 3)) mw_X10_169 rfl (by decide) wm_X10_push wse_X10_push (by decide) rfl
theorem o170_158 : Okp RX10 cX10_followMove 6 (some .boolean) "followMove" false 158 (sGo 185) := ok_goto (by decide +kernel : decode cX10_followMove 158 = .ok (.goto 27, 3)) (by decide)
theorem o170_161 : Okp RX10 cX10_followMove 6 (some .boolean) "followMove" false 161 (sLR 0 162) := ok_aload_n (by decide +kernel : decode cX10_followMove 161 = .ok (.aload_n 0, 1)) rfl
theorem o170_162 : Okp RX10 cX10_followMove 6 (some .boolean) "followMove" false 162 (sCV false 165 1 11 165) := ok_cv (by decide +kernel : decode cX10_followMove 162 = .ok (.invokevirtual 137, 3)) mw_X10_137 rfl (by decide) wm_X10_pop wse_X10_pop (by decide) rfl
theorem o170_165 : Okp RX10 cX10_followMove 6 (some .boolean) "followMove" false 165 (sSI 4 167) := ok_istore (by decide +kernel : decode cX10_followMove 165 = .ok (.istore 4, 2)) (by decide) (by decide)
theorem o170_167 : Okp RX10 cX10_followMove 6 (some .boolean) "followMove" false 167 (sLR 0 168) := ok_aload_n (by decide +kernel : decode cX10_followMove 167 = .ok (.aload_n 0, 1)) rfl
theorem o170_168 : Okp RX10 cX10_followMove 6 (some .boolean) "followMove" false 168 (sCV false 165 1 11 171) := ok_cv (by decide +kernel : decode cX10_followMove 168 = .ok (.invokevirtual 137, 3)) mw_X10_137 rfl (by decide) wm_X10_pop wse_X10_pop (by decide) rfl
theorem o170_171 : Okp RX10 cX10_followMove 6 (some .boolean) "followMove" false 171 (sSI 5 173) := ok_istore (by decide +kernel : decode cX10_followMove 171 = .ok (.istore 5, 2)) (by decide) (by decide)
theorem o170_173 : Okp RX10 cX10_followMove 6 (some .boolean) "followMove" false 173 (sLR 0 174) := ok_aload_n (by decide +kernel : decode cX10_followMove 173 = .ok (.aload_n 0, 1)) rfl
theorem o170_174 : Okp RX10 cX10_followMove 6 (some .boolean) "followMove" false 174 (sLI 4 176) := ok_iload (by decide +kernel : decode cX10_followMove 174 = .ok (.iload 4, 2))
theorem o170_176 : Okp RX10 cX10_followMove 6 (some .boolean) "followMove" false 176 (sCV false 164 2 11 179) := ok_cv (by decide +kernel : decode cX10_followMove 176 = .ok (.invokevirtual 169, 3)) mw_X10_169 rfl (by decide) wm_X10_push wse_X10_push (by decide) rfl
theorem o170_179 : Okp RX10 cX10_followMove 6 (some .boolean) "followMove" false 179 (sLR 0 180) := ok_aload_n (by decide +kernel : decode cX10_followMove 179 = .ok (.aload_n 0, 1)) rfl
theorem o170_180 : Okp RX10 cX10_followMove 6 (some .boolean) "followMove" false 180 (sLI 5 182) := ok_iload (by decide +kernel : decode cX10_followMove 180 = .ok (.iload 5, 2))
theorem o170_182 : Okp RX10 cX10_followMove 6 (some .boolean) "followMove" false 182 (sCV false 164 2 11 185) := ok_cv (by decide +kernel : decode cX10_followMove 182 = .ok (.invokevirtual 169, 3)) mw_X10_169 rfl (by decide) wm_X10_push wse_X10_push (by decide) rfl
theorem o170_185 : Okp RX10 cX10_followMove 6 (some .boolean) "followMove" false 185 (sK 1 186) := ok_iconst (by decide +kernel : decode cX10_followMove 185 = .ok (.iconst 1, 1)) (by decide)
theorem o170_186 : Okp RX10 cX10_followMove 6 (some .boolean) "followMove" false 186 sRZ := ok_zret rfl (by decide +kernel : decode cX10_followMove 186 = .ok (.ireturn, 1))
theorem oc170_0 : ∀ pc, Mnp (c170_0 pc) ∧ Okp RX10 cX10_followMove 6 (some .boolean) "followMove" false pc (c170_0 pc) := by
  intro pc
  unfold c170_0
  split
  · exact ⟨mn_sLI, o170_0⟩
  · exact ⟨mn_sSw, o170_1⟩
  · exact ⟨mn_sX, ok_X⟩
theorem oc170_1 : ∀ pc, Mnp (c170_1 pc) ∧ Okp RX10 cX10_followMove 6 (some .boolean) "followMove" false pc (c170_1 pc) := by
  intro pc
  unfold c170_1
  split
  · exact ⟨mn_sLR, o170_40⟩
  · exact ⟨mn_sK, o170_41⟩
  · exact ⟨mn_sCV, o170_42⟩
  · exact ⟨mn_sGo, o170_45⟩
  · exact ⟨mn_sX, ok_X⟩
theorem oc170_2 : ∀ pc, Mnp (c170_2 pc) ∧ Okp RX10 cX10_followMove 6 (some .boolean) "followMove" false pc (c170_2 pc) := by
  intro pc
  unfold c170_2
  split
  · exact ⟨mn_sLR, o170_48⟩
  · exact ⟨mn_sK, o170_49⟩
  · exact ⟨mn_sCV, o170_51⟩
  · exact ⟨mn_sGo, o170_54⟩
  · exact ⟨mn_sLR, o170_57⟩
  · exact ⟨mn_sLI, o170_58⟩
  · exact ⟨mn_sCV, o170_59⟩
  · exact ⟨mn_sGo, o170_62⟩
  · exact ⟨mn_sLI, o170_65⟩
  · exact ⟨mn_sK, o170_66⟩
  · exact ⟨mn_sI2, o170_68⟩
  · exact ⟨mn_sLR, o170_71⟩
  · exact ⟨mn_sX, ok_X⟩
theorem oc170_3 : ∀ pc, Mnp (c170_3 pc) ∧ Okp RX10 cX10_followMove 6 (some .boolean) "followMove" false pc (c170_3 pc) := by
  intro pc
  unfold c170_3
  split
  · exact ⟨mn_sLR, o170_72⟩
  · exact ⟨mn_sGR, o170_73⟩
  · exact ⟨mn_sLI, o170_76⟩
  · exact ⟨mn_sIA, o170_77⟩
  · exact ⟨mn_sCS, o170_78⟩
  · exact ⟨mn_sI1, o170_81⟩
  · exact ⟨mn_sK, o170_84⟩
  · exact ⟨mn_sGo, o170_85⟩
  · exact ⟨mn_sK, o170_88⟩
  · exact ⟨mn_sCV, o170_89⟩
  · exact ⟨mn_sLR, o170_92⟩
  · exact ⟨mn_sGR, o170_93⟩
  · exact ⟨mn_sX, ok_X⟩
theorem oc170_4 : ∀ pc, Mnp (c170_4 pc) ∧ Okp RX10 cX10_followMove 6 (some .boolean) "followMove" false pc (c170_4 pc) := by
  intro pc
  unfold c170_4
  split
  · exact ⟨mn_sLI, o170_96⟩
  · exact ⟨mn_sLR, o170_97⟩
  · exact ⟨mn_sCV, o170_98⟩
  · exact ⟨mn_sIS, o170_101⟩
  · exact ⟨mn_sGo, o170_102⟩
  · exact ⟨mn_sLR, o170_105⟩
  · exact ⟨mn_sLR, o170_106⟩
  · exact ⟨mn_sCV, o170_107⟩
  · exact ⟨mn_sCS, o170_110⟩
  · exact ⟨mn_sI1, o170_113⟩
  · exact ⟨mn_sK, o170_116⟩
  · exact ⟨mn_sGo, o170_117⟩
  · exact ⟨mn_sX, ok_X⟩
theorem oc170_5 : ∀ pc, Mnp (c170_5 pc) ∧ Okp RX10 cX10_followMove 6 (some .boolean) "followMove" false pc (c170_5 pc) := by
  intro pc
  unfold c170_5
  split
  · exact ⟨mn_sK, o170_120⟩
  · exact ⟨mn_sCV, o170_121⟩
  · exact ⟨mn_sGo, o170_124⟩
  · exact ⟨mn_sLR, o170_127⟩
  · exact ⟨mn_sCV, o170_128⟩
  · exact ⟨mn_sSI, o170_131⟩
  · exact ⟨mn_sLR, o170_132⟩
  · exact ⟨mn_sLI, o170_133⟩
  · exact ⟨mn_sCS, o170_134⟩
  · exact ⟨mn_sI1, o170_137⟩
  · exact ⟨mn_sK, o170_140⟩
  · exact ⟨mn_sGo, o170_141⟩
  · exact ⟨mn_sX, ok_X⟩
theorem oc170_6 : ∀ pc, Mnp (c170_6 pc) ∧ Okp RX10 cX10_followMove 6 (some .boolean) "followMove" false pc (c170_6 pc) := by
  intro pc
  unfold c170_6
  split
  · exact ⟨mn_sK, o170_144⟩
  · exact ⟨mn_sCV, o170_145⟩
  · exact ⟨mn_sLR, o170_148⟩
  · exact ⟨mn_sLI, o170_149⟩
  · exact ⟨mn_sCV, o170_150⟩
  · exact ⟨mn_sLR, o170_153⟩
  · exact ⟨mn_sLI, o170_154⟩
  · exact ⟨mn_sCV, o170_155⟩
  · exact ⟨mn_sGo, o170_158⟩
  · exact ⟨mn_sLR, o170_161⟩
  · exact ⟨mn_sCV, o170_162⟩
  · exact ⟨mn_sSI, o170_165⟩
  · exact ⟨mn_sLR, o170_167⟩
  · exact ⟨mn_sX, ok_X⟩
theorem oc170_7 : ∀ pc, Mnp (c170_7 pc) ∧ Okp RX10 cX10_followMove 6 (some .boolean) "followMove" false pc (c170_7 pc) := by
  intro pc
  unfold c170_7
  split
  · exact ⟨mn_sCV, o170_168⟩
  · exact ⟨mn_sSI, o170_171⟩
  · exact ⟨mn_sLR, o170_173⟩
  · exact ⟨mn_sLI, o170_174⟩
  · exact ⟨mn_sCV, o170_176⟩
  · exact ⟨mn_sLR, o170_179⟩
  · exact ⟨mn_sLI, o170_180⟩
  · exact ⟨mn_sCV, o170_182⟩
  · exact ⟨mn_sK, o170_185⟩
  · exact ⟨mn_sRZ, o170_186⟩
  · exact ⟨mn_sX, ok_X⟩
theorem oc170 : ∀ pc, Mnp (c170 pc) ∧ Okp RX10 cX10_followMove 6 (some .boolean) "followMove" false pc (c170 pc) := by
  intro pc
  unfold c170
  split
  · exact oc170_0 pc
  · exact oc170_1 pc
  · exact oc170_2 pc
  · exact oc170_3 pc
  · exact oc170_4 pc
  · exact oc170_5 pc
  · exact oc170_6 pc
  · exact oc170_7 pc
  · exact ⟨mn_sX, ok_X⟩
theorem o171_0 : Okp RX10 cX10_followLoad 3 none "followLoad" false 0 (sLI 1 1) := ok_iload_n (by decide +kernel : decode cX10_followLoad 0 = .ok (.iload_n 1, 1)) rfl
theorem o171_1 : Okp RX10 cX10_followLoad 3 none "followLoad" false 1 (sK 10 3) := ok_bipush (by decide +kernel : decode cX10_followLoad 1 = .ok (.bipush 10, 2)) (by decide)
theorem o171_3 : Okp RX10 cX10_followLoad 3 none "followLoad" false 3 (sI2 2 7 6) := ok_icmp_lt (by decide +kernel : decode cX10_followLoad 3 = .ok (.if_icmp .lt 4, 3)) (by decide)
theorem o171_6 : Okp RX10 cX10_followLoad 3 none "followLoad" false 6 sRV := ok_vret rfl (by decide +kernel : decode cX10_followLoad 6 = .ok (.return_, 1))
theorem o171_7 : Okp RX10 cX10_followLoad 3 none "followLoad" false 7 (sLR 0 8) := ok_aload_n (by decide +kernel : decode cX10_followLoad 7 = .ok (.aload_n 0, 1)) rfl
theorem o171_8 : Okp RX10 cX10_followLoad 3 none "followLoad" false 8 (sGR 11 2 11) := ok_getR (by decide +kernel : decode cX10_followLoad 8 = .ok (.getfield 22, 3)) fw_X10_22 rfl
theorem o171_11 : Okp RX10 cX10_followLoad 3 none "followLoad" false 11 (sLI 1 12) := ok_iload_n (by decide +kernel : decode cX10_followLoad 11 = .ok (.iload_n 1, 1)) rfl
theorem o171_12 : Okp RX10 cX10_followLoad 3 none "followLoad" false 12 (sIA 13) := ok_iaload (by decide +kernel : decode cX10_followLoad 12 = .ok (.iaload, 1))
theorem o171_13 : Okp RX10 cX10_followLoad 3 none "followLoad" false 13 (sSI 2 14) := ok_istore_n (by decide +kernel : decode cX10_followLoad 13 = .ok (.istore_n 2, 1)) rfl (by decide) (by decide)
theorem o171_14 : Okp RX10 cX10_followLoad 3 none "followLoad" false 14 (sLR 0 15) := ok_aload_n (by decide +kernel : decode cX10_followLoad 14 = .ok (.aload_n 0, 1)) rfl
theorem o171_15 : Okp RX10 cX10_followLoad 3 none "followLoad" false 15 (sLI 2 16) := ok_iload_n (by decide +kernel : decode cX10_followLoad 15 = .ok (.iload_n 2, 1)) rfl
theorem o171_16 : Okp RX10 cX10_followLoad 3 none "followLoad" false 16 (sK 7 18) := ok_bipush (by decide +kernel : decode cX10_followLoad 16 = .ok (.bipush 7, 2)) (by decide)
theorem o171_18 : Okp RX10 cX10_followLoad 3 none "followLoad" false 18 (sI2 0 25 21) := ok_icmp_eq (by decide +kernel : decode cX10_followLoad 18 = .ok (.if_icmp .eq 7, 3)) (by decide)
theorem o171_21 : Okp RX10 cX10_followLoad 3 none "followLoad" false 21 (sK 1 22) := ok_iconst (by decide +kernel : decode cX10_followLoad 21 = .ok (.iconst 1, 1)) (by decide)
theorem o171_22 : Okp RX10 cX10_followLoad 3 none "followLoad" false 22 (sGo 26) := ok_goto (by decide +kernel : decode cX10_followLoad 22 = .ok (.goto 4, 3)) (by decide)
theorem o171_25 : Okp RX10 cX10_followLoad 3 none "followLoad" false 25 (sK 0 26) := ok_iconst (by decide +kernel : decode cX10_followLoad 25 = .ok (.iconst 0, 1)) (by decide)
theorem o171_26 : Okp RX10 cX10_followLoad 3 none "followLoad" false 26 (sCV false 166 2 11 29) := ok_cv (by decide +kernel : decode cX10_followLoad 26 = .ok (.invokevirtual 129, 3)) mw_X10_129 rfl (by decide) wm_X10_want wse_X10_want (by decide) rfl
theorem o171_29 : Okp RX10 cX10_followLoad 3 none "followLoad" false 29 (sLR 0 30) := ok_aload_n (by decide +kernel : decode cX10_followLoad 29 = .ok (.aload_n 0, 1)) rfl
theorem o171_30 : Okp RX10 cX10_followLoad 3 none "followLoad" false 30 (sLI 2 31) := ok_iload_n (by decide +kernel : decode cX10_followLoad 30 = .ok (.iload_n 2, 1)) rfl
theorem o171_31 : Okp RX10 cX10_followLoad 3 none "followLoad" false 31 (sCV false 164 2 11 34) := ok_cv (by decide +kernel : decode cX10_followLoad 31 = .ok (.invokevirtual 169, 3)) mw_X10_169 rfl (by decide) wm_X10_push wse_X10_push (by decide) rfl
theorem o171_34 : Okp RX10 cX10_followLoad 3 none "followLoad" false 34 (sLI 2 35) := ok_iload_n (by decide +kernel : decode cX10_followLoad 34 = .ok (.iload_n 2, 1)) rfl
theorem o171_35 : Okp RX10 cX10_followLoad 3 none "followLoad" false 35 (sCS false 211 1 38) := ok_cs (by decide +kernel : decode cX10_followLoad 35 = .ok (.invokestatic 125, 3)) mw_X10_125 wt_X11_isLinear (by decide) rfl
theorem o171_38 : Okp RX10 cX10_followLoad 3 none "followLoad" false 38 (sI1 0 49 41) := ok_if_eq (by decide +kernel : decode cX10_followLoad 38 = .ok (.ifCond .eq 11, 3)) (by decide)
theorem o171_41 : Okp RX10 cX10_followLoad 3 none "followLoad" false 41 (sLR 0 42) := ok_aload_n (by decide +kernel : decode cX10_followLoad 41 = .ok (.aload_n 0, 1)) rfl
theorem o171_42 : Okp RX10 cX10_followLoad 3 none "followLoad" false 42 (sGR 11 2 45) := ok_getR (by decide +kernel : decode cX10_followLoad 42 = .ok (.getfield 22, 3)) fw_X10_22 rfl
theorem o171_45 : Okp RX10 cX10_followLoad 3 none "followLoad" false 45 (sLI 1 46) := ok_iload_n (by decide +kernel : decode cX10_followLoad 45 = .ok (.iload_n 1, 1)) rfl
theorem o171_46 : Okp RX10 cX10_followLoad 3 none "followLoad" false 46 (sK 7 48) := ok_bipush (by decide +kernel : decode cX10_followLoad 46 = .ok (.bipush 7, 2)) (by decide)
theorem o171_48 : Okp RX10 cX10_followLoad 3 none "followLoad" false 48 (sIS 49) := ok_iastore (by decide +kernel : decode cX10_followLoad 48 = .ok (.iastore, 1))
theorem o171_49 : Okp RX10 cX10_followLoad 3 none "followLoad" false 49 sRV := ok_vret rfl (by decide +kernel : decode cX10_followLoad 49 = .ok (.return_, 1))
theorem oc171_0 : ∀ pc, Mnp (c171_0 pc) ∧ Okp RX10 cX10_followLoad 3 none "followLoad" false pc (c171_0 pc) := by
  intro pc
  unfold c171_0
  split
  · exact ⟨mn_sLI, o171_0⟩
  · exact ⟨mn_sK, o171_1⟩
  · exact ⟨mn_sI2, o171_3⟩
  · exact ⟨mn_sRV, o171_6⟩
  · exact ⟨mn_sLR, o171_7⟩
  · exact ⟨mn_sGR, o171_8⟩
  · exact ⟨mn_sLI, o171_11⟩
  · exact ⟨mn_sIA, o171_12⟩
  · exact ⟨mn_sSI, o171_13⟩
  · exact ⟨mn_sLR, o171_14⟩
  · exact ⟨mn_sLI, o171_15⟩
  · exact ⟨mn_sK, o171_16⟩
  · exact ⟨mn_sI2, o171_18⟩
  · exact ⟨mn_sK, o171_21⟩
  · exact ⟨mn_sGo, o171_22⟩
  · exact ⟨mn_sX, ok_X⟩
theorem oc171_1 : ∀ pc, Mnp (c171_1 pc) ∧ Okp RX10 cX10_followLoad 3 none "followLoad" false pc (c171_1 pc) := by
  intro pc
  unfold c171_1
  split
  · exact ⟨mn_sK, o171_25⟩
  · exact ⟨mn_sCV, o171_26⟩
  · exact ⟨mn_sLR, o171_29⟩
  · exact ⟨mn_sLI, o171_30⟩
  · exact ⟨mn_sCV, o171_31⟩
  · exact ⟨mn_sLI, o171_34⟩
  · exact ⟨mn_sCS, o171_35⟩
  · exact ⟨mn_sI1, o171_38⟩
  · exact ⟨mn_sLR, o171_41⟩
  · exact ⟨mn_sGR, o171_42⟩
  · exact ⟨mn_sLI, o171_45⟩
  · exact ⟨mn_sK, o171_46⟩
  · exact ⟨mn_sX, ok_X⟩
theorem oc171_2 : ∀ pc, Mnp (c171_2 pc) ∧ Okp RX10 cX10_followLoad 3 none "followLoad" false pc (c171_2 pc) := by
  intro pc
  unfold c171_2
  split
  · exact ⟨mn_sIS, o171_48⟩
  · exact ⟨mn_sRV, o171_49⟩
  · exact ⟨mn_sX, ok_X⟩
theorem oc171 : ∀ pc, Mnp (c171 pc) ∧ Okp RX10 cX10_followLoad 3 none "followLoad" false pc (c171 pc) := by
  intro pc
  unfold c171
  split
  · exact oc171_0 pc
  · exact oc171_1 pc
  · exact oc171_2 pc
  · exact ⟨mn_sX, ok_X⟩
theorem o172_0 : Okp RX10 cX10_followInts 3 (some .boolean) "followInts" false 0 (sLI 1 1) := ok_iload_n (by decide +kernel : decode cX10_followInts 0 = .ok (.iload_n 1, 1)) rfl
theorem o172_1 : Okp RX10 cX10_followInts 3 (some .boolean) "followInts" false 1 (sSw [(19, 28), (20, 46), (21, 53)] 64) := ok_tsw (by decide +kernel : decode cX10_followInts 1 = .ok (.tableswitch 63 19 21 #[27, 45, 52], 27)) (by decide) (by decide) (by decide)
theorem o172_28 : Okp RX10 cX10_followInts 3 (some .boolean) "followInts" false 28 (sLR 0 29) := ok_aload_n (by decide +kernel : decode cX10_followInts 28 = .ok (.aload_n 0, 1)) rfl
theorem o172_29 : Okp RX10 cX10_followInts 3 (some .boolean) "followInts" false 29 (sLR 0 30) := ok_aload_n (by decide +kernel : decode cX10_followInts 29 = .ok (.aload_n 0, 1)) rfl
theorem o172_30 : Okp RX10 cX10_followInts 3 (some .boolean) "followInts" false 30 (sCV false 165 1 11 33) := ok_cv (by decide +kernel : decode cX10_followInts 30 = .ok (.invokevirtual 137, 3)) mw_X10_137 rfl (by decide) wm_X10_pop wse_X10_pop (by decide) rfl
theorem o172_33 : Okp RX10 cX10_followInts 3 (some .boolean) "followInts" false 33 (sCS false 213 1 36) := ok_cs (by decide +kernel : decode cX10_followInts 33 = .ok (.invokestatic 175, 3)) mw_X10_175 wt_X11_isPointerOrNil (by decide) rfl
theorem o172_36 : Okp RX10 cX10_followInts 3 (some .boolean) "followInts" false 36 (sCV false 166 2 11 39) := ok_cv (by decide +kernel : decode cX10_followInts 36 = .ok (.invokevirtual 129, 3)) mw_X10_129 rfl (by decide) wm_X10_want wse_X10_want (by decide) rfl
theorem o172_39 : Okp RX10 cX10_followInts 3 (some .boolean) "followInts" false 39 (sLR 0 40) := ok_aload_n (by decide +kernel : decode cX10_followInts 39 = .ok (.aload_n 0, 1)) rfl
theorem o172_40 : Okp RX10 cX10_followInts 3 (some .boolean) "followInts" false 40 (sK 0 41) := ok_iconst (by decide +kernel : decode cX10_followInts 40 = .ok (.iconst 0, 1)) (by decide)
theorem o172_41 : Okp RX10 cX10_followInts 3 (some .boolean) "followInts" false 41 (sCV false 164 2 11 44) := ok_cv (by decide +kernel : decode cX10_followInts 41 = .ok (.invokevirtual 169, 3)) mw_X10_169 rfl (by decide) wm_X10_push wse_X10_push (by decide) rfl
theorem o172_44 : Okp RX10 cX10_followInts 3 (some .boolean) "followInts" false 44 (sK 1 45) := ok_iconst (by decide +kernel : decode cX10_followInts 44 = .ok (.iconst 1, 1)) (by decide)
theorem o172_45 : Okp RX10 cX10_followInts 3 (some .boolean) "followInts" false 45 sRZ := ok_zret rfl (by decide +kernel : decode cX10_followInts 45 = .ok (.ireturn, 1))
theorem o172_46 : Okp RX10 cX10_followInts 3 (some .boolean) "followInts" false 46 (sLR 0 47) := ok_aload_n (by decide +kernel : decode cX10_followInts 46 = .ok (.aload_n 0, 1)) rfl
theorem o172_47 : Okp RX10 cX10_followInts 3 (some .boolean) "followInts" false 47 (sLI 2 48) := ok_iload_n (by decide +kernel : decode cX10_followInts 47 = .ok (.iload_n 2, 1)) rfl
theorem o172_48 : Okp RX10 cX10_followInts 3 (some .boolean) "followInts" false 48 (sCV false 162 2 11 51) := ok_cv (by decide +kernel : decode cX10_followInts 48 = .ok (.invokevirtual 93, 3)) mw_X10_93 rfl (by decide) wm_X10_arriveAt wse_X10_arriveAt (by decide) rfl
theorem o172_51 : Okp RX10 cX10_followInts 3 (some .boolean) "followInts" false 51 (sK 0 52) := ok_iconst (by decide +kernel : decode cX10_followInts 51 = .ok (.iconst 0, 1)) (by decide)
theorem o172_52 : Okp RX10 cX10_followInts 3 (some .boolean) "followInts" false 52 sRZ := ok_zret rfl (by decide +kernel : decode cX10_followInts 52 = .ok (.ireturn, 1))
theorem o172_53 : Okp RX10 cX10_followInts 3 (some .boolean) "followInts" false 53 (sLR 0 54) := ok_aload_n (by decide +kernel : decode cX10_followInts 53 = .ok (.aload_n 0, 1)) rfl
theorem o172_54 : Okp RX10 cX10_followInts 3 (some .boolean) "followInts" false 54 (sCV false 167 1 11 57) := ok_cv (by decide +kernel : decode cX10_followInts 54 = .ok (.invokevirtual 178, 3)) mw_X10_178 rfl (by decide) wm_X10_popInt wse_X10_popInt (by decide) rfl
theorem o172_57 : Okp RX10 cX10_followInts 3 (some .boolean) "followInts" false 57 (sLR 0 58) := ok_aload_n (by decide +kernel : decode cX10_followInts 57 = .ok (.aload_n 0, 1)) rfl
theorem o172_58 : Okp RX10 cX10_followInts 3 (some .boolean) "followInts" false 58 (sLI 2 59) := ok_iload_n (by decide +kernel : decode cX10_followInts 58 = .ok (.iload_n 2, 1)) rfl
theorem o172_59 : Okp RX10 cX10_followInts 3 (some .boolean) "followInts" false 59 (sCV false 162 2 11 62) := ok_cv (by decide +kernel : decode cX10_followInts 59 = .ok (.invokevirtual 93, 3)) mw_X10_93 rfl (by decide) wm_X10_arriveAt wse_X10_arriveAt (by decide) rfl
theorem o172_62 : Okp RX10 cX10_followInts 3 (some .boolean) "followInts" false 62 (sK 1 63) := ok_iconst (by decide +kernel : decode cX10_followInts 62 = .ok (.iconst 1, 1)) (by decide)
theorem o172_63 : Okp RX10 cX10_followInts 3 (some .boolean) "followInts" false 63 sRZ := ok_zret rfl (by decide +kernel : decode cX10_followInts 63 = .ok (.ireturn, 1))
theorem o172_64 : Okp RX10 cX10_followInts 3 (some .boolean) "followInts" false 64 (sLR 0 65) := ok_aload_n (by decide +kernel : decode cX10_followInts 64 = .ok (.aload_n 0, 1)) rfl
theorem o172_65 : Okp RX10 cX10_followInts 3 (some .boolean) "followInts" false 65 (sCV false 167 1 11 68) := ok_cv (by decide +kernel : decode cX10_followInts 65 = .ok (.invokevirtual 178, 3)) mw_X10_178 rfl (by decide) wm_X10_popInt wse_X10_popInt (by decide) rfl
theorem o172_68 : Okp RX10 cX10_followInts 3 (some .boolean) "followInts" false 68 (sLR 0 69) := ok_aload_n (by decide +kernel : decode cX10_followInts 68 = .ok (.aload_n 0, 1)) rfl
theorem o172_69 : Okp RX10 cX10_followInts 3 (some .boolean) "followInts" false 69 (sCV false 167 1 11 72) := ok_cv (by decide +kernel : decode cX10_followInts 69 = .ok (.invokevirtual 178, 3)) mw_X10_178 rfl (by decide) wm_X10_popInt wse_X10_popInt (by decide) rfl
theorem o172_72 : Okp RX10 cX10_followInts 3 (some .boolean) "followInts" false 72 (sLR 0 73) := ok_aload_n (by decide +kernel : decode cX10_followInts 72 = .ok (.aload_n 0, 1)) rfl
theorem o172_73 : Okp RX10 cX10_followInts 3 (some .boolean) "followInts" false 73 (sK 0 74) := ok_iconst (by decide +kernel : decode cX10_followInts 73 = .ok (.iconst 0, 1)) (by decide)
theorem o172_74 : Okp RX10 cX10_followInts 3 (some .boolean) "followInts" false 74 (sCV false 164 2 11 77) := ok_cv (by decide +kernel : decode cX10_followInts 74 = .ok (.invokevirtual 169, 3)) mw_X10_169 rfl (by decide) wm_X10_push wse_X10_push (by decide) rfl
theorem o172_77 : Okp RX10 cX10_followInts 3 (some .boolean) "followInts" false 77 (sK 1 78) := ok_iconst (by decide +kernel : decode cX10_followInts 77 = .ok (.iconst 1, 1)) (by decide)
theorem o172_78 : Okp RX10 cX10_followInts 3 (some .boolean) "followInts" false 78 sRZ := ok_zret rfl (by decide +kernel : decode cX10_followInts 78 = .ok (.ireturn, 1))
theorem oc172_0 : ∀ pc, Mnp (c172_0 pc) ∧ Okp RX10 cX10_followInts 3 (some .boolean) "followInts" false pc (c172_0 pc) := by
  intro pc
  unfold c172_0
  split
  · exact ⟨mn_sLI, o172_0⟩
  · exact ⟨mn_sSw, o172_1⟩
  · exact ⟨mn_sX, ok_X⟩
theorem oc172_1 : ∀ pc, Mnp (c172_1 pc) ∧ Okp RX10 cX10_followInts 3 (some .boolean) "followInts" false pc (c172_1 pc) := by
  intro pc
  unfold c172_1
  split
  · exact ⟨mn_sLR, o172_28⟩
  · exact ⟨mn_sLR, o172_29⟩
  · exact ⟨mn_sCV, o172_30⟩
  · exact ⟨mn_sCS, o172_33⟩
  · exact ⟨mn_sCV, o172_36⟩
  · exact ⟨mn_sLR, o172_39⟩
  · exact ⟨mn_sK, o172_40⟩
  · exact ⟨mn_sCV, o172_41⟩
  · exact ⟨mn_sK, o172_44⟩
  · exact ⟨mn_sRZ, o172_45⟩
  · exact ⟨mn_sLR, o172_46⟩
  · exact ⟨mn_sLI, o172_47⟩
  · exact ⟨mn_sX, ok_X⟩
theorem oc172_2 : ∀ pc, Mnp (c172_2 pc) ∧ Okp RX10 cX10_followInts 3 (some .boolean) "followInts" false pc (c172_2 pc) := by
  intro pc
  unfold c172_2
  split
  · exact ⟨mn_sCV, o172_48⟩
  · exact ⟨mn_sK, o172_51⟩
  · exact ⟨mn_sRZ, o172_52⟩
  · exact ⟨mn_sLR, o172_53⟩
  · exact ⟨mn_sCV, o172_54⟩
  · exact ⟨mn_sLR, o172_57⟩
  · exact ⟨mn_sLI, o172_58⟩
  · exact ⟨mn_sCV, o172_59⟩
  · exact ⟨mn_sK, o172_62⟩
  · exact ⟨mn_sRZ, o172_63⟩
  · exact ⟨mn_sLR, o172_64⟩
  · exact ⟨mn_sCV, o172_65⟩
  · exact ⟨mn_sLR, o172_68⟩
  · exact ⟨mn_sCV, o172_69⟩
  · exact ⟨mn_sX, ok_X⟩
theorem oc172_3 : ∀ pc, Mnp (c172_3 pc) ∧ Okp RX10 cX10_followInts 3 (some .boolean) "followInts" false pc (c172_3 pc) := by
  intro pc
  unfold c172_3
  split
  · exact ⟨mn_sLR, o172_72⟩
  · exact ⟨mn_sK, o172_73⟩
  · exact ⟨mn_sCV, o172_74⟩
  · exact ⟨mn_sK, o172_77⟩
  · exact ⟨mn_sRZ, o172_78⟩
  · exact ⟨mn_sX, ok_X⟩
theorem oc172 : ∀ pc, Mnp (c172 pc) ∧ Okp RX10 cX10_followInts 3 (some .boolean) "followInts" false pc (c172 pc) := by
  intro pc
  unfold c172
  split
  · exact oc172_0 pc
  · exact oc172_1 pc
  · exact oc172_2 pc
  · exact oc172_3 pc
  · exact ⟨mn_sX, ok_X⟩
theorem o173_0 : Okp RX10 cX10_followHeap 3 (some .boolean) "followHeap" false 0 (sLI 1 1) := ok_iload_n (by decide +kernel : decode cX10_followHeap 0 = .ok (.iload_n 1, 1)) rfl
theorem o173_1 : Okp RX10 cX10_followHeap 3 (some .boolean) "followHeap" false 1 (sSw [(22, 36), (23, 73), (24, 73), (25, 47), (26, 58)] 80) := ok_tsw (by decide +kernel : decode cX10_followHeap 1 = .ok (.tableswitch 79 22 26 #[35, 72, 72, 46, 57], 35)) (by decide) (by decide) (by decide)
theorem o173_36 : Okp RX10 cX10_followHeap 3 (some .boolean) "followHeap" false 36 (sLR 0 37) := ok_aload_n (by decide +kernel : decode cX10_followHeap 36 = .ok (.aload_n 0, 1)) rfl
theorem o173_37 : Okp RX10 cX10_followHeap 3 (some .boolean) "followHeap" false 37 (sK 1 38) := ok_iconst (by decide +kernel : decode cX10_followHeap 37 = .ok (.iconst 1, 1)) (by decide)
theorem o173_38 : Okp RX10 cX10_followHeap 3 (some .boolean) "followHeap" false 38 (sLI 2 39) := ok_iload_n (by decide +kernel : decode cX10_followHeap 38 = .ok (.iload_n 2, 1)) rfl
theorem o173_39 : Okp RX10 cX10_followHeap 3 (some .boolean) "followHeap" false 39 (sCS false 205 2 42) := ok_cs (by decide +kernel : decode cX10_followHeap 39 = .ok (.invokestatic 181, 3)) mw_X10_181 wt_X11_typeOf (by decide) rfl
theorem o173_42 : Okp RX10 cX10_followHeap 3 (some .boolean) "followHeap" false 42 (sCV false 164 2 11 45) := ok_cv (by decide +kernel : decode cX10_followHeap 42 = .ok (.invokevirtual 169, 3)) mw_X10_169 rfl (by decide) wm_X10_push wse_X10_push (by decide) rfl
theorem o173_45 : Okp RX10 cX10_followHeap 3 (some .boolean) "followHeap" false 45 (sK 1 46) := ok_iconst (by decide +kernel : decode cX10_followHeap 45 = .ok (.iconst 1, 1)) (by decide)
theorem o173_46 : Okp RX10 cX10_followHeap 3 (some .boolean) "followHeap" false 46 sRZ := ok_zret rfl (by decide +kernel : decode cX10_followHeap 46 = .ok (.ireturn, 1))
theorem o173_47 : Okp RX10 cX10_followHeap 3 (some .boolean) "followHeap" false 47 (sLR 0 48) := ok_aload_n (by decide +kernel : decode cX10_followHeap 47 = .ok (.aload_n 0, 1)) rfl
theorem o173_48 : Okp RX10 cX10_followHeap 3 (some .boolean) "followHeap" false 48 (sCV false 167 1 11 51) := ok_cv (by decide +kernel : decode cX10_followHeap 48 = .ok (.invokevirtual 178, 3)) mw_X10_178 rfl (by decide) wm_X10_popInt wse_X10_popInt (by decide) rfl
theorem o173_51 : Okp RX10 cX10_followHeap 3 (some .boolean) "followHeap" false 51 (sLR 0 52) := ok_aload_n (by decide +kernel : decode cX10_followHeap 51 = .ok (.aload_n 0, 1)) rfl
theorem o173_52 : Okp RX10 cX10_followHeap 3 (some .boolean) "followHeap" false 52 (sK 2 53) := ok_iconst (by decide +kernel : decode cX10_followHeap 52 = .ok (.iconst 2, 1)) (by decide)
theorem o173_53 : Okp RX10 cX10_followHeap 3 (some .boolean) "followHeap" false 53 (sCV false 164 2 11 56) := ok_cv (by decide +kernel : decode cX10_followHeap 53 = .ok (.invokevirtual 169, 3)) mw_X10_169 rfl (by decide) wm_X10_push wse_X10_push (by decide) rfl
theorem o173_56 : Okp RX10 cX10_followHeap 3 (some .boolean) "followHeap" false 56 (sK 1 57) := ok_iconst (by decide +kernel : decode cX10_followHeap 56 = .ok (.iconst 1, 1)) (by decide)
theorem o173_57 : Okp RX10 cX10_followHeap 3 (some .boolean) "followHeap" false 57 sRZ := ok_zret rfl (by decide +kernel : decode cX10_followHeap 57 = .ok (.ireturn, 1))
theorem o173_58 : Okp RX10 cX10_followHeap 3 (some .boolean) "followHeap" false 58 (sLR 0 59) := ok_aload_n (by decide +kernel : decode cX10_followHeap 58 = .ok (.aload_n 0, 1)) rfl
theorem o173_59 : Okp RX10 cX10_followHeap 3 (some .boolean) "followHeap" false 59 (sCV false 167 1 11 62) := ok_cv (by decide +kernel : decode cX10_followHeap 59 = .ok (.invokevirtual 178, 3)) mw_X10_178 rfl (by decide) wm_X10_popInt wse_X10_popInt (by decide) rfl
theorem o173_62 : Okp RX10 cX10_followHeap 3 (some .boolean) "followHeap" false 62 (sLR 0 63) := ok_aload_n (by decide +kernel : decode cX10_followHeap 62 = .ok (.aload_n 0, 1)) rfl
theorem o173_63 : Okp RX10 cX10_followHeap 3 (some .boolean) "followHeap" false 63 (sK 3 64) := ok_iconst (by decide +kernel : decode cX10_followHeap 63 = .ok (.iconst 3, 1)) (by decide)
theorem o173_64 : Okp RX10 cX10_followHeap 3 (some .boolean) "followHeap" false 64 (sLI 2 65) := ok_iload_n (by decide +kernel : decode cX10_followHeap 64 = .ok (.iload_n 2, 1)) rfl
theorem o173_65 : Okp RX10 cX10_followHeap 3 (some .boolean) "followHeap" false 65 (sCS false 205 2 68) := ok_cs (by decide +kernel : decode cX10_followHeap 65 = .ok (.invokestatic 181, 3)) mw_X10_181 wt_X11_typeOf (by decide) rfl
theorem o173_68 : Okp RX10 cX10_followHeap 3 (some .boolean) "followHeap" false 68 (sCV false 164 2 11 71) := ok_cv (by decide +kernel : decode cX10_followHeap 68 = .ok (.invokevirtual 169, 3)) mw_X10_169 rfl (by decide) wm_X10_push wse_X10_push (by decide) rfl
theorem o173_71 : Okp RX10 cX10_followHeap 3 (some .boolean) "followHeap" false 71 (sK 1 72) := ok_iconst (by decide +kernel : decode cX10_followHeap 71 = .ok (.iconst 1, 1)) (by decide)
theorem o173_72 : Okp RX10 cX10_followHeap 3 (some .boolean) "followHeap" false 72 sRZ := ok_zret rfl (by decide +kernel : decode cX10_followHeap 72 = .ok (.ireturn, 1))
theorem o173_73 : Okp RX10 cX10_followHeap 3 (some .boolean) "followHeap" false 73 (sLR 0 74) := ok_aload_n (by decide +kernel : decode cX10_followHeap 73 = .ok (.aload_n 0, 1)) rfl
theorem o173_74 : Okp RX10 cX10_followHeap 3 (some .boolean) "followHeap" false 74 (sLI 1 75) := ok_iload_n (by decide +kernel : decode cX10_followHeap 74 = .ok (.iload_n 1, 1)) rfl
theorem o173_75 : Okp RX10 cX10_followHeap 3 (some .boolean) "followHeap" false 75 (sLI 2 76) := ok_iload_n (by decide +kernel : decode cX10_followHeap 75 = .ok (.iload_n 2, 1)) rfl
theorem o173_76 : Okp RX10 cX10_followHeap 3 (some .boolean) "followHeap" false 76 (sCV false 174 3 11 79) := ok_cv (by decide +kernel : decode cX10_followHeap 76 = .ok (.invokevirtual 184, 3)) mw_X10_184 rfl (by decide) wm_X10_followNode wse_X10_followNode (by decide) rfl
theorem o173_79 : Okp RX10 cX10_followHeap 3 (some .boolean) "followHeap" false 79 sRZ := ok_zret rfl (by decide +kernel : decode cX10_followHeap 79 = .ok (.ireturn, 1))
theorem o173_80 : Okp RX10 cX10_followHeap 3 (some .boolean) "followHeap" false 80 (sLR 0 81) := ok_aload_n (by decide +kernel : decode cX10_followHeap 80 = .ok (.aload_n 0, 1)) rfl
theorem o173_81 : Okp RX10 cX10_followHeap 3 (some .boolean) "followHeap" false 81 (sLI 1 82) := ok_iload_n (by decide +kernel : decode cX10_followHeap 81 = .ok (.iload_n 1, 1)) rfl
theorem o173_82 : Okp RX10 cX10_followHeap 3 (some .boolean) "followHeap" false 82 (sCV false 175 2 11 85) := ok_cv (by decide +kernel : decode cX10_followHeap 82 = .ok (.invokevirtual 187, 3)) mw_X10_187 rfl (by decide) wm_X10_followRow wse_X10_followRow (by decide) rfl
theorem o173_85 : Okp RX10 cX10_followHeap 3 (some .boolean) "followHeap" false 85 sRZ := ok_zret rfl (by decide +kernel : decode cX10_followHeap 85 = .ok (.ireturn, 1))
theorem oc173_0 : ∀ pc, Mnp (c173_0 pc) ∧ Okp RX10 cX10_followHeap 3 (some .boolean) "followHeap" false pc (c173_0 pc) := by
  intro pc
  unfold c173_0
  split
  · exact ⟨mn_sLI, o173_0⟩
  · exact ⟨mn_sSw, o173_1⟩
  · exact ⟨mn_sX, ok_X⟩
theorem oc173_1 : ∀ pc, Mnp (c173_1 pc) ∧ Okp RX10 cX10_followHeap 3 (some .boolean) "followHeap" false pc (c173_1 pc) := by
  intro pc
  unfold c173_1
  split
  · exact ⟨mn_sLR, o173_36⟩
  · exact ⟨mn_sK, o173_37⟩
  · exact ⟨mn_sLI, o173_38⟩
  · exact ⟨mn_sCS, o173_39⟩
  · exact ⟨mn_sCV, o173_42⟩
  · exact ⟨mn_sK, o173_45⟩
  · exact ⟨mn_sRZ, o173_46⟩
  · exact ⟨mn_sLR, o173_47⟩
  · exact ⟨mn_sX, ok_X⟩
theorem oc173_2 : ∀ pc, Mnp (c173_2 pc) ∧ Okp RX10 cX10_followHeap 3 (some .boolean) "followHeap" false pc (c173_2 pc) := by
  intro pc
  unfold c173_2
  split
  · exact ⟨mn_sCV, o173_48⟩
  · exact ⟨mn_sLR, o173_51⟩
  · exact ⟨mn_sK, o173_52⟩
  · exact ⟨mn_sCV, o173_53⟩
  · exact ⟨mn_sK, o173_56⟩
  · exact ⟨mn_sRZ, o173_57⟩
  · exact ⟨mn_sLR, o173_58⟩
  · exact ⟨mn_sCV, o173_59⟩
  · exact ⟨mn_sLR, o173_62⟩
  · exact ⟨mn_sK, o173_63⟩
  · exact ⟨mn_sLI, o173_64⟩
  · exact ⟨mn_sCS, o173_65⟩
  · exact ⟨mn_sCV, o173_68⟩
  · exact ⟨mn_sK, o173_71⟩
  · exact ⟨mn_sX, ok_X⟩
theorem oc173_3 : ∀ pc, Mnp (c173_3 pc) ∧ Okp RX10 cX10_followHeap 3 (some .boolean) "followHeap" false pc (c173_3 pc) := by
  intro pc
  unfold c173_3
  split
  · exact ⟨mn_sRZ, o173_72⟩
  · exact ⟨mn_sLR, o173_73⟩
  · exact ⟨mn_sLI, o173_74⟩
  · exact ⟨mn_sLI, o173_75⟩
  · exact ⟨mn_sCV, o173_76⟩
  · exact ⟨mn_sRZ, o173_79⟩
  · exact ⟨mn_sLR, o173_80⟩
  · exact ⟨mn_sLI, o173_81⟩
  · exact ⟨mn_sCV, o173_82⟩
  · exact ⟨mn_sRZ, o173_85⟩
  · exact ⟨mn_sX, ok_X⟩
theorem oc173 : ∀ pc, Mnp (c173 pc) ∧ Okp RX10 cX10_followHeap 3 (some .boolean) "followHeap" false pc (c173 pc) := by
  intro pc
  unfold c173
  split
  · exact oc173_0 pc
  · exact oc173_1 pc
  · exact oc173_2 pc
  · exact oc173_3 pc
  · exact ⟨mn_sX, ok_X⟩
theorem o174_0 : Okp RX10 cX10_followNode 6 (some .boolean) "followNode" false 0 (sLI 1 1) := ok_iload_n (by decide +kernel : decode cX10_followNode 0 = .ok (.iload_n 1, 1)) rfl
theorem o174_1 : Okp RX10 cX10_followNode 6 (some .boolean) "followNode" false 1 (sK 24 3) := ok_bipush (by decide +kernel : decode cX10_followNode 1 = .ok (.bipush 24, 2)) (by decide)
theorem o174_3 : Okp RX10 cX10_followNode 6 (some .boolean) "followNode" false 3 (sI2 1 13 6) := ok_icmp_ne (by decide +kernel : decode cX10_followNode 3 = .ok (.if_icmp .ne 10, 3)) (by decide)
theorem o174_6 : Okp RX10 cX10_followNode 6 (some .boolean) "followNode" false 6 (sLR 0 7) := ok_aload_n (by decide +kernel : decode cX10_followNode 6 = .ok (.aload_n 0, 1)) rfl
theorem o174_7 : Okp RX10 cX10_followNode 6 (some .boolean) "followNode" false 7 (sCV false 165 1 11 10) := ok_cv (by decide +kernel : decode cX10_followNode 7 = .ok (.invokevirtual 137, 3)) mw_X10_137 rfl (by decide) wm_X10_pop wse_X10_pop (by decide) rfl
theorem o174_10 : Okp RX10 cX10_followNode 6 (some .boolean) "followNode" false 10 (sGo 14) := ok_goto (by decide +kernel : decode cX10_followNode 10 = .ok (.goto 4, 3)) (by decide)
theorem o174_13 : Okp RX10 cX10_followNode 6 (some .boolean) "followNode" false 13 (sK (-1) 14) := ok_iconst (by decide +kernel : decode cX10_followNode 13 = .ok (.iconst (-1), 1)) (by decide)
theorem o174_14 : Okp RX10 cX10_followNode 6 (some .boolean) "followNode" false 14 (sSI 3 15) := ok_istore_n (by decide +kernel : decode cX10_followNode 14 = .ok (.istore_n 3, 1)) rfl (by decide) (by decide)
theorem o174_15 : Okp RX10 cX10_followNode 6 (some .boolean) "followNode" false 15 (sLR 0 16) := ok_aload_n (by decide +kernel : decode cX10_followNode 15 = .ok (.aload_n 0, 1)) rfl
theorem o174_16 : Okp RX10 cX10_followNode 6 (some .boolean) "followNode" false 16 (sCV false 165 1 11 19) := ok_cv (by decide +kernel : decode cX10_followNode 16 = .ok (.invokevirtual 137, 3)) mw_X10_137 rfl (by decide) wm_X10_pop wse_X10_pop (by decide) rfl
theorem o174_19 : Okp RX10 cX10_followNode 6 (some .boolean) "followNode" false 19 (sSI 4 21) := ok_istore (by decide +kernel : decode cX10_followNode 19 = .ok (.istore 4, 2)) (by decide) (by decide)
theorem o174_21 : Okp RX10 cX10_followNode 6 (some .boolean) "followNode" false 21 (sLI 4 23) := ok_iload (by decide +kernel : decode cX10_followNode 21 = .ok (.iload 4, 2))
theorem o174_23 : Okp RX10 cX10_followNode 6 (some .boolean) "followNode" false 23 (sK 6 25) := ok_bipush (by decide +kernel : decode cX10_followNode 23 = .ok (.bipush 6, 2)) (by decide)
theorem o174_25 : Okp RX10 cX10_followNode 6 (some .boolean) "followNode" false 25 (sI2 1 30 28) := ok_icmp_ne (by decide +kernel : decode cX10_followNode 25 = .ok (.if_icmp .ne 5, 3)) (by decide)
theorem o174_28 : Okp RX10 cX10_followNode 6 (some .boolean) "followNode" false 28 (sK 0 29) := ok_iconst (by decide +kernel : decode cX10_followNode 28 = .ok (.iconst 0, 1)) (by decide)
theorem o174_29 : Okp RX10 cX10_followNode 6 (some .boolean) "followNode" false 29 sRZ := ok_zret rfl (by decide +kernel : decode cX10_followNode 29 = .ok (.ireturn, 1))
theorem o174_30 : Okp RX10 cX10_followNode 6 (some .boolean) "followNode" false 30 (sLI 4 32) := ok_iload (by decide +kernel : decode cX10_followNode 30 = .ok (.iload 4, 2))
theorem o174_32 : Okp RX10 cX10_followNode 6 (some .boolean) "followNode" false 32 (sCS false 207 1 35) := ok_cs (by decide +kernel : decode cX10_followNode 32 = .ok (.invokestatic 190, 3)) mw_X10_190 wt_X11_kindOf (by decide) rfl
theorem o174_35 : Okp RX10 cX10_followNode 6 (some .boolean) "followNode" false 35 (sK 1 36) := ok_iconst (by decide +kernel : decode cX10_followNode 35 = .ok (.iconst 1, 1)) (by decide)
theorem o174_36 : Okp RX10 cX10_followNode 6 (some .boolean) "followNode" false 36 (sI2 1 55 39) := ok_icmp_ne (by decide +kernel : decode cX10_followNode 36 = .ok (.if_icmp .ne 19, 3)) (by decide)
theorem o174_39 : Okp RX10 cX10_followNode 6 (some .boolean) "followNode" false 39 (sLR 0 40) := ok_aload_n (by decide +kernel : decode cX10_followNode 39 = .ok (.aload_n 0, 1)) rfl
theorem o174_40 : Okp RX10 cX10_followNode 6 (some .boolean) "followNode" false 40 (sGR 11 7 43) := ok_getR (by decide +kernel : decode cX10_followNode 40 = .ok (.getfield 40, 3)) fw_X10_40 rfl
theorem o174_43 : Okp RX10 cX10_followNode 6 (some .boolean) "followNode" false 43 (sLI 4 45) := ok_iload (by decide +kernel : decode cX10_followNode 43 = .ok (.iload 4, 2))
theorem o174_45 : Okp RX10 cX10_followNode 6 (some .boolean) "followNode" false 45 (sCS false 208 1 48) := ok_cs (by decide +kernel : decode cX10_followNode 45 = .ok (.invokestatic 193, 3)) mw_X10_193 wt_X11_namedBy (by decide) rfl
theorem o174_48 : Okp RX10 cX10_followNode 6 (some .boolean) "followNode" false 48 (sLI 2 49) := ok_iload_n (by decide +kernel : decode cX10_followNode 48 = .ok (.iload_n 2, 1)) rfl
theorem o174_49 : Okp RX10 cX10_followNode 6 (some .boolean) "followNode" false 49 (sCV false 153 3 10 52) := ok_cv (by decide +kernel : decode cX10_followNode 49 = .ok (.invokevirtual 196, 3)) mw_X10_196 rfl (by decide) wm_X9_typeOfField wse_X9_typeOfField (by decide) rfl
theorem o174_52 : Okp RX10 cX10_followNode 6 (some .boolean) "followNode" false 52 (sGo 56) := ok_goto (by decide +kernel : decode cX10_followNode 52 = .ok (.goto 4, 3)) (by decide)
theorem o174_55 : Okp RX10 cX10_followNode 6 (some .boolean) "followNode" false 55 (sK (-1) 56) := ok_iconst (by decide +kernel : decode cX10_followNode 55 = .ok (.iconst (-1), 1)) (by decide)
theorem o174_56 : Okp RX10 cX10_followNode 6 (some .boolean) "followNode" false 56 (sSI 5 58) := ok_istore (by decide +kernel : decode cX10_followNode 56 = .ok (.istore 5, 2)) (by decide) (by decide)
theorem o174_58 : Okp RX10 cX10_followNode 6 (some .boolean) "followNode" false 58 (sLR 0 59) := ok_aload_n (by decide +kernel : decode cX10_followNode 58 = .ok (.aload_n 0, 1)) rfl
theorem o174_59 : Okp RX10 cX10_followNode 6 (some .boolean) "followNode" false 59 (sLI 5 61) := ok_iload (by decide +kernel : decode cX10_followNode 59 = .ok (.iload 5, 2))
theorem o174_61 : Okp RX10 cX10_followNode 6 (some .boolean) "followNode" false 61 (sK (-1) 62) := ok_iconst (by decide +kernel : decode cX10_followNode 61 = .ok (.iconst (-1), 1)) (by decide)
theorem o174_62 : Okp RX10 cX10_followNode 6 (some .boolean) "followNode" false 62 (sI2 0 69 65) := ok_icmp_eq (by decide +kernel : decode cX10_followNode 62 = .ok (.if_icmp .eq 7, 3)) (by decide)
theorem o174_65 : Okp RX10 cX10_followNode 6 (some .boolean) "followNode" false 65 (sK 1 66) := ok_iconst (by decide +kernel : decode cX10_followNode 65 = .ok (.iconst 1, 1)) (by decide)
theorem o174_66 : Okp RX10 cX10_followNode 6 (some .boolean) "followNode" false 66 (sGo 70) := ok_goto (by decide +kernel : decode cX10_followNode 66 = .ok (.goto 4, 3)) (by decide)
theorem o174_69 : Okp RX10 cX10_followNode 6 (some .boolean) "followNode" false 69 (sK 0 70) := ok_iconst (by decide +kernel : decode cX10_followNode 69 = .ok (.iconst 0, 1)) (by decide)
theorem o174_70 : Okp RX10 cX10_followNode 6 (some .boolean) "followNode" false 70 (sCV false 166 2 11 73) := ok_cv (by decide +kernel : decode cX10_followNode 70 = .ok (.invokevirtual 129, 3)) mw_X10_129 rfl (by decide) wm_X10_want wse_X10_want (by decide) rfl
theorem o174_73 : Okp RX10 cX10_followNode 6 (some .boolean) "followNode" false 73 (sLI 1 74) := ok_iload_n (by decide +kernel : decode cX10_followNode 73 = .ok (.iload_n 1, 1)) rfl
theorem o174_74 : Okp RX10 cX10_followNode 6 (some .boolean) "followNode" false 74 (sK 24 76) := ok_bipush (by decide +kernel : decode cX10_followNode 74 = .ok (.bipush 24, 2)) (by decide)
theorem o174_76 : Okp RX10 cX10_followNode 6 (some .boolean) "followNode" false 76 (sI2 1 92 79) := ok_icmp_ne (by decide +kernel : decode cX10_followNode 76 = .ok (.if_icmp .ne 16, 3)) (by decide)
theorem o174_79 : Okp RX10 cX10_followNode 6 (some .boolean) "followNode" false 79 (sLR 0 80) := ok_aload_n (by decide +kernel : decode cX10_followNode 79 = .ok (.aload_n 0, 1)) rfl
theorem o174_80 : Okp RX10 cX10_followNode 6 (some .boolean) "followNode" false 80 (sLI 3 81) := ok_iload_n (by decide +kernel : decode cX10_followNode 80 = .ok (.iload_n 3, 1)) rfl
theorem o174_81 : Okp RX10 cX10_followNode 6 (some .boolean) "followNode" false 81 (sLI 5 83) := ok_iload (by decide +kernel : decode cX10_followNode 81 = .ok (.iload 5, 2))
theorem o174_83 : Okp RX10 cX10_followNode 6 (some .boolean) "followNode" false 83 (sCS false 214 2 86) := ok_cs (by decide +kernel : decode cX10_followNode 83 = .ok (.invokestatic 199, 3)) mw_X10_199 wt_X11_fits (by decide) rfl
theorem o174_86 : Okp RX10 cX10_followNode 6 (some .boolean) "followNode" false 86 (sCV false 166 2 11 89) := ok_cv (by decide +kernel : decode cX10_followNode 86 = .ok (.invokevirtual 129, 3)) mw_X10_129 rfl (by decide) wm_X10_want wse_X10_want (by decide) rfl
theorem o174_89 : Okp RX10 cX10_followNode 6 (some .boolean) "followNode" false 89 (sGo 98) := ok_goto (by decide +kernel : decode cX10_followNode 89 = .ok (.goto 9, 3)) (by decide)
theorem o174_92 : Okp RX10 cX10_followNode 6 (some .boolean) "followNode" false 92 (sLR 0 93) := ok_aload_n (by decide +kernel : decode cX10_followNode 92 = .ok (.aload_n 0, 1)) rfl
theorem o174_93 : Okp RX10 cX10_followNode 6 (some .boolean) "followNode" false 93 (sLI 5 95) := ok_iload (by decide +kernel : decode cX10_followNode 93 = .ok (.iload 5, 2))
theorem o174_95 : Okp RX10 cX10_followNode 6 (some .boolean) "followNode" false 95 (sCV false 164 2 11 98) := ok_cv (by decide +kernel : decode cX10_followNode 95 = .ok (.invokevirtual 169, 3)) mw_X10_169 rfl (by decide) wm_X10_push wse_X10_push (by decide) rfl
theorem o174_98 : Okp RX10 cX10_followNode 6 (some .boolean) "followNode" false 98 (sK 1 99) := ok_iconst (by decide +kernel : decode cX10_followNode 98 = .ok (.iconst 1, 1)) (by decide)
theorem o174_99 : Okp RX10 cX10_followNode 6 (some .boolean) "followNode" false 99 sRZ := ok_zret rfl (by decide +kernel : decode cX10_followNode 99 = .ok (.ireturn, 1))
theorem oc174_0 : ∀ pc, Mnp (c174_0 pc) ∧ Okp RX10 cX10_followNode 6 (some .boolean) "followNode" false pc (c174_0 pc) := by
  intro pc
  unfold c174_0
  split
  · exact ⟨mn_sLI, o174_0⟩
  · exact ⟨mn_sK, o174_1⟩
  · exact ⟨mn_sI2, o174_3⟩
  · exact ⟨mn_sLR, o174_6⟩
  · exact ⟨mn_sCV, o174_7⟩
  · exact ⟨mn_sGo, o174_10⟩
  · exact ⟨mn_sK, o174_13⟩
  · exact ⟨mn_sSI, o174_14⟩
  · exact ⟨mn_sLR, o174_15⟩
  · exact ⟨mn_sCV, o174_16⟩
  · exact ⟨mn_sSI, o174_19⟩
  · exact ⟨mn_sLI, o174_21⟩
  · exact ⟨mn_sK, o174_23⟩
  · exact ⟨mn_sX, ok_X⟩
theorem oc174_1 : ∀ pc, Mnp (c174_1 pc) ∧ Okp RX10 cX10_followNode 6 (some .boolean) "followNode" false pc (c174_1 pc) := by
  intro pc
  unfold c174_1
  split
  · exact ⟨mn_sI2, o174_25⟩
  · exact ⟨mn_sK, o174_28⟩
  · exact ⟨mn_sRZ, o174_29⟩
  · exact ⟨mn_sLI, o174_30⟩
  · exact ⟨mn_sCS, o174_32⟩
  · exact ⟨mn_sK, o174_35⟩
  · exact ⟨mn_sI2, o174_36⟩
  · exact ⟨mn_sLR, o174_39⟩
  · exact ⟨mn_sGR, o174_40⟩
  · exact ⟨mn_sLI, o174_43⟩
  · exact ⟨mn_sCS, o174_45⟩
  · exact ⟨mn_sX, ok_X⟩
theorem oc174_2 : ∀ pc, Mnp (c174_2 pc) ∧ Okp RX10 cX10_followNode 6 (some .boolean) "followNode" false pc (c174_2 pc) := by
  intro pc
  unfold c174_2
  split
  · exact ⟨mn_sLI, o174_48⟩
  · exact ⟨mn_sCV, o174_49⟩
  · exact ⟨mn_sGo, o174_52⟩
  · exact ⟨mn_sK, o174_55⟩
  · exact ⟨mn_sSI, o174_56⟩
  · exact ⟨mn_sLR, o174_58⟩
  · exact ⟨mn_sLI, o174_59⟩
  · exact ⟨mn_sK, o174_61⟩
  · exact ⟨mn_sI2, o174_62⟩
  · exact ⟨mn_sK, o174_65⟩
  · exact ⟨mn_sGo, o174_66⟩
  · exact ⟨mn_sK, o174_69⟩
  · exact ⟨mn_sCV, o174_70⟩
  · exact ⟨mn_sX, ok_X⟩
theorem oc174_3 : ∀ pc, Mnp (c174_3 pc) ∧ Okp RX10 cX10_followNode 6 (some .boolean) "followNode" false pc (c174_3 pc) := by
  intro pc
  unfold c174_3
  split
  · exact ⟨mn_sLI, o174_73⟩
  · exact ⟨mn_sK, o174_74⟩
  · exact ⟨mn_sI2, o174_76⟩
  · exact ⟨mn_sLR, o174_79⟩
  · exact ⟨mn_sLI, o174_80⟩
  · exact ⟨mn_sLI, o174_81⟩
  · exact ⟨mn_sCS, o174_83⟩
  · exact ⟨mn_sCV, o174_86⟩
  · exact ⟨mn_sGo, o174_89⟩
  · exact ⟨mn_sLR, o174_92⟩
  · exact ⟨mn_sLI, o174_93⟩
  · exact ⟨mn_sCV, o174_95⟩
  · exact ⟨mn_sX, ok_X⟩
theorem oc174_4 : ∀ pc, Mnp (c174_4 pc) ∧ Okp RX10 cX10_followNode 6 (some .boolean) "followNode" false pc (c174_4 pc) := by
  intro pc
  unfold c174_4
  split
  · exact ⟨mn_sK, o174_98⟩
  · exact ⟨mn_sRZ, o174_99⟩
  · exact ⟨mn_sX, ok_X⟩
theorem oc174 : ∀ pc, Mnp (c174 pc) ∧ Okp RX10 cX10_followNode 6 (some .boolean) "followNode" false pc (c174 pc) := by
  intro pc
  unfold c174
  split
  · exact oc174_0 pc
  · exact oc174_1 pc
  · exact oc174_2 pc
  · exact oc174_3 pc
  · exact oc174_4 pc
  · exact ⟨mn_sX, ok_X⟩
theorem o175_0 : Okp RX10 cX10_followRow 5 (some .boolean) "followRow" false 0 (sLI 1 1) := ok_iload_n (by decide +kernel : decode cX10_followRow 0 = .ok (.iload_n 1, 1)) rfl
theorem o175_1 : Okp RX10 cX10_followRow 5 (some .boolean) "followRow" false 1 (sK 29 3) := ok_bipush (by decide +kernel : decode cX10_followRow 1 = .ok (.bipush 29, 2)) (by decide)
theorem o175_3 : Okp RX10 cX10_followRow 5 (some .boolean) "followRow" false 3 (sI2 1 13 6) := ok_icmp_ne (by decide +kernel : decode cX10_followRow 3 = .ok (.if_icmp .ne 10, 3)) (by decide)
theorem o175_6 : Okp RX10 cX10_followRow 5 (some .boolean) "followRow" false 6 (sLR 0 7) := ok_aload_n (by decide +kernel : decode cX10_followRow 6 = .ok (.aload_n 0, 1)) rfl
theorem o175_7 : Okp RX10 cX10_followRow 5 (some .boolean) "followRow" false 7 (sCV false 165 1 11 10) := ok_cv (by decide +kernel : decode cX10_followRow 7 = .ok (.invokevirtual 137, 3)) mw_X10_137 rfl (by decide) wm_X10_pop wse_X10_pop (by decide) rfl
theorem o175_10 : Okp RX10 cX10_followRow 5 (some .boolean) "followRow" false 10 (sGo 14) := ok_goto (by decide +kernel : decode cX10_followRow 10 = .ok (.goto 4, 3)) (by decide)
theorem o175_13 : Okp RX10 cX10_followRow 5 (some .boolean) "followRow" false 13 (sK (-1) 14) := ok_iconst (by decide +kernel : decode cX10_followRow 13 = .ok (.iconst (-1), 1)) (by decide)
theorem o175_14 : Okp RX10 cX10_followRow 5 (some .boolean) "followRow" false 14 (sSI 2 15) := ok_istore_n (by decide +kernel : decode cX10_followRow 14 = .ok (.istore_n 2, 1)) rfl (by decide) (by decide)
theorem o175_15 : Okp RX10 cX10_followRow 5 (some .boolean) "followRow" false 15 (sLI 1 16) := ok_iload_n (by decide +kernel : decode cX10_followRow 15 = .ok (.iload_n 1, 1)) rfl
theorem o175_16 : Okp RX10 cX10_followRow 5 (some .boolean) "followRow" false 16 (sK 27 18) := ok_bipush (by decide +kernel : decode cX10_followRow 16 = .ok (.bipush 27, 2)) (by decide)
theorem o175_18 : Okp RX10 cX10_followRow 5 (some .boolean) "followRow" false 18 (sI2 0 25 21) := ok_icmp_eq (by decide +kernel : decode cX10_followRow 18 = .ok (.if_icmp .eq 7, 3)) (by decide)
theorem o175_21 : Okp RX10 cX10_followRow 5 (some .boolean) "followRow" false 21 (sLR 0 22) := ok_aload_n (by decide +kernel : decode cX10_followRow 21 = .ok (.aload_n 0, 1)) rfl
theorem o175_22 : Okp RX10 cX10_followRow 5 (some .boolean) "followRow" false 22 (sCV false 167 1 11 25) := ok_cv (by decide +kernel : decode cX10_followRow 22 = .ok (.invokevirtual 178, 3)) mw_X10_178 rfl (by decide) wm_X10_popInt wse_X10_popInt (by decide) rfl
theorem o175_25 : Okp RX10 cX10_followRow 5 (some .boolean) "followRow" false 25 (sLR 0 26) := ok_aload_n (by decide +kernel : decode cX10_followRow 25 = .ok (.aload_n 0, 1)) rfl
theorem o175_26 : Okp RX10 cX10_followRow 5 (some .boolean) "followRow" false 26 (sCV false 165 1 11 29) := ok_cv (by decide +kernel : decode cX10_followRow 26 = .ok (.invokevirtual 137, 3)) mw_X10_137 rfl (by decide) wm_X10_pop wse_X10_pop (by decide) rfl
theorem o175_29 : Okp RX10 cX10_followRow 5 (some .boolean) "followRow" false 29 (sSI 3 30) := ok_istore_n (by decide +kernel : decode cX10_followRow 29 = .ok (.istore_n 3, 1)) rfl (by decide) (by decide)
theorem o175_30 : Okp RX10 cX10_followRow 5 (some .boolean) "followRow" false 30 (sLI 3 31) := ok_iload_n (by decide +kernel : decode cX10_followRow 30 = .ok (.iload_n 3, 1)) rfl
theorem o175_31 : Okp RX10 cX10_followRow 5 (some .boolean) "followRow" false 31 (sK 6 33) := ok_bipush (by decide +kernel : decode cX10_followRow 31 = .ok (.bipush 6, 2)) (by decide)
theorem o175_33 : Okp RX10 cX10_followRow 5 (some .boolean) "followRow" false 33 (sI2 1 38 36) := ok_icmp_ne (by decide +kernel : decode cX10_followRow 33 = .ok (.if_icmp .ne 5, 3)) (by decide)
theorem o175_36 : Okp RX10 cX10_followRow 5 (some .boolean) "followRow" false 36 (sK 0 37) := ok_iconst (by decide +kernel : decode cX10_followRow 36 = .ok (.iconst 0, 1)) (by decide)
theorem o175_37 : Okp RX10 cX10_followRow 5 (some .boolean) "followRow" false 37 sRZ := ok_zret rfl (by decide +kernel : decode cX10_followRow 37 = .ok (.ireturn, 1))
theorem o175_38 : Okp RX10 cX10_followRow 5 (some .boolean) "followRow" false 38 (sLR 0 39) := ok_aload_n (by decide +kernel : decode cX10_followRow 38 = .ok (.aload_n 0, 1)) rfl
theorem o175_39 : Okp RX10 cX10_followRow 5 (some .boolean) "followRow" false 39 (sLI 3 40) := ok_iload_n (by decide +kernel : decode cX10_followRow 39 = .ok (.iload_n 3, 1)) rfl
theorem o175_40 : Okp RX10 cX10_followRow 5 (some .boolean) "followRow" false 40 (sCS false 207 1 43) := ok_cs (by decide +kernel : decode cX10_followRow 40 = .ok (.invokestatic 190, 3)) mw_X10_190 wt_X11_kindOf (by decide) rfl
theorem o175_43 : Okp RX10 cX10_followRow 5 (some .boolean) "followRow" false 43 (sK 2 44) := ok_iconst (by decide +kernel : decode cX10_followRow 43 = .ok (.iconst 2, 1)) (by decide)
theorem o175_44 : Okp RX10 cX10_followRow 5 (some .boolean) "followRow" false 44 (sI2 0 55 47) := ok_icmp_eq (by decide +kernel : decode cX10_followRow 44 = .ok (.if_icmp .eq 11, 3)) (by decide)
theorem o175_47 : Okp RX10 cX10_followRow 5 (some .boolean) "followRow" false 47 (sLI 3 48) := ok_iload_n (by decide +kernel : decode cX10_followRow 47 = .ok (.iload_n 3, 1)) rfl
theorem o175_48 : Okp RX10 cX10_followRow 5 (some .boolean) "followRow" false 48 (sCS false 207 1 51) := ok_cs (by decide +kernel : decode cX10_followRow 48 = .ok (.invokestatic 190, 3)) mw_X10_190 wt_X11_kindOf (by decide) rfl
theorem o175_51 : Okp RX10 cX10_followRow 5 (some .boolean) "followRow" false 51 (sK 3 52) := ok_iconst (by decide +kernel : decode cX10_followRow 51 = .ok (.iconst 3, 1)) (by decide)
theorem o175_52 : Okp RX10 cX10_followRow 5 (some .boolean) "followRow" false 52 (sI2 1 59 55) := ok_icmp_ne (by decide +kernel : decode cX10_followRow 52 = .ok (.if_icmp .ne 7, 3)) (by decide)
theorem o175_55 : Okp RX10 cX10_followRow 5 (some .boolean) "followRow" false 55 (sK 1 56) := ok_iconst (by decide +kernel : decode cX10_followRow 55 = .ok (.iconst 1, 1)) (by decide)
theorem o175_56 : Okp RX10 cX10_followRow 5 (some .boolean) "followRow" false 56 (sGo 60) := ok_goto (by decide +kernel : decode cX10_followRow 56 = .ok (.goto 4, 3)) (by decide)
theorem o175_59 : Okp RX10 cX10_followRow 5 (some .boolean) "followRow" false 59 (sK 0 60) := ok_iconst (by decide +kernel : decode cX10_followRow 59 = .ok (.iconst 0, 1)) (by decide)
theorem o175_60 : Okp RX10 cX10_followRow 5 (some .boolean) "followRow" false 60 (sCV false 166 2 11 63) := ok_cv (by decide +kernel : decode cX10_followRow 60 = .ok (.invokevirtual 129, 3)) mw_X10_129 rfl (by decide) wm_X10_want wse_X10_want (by decide) rfl
theorem o175_63 : Okp RX10 cX10_followRow 5 (some .boolean) "followRow" false 63 (sLI 3 64) := ok_iload_n (by decide +kernel : decode cX10_followRow 63 = .ok (.iload_n 3, 1)) rfl
theorem o175_64 : Okp RX10 cX10_followRow 5 (some .boolean) "followRow" false 64 (sK 2 65) := ok_iconst (by decide +kernel : decode cX10_followRow 64 = .ok (.iconst 2, 1)) (by decide)
theorem o175_65 : Okp RX10 cX10_followRow 5 (some .boolean) "followRow" false 65 (sI2 1 72 68) := ok_icmp_ne (by decide +kernel : decode cX10_followRow 65 = .ok (.if_icmp .ne 7, 3)) (by decide)
theorem o175_68 : Okp RX10 cX10_followRow 5 (some .boolean) "followRow" false 68 (sK 0 69) := ok_iconst (by decide +kernel : decode cX10_followRow 68 = .ok (.iconst 0, 1)) (by decide)
theorem o175_69 : Okp RX10 cX10_followRow 5 (some .boolean) "followRow" false 69 (sGo 80) := ok_goto (by decide +kernel : decode cX10_followRow 69 = .ok (.goto 11, 3)) (by decide)
theorem o175_72 : Okp RX10 cX10_followRow 5 (some .boolean) "followRow" false 72 (sK 1 73) := ok_iconst (by decide +kernel : decode cX10_followRow 72 = .ok (.iconst 1, 1)) (by decide)
theorem o175_73 : Okp RX10 cX10_followRow 5 (some .boolean) "followRow" false 73 (sLI 3 74) := ok_iload_n (by decide +kernel : decode cX10_followRow 73 = .ok (.iload_n 3, 1)) rfl
theorem o175_74 : Okp RX10 cX10_followRow 5 (some .boolean) "followRow" false 74 (sCS false 208 1 77) := ok_cs (by decide +kernel : decode cX10_followRow 74 = .ok (.invokestatic 193, 3)) mw_X10_193 wt_X11_namedBy (by decide) rfl
theorem o175_77 : Okp RX10 cX10_followRow 5 (some .boolean) "followRow" false 77 (sCS false 205 2 80) := ok_cs (by decide +kernel : decode cX10_followRow 77 = .ok (.invokestatic 181, 3)) mw_X10_181 wt_X11_typeOf (by decide) rfl
theorem o175_80 : Okp RX10 cX10_followRow 5 (some .boolean) "followRow" false 80 (sSI 4 82) := ok_istore (by decide +kernel : decode cX10_followRow 80 = .ok (.istore 4, 2)) (by decide) (by decide)
theorem o175_82 : Okp RX10 cX10_followRow 5 (some .boolean) "followRow" false 82 (sLI 1 83) := ok_iload_n (by decide +kernel : decode cX10_followRow 82 = .ok (.iload_n 1, 1)) rfl
theorem o175_83 : Okp RX10 cX10_followRow 5 (some .boolean) "followRow" false 83 (sK 29 85) := ok_bipush (by decide +kernel : decode cX10_followRow 83 = .ok (.bipush 29, 2)) (by decide)
theorem o175_85 : Okp RX10 cX10_followRow 5 (some .boolean) "followRow" false 85 (sI2 1 101 88) := ok_icmp_ne (by decide +kernel : decode cX10_followRow 85 = .ok (.if_icmp .ne 16, 3)) (by decide)
theorem o175_88 : Okp RX10 cX10_followRow 5 (some .boolean) "followRow" false 88 (sLR 0 89) := ok_aload_n (by decide +kernel : decode cX10_followRow 88 = .ok (.aload_n 0, 1)) rfl
theorem o175_89 : Okp RX10 cX10_followRow 5 (some .boolean) "followRow" false 89 (sLI 2 90) := ok_iload_n (by decide +kernel : decode cX10_followRow 89 = .ok (.iload_n 2, 1)) rfl
theorem o175_90 : Okp RX10 cX10_followRow 5 (some .boolean) "followRow" false 90 (sLI 4 92) := ok_iload (by decide +kernel : decode cX10_followRow 90 = .ok (.iload 4, 2))
theorem o175_92 : Okp RX10 cX10_followRow 5 (some .boolean) "followRow" false 92 (sCS false 214 2 95) := ok_cs (by decide +kernel : decode cX10_followRow 92 = .ok (.invokestatic 199, 3)) mw_X10_199 wt_X11_fits (by decide) rfl
theorem o175_95 : Okp RX10 cX10_followRow 5 (some .boolean) "followRow" false 95 (sCV false 166 2 11 98) := ok_cv (by decide +kernel : decode cX10_followRow 95 = .ok (.invokevirtual 129, 3)) mw_X10_129 rfl (by decide) wm_X10_want wse_X10_want (by decide) rfl
theorem o175_98 : Okp RX10 cX10_followRow 5 (some .boolean) "followRow" false 98 (sGo 117) := ok_goto (by decide +kernel : decode cX10_followRow 98 = .ok (.goto 19, 3)) (by decide)
theorem o175_101 : Okp RX10 cX10_followRow 5 (some .boolean) "followRow" false 101 (sLR 0 102) := ok_aload_n (by decide +kernel : decode cX10_followRow 101 = .ok (.aload_n 0, 1)) rfl
theorem o175_102 : Okp RX10 cX10_followRow 5 (some .boolean) "followRow" false 102 (sLI 1 103) := ok_iload_n (by decide +kernel : decode cX10_followRow 102 = .ok (.iload_n 1, 1)) rfl
theorem o175_103 : Okp RX10 cX10_followRow 5 (some .boolean) "followRow" false 103 (sK 27 105) := ok_bipush (by decide +kernel : decode cX10_followRow 103 = .ok (.bipush 27, 2)) (by decide)
theorem o175_105 : Okp RX10 cX10_followRow 5 (some .boolean) "followRow" false 105 (sI2 1 112 108) := ok_icmp_ne (by decide +kernel : decode cX10_followRow 105 = .ok (.if_icmp .ne 7, 3)) (by decide)
theorem o175_108 : Okp RX10 cX10_followRow 5 (some .boolean) "followRow" false 108 (sK 0 109) := ok_iconst (by decide +kernel : decode cX10_followRow 108 = .ok (.iconst 0, 1)) (by decide)
theorem o175_109 : Okp RX10 cX10_followRow 5 (some .boolean) "followRow" false 109 (sGo 114) := ok_goto (by decide +kernel : decode cX10_followRow 109 = .ok (.goto 5, 3)) (by decide)
theorem o175_112 : Okp RX10 cX10_followRow 5 (some .boolean) "followRow" false 112 (sLI 4 114) := ok_iload (by decide +kernel : decode cX10_followRow 112 = .ok (.iload 4, 2))
theorem o175_114 : Okp RX10 cX10_followRow 5 (some .boolean) "followRow" false 114 (sCV false 164 2 11 117) := ok_cv (by decide +kernel : decode cX10_followRow 114 = .ok (.invokevirtual 169, 3)) mw_X10_169 rfl (by decide) wm_X10_push wse_X10_push (by decide) rfl
theorem o175_117 : Okp RX10 cX10_followRow 5 (some .boolean) "followRow" false 117 (sK 1 118) := ok_iconst (by decide +kernel : decode cX10_followRow 117 = .ok (.iconst 1, 1)) (by decide)
theorem o175_118 : Okp RX10 cX10_followRow 5 (some .boolean) "followRow" false 118 sRZ := ok_zret rfl (by decide +kernel : decode cX10_followRow 118 = .ok (.ireturn, 1))
theorem oc175_0 : ∀ pc, Mnp (c175_0 pc) ∧ Okp RX10 cX10_followRow 5 (some .boolean) "followRow" false pc (c175_0 pc) := by
  intro pc
  unfold c175_0
  split
  · exact ⟨mn_sLI, o175_0⟩
  · exact ⟨mn_sK, o175_1⟩
  · exact ⟨mn_sI2, o175_3⟩
  · exact ⟨mn_sLR, o175_6⟩
  · exact ⟨mn_sCV, o175_7⟩
  · exact ⟨mn_sGo, o175_10⟩
  · exact ⟨mn_sK, o175_13⟩
  · exact ⟨mn_sSI, o175_14⟩
  · exact ⟨mn_sLI, o175_15⟩
  · exact ⟨mn_sK, o175_16⟩
  · exact ⟨mn_sI2, o175_18⟩
  · exact ⟨mn_sLR, o175_21⟩
  · exact ⟨mn_sCV, o175_22⟩
  · exact ⟨mn_sX, ok_X⟩
theorem oc175_1 : ∀ pc, Mnp (c175_1 pc) ∧ Okp RX10 cX10_followRow 5 (some .boolean) "followRow" false pc (c175_1 pc) := by
  intro pc
  unfold c175_1
  split
  · exact ⟨mn_sLR, o175_25⟩
  · exact ⟨mn_sCV, o175_26⟩
  · exact ⟨mn_sSI, o175_29⟩
  · exact ⟨mn_sLI, o175_30⟩
  · exact ⟨mn_sK, o175_31⟩
  · exact ⟨mn_sI2, o175_33⟩
  · exact ⟨mn_sK, o175_36⟩
  · exact ⟨mn_sRZ, o175_37⟩
  · exact ⟨mn_sLR, o175_38⟩
  · exact ⟨mn_sLI, o175_39⟩
  · exact ⟨mn_sCS, o175_40⟩
  · exact ⟨mn_sK, o175_43⟩
  · exact ⟨mn_sI2, o175_44⟩
  · exact ⟨mn_sLI, o175_47⟩
  · exact ⟨mn_sX, ok_X⟩
theorem oc175_2 : ∀ pc, Mnp (c175_2 pc) ∧ Okp RX10 cX10_followRow 5 (some .boolean) "followRow" false pc (c175_2 pc) := by
  intro pc
  unfold c175_2
  split
  · exact ⟨mn_sCS, o175_48⟩
  · exact ⟨mn_sK, o175_51⟩
  · exact ⟨mn_sI2, o175_52⟩
  · exact ⟨mn_sK, o175_55⟩
  · exact ⟨mn_sGo, o175_56⟩
  · exact ⟨mn_sK, o175_59⟩
  · exact ⟨mn_sCV, o175_60⟩
  · exact ⟨mn_sLI, o175_63⟩
  · exact ⟨mn_sK, o175_64⟩
  · exact ⟨mn_sI2, o175_65⟩
  · exact ⟨mn_sK, o175_68⟩
  · exact ⟨mn_sGo, o175_69⟩
  · exact ⟨mn_sX, ok_X⟩
theorem oc175_3 : ∀ pc, Mnp (c175_3 pc) ∧ Okp RX10 cX10_followRow 5 (some .boolean) "followRow" false pc (c175_3 pc) := by
  intro pc
  unfold c175_3
  split
  · exact ⟨mn_sK, o175_72⟩
  · exact ⟨mn_sLI, o175_73⟩
  · exact ⟨mn_sCS, o175_74⟩
  · exact ⟨mn_sCS, o175_77⟩
  · exact ⟨mn_sSI, o175_80⟩
  · exact ⟨mn_sLI, o175_82⟩
  · exact ⟨mn_sK, o175_83⟩
  · exact ⟨mn_sI2, o175_85⟩
  · exact ⟨mn_sLR, o175_88⟩
  · exact ⟨mn_sLI, o175_89⟩
  · exact ⟨mn_sLI, o175_90⟩
  · exact ⟨mn_sCS, o175_92⟩
  · exact ⟨mn_sCV, o175_95⟩
  · exact ⟨mn_sX, ok_X⟩
theorem oc175_4 : ∀ pc, Mnp (c175_4 pc) ∧ Okp RX10 cX10_followRow 5 (some .boolean) "followRow" false pc (c175_4 pc) := by
  intro pc
  unfold c175_4
  split
  · exact ⟨mn_sGo, o175_98⟩
  · exact ⟨mn_sLR, o175_101⟩
  · exact ⟨mn_sLI, o175_102⟩
  · exact ⟨mn_sK, o175_103⟩
  · exact ⟨mn_sI2, o175_105⟩
  · exact ⟨mn_sK, o175_108⟩
  · exact ⟨mn_sGo, o175_109⟩
  · exact ⟨mn_sLI, o175_112⟩
  · exact ⟨mn_sCV, o175_114⟩
  · exact ⟨mn_sK, o175_117⟩
  · exact ⟨mn_sRZ, o175_118⟩
  · exact ⟨mn_sX, ok_X⟩
theorem oc175 : ∀ pc, Mnp (c175 pc) ∧ Okp RX10 cX10_followRow 5 (some .boolean) "followRow" false pc (c175 pc) := by
  intro pc
  unfold c175
  split
  · exact oc175_0 pc
  · exact oc175_1 pc
  · exact oc175_2 pc
  · exact oc175_3 pc
  · exact oc175_4 pc
  · exact ⟨mn_sX, ok_X⟩
theorem o176_0 : Okp RX10 cX10_followFlow 5 (some .boolean) "followFlow" false 0 (sLI 1 1) := ok_iload_n (by decide +kernel : decode cX10_followFlow 0 = .ok (.iload_n 1, 1)) rfl
theorem o176_1 : Okp RX10 cX10_followFlow 5 (some .boolean) "followFlow" false 1 (sSw [(30, 72), (31, 108), (32, 171), (33, 171), (34, 171), (35, 171), (36, 171), (37, 171), (38, 171), (39, 171), (40, 114), (41, 171), (42, 163), (43, 165)] 171) := ok_tsw (by decide +kernel : decode cX10_followFlow 1 = .ok (.tableswitch 170 30 43 #[71, 107, 170, 170, 170, 170, 170, 170, 170, 170, 113, 170, 162, 164], 71)) (by decide) (by decide) (by decide)
theorem o176_72 : Okp RX10 cX10_followFlow 5 (some .boolean) "followFlow" false 72 (sLR 0 73) := ok_aload_n (by decide +kernel : decode cX10_followFlow 72 = .ok (.aload_n 0, 1)) rfl
theorem o176_73 : Okp RX10 cX10_followFlow 5 (some .boolean) "followFlow" false 73 (sGR 11 7 76) := ok_getR (by decide +kernel : decode cX10_followFlow 73 = .ok (.getfield 40, 3)) fw_X10_40 rfl
theorem o176_76 : Okp RX10 cX10_followFlow 5 (some .boolean) "followFlow" false 76 (sLI 2 77) := ok_iload_n (by decide +kernel : decode cX10_followFlow 76 = .ok (.iload_n 2, 1)) rfl
theorem o176_77 : Okp RX10 cX10_followFlow 5 (some .boolean) "followFlow" false 77 (sCV false 149 2 10 80) := ok_cv (by decide +kernel : decode cX10_followFlow 77 = .ok (.invokevirtual 67, 3)) mw_X10_67 rfl (by decide) wm_X9_routineAt wse_X9_routineAt (by decide) rfl
theorem o176_80 : Okp RX10 cX10_followFlow 5 (some .boolean) "followFlow" false 80 (sSR 3 81) := ok_astore_n (by decide +kernel : decode cX10_followFlow 80 = .ok (.astore_n 3, 1)) rfl (by decide) (by decide)
theorem o176_81 : Okp RX10 cX10_followFlow 5 (some .boolean) "followFlow" false 81 (sLR 0 82) := ok_aload_n (by decide +kernel : decode cX10_followFlow 81 = .ok (.aload_n 0, 1)) rfl
theorem o176_82 : Okp RX10 cX10_followFlow 5 (some .boolean) "followFlow" false 82 (sLR 3 83) := ok_aload_n (by decide +kernel : decode cX10_followFlow 82 = .ok (.aload_n 3, 1)) rfl
theorem o176_83 : Okp RX10 cX10_followFlow 5 (some .boolean) "followFlow" false 83 (sCV false 177 2 11 86) := ok_cv (by decide +kernel : decode cX10_followFlow 83 = .ok (.invokevirtual 202, 3)) mw_X10_202 rfl (by decide) wm_X10_popParameters wse_X10_popParameters (by decide) rfl
theorem o176_86 : Okp RX10 cX10_followFlow 5 (some .boolean) "followFlow" false 86 (sLR 3 87) := ok_aload_n (by decide +kernel : decode cX10_followFlow 86 = .ok (.aload_n 3, 1)) rfl
theorem o176_87 : Okp RX10 cX10_followFlow 5 (some .boolean) "followFlow" false 87 (sNl 106 90) := ok_ifnull (by decide +kernel : decode cX10_followFlow 87 = .ok (.ifnull 19, 3)) (by decide)
theorem o176_90 : Okp RX10 cX10_followFlow 5 (some .boolean) "followFlow" false 90 (sLR 3 91) := ok_aload_n (by decide +kernel : decode cX10_followFlow 90 = .ok (.aload_n 3, 1)) rfl
theorem o176_91 : Okp RX10 cX10_followFlow 5 (some .boolean) "followFlow" false 91 (sGI 8 2 94) := ok_getI (by decide +kernel : decode cX10_followFlow 91 = .ok (.getfield 206, 3)) fw_X10_206 rfl
theorem o176_94 : Okp RX10 cX10_followFlow 5 (some .boolean) "followFlow" false 94 (sK (-1) 95) := ok_iconst (by decide +kernel : decode cX10_followFlow 94 = .ok (.iconst (-1), 1)) (by decide)
theorem o176_95 : Okp RX10 cX10_followFlow 5 (some .boolean) "followFlow" false 95 (sI2 0 106 98) := ok_icmp_eq (by decide +kernel : decode cX10_followFlow 95 = .ok (.if_icmp .eq 11, 3)) (by decide)
theorem o176_98 : Okp RX10 cX10_followFlow 5 (some .boolean) "followFlow" false 98 (sLR 0 99) := ok_aload_n (by decide +kernel : decode cX10_followFlow 98 = .ok (.aload_n 0, 1)) rfl
theorem o176_99 : Okp RX10 cX10_followFlow 5 (some .boolean) "followFlow" false 99 (sLR 3 100) := ok_aload_n (by decide +kernel : decode cX10_followFlow 99 = .ok (.aload_n 3, 1)) rfl
theorem o176_100 : Okp RX10 cX10_followFlow 5 (some .boolean) "followFlow" false 100 (sGI 8 2 103) := ok_getI (by decide +kernel : decode cX10_followFlow 100 = .ok (.getfield 206, 3)) fw_X10_206 rfl
theorem o176_103 : Okp RX10 cX10_followFlow 5 (some .boolean) "followFlow" false 103 (sCV false 164 2 11 106) := ok_cv (by decide +kernel : decode cX10_followFlow 103 = .ok (.invokevirtual 169, 3)) mw_X10_169 rfl (by decide) wm_X10_push wse_X10_push (by decide) rfl
theorem o176_106 : Okp RX10 cX10_followFlow 5 (some .boolean) "followFlow" false 106 (sK 1 107) := ok_iconst (by decide +kernel : decode cX10_followFlow 106 = .ok (.iconst 1, 1)) (by decide)
theorem o176_107 : Okp RX10 cX10_followFlow 5 (some .boolean) "followFlow" false 107 sRZ := ok_zret rfl (by decide +kernel : decode cX10_followFlow 107 = .ok (.ireturn, 1))
theorem o176_108 : Okp RX10 cX10_followFlow 5 (some .boolean) "followFlow" false 108 (sLR 0 109) := ok_aload_n (by decide +kernel : decode cX10_followFlow 108 = .ok (.aload_n 0, 1)) rfl
theorem o176_109 : Okp RX10 cX10_followFlow 5 (some .boolean) "followFlow" false 109 (sCV false 179 1 11 112) := ok_cv (by decide +kernel : decode cX10_followFlow 109 = .ok (.invokevirtual 209, 3)) mw_X10_209 rfl (by decide) wm_X10_followReturn wse_X10_followReturn (by decide) rfl
theorem o176_112 : Okp RX10 cX10_followFlow 5 (some .boolean) "followFlow" false 112 (sK 0 113) := ok_iconst (by decide +kernel : decode cX10_followFlow 112 = .ok (.iconst 0, 1)) (by decide)
theorem o176_113 : Okp RX10 cX10_followFlow 5 (some .boolean) "followFlow" false 113 sRZ := ok_zret rfl (by decide +kernel : decode cX10_followFlow 113 = .ok (.ireturn, 1))
theorem o176_114 : Okp RX10 cX10_followFlow 5 (some .boolean) "followFlow" false 114 (sLR 0 115) := ok_aload_n (by decide +kernel : decode cX10_followFlow 114 = .ok (.aload_n 0, 1)) rfl
theorem o176_115 : Okp RX10 cX10_followFlow 5 (some .boolean) "followFlow" false 115 (sGR 11 7 118) := ok_getR (by decide +kernel : decode cX10_followFlow 115 = .ok (.getfield 40, 3)) fw_X10_40 rfl
theorem o176_118 : Okp RX10 cX10_followFlow 5 (some .boolean) "followFlow" false 118 (sLI 2 119) := ok_iload_n (by decide +kernel : decode cX10_followFlow 118 = .ok (.iload_n 2, 1)) rfl
theorem o176_119 : Okp RX10 cX10_followFlow 5 (some .boolean) "followFlow" false 119 (sCV false 149 2 10 122) := ok_cv (by decide +kernel : decode cX10_followFlow 119 = .ok (.invokevirtual 67, 3)) mw_X10_67 rfl (by decide) wm_X9_routineAt wse_X9_routineAt (by decide) rfl
theorem o176_122 : Okp RX10 cX10_followFlow 5 (some .boolean) "followFlow" false 122 (sSR 4 124) := ok_astore (by decide +kernel : decode cX10_followFlow 122 = .ok (.astore 4, 2)) (by decide) (by decide)
theorem o176_124 : Okp RX10 cX10_followFlow 5 (some .boolean) "followFlow" false 124 (sLR 0 125) := ok_aload_n (by decide +kernel : decode cX10_followFlow 124 = .ok (.aload_n 0, 1)) rfl
theorem o176_125 : Okp RX10 cX10_followFlow 5 (some .boolean) "followFlow" false 125 (sLR 4 127) := ok_aload (by decide +kernel : decode cX10_followFlow 125 = .ok (.aload 4, 2))
theorem o176_127 : Okp RX10 cX10_followFlow 5 (some .boolean) "followFlow" false 127 (sCV false 177 2 11 130) := ok_cv (by decide +kernel : decode cX10_followFlow 127 = .ok (.invokevirtual 202, 3)) mw_X10_202 rfl (by decide) wm_X10_popParameters wse_X10_popParameters (by decide) rfl
theorem o176_130 : Okp RX10 cX10_followFlow 5 (some .boolean) "followFlow" false 130 (sLR 0 131) := ok_aload_n (by decide +kernel : decode cX10_followFlow 130 = .ok (.aload_n 0, 1)) rfl
theorem o176_131 : Okp RX10 cX10_followFlow 5 (some .boolean) "followFlow" false 131 (sLR 4 133) := ok_aload (by decide +kernel : decode cX10_followFlow 131 = .ok (.aload 4, 2))
theorem o176_133 : Okp RX10 cX10_followFlow 5 (some .boolean) "followFlow" false 133 (sNl 157 136) := ok_ifnull (by decide +kernel : decode cX10_followFlow 133 = .ok (.ifnull 24, 3)) (by decide)
theorem o176_136 : Okp RX10 cX10_followFlow 5 (some .boolean) "followFlow" false 136 (sLR 4 138) := ok_aload (by decide +kernel : decode cX10_followFlow 136 = .ok (.aload 4, 2))
theorem o176_138 : Okp RX10 cX10_followFlow 5 (some .boolean) "followFlow" false 138 (sGI 8 2 141) := ok_getI (by decide +kernel : decode cX10_followFlow 138 = .ok (.getfield 206, 3)) fw_X10_206 rfl
theorem o176_141 : Okp RX10 cX10_followFlow 5 (some .boolean) "followFlow" false 141 (sK (-1) 142) := ok_iconst (by decide +kernel : decode cX10_followFlow 141 = .ok (.iconst (-1), 1)) (by decide)
theorem o176_142 : Okp RX10 cX10_followFlow 5 (some .boolean) "followFlow" false 142 (sI2 1 157 145) := ok_icmp_ne (by decide +kernel : decode cX10_followFlow 142 = .ok (.if_icmp .ne 15, 3)) (by decide)
theorem o176_145 : Okp RX10 cX10_followFlow 5 (some .boolean) "followFlow" false 145 (sLR 4 147) := ok_aload (by decide +kernel : decode cX10_followFlow 145 = .ok (.aload 4, 2))
theorem o176_147 : Okp RX10 cX10_followFlow 5 (some .boolean) "followFlow" false 147 (sCS false 178 1 150) := ok_cs (by decide +kernel : decode cX10_followFlow 147 = .ok (.invokestatic 212, 3)) mw_X10_212 wt_X10_takesPointers (by decide) rfl
theorem o176_150 : Okp RX10 cX10_followFlow 5 (some .boolean) "followFlow" false 150 (sI1 1 157 153) := ok_if_ne (by decide +kernel : decode cX10_followFlow 150 = .ok (.ifCond .ne 7, 3)) (by decide)
theorem o176_153 : Okp RX10 cX10_followFlow 5 (some .boolean) "followFlow" false 153 (sK 1 154) := ok_iconst (by decide +kernel : decode cX10_followFlow 153 = .ok (.iconst 1, 1)) (by decide)
theorem o176_154 : Okp RX10 cX10_followFlow 5 (some .boolean) "followFlow" false 154 (sGo 158) := ok_goto (by decide +kernel : decode cX10_followFlow 154 = .ok (.goto 4, 3)) (by decide)
theorem o176_157 : Okp RX10 cX10_followFlow 5 (some .boolean) "followFlow" false 157 (sK 0 158) := ok_iconst (by decide +kernel : decode cX10_followFlow 157 = .ok (.iconst 0, 1)) (by decide)
theorem o176_158 : Okp RX10 cX10_followFlow 5 (some .boolean) "followFlow" false 158 (sCV false 166 2 11 161) := ok_cv (by decide +kernel : decode cX10_followFlow 158 = .ok (.invokevirtual 129, 3)) mw_X10_129 rfl (by decide) wm_X10_want wse_X10_want (by decide) rfl
theorem o176_161 : Okp RX10 cX10_followFlow 5 (some .boolean) "followFlow" false 161 (sK 1 162) := ok_iconst (by decide +kernel : decode cX10_followFlow 161 = .ok (.iconst 1, 1)) (by decide)
theorem o176_162 : Okp RX10 cX10_followFlow 5 (some .boolean) "followFlow" false 162 sRZ := ok_zret rfl (by decide +kernel : decode cX10_followFlow 162 = .ok (.ireturn, 1))
theorem o176_163 : Okp RX10 cX10_followFlow 5 (some .boolean) "followFlow" false 163 (sK 0 164) := ok_iconst (by decide +kernel : decode cX10_followFlow 163 = .ok (.iconst 0, 1)) (by decide)
theorem o176_164 : Okp RX10 cX10_followFlow 5 (some .boolean) "followFlow" false 164 sRZ := ok_zret rfl (by decide +kernel : decode cX10_followFlow 164 = .ok (.ireturn, 1))
theorem o176_165 : Okp RX10 cX10_followFlow 5 (some .boolean) "followFlow" false 165 (sLR 0 166) := ok_aload_n (by decide +kernel : decode cX10_followFlow 165 = .ok (.aload_n 0, 1)) rfl
theorem o176_166 : Okp RX10 cX10_followFlow 5 (some .boolean) "followFlow" false 166 (sCV false 167 1 11 169) := ok_cv (by decide +kernel : decode cX10_followFlow 166 = .ok (.invokevirtual 178, 3)) mw_X10_178 rfl (by decide) wm_X10_popInt wse_X10_popInt (by decide) rfl
theorem o176_169 : Okp RX10 cX10_followFlow 5 (some .boolean) "followFlow" false 169 (sK 1 170) := ok_iconst (by decide +kernel : decode cX10_followFlow 169 = .ok (.iconst 1, 1)) (by decide)
theorem o176_170 : Okp RX10 cX10_followFlow 5 (some .boolean) "followFlow" false 170 sRZ := ok_zret rfl (by decide +kernel : decode cX10_followFlow 170 = .ok (.ireturn, 1))
theorem o176_171 : Okp RX10 cX10_followFlow 5 (some .boolean) "followFlow" false 171 (sK 1 172) := ok_iconst (by decide +kernel : decode cX10_followFlow 171 = .ok (.iconst 1, 1)) (by decide)
theorem o176_172 : Okp RX10 cX10_followFlow 5 (some .boolean) "followFlow" false 172 sRZ := ok_zret rfl (by decide +kernel : decode cX10_followFlow 172 = .ok (.ireturn, 1))
theorem oc176_0 : ∀ pc, Mnp (c176_0 pc) ∧ Okp RX10 cX10_followFlow 5 (some .boolean) "followFlow" false pc (c176_0 pc) := by
  intro pc
  unfold c176_0
  split
  · exact ⟨mn_sLI, o176_0⟩
  · exact ⟨mn_sSw, o176_1⟩
  · exact ⟨mn_sX, ok_X⟩
theorem oc176_3 : ∀ pc, Mnp (c176_3 pc) ∧ Okp RX10 cX10_followFlow 5 (some .boolean) "followFlow" false pc (c176_3 pc) := by
  intro pc
  unfold c176_3
  split
  · exact ⟨mn_sLR, o176_72⟩
  · exact ⟨mn_sGR, o176_73⟩
  · exact ⟨mn_sLI, o176_76⟩
  · exact ⟨mn_sCV, o176_77⟩
  · exact ⟨mn_sSR, o176_80⟩
  · exact ⟨mn_sLR, o176_81⟩
  · exact ⟨mn_sLR, o176_82⟩
  · exact ⟨mn_sCV, o176_83⟩
  · exact ⟨mn_sLR, o176_86⟩
  · exact ⟨mn_sNl, o176_87⟩
  · exact ⟨mn_sLR, o176_90⟩
  · exact ⟨mn_sGI, o176_91⟩
  · exact ⟨mn_sK, o176_94⟩
  · exact ⟨mn_sI2, o176_95⟩
  · exact ⟨mn_sX, ok_X⟩
theorem oc176_4 : ∀ pc, Mnp (c176_4 pc) ∧ Okp RX10 cX10_followFlow 5 (some .boolean) "followFlow" false pc (c176_4 pc) := by
  intro pc
  unfold c176_4
  split
  · exact ⟨mn_sLR, o176_98⟩
  · exact ⟨mn_sLR, o176_99⟩
  · exact ⟨mn_sGI, o176_100⟩
  · exact ⟨mn_sCV, o176_103⟩
  · exact ⟨mn_sK, o176_106⟩
  · exact ⟨mn_sRZ, o176_107⟩
  · exact ⟨mn_sLR, o176_108⟩
  · exact ⟨mn_sCV, o176_109⟩
  · exact ⟨mn_sK, o176_112⟩
  · exact ⟨mn_sRZ, o176_113⟩
  · exact ⟨mn_sLR, o176_114⟩
  · exact ⟨mn_sGR, o176_115⟩
  · exact ⟨mn_sLI, o176_118⟩
  · exact ⟨mn_sCV, o176_119⟩
  · exact ⟨mn_sX, ok_X⟩
theorem oc176_5 : ∀ pc, Mnp (c176_5 pc) ∧ Okp RX10 cX10_followFlow 5 (some .boolean) "followFlow" false pc (c176_5 pc) := by
  intro pc
  unfold c176_5
  split
  · exact ⟨mn_sSR, o176_122⟩
  · exact ⟨mn_sLR, o176_124⟩
  · exact ⟨mn_sLR, o176_125⟩
  · exact ⟨mn_sCV, o176_127⟩
  · exact ⟨mn_sLR, o176_130⟩
  · exact ⟨mn_sLR, o176_131⟩
  · exact ⟨mn_sNl, o176_133⟩
  · exact ⟨mn_sLR, o176_136⟩
  · exact ⟨mn_sGI, o176_138⟩
  · exact ⟨mn_sK, o176_141⟩
  · exact ⟨mn_sI2, o176_142⟩
  · exact ⟨mn_sX, ok_X⟩
theorem oc176_6 : ∀ pc, Mnp (c176_6 pc) ∧ Okp RX10 cX10_followFlow 5 (some .boolean) "followFlow" false pc (c176_6 pc) := by
  intro pc
  unfold c176_6
  split
  · exact ⟨mn_sLR, o176_145⟩
  · exact ⟨mn_sCS, o176_147⟩
  · exact ⟨mn_sI1, o176_150⟩
  · exact ⟨mn_sK, o176_153⟩
  · exact ⟨mn_sGo, o176_154⟩
  · exact ⟨mn_sK, o176_157⟩
  · exact ⟨mn_sCV, o176_158⟩
  · exact ⟨mn_sK, o176_161⟩
  · exact ⟨mn_sRZ, o176_162⟩
  · exact ⟨mn_sK, o176_163⟩
  · exact ⟨mn_sRZ, o176_164⟩
  · exact ⟨mn_sLR, o176_165⟩
  · exact ⟨mn_sCV, o176_166⟩
  · exact ⟨mn_sX, ok_X⟩
theorem oc176_7 : ∀ pc, Mnp (c176_7 pc) ∧ Okp RX10 cX10_followFlow 5 (some .boolean) "followFlow" false pc (c176_7 pc) := by
  intro pc
  unfold c176_7
  split
  · exact ⟨mn_sK, o176_169⟩
  · exact ⟨mn_sRZ, o176_170⟩
  · exact ⟨mn_sK, o176_171⟩
  · exact ⟨mn_sRZ, o176_172⟩
  · exact ⟨mn_sX, ok_X⟩
theorem oc176 : ∀ pc, Mnp (c176 pc) ∧ Okp RX10 cX10_followFlow 5 (some .boolean) "followFlow" false pc (c176 pc) := by
  intro pc
  unfold c176
  split
  · exact oc176_0 pc
  · exact oc176_3 pc
  · exact oc176_4 pc
  · exact oc176_5 pc
  · exact oc176_6 pc
  · exact oc176_7 pc
  · exact ⟨mn_sX, ok_X⟩
theorem o177_0 : Okp RX10 cX10_popParameters 3 none "popParameters" false 0 (sLR 0 1) := ok_aload_n (by decide +kernel : decode cX10_popParameters 0 = .ok (.aload_n 0, 1)) rfl
theorem o177_1 : Okp RX10 cX10_popParameters 3 none "popParameters" false 1 (sLR 1 2) := ok_aload_n (by decide +kernel : decode cX10_popParameters 1 = .ok (.aload_n 1, 1)) rfl
theorem o177_2 : Okp RX10 cX10_popParameters 3 none "popParameters" false 2 (sNl 9 5) := ok_ifnull (by decide +kernel : decode cX10_popParameters 2 = .ok (.ifnull 7, 3)) (by decide)
theorem o177_5 : Okp RX10 cX10_popParameters 3 none "popParameters" false 5 (sK 1 6) := ok_iconst (by decide +kernel : decode cX10_popParameters 5 = .ok (.iconst 1, 1)) (by decide)
theorem o177_6 : Okp RX10 cX10_popParameters 3 none "popParameters" false 6 (sGo 10) := ok_goto (by decide +kernel : decode cX10_popParameters 6 = .ok (.goto 4, 3)) (by decide)
theorem o177_9 : Okp RX10 cX10_popParameters 3 none "popParameters" false 9 (sK 0 10) := ok_iconst (by decide +kernel : decode cX10_popParameters 9 = .ok (.iconst 0, 1)) (by decide)
theorem o177_10 : Okp RX10 cX10_popParameters 3 none "popParameters" false 10 (sCV false 166 2 11 13) := ok_cv (by decide +kernel : decode cX10_popParameters 10 = .ok (.invokevirtual 129, 3)) mw_X10_129 rfl (by decide) wm_X10_want wse_X10_want (by decide) rfl
theorem o177_13 : Okp RX10 cX10_popParameters 3 none "popParameters" false 13 (sLR 1 14) := ok_aload_n (by decide +kernel : decode cX10_popParameters 13 = .ok (.aload_n 1, 1)) rfl
theorem o177_14 : Okp RX10 cX10_popParameters 3 none "popParameters" false 14 (sNl 50 17) := ok_ifnull (by decide +kernel : decode cX10_popParameters 14 = .ok (.ifnull 36, 3)) (by decide)
theorem o177_17 : Okp RX10 cX10_popParameters 3 none "popParameters" false 17 (sLR 1 18) := ok_aload_n (by decide +kernel : decode cX10_popParameters 17 = .ok (.aload_n 1, 1)) rfl
theorem o177_18 : Okp RX10 cX10_popParameters 3 none "popParameters" false 18 (sGI 8 0 21) := ok_getI (by decide +kernel : decode cX10_popParameters 18 = .ok (.getfield 86, 3)) fw_X10_86 rfl
theorem o177_21 : Okp RX10 cX10_popParameters 3 none "popParameters" false 21 (sK 1 22) := ok_iconst (by decide +kernel : decode cX10_popParameters 21 = .ok (.iconst 1, 1)) (by decide)
theorem o177_22 : Okp RX10 cX10_popParameters 3 none "popParameters" false 22 (sB2 fSub 23) := ok_isub (by decide +kernel : decode cX10_popParameters 22 = .ok (.isub, 1))
theorem o177_23 : Okp RX10 cX10_popParameters 3 none "popParameters" false 23 (sSI 2 24) := ok_istore_n (by decide +kernel : decode cX10_popParameters 23 = .ok (.istore_n 2, 1)) rfl (by decide) (by decide)
theorem o177_24 : Okp RX10 cX10_popParameters 3 none "popParameters" false 24 (sLI 2 25) := ok_iload_n (by decide +kernel : decode cX10_popParameters 24 = .ok (.iload_n 2, 1)) rfl
theorem o177_25 : Okp RX10 cX10_popParameters 3 none "popParameters" false 25 (sI1 2 50 28) := ok_if_lt (by decide +kernel : decode cX10_popParameters 25 = .ok (.ifCond .lt 25, 3)) (by decide)
theorem o177_28 : Okp RX10 cX10_popParameters 3 none "popParameters" false 28 (sLR 0 29) := ok_aload_n (by decide +kernel : decode cX10_popParameters 28 = .ok (.aload_n 0, 1)) rfl
theorem o177_29 : Okp RX10 cX10_popParameters 3 none "popParameters" false 29 (sLR 0 30) := ok_aload_n (by decide +kernel : decode cX10_popParameters 29 = .ok (.aload_n 0, 1)) rfl
theorem o177_30 : Okp RX10 cX10_popParameters 3 none "popParameters" false 30 (sCV false 165 1 11 33) := ok_cv (by decide +kernel : decode cX10_popParameters 30 = .ok (.invokevirtual 137, 3)) mw_X10_137 rfl (by decide) wm_X10_pop wse_X10_pop (by decide) rfl
theorem o177_33 : Okp RX10 cX10_popParameters 3 none "popParameters" false 33 (sLR 1 34) := ok_aload_n (by decide +kernel : decode cX10_popParameters 33 = .ok (.aload_n 1, 1)) rfl
theorem o177_34 : Okp RX10 cX10_popParameters 3 none "popParameters" false 34 (sLI 2 35) := ok_iload_n (by decide +kernel : decode cX10_popParameters 34 = .ok (.iload_n 2, 1)) rfl
theorem o177_35 : Okp RX10 cX10_popParameters 3 none "popParameters" false 35 (sCV false 107 2 8 38) := ok_cv (by decide +kernel : decode cX10_popParameters 35 = .ok (.invokevirtual 89, 3)) mw_X10_89 rfl (by decide) wm_X7_typeOfParameter wse_X7_typeOfParameter (by decide) rfl
theorem o177_38 : Okp RX10 cX10_popParameters 3 none "popParameters" false 38 (sCS false 214 2 41) := ok_cs (by decide +kernel : decode cX10_popParameters 38 = .ok (.invokestatic 199, 3)) mw_X10_199 wt_X11_fits (by decide) rfl
theorem o177_41 : Okp RX10 cX10_popParameters 3 none "popParameters" false 41 (sCV false 166 2 11 44) := ok_cv (by decide +kernel : decode cX10_popParameters 41 = .ok (.invokevirtual 129, 3)) mw_X10_129 rfl (by decide) wm_X10_want wse_X10_want (by decide) rfl
theorem o177_44 : Okp RX10 cX10_popParameters 3 none "popParameters" false 44 (sInc 2 (-1) 47) := ok_iinc (by decide +kernel : decode cX10_popParameters 44 = .ok (.iinc 2 (-1), 3)) (by decide) (by decide)
theorem o177_47 : Okp RX10 cX10_popParameters 3 none "popParameters" false 47 (sGo 24) := ok_goto (by decide +kernel : decode cX10_popParameters 47 = .ok (.goto (-23), 3)) (by decide)
theorem o177_50 : Okp RX10 cX10_popParameters 3 none "popParameters" false 50 sRV := ok_vret rfl (by decide +kernel : decode cX10_popParameters 50 = .ok (.return_, 1))
theorem oc177_0 : ∀ pc, Mnp (c177_0 pc) ∧ Okp RX10 cX10_popParameters 3 none "popParameters" false pc (c177_0 pc) := by
  intro pc
  unfold c177_0
  split
  · exact ⟨mn_sLR, o177_0⟩
  · exact ⟨mn_sLR, o177_1⟩
  · exact ⟨mn_sNl, o177_2⟩
  · exact ⟨mn_sK, o177_5⟩
  · exact ⟨mn_sGo, o177_6⟩
  · exact ⟨mn_sK, o177_9⟩
  · exact ⟨mn_sCV, o177_10⟩
  · exact ⟨mn_sLR, o177_13⟩
  · exact ⟨mn_sNl, o177_14⟩
  · exact ⟨mn_sLR, o177_17⟩
  · exact ⟨mn_sGI, o177_18⟩
  · exact ⟨mn_sK, o177_21⟩
  · exact ⟨mn_sB2, o177_22⟩
  · exact ⟨mn_sSI, o177_23⟩
  · exact ⟨mn_sX, ok_X⟩
theorem oc177_1 : ∀ pc, Mnp (c177_1 pc) ∧ Okp RX10 cX10_popParameters 3 none "popParameters" false pc (c177_1 pc) := by
  intro pc
  unfold c177_1
  split
  · exact ⟨mn_sLI, o177_24⟩
  · exact ⟨mn_sI1, o177_25⟩
  · exact ⟨mn_sLR, o177_28⟩
  · exact ⟨mn_sLR, o177_29⟩
  · exact ⟨mn_sCV, o177_30⟩
  · exact ⟨mn_sLR, o177_33⟩
  · exact ⟨mn_sLI, o177_34⟩
  · exact ⟨mn_sCV, o177_35⟩
  · exact ⟨mn_sCS, o177_38⟩
  · exact ⟨mn_sCV, o177_41⟩
  · exact ⟨mn_sInc, o177_44⟩
  · exact ⟨mn_sGo, o177_47⟩
  · exact ⟨mn_sX, ok_X⟩
theorem oc177_2 : ∀ pc, Mnp (c177_2 pc) ∧ Okp RX10 cX10_popParameters 3 none "popParameters" false pc (c177_2 pc) := by
  intro pc
  unfold c177_2
  split
  · exact ⟨mn_sRV, o177_50⟩
  · exact ⟨mn_sX, ok_X⟩
theorem oc177 : ∀ pc, Mnp (c177 pc) ∧ Okp RX10 cX10_popParameters 3 none "popParameters" false pc (c177 pc) := by
  intro pc
  unfold c177
  split
  · exact oc177_0 pc
  · exact oc177_1 pc
  · exact oc177_2 pc
  · exact ⟨mn_sX, ok_X⟩
theorem o178_0 : Okp RX10 cX10_takesPointers 2 (some .boolean) "takesPointers" false 0 (sK 0 1) := ok_iconst (by decide +kernel : decode cX10_takesPointers 0 = .ok (.iconst 0, 1)) (by decide)
theorem o178_1 : Okp RX10 cX10_takesPointers 2 (some .boolean) "takesPointers" false 1 (sSI 1 2) := ok_istore_n (by decide +kernel : decode cX10_takesPointers 1 = .ok (.istore_n 1, 1)) rfl (by decide) (by decide)
theorem o178_2 : Okp RX10 cX10_takesPointers 2 (some .boolean) "takesPointers" false 2 (sLI 1 3) := ok_iload_n (by decide +kernel : decode cX10_takesPointers 2 = .ok (.iload_n 1, 1)) rfl
theorem o178_3 : Okp RX10 cX10_takesPointers 2 (some .boolean) "takesPointers" false 3 (sLR 0 4) := ok_aload_n (by decide +kernel : decode cX10_takesPointers 3 = .ok (.aload_n 0, 1)) rfl
theorem o178_4 : Okp RX10 cX10_takesPointers 2 (some .boolean) "takesPointers" false 4 (sGI 8 0 7) := ok_getI (by decide +kernel : decode cX10_takesPointers 4 = .ok (.getfield 86, 3)) fw_X10_86 rfl
theorem o178_7 : Okp RX10 cX10_takesPointers 2 (some .boolean) "takesPointers" false 7 (sI2 3 29 10) := ok_icmp_ge (by decide +kernel : decode cX10_takesPointers 7 = .ok (.if_icmp .ge 22, 3)) (by decide)
theorem o178_10 : Okp RX10 cX10_takesPointers 2 (some .boolean) "takesPointers" false 10 (sLR 0 11) := ok_aload_n (by decide +kernel : decode cX10_takesPointers 10 = .ok (.aload_n 0, 1)) rfl
theorem o178_11 : Okp RX10 cX10_takesPointers 2 (some .boolean) "takesPointers" false 11 (sLI 1 12) := ok_iload_n (by decide +kernel : decode cX10_takesPointers 11 = .ok (.iload_n 1, 1)) rfl
theorem o178_12 : Okp RX10 cX10_takesPointers 2 (some .boolean) "takesPointers" false 12 (sCV false 107 2 8 15) := ok_cv (by decide +kernel : decode cX10_takesPointers 12 = .ok (.invokevirtual 89, 3)) mw_X10_89 rfl (by decide) wm_X7_typeOfParameter wse_X7_typeOfParameter (by decide) rfl
theorem o178_15 : Okp RX10 cX10_takesPointers 2 (some .boolean) "takesPointers" false 15 (sCS false 212 1 18) := ok_cs (by decide +kernel : decode cX10_takesPointers 15 = .ok (.invokestatic 216, 3)) mw_X10_216 wt_X11_isPointer (by decide) rfl
theorem o178_18 : Okp RX10 cX10_takesPointers 2 (some .boolean) "takesPointers" false 18 (sI1 0 23 21) := ok_if_eq (by decide +kernel : decode cX10_takesPointers 18 = .ok (.ifCond .eq 5, 3)) (by decide)
theorem o178_21 : Okp RX10 cX10_takesPointers 2 (some .boolean) "takesPointers" false 21 (sK 1 22) := ok_iconst (by decide +kernel : decode cX10_takesPointers 21 = .ok (.iconst 1, 1)) (by decide)
theorem o178_22 : Okp RX10 cX10_takesPointers 2 (some .boolean) "takesPointers" false 22 sRZ := ok_zret rfl (by decide +kernel : decode cX10_takesPointers 22 = .ok (.ireturn, 1))
theorem o178_23 : Okp RX10 cX10_takesPointers 2 (some .boolean) "takesPointers" false 23 (sInc 1 1 26) := ok_iinc (by decide +kernel : decode cX10_takesPointers 23 = .ok (.iinc 1 1, 3)) (by decide) (by decide)
theorem o178_26 : Okp RX10 cX10_takesPointers 2 (some .boolean) "takesPointers" false 26 (sGo 2) := ok_goto (by decide +kernel : decode cX10_takesPointers 26 = .ok (.goto (-24), 3)) (by decide)
theorem o178_29 : Okp RX10 cX10_takesPointers 2 (some .boolean) "takesPointers" false 29 (sK 0 30) := ok_iconst (by decide +kernel : decode cX10_takesPointers 29 = .ok (.iconst 0, 1)) (by decide)
theorem o178_30 : Okp RX10 cX10_takesPointers 2 (some .boolean) "takesPointers" false 30 sRZ := ok_zret rfl (by decide +kernel : decode cX10_takesPointers 30 = .ok (.ireturn, 1))
theorem oc178_0 : ∀ pc, Mnp (c178_0 pc) ∧ Okp RX10 cX10_takesPointers 2 (some .boolean) "takesPointers" false pc (c178_0 pc) := by
  intro pc
  unfold c178_0
  split
  · exact ⟨mn_sK, o178_0⟩
  · exact ⟨mn_sSI, o178_1⟩
  · exact ⟨mn_sLI, o178_2⟩
  · exact ⟨mn_sLR, o178_3⟩
  · exact ⟨mn_sGI, o178_4⟩
  · exact ⟨mn_sI2, o178_7⟩
  · exact ⟨mn_sLR, o178_10⟩
  · exact ⟨mn_sLI, o178_11⟩
  · exact ⟨mn_sCV, o178_12⟩
  · exact ⟨mn_sCS, o178_15⟩
  · exact ⟨mn_sI1, o178_18⟩
  · exact ⟨mn_sK, o178_21⟩
  · exact ⟨mn_sRZ, o178_22⟩
  · exact ⟨mn_sInc, o178_23⟩
  · exact ⟨mn_sX, ok_X⟩
theorem oc178_1 : ∀ pc, Mnp (c178_1 pc) ∧ Okp RX10 cX10_takesPointers 2 (some .boolean) "takesPointers" false pc (c178_1 pc) := by
  intro pc
  unfold c178_1
  split
  · exact ⟨mn_sGo, o178_26⟩
  · exact ⟨mn_sK, o178_29⟩
  · exact ⟨mn_sRZ, o178_30⟩
  · exact ⟨mn_sX, ok_X⟩
theorem oc178 : ∀ pc, Mnp (c178 pc) ∧ Okp RX10 cX10_takesPointers 2 (some .boolean) "takesPointers" false pc (c178 pc) := by
  intro pc
  unfold c178
  split
  · exact oc178_0 pc
  · exact oc178_1 pc
  · exact ⟨mn_sX, ok_X⟩
theorem o179_0 : Okp RX10 cX10_followReturn 2 none "followReturn" false 0 (sLR 0 1) := ok_aload_n (by decide +kernel : decode cX10_followReturn 0 = .ok (.aload_n 0, 1)) rfl
theorem o179_1 : Okp RX10 cX10_followReturn 2 none "followReturn" false 1 (sGR 11 8 4) := ok_getR (by decide +kernel : decode cX10_followReturn 1 = .ok (.getfield 44, 3)) fw_X10_44 rfl
theorem o179_4 : Okp RX10 cX10_followReturn 2 none "followReturn" false 4 (sGI 8 2 7) := ok_getI (by decide +kernel : decode cX10_followReturn 4 = .ok (.getfield 206, 3)) fw_X10_206 rfl
theorem o179_7 : Okp RX10 cX10_followReturn 2 none "followReturn" false 7 (sK (-1) 8) := ok_iconst (by decide +kernel : decode cX10_followReturn 7 = .ok (.iconst (-1), 1)) (by decide)
theorem o179_8 : Okp RX10 cX10_followReturn 2 none "followReturn" false 8 (sI2 0 29 11) := ok_icmp_eq (by decide +kernel : decode cX10_followReturn 8 = .ok (.if_icmp .eq 21, 3)) (by decide)
theorem o179_11 : Okp RX10 cX10_followReturn 2 none "followReturn" false 11 (sLR 0 12) := ok_aload_n (by decide +kernel : decode cX10_followReturn 11 = .ok (.aload_n 0, 1)) rfl
theorem o179_12 : Okp RX10 cX10_followReturn 2 none "followReturn" false 12 (sLR 0 13) := ok_aload_n (by decide +kernel : decode cX10_followReturn 12 = .ok (.aload_n 0, 1)) rfl
theorem o179_13 : Okp RX10 cX10_followReturn 2 none "followReturn" false 13 (sCV false 165 1 11 16) := ok_cv (by decide +kernel : decode cX10_followReturn 13 = .ok (.invokevirtual 137, 3)) mw_X10_137 rfl (by decide) wm_X10_pop wse_X10_pop (by decide) rfl
theorem o179_16 : Okp RX10 cX10_followReturn 2 none "followReturn" false 16 (sLR 0 17) := ok_aload_n (by decide +kernel : decode cX10_followReturn 16 = .ok (.aload_n 0, 1)) rfl
theorem o179_17 : Okp RX10 cX10_followReturn 2 none "followReturn" false 17 (sGR 11 8 20) := ok_getR (by decide +kernel : decode cX10_followReturn 17 = .ok (.getfield 44, 3)) fw_X10_44 rfl
theorem o179_20 : Okp RX10 cX10_followReturn 2 none "followReturn" false 20 (sGI 8 2 23) := ok_getI (by decide +kernel : decode cX10_followReturn 20 = .ok (.getfield 206, 3)) fw_X10_206 rfl
theorem o179_23 : Okp RX10 cX10_followReturn 2 none "followReturn" false 23 (sCS false 214 2 26) := ok_cs (by decide +kernel : decode cX10_followReturn 23 = .ok (.invokestatic 199, 3)) mw_X10_199 wt_X11_fits (by decide) rfl
theorem o179_26 : Okp RX10 cX10_followReturn 2 none "followReturn" false 26 (sCV false 166 2 11 29) := ok_cv (by decide +kernel : decode cX10_followReturn 26 = .ok (.invokevirtual 129, 3)) mw_X10_129 rfl (by decide) wm_X10_want wse_X10_want (by decide) rfl
theorem o179_29 : Okp RX10 cX10_followReturn 2 none "followReturn" false 29 (sLR 0 30) := ok_aload_n (by decide +kernel : decode cX10_followReturn 29 = .ok (.aload_n 0, 1)) rfl
theorem o179_30 : Okp RX10 cX10_followReturn 2 none "followReturn" false 30 (sLR 0 31) := ok_aload_n (by decide +kernel : decode cX10_followReturn 30 = .ok (.aload_n 0, 1)) rfl
theorem o179_31 : Okp RX10 cX10_followReturn 2 none "followReturn" false 31 (sGI 11 4 34) := ok_getI (by decide +kernel : decode cX10_followReturn 31 = .ok (.getfield 29, 3)) fw_X10_29 rfl
theorem o179_34 : Okp RX10 cX10_followReturn 2 none "followReturn" false 34 (sI1 1 41 37) := ok_if_ne (by decide +kernel : decode cX10_followReturn 34 = .ok (.ifCond .ne 7, 3)) (by decide)
theorem o179_37 : Okp RX10 cX10_followReturn 2 none "followReturn" false 37 (sK 1 38) := ok_iconst (by decide +kernel : decode cX10_followReturn 37 = .ok (.iconst 1, 1)) (by decide)
theorem o179_38 : Okp RX10 cX10_followReturn 2 none "followReturn" false 38 (sGo 42) := ok_goto (by decide +kernel : decode cX10_followReturn 38 = .ok (.goto 4, 3)) (by decide)
theorem o179_41 : Okp RX10 cX10_followReturn 2 none "followReturn" false 41 (sK 0 42) := ok_iconst (by decide +kernel : decode cX10_followReturn 41 = .ok (.iconst 0, 1)) (by decide)
theorem o179_42 : Okp RX10 cX10_followReturn 2 none "followReturn" false 42 (sCV false 166 2 11 45) := ok_cv (by decide +kernel : decode cX10_followReturn 42 = .ok (.invokevirtual 129, 3)) mw_X10_129 rfl (by decide) wm_X10_want wse_X10_want (by decide) rfl
theorem o179_45 : Okp RX10 cX10_followReturn 2 none "followReturn" false 45 (sK 0 46) := ok_iconst (by decide +kernel : decode cX10_followReturn 45 = .ok (.iconst 0, 1)) (by decide)
theorem o179_46 : Okp RX10 cX10_followReturn 2 none "followReturn" false 46 (sSI 1 47) := ok_istore_n (by decide +kernel : decode cX10_followReturn 46 = .ok (.istore_n 1, 1)) rfl (by decide) (by decide)
theorem o179_47 : Okp RX10 cX10_followReturn 2 none "followReturn" false 47 (sLI 1 48) := ok_iload_n (by decide +kernel : decode cX10_followReturn 47 = .ok (.iload_n 1, 1)) rfl
theorem o179_48 : Okp RX10 cX10_followReturn 2 none "followReturn" false 48 (sK 10 50) := ok_bipush (by decide +kernel : decode cX10_followReturn 48 = .ok (.bipush 10, 2)) (by decide)
theorem o179_50 : Okp RX10 cX10_followReturn 2 none "followReturn" false 50 (sI2 3 80 53) := ok_icmp_ge (by decide +kernel : decode cX10_followReturn 50 = .ok (.if_icmp .ge 30, 3)) (by decide)
theorem o179_53 : Okp RX10 cX10_followReturn 2 none "followReturn" false 53 (sLR 0 54) := ok_aload_n (by decide +kernel : decode cX10_followReturn 53 = .ok (.aload_n 0, 1)) rfl
theorem o179_54 : Okp RX10 cX10_followReturn 2 none "followReturn" false 54 (sLR 0 55) := ok_aload_n (by decide +kernel : decode cX10_followReturn 54 = .ok (.aload_n 0, 1)) rfl
theorem o179_55 : Okp RX10 cX10_followReturn 2 none "followReturn" false 55 (sGR 11 2 58) := ok_getR (by decide +kernel : decode cX10_followReturn 55 = .ok (.getfield 22, 3)) fw_X10_22 rfl
theorem o179_58 : Okp RX10 cX10_followReturn 2 none "followReturn" false 58 (sLI 1 59) := ok_iload_n (by decide +kernel : decode cX10_followReturn 58 = .ok (.iload_n 1, 1)) rfl
theorem o179_59 : Okp RX10 cX10_followReturn 2 none "followReturn" false 59 (sIA 60) := ok_iaload (by decide +kernel : decode cX10_followReturn 59 = .ok (.iaload, 1))
theorem o179_60 : Okp RX10 cX10_followReturn 2 none "followReturn" false 60 (sCS false 211 1 63) := ok_cs (by decide +kernel : decode cX10_followReturn 60 = .ok (.invokestatic 125, 3)) mw_X10_125 wt_X11_isLinear (by decide) rfl
theorem o179_63 : Okp RX10 cX10_followReturn 2 none "followReturn" false 63 (sI1 1 70 66) := ok_if_ne (by decide +kernel : decode cX10_followReturn 63 = .ok (.ifCond .ne 7, 3)) (by decide)
theorem o179_66 : Okp RX10 cX10_followReturn 2 none "followReturn" false 66 (sK 1 67) := ok_iconst (by decide +kernel : decode cX10_followReturn 66 = .ok (.iconst 1, 1)) (by decide)
theorem o179_67 : Okp RX10 cX10_followReturn 2 none "followReturn" false 67 (sGo 71) := ok_goto (by decide +kernel : decode cX10_followReturn 67 = .ok (.goto 4, 3)) (by decide)
theorem o179_70 : Okp RX10 cX10_followReturn 2 none "followReturn" false 70 (sK 0 71) := ok_iconst (by decide +kernel : decode cX10_followReturn 70 = .ok (.iconst 0, 1)) (by decide)
theorem o179_71 : Okp RX10 cX10_followReturn 2 none "followReturn" false 71 (sCV false 166 2 11 74) := ok_cv (by decide +kernel : decode cX10_followReturn 71 = .ok (.invokevirtual 129, 3)) mw_X10_129 rfl (by decide) wm_X10_want wse_X10_want (by decide) rfl
theorem o179_74 : Okp RX10 cX10_followReturn 2 none "followReturn" false 74 (sInc 1 1 77) := ok_iinc (by decide +kernel : decode cX10_followReturn 74 = .ok (.iinc 1 1, 3)) (by decide) (by decide)
theorem o179_77 : Okp RX10 cX10_followReturn 2 none "followReturn" false 77 (sGo 47) := ok_goto (by decide +kernel : decode cX10_followReturn 77 = .ok (.goto (-30), 3)) (by decide)
theorem o179_80 : Okp RX10 cX10_followReturn 2 none "followReturn" false 80 sRV := ok_vret rfl (by decide +kernel : decode cX10_followReturn 80 = .ok (.return_, 1))
theorem oc179_0 : ∀ pc, Mnp (c179_0 pc) ∧ Okp RX10 cX10_followReturn 2 none "followReturn" false pc (c179_0 pc) := by
  intro pc
  unfold c179_0
  split
  · exact ⟨mn_sLR, o179_0⟩
  · exact ⟨mn_sGR, o179_1⟩
  · exact ⟨mn_sGI, o179_4⟩
  · exact ⟨mn_sK, o179_7⟩
  · exact ⟨mn_sI2, o179_8⟩
  · exact ⟨mn_sLR, o179_11⟩
  · exact ⟨mn_sLR, o179_12⟩
  · exact ⟨mn_sCV, o179_13⟩
  · exact ⟨mn_sLR, o179_16⟩
  · exact ⟨mn_sGR, o179_17⟩
  · exact ⟨mn_sGI, o179_20⟩
  · exact ⟨mn_sCS, o179_23⟩
  · exact ⟨mn_sX, ok_X⟩
theorem oc179_1 : ∀ pc, Mnp (c179_1 pc) ∧ Okp RX10 cX10_followReturn 2 none "followReturn" false pc (c179_1 pc) := by
  intro pc
  unfold c179_1
  split
  · exact ⟨mn_sCV, o179_26⟩
  · exact ⟨mn_sLR, o179_29⟩
  · exact ⟨mn_sLR, o179_30⟩
  · exact ⟨mn_sGI, o179_31⟩
  · exact ⟨mn_sI1, o179_34⟩
  · exact ⟨mn_sK, o179_37⟩
  · exact ⟨mn_sGo, o179_38⟩
  · exact ⟨mn_sK, o179_41⟩
  · exact ⟨mn_sCV, o179_42⟩
  · exact ⟨mn_sK, o179_45⟩
  · exact ⟨mn_sSI, o179_46⟩
  · exact ⟨mn_sLI, o179_47⟩
  · exact ⟨mn_sX, ok_X⟩
theorem oc179_2 : ∀ pc, Mnp (c179_2 pc) ∧ Okp RX10 cX10_followReturn 2 none "followReturn" false pc (c179_2 pc) := by
  intro pc
  unfold c179_2
  split
  · exact ⟨mn_sK, o179_48⟩
  · exact ⟨mn_sI2, o179_50⟩
  · exact ⟨mn_sLR, o179_53⟩
  · exact ⟨mn_sLR, o179_54⟩
  · exact ⟨mn_sGR, o179_55⟩
  · exact ⟨mn_sLI, o179_58⟩
  · exact ⟨mn_sIA, o179_59⟩
  · exact ⟨mn_sCS, o179_60⟩
  · exact ⟨mn_sI1, o179_63⟩
  · exact ⟨mn_sK, o179_66⟩
  · exact ⟨mn_sGo, o179_67⟩
  · exact ⟨mn_sK, o179_70⟩
  · exact ⟨mn_sCV, o179_71⟩
  · exact ⟨mn_sX, ok_X⟩
theorem oc179_3 : ∀ pc, Mnp (c179_3 pc) ∧ Okp RX10 cX10_followReturn 2 none "followReturn" false pc (c179_3 pc) := by
  intro pc
  unfold c179_3
  split
  · exact ⟨mn_sInc, o179_74⟩
  · exact ⟨mn_sGo, o179_77⟩
  · exact ⟨mn_sRV, o179_80⟩
  · exact ⟨mn_sX, ok_X⟩
theorem oc179 : ∀ pc, Mnp (c179 pc) ∧ Okp RX10 cX10_followReturn 2 none "followReturn" false pc (c179 pc) := by
  intro pc
  unfold c179
  split
  · exact oc179_0 pc
  · exact oc179_1 pc
  · exact oc179_2 pc
  · exact oc179_3 pc
  · exact ⟨mn_sX, ok_X⟩
theorem o180_0 : Okp RX10 cX10_followBlock 4 (some .boolean) "followBlock" false 0 (sLI 1 1) := ok_iload_n (by decide +kernel : decode cX10_followBlock 0 = .ok (.iload_n 1, 1)) rfl
theorem o180_1 : Okp RX10 cX10_followBlock 4 (some .boolean) "followBlock" false 1 (sK 32 3) := ok_bipush (by decide +kernel : decode cX10_followBlock 1 = .ok (.bipush 32, 2)) (by decide)
theorem o180_3 : Okp RX10 cX10_followBlock 4 (some .boolean) "followBlock" false 3 (sI2 1 17 6) := ok_icmp_ne (by decide +kernel : decode cX10_followBlock 3 = .ok (.if_icmp .ne 14, 3)) (by decide)
theorem o180_6 : Okp RX10 cX10_followBlock 4 (some .boolean) "followBlock" false 6 (sLR 0 7) := ok_aload_n (by decide +kernel : decode cX10_followBlock 6 = .ok (.aload_n 0, 1)) rfl
theorem o180_7 : Okp RX10 cX10_followBlock 4 (some .boolean) "followBlock" false 7 (sK 4 8) := ok_iconst (by decide +kernel : decode cX10_followBlock 7 = .ok (.iconst 4, 1)) (by decide)
theorem o180_8 : Okp RX10 cX10_followBlock 4 (some .boolean) "followBlock" false 8 (sLI 2 9) := ok_iload_n (by decide +kernel : decode cX10_followBlock 8 = .ok (.iload_n 2, 1)) rfl
theorem o180_9 : Okp RX10 cX10_followBlock 4 (some .boolean) "followBlock" false 9 (sCS false 205 2 12) := ok_cs (by decide +kernel : decode cX10_followBlock 9 = .ok (.invokestatic 181, 3)) mw_X10_181 wt_X11_typeOf (by decide) rfl
theorem o180_12 : Okp RX10 cX10_followBlock 4 (some .boolean) "followBlock" false 12 (sCV false 164 2 11 15) := ok_cv (by decide +kernel : decode cX10_followBlock 12 = .ok (.invokevirtual 169, 3)) mw_X10_169 rfl (by decide) wm_X10_push wse_X10_push (by decide) rfl
theorem o180_15 : Okp RX10 cX10_followBlock 4 (some .boolean) "followBlock" false 15 (sK 1 16) := ok_iconst (by decide +kernel : decode cX10_followBlock 15 = .ok (.iconst 1, 1)) (by decide)
theorem o180_16 : Okp RX10 cX10_followBlock 4 (some .boolean) "followBlock" false 16 sRZ := ok_zret rfl (by decide +kernel : decode cX10_followBlock 16 = .ok (.ireturn, 1))
theorem o180_17 : Okp RX10 cX10_followBlock 4 (some .boolean) "followBlock" false 17 (sLI 1 18) := ok_iload_n (by decide +kernel : decode cX10_followBlock 17 = .ok (.iload_n 1, 1)) rfl
theorem o180_18 : Okp RX10 cX10_followBlock 4 (some .boolean) "followBlock" false 18 (sK 34 20) := ok_bipush (by decide +kernel : decode cX10_followBlock 18 = .ok (.bipush 34, 2)) (by decide)
theorem o180_20 : Okp RX10 cX10_followBlock 4 (some .boolean) "followBlock" false 20 (sI2 1 27 23) := ok_icmp_ne (by decide +kernel : decode cX10_followBlock 20 = .ok (.if_icmp .ne 7, 3)) (by decide)
theorem o180_23 : Okp RX10 cX10_followBlock 4 (some .boolean) "followBlock" false 23 (sLR 0 24) := ok_aload_n (by decide +kernel : decode cX10_followBlock 23 = .ok (.aload_n 0, 1)) rfl
theorem o180_24 : Okp RX10 cX10_followBlock 4 (some .boolean) "followBlock" false 24 (sCV false 167 1 11 27) := ok_cv (by decide +kernel : decode cX10_followBlock 24 = .ok (.invokevirtual 178, 3)) mw_X10_178 rfl (by decide) wm_X10_popInt wse_X10_popInt (by decide) rfl
theorem o180_27 : Okp RX10 cX10_followBlock 4 (some .boolean) "followBlock" false 27 (sLR 0 28) := ok_aload_n (by decide +kernel : decode cX10_followBlock 27 = .ok (.aload_n 0, 1)) rfl
theorem o180_28 : Okp RX10 cX10_followBlock 4 (some .boolean) "followBlock" false 28 (sCV false 165 1 11 31) := ok_cv (by decide +kernel : decode cX10_followBlock 28 = .ok (.invokevirtual 137, 3)) mw_X10_137 rfl (by decide) wm_X10_pop wse_X10_pop (by decide) rfl
theorem o180_31 : Okp RX10 cX10_followBlock 4 (some .boolean) "followBlock" false 31 (sSI 3 32) := ok_istore_n (by decide +kernel : decode cX10_followBlock 31 = .ok (.istore_n 3, 1)) rfl (by decide) (by decide)
theorem o180_32 : Okp RX10 cX10_followBlock 4 (some .boolean) "followBlock" false 32 (sLR 0 33) := ok_aload_n (by decide +kernel : decode cX10_followBlock 32 = .ok (.aload_n 0, 1)) rfl
theorem o180_33 : Okp RX10 cX10_followBlock 4 (some .boolean) "followBlock" false 33 (sLI 3 34) := ok_iload_n (by decide +kernel : decode cX10_followBlock 33 = .ok (.iload_n 3, 1)) rfl
theorem o180_34 : Okp RX10 cX10_followBlock 4 (some .boolean) "followBlock" false 34 (sCS false 207 1 37) := ok_cs (by decide +kernel : decode cX10_followBlock 34 = .ok (.invokestatic 190, 3)) mw_X10_190 wt_X11_kindOf (by decide) rfl
theorem o180_37 : Okp RX10 cX10_followBlock 4 (some .boolean) "followBlock" false 37 (sK 4 38) := ok_iconst (by decide +kernel : decode cX10_followBlock 37 = .ok (.iconst 4, 1)) (by decide)
theorem o180_38 : Okp RX10 cX10_followBlock 4 (some .boolean) "followBlock" false 38 (sI2 1 45 41) := ok_icmp_ne (by decide +kernel : decode cX10_followBlock 38 = .ok (.if_icmp .ne 7, 3)) (by decide)
theorem o180_41 : Okp RX10 cX10_followBlock 4 (some .boolean) "followBlock" false 41 (sK 1 42) := ok_iconst (by decide +kernel : decode cX10_followBlock 41 = .ok (.iconst 1, 1)) (by decide)
theorem o180_42 : Okp RX10 cX10_followBlock 4 (some .boolean) "followBlock" false 42 (sGo 46) := ok_goto (by decide +kernel : decode cX10_followBlock 42 = .ok (.goto 4, 3)) (by decide)
theorem o180_45 : Okp RX10 cX10_followBlock 4 (some .boolean) "followBlock" false 45 (sK 0 46) := ok_iconst (by decide +kernel : decode cX10_followBlock 45 = .ok (.iconst 0, 1)) (by decide)
theorem o180_46 : Okp RX10 cX10_followBlock 4 (some .boolean) "followBlock" false 46 (sCV false 166 2 11 49) := ok_cv (by decide +kernel : decode cX10_followBlock 46 = .ok (.invokevirtual 129, 3)) mw_X10_129 rfl (by decide) wm_X10_want wse_X10_want (by decide) rfl
theorem o180_49 : Okp RX10 cX10_followBlock 4 (some .boolean) "followBlock" false 49 (sLI 1 50) := ok_iload_n (by decide +kernel : decode cX10_followBlock 49 = .ok (.iload_n 1, 1)) rfl
theorem o180_50 : Okp RX10 cX10_followBlock 4 (some .boolean) "followBlock" false 50 (sK 35 52) := ok_bipush (by decide +kernel : decode cX10_followBlock 50 = .ok (.bipush 35, 2)) (by decide)
theorem o180_52 : Okp RX10 cX10_followBlock 4 (some .boolean) "followBlock" false 52 (sI2 0 84 55) := ok_icmp_eq (by decide +kernel : decode cX10_followBlock 52 = .ok (.if_icmp .eq 32, 3)) (by decide)
theorem o180_55 : Okp RX10 cX10_followBlock 4 (some .boolean) "followBlock" false 55 (sLR 0 56) := ok_aload_n (by decide +kernel : decode cX10_followBlock 55 = .ok (.aload_n 0, 1)) rfl
theorem o180_56 : Okp RX10 cX10_followBlock 4 (some .boolean) "followBlock" false 56 (sLI 2 57) := ok_iload_n (by decide +kernel : decode cX10_followBlock 56 = .ok (.iload_n 2, 1)) rfl
theorem o180_57 : Okp RX10 cX10_followBlock 4 (some .boolean) "followBlock" false 57 (sLR 0 58) := ok_aload_n (by decide +kernel : decode cX10_followBlock 57 = .ok (.aload_n 0, 1)) rfl
theorem o180_58 : Okp RX10 cX10_followBlock 4 (some .boolean) "followBlock" false 58 (sGR 11 7 61) := ok_getR (by decide +kernel : decode cX10_followBlock 58 = .ok (.getfield 40, 3)) fw_X10_40 rfl
theorem o180_61 : Okp RX10 cX10_followBlock 4 (some .boolean) "followBlock" false 61 (sLI 3 62) := ok_iload_n (by decide +kernel : decode cX10_followBlock 61 = .ok (.iload_n 3, 1)) rfl
theorem o180_62 : Okp RX10 cX10_followBlock 4 (some .boolean) "followBlock" false 62 (sCS false 208 1 65) := ok_cs (by decide +kernel : decode cX10_followBlock 62 = .ok (.invokestatic 193, 3)) mw_X10_193 wt_X11_namedBy (by decide) rfl
theorem o180_65 : Okp RX10 cX10_followBlock 4 (some .boolean) "followBlock" false 65 (sCV false 152 2 10 68) := ok_cv (by decide +kernel : decode cX10_followBlock 65 = .ok (.invokevirtual 219, 3)) mw_X10_219 rfl (by decide) wm_X9_sizeOfRecord wse_X9_sizeOfRecord (by decide) rfl
theorem o180_68 : Okp RX10 cX10_followBlock 4 (some .boolean) "followBlock" false 68 (sI2 3 75 71) := ok_icmp_ge (by decide +kernel : decode cX10_followBlock 68 = .ok (.if_icmp .ge 7, 3)) (by decide)
theorem o180_71 : Okp RX10 cX10_followBlock 4 (some .boolean) "followBlock" false 71 (sK 1 72) := ok_iconst (by decide +kernel : decode cX10_followBlock 71 = .ok (.iconst 1, 1)) (by decide)
theorem o180_72 : Okp RX10 cX10_followBlock 4 (some .boolean) "followBlock" false 72 (sGo 76) := ok_goto (by decide +kernel : decode cX10_followBlock 72 = .ok (.goto 4, 3)) (by decide)
theorem o180_75 : Okp RX10 cX10_followBlock 4 (some .boolean) "followBlock" false 75 (sK 0 76) := ok_iconst (by decide +kernel : decode cX10_followBlock 75 = .ok (.iconst 0, 1)) (by decide)
theorem o180_76 : Okp RX10 cX10_followBlock 4 (some .boolean) "followBlock" false 76 (sCV false 166 2 11 79) := ok_cv (by decide +kernel : decode cX10_followBlock 76 = .ok (.invokevirtual 129, 3)) mw_X10_129 rfl (by decide) wm_X10_want wse_X10_want (by decide) rfl
theorem o180_79 : Okp RX10 cX10_followBlock 4 (some .boolean) "followBlock" false 79 (sLR 0 80) := ok_aload_n (by decide +kernel : decode cX10_followBlock 79 = .ok (.aload_n 0, 1)) rfl
theorem o180_80 : Okp RX10 cX10_followBlock 4 (some .boolean) "followBlock" false 80 (sLI 3 81) := ok_iload_n (by decide +kernel : decode cX10_followBlock 80 = .ok (.iload_n 3, 1)) rfl
theorem o180_81 : Okp RX10 cX10_followBlock 4 (some .boolean) "followBlock" false 81 (sCV false 164 2 11 84) := ok_cv (by decide +kernel : decode cX10_followBlock 81 = .ok (.invokevirtual 169, 3)) mw_X10_169 rfl (by decide) wm_X10_push wse_X10_push (by decide) rfl
theorem o180_84 : Okp RX10 cX10_followBlock 4 (some .boolean) "followBlock" false 84 (sLI 1 85) := ok_iload_n (by decide +kernel : decode cX10_followBlock 84 = .ok (.iload_n 1, 1)) rfl
theorem o180_85 : Okp RX10 cX10_followBlock 4 (some .boolean) "followBlock" false 85 (sK 33 87) := ok_bipush (by decide +kernel : decode cX10_followBlock 85 = .ok (.bipush 33, 2)) (by decide)
theorem o180_87 : Okp RX10 cX10_followBlock 4 (some .boolean) "followBlock" false 87 (sI2 1 95 90) := ok_icmp_ne (by decide +kernel : decode cX10_followBlock 87 = .ok (.if_icmp .ne 8, 3)) (by decide)
theorem o180_90 : Okp RX10 cX10_followBlock 4 (some .boolean) "followBlock" false 90 (sLR 0 91) := ok_aload_n (by decide +kernel : decode cX10_followBlock 90 = .ok (.aload_n 0, 1)) rfl
theorem o180_91 : Okp RX10 cX10_followBlock 4 (some .boolean) "followBlock" false 91 (sK 0 92) := ok_iconst (by decide +kernel : decode cX10_followBlock 91 = .ok (.iconst 0, 1)) (by decide)
theorem o180_92 : Okp RX10 cX10_followBlock 4 (some .boolean) "followBlock" false 92 (sCV false 164 2 11 95) := ok_cv (by decide +kernel : decode cX10_followBlock 92 = .ok (.invokevirtual 169, 3)) mw_X10_169 rfl (by decide) wm_X10_push wse_X10_push (by decide) rfl
theorem o180_95 : Okp RX10 cX10_followBlock 4 (some .boolean) "followBlock" false 95 (sK 1 96) := ok_iconst (by decide +kernel : decode cX10_followBlock 95 = .ok (.iconst 1, 1)) (by decide)
theorem o180_96 : Okp RX10 cX10_followBlock 4 (some .boolean) "followBlock" false 96 sRZ := ok_zret rfl (by decide +kernel : decode cX10_followBlock 96 = .ok (.ireturn, 1))
theorem oc180_0 : ∀ pc, Mnp (c180_0 pc) ∧ Okp RX10 cX10_followBlock 4 (some .boolean) "followBlock" false pc (c180_0 pc) := by
  intro pc
  unfold c180_0
  split
  · exact ⟨mn_sLI, o180_0⟩
  · exact ⟨mn_sK, o180_1⟩
  · exact ⟨mn_sI2, o180_3⟩
  · exact ⟨mn_sLR, o180_6⟩
  · exact ⟨mn_sK, o180_7⟩
  · exact ⟨mn_sLI, o180_8⟩
  · exact ⟨mn_sCS, o180_9⟩
  · exact ⟨mn_sCV, o180_12⟩
  · exact ⟨mn_sK, o180_15⟩
  · exact ⟨mn_sRZ, o180_16⟩
  · exact ⟨mn_sLI, o180_17⟩
  · exact ⟨mn_sK, o180_18⟩
  · exact ⟨mn_sI2, o180_20⟩
  · exact ⟨mn_sLR, o180_23⟩
  · exact ⟨mn_sX, ok_X⟩
theorem oc180_1 : ∀ pc, Mnp (c180_1 pc) ∧ Okp RX10 cX10_followBlock 4 (some .boolean) "followBlock" false pc (c180_1 pc) := by
  intro pc
  unfold c180_1
  split
  · exact ⟨mn_sCV, o180_24⟩
  · exact ⟨mn_sLR, o180_27⟩
  · exact ⟨mn_sCV, o180_28⟩
  · exact ⟨mn_sSI, o180_31⟩
  · exact ⟨mn_sLR, o180_32⟩
  · exact ⟨mn_sLI, o180_33⟩
  · exact ⟨mn_sCS, o180_34⟩
  · exact ⟨mn_sK, o180_37⟩
  · exact ⟨mn_sI2, o180_38⟩
  · exact ⟨mn_sK, o180_41⟩
  · exact ⟨mn_sGo, o180_42⟩
  · exact ⟨mn_sK, o180_45⟩
  · exact ⟨mn_sCV, o180_46⟩
  · exact ⟨mn_sX, ok_X⟩
theorem oc180_2 : ∀ pc, Mnp (c180_2 pc) ∧ Okp RX10 cX10_followBlock 4 (some .boolean) "followBlock" false pc (c180_2 pc) := by
  intro pc
  unfold c180_2
  split
  · exact ⟨mn_sLI, o180_49⟩
  · exact ⟨mn_sK, o180_50⟩
  · exact ⟨mn_sI2, o180_52⟩
  · exact ⟨mn_sLR, o180_55⟩
  · exact ⟨mn_sLI, o180_56⟩
  · exact ⟨mn_sLR, o180_57⟩
  · exact ⟨mn_sGR, o180_58⟩
  · exact ⟨mn_sLI, o180_61⟩
  · exact ⟨mn_sCS, o180_62⟩
  · exact ⟨mn_sCV, o180_65⟩
  · exact ⟨mn_sI2, o180_68⟩
  · exact ⟨mn_sK, o180_71⟩
  · exact ⟨mn_sX, ok_X⟩
theorem oc180_3 : ∀ pc, Mnp (c180_3 pc) ∧ Okp RX10 cX10_followBlock 4 (some .boolean) "followBlock" false pc (c180_3 pc) := by
  intro pc
  unfold c180_3
  split
  · exact ⟨mn_sGo, o180_72⟩
  · exact ⟨mn_sK, o180_75⟩
  · exact ⟨mn_sCV, o180_76⟩
  · exact ⟨mn_sLR, o180_79⟩
  · exact ⟨mn_sLI, o180_80⟩
  · exact ⟨mn_sCV, o180_81⟩
  · exact ⟨mn_sLI, o180_84⟩
  · exact ⟨mn_sK, o180_85⟩
  · exact ⟨mn_sI2, o180_87⟩
  · exact ⟨mn_sLR, o180_90⟩
  · exact ⟨mn_sK, o180_91⟩
  · exact ⟨mn_sCV, o180_92⟩
  · exact ⟨mn_sK, o180_95⟩
  · exact ⟨mn_sX, ok_X⟩
theorem oc180_4 : ∀ pc, Mnp (c180_4 pc) ∧ Okp RX10 cX10_followBlock 4 (some .boolean) "followBlock" false pc (c180_4 pc) := by
  intro pc
  unfold c180_4
  split
  · exact ⟨mn_sRZ, o180_96⟩
  · exact ⟨mn_sX, ok_X⟩
theorem oc180 : ∀ pc, Mnp (c180 pc) ∧ Okp RX10 cX10_followBlock 4 (some .boolean) "followBlock" false pc (c180 pc) := by
  intro pc
  unfold c180
  split
  · exact oc180_0 pc
  · exact oc180_1 pc
  · exact oc180_2 pc
  · exact oc180_3 pc
  · exact oc180_4 pc
  · exact ⟨mn_sX, ok_X⟩
theorem o181_0 : Okp RX10 cX10_followEnd 5 (some .boolean) "followEnd" false 0 (sLI 1 1) := ok_iload_n (by decide +kernel : decode cX10_followEnd 0 = .ok (.iload_n 1, 1)) rfl
theorem o181_1 : Okp RX10 cX10_followEnd 5 (some .boolean) "followEnd" false 1 (sSw [(36, 28), (37, 58), (38, 69)] 76) := ok_tsw (by decide +kernel : decode cX10_followEnd 1 = .ok (.tableswitch 75 36 38 #[27, 57, 68], 27)) (by decide) (by decide) (by decide)
theorem o181_28 : Okp RX10 cX10_followEnd 5 (some .boolean) "followEnd" false 28 (sLR 0 29) := ok_aload_n (by decide +kernel : decode cX10_followEnd 28 = .ok (.aload_n 0, 1)) rfl
theorem o181_29 : Okp RX10 cX10_followEnd 5 (some .boolean) "followEnd" false 29 (sLR 0 30) := ok_aload_n (by decide +kernel : decode cX10_followEnd 29 = .ok (.aload_n 0, 1)) rfl
theorem o181_30 : Okp RX10 cX10_followEnd 5 (some .boolean) "followEnd" false 30 (sLI 2 31) := ok_iload_n (by decide +kernel : decode cX10_followEnd 30 = .ok (.iload_n 2, 1)) rfl
theorem o181_31 : Okp RX10 cX10_followEnd 5 (some .boolean) "followEnd" false 31 (sCV false 168 2 11 34) := ok_cv (by decide +kernel : decode cX10_followEnd 31 = .ok (.invokevirtual 144, 3)) mw_X10_144 rfl (by decide) wm_X10_operandOf wse_X10_operandOf (by decide) rfl
theorem o181_34 : Okp RX10 cX10_followEnd 5 (some .boolean) "followEnd" false 34 (sK 0 35) := ok_iconst (by decide +kernel : decode cX10_followEnd 34 = .ok (.iconst 0, 1)) (by decide)
theorem o181_35 : Okp RX10 cX10_followEnd 5 (some .boolean) "followEnd" false 35 (sK 0 36) := ok_iconst (by decide +kernel : decode cX10_followEnd 35 = .ok (.iconst 0, 1)) (by decide)
theorem o181_36 : Okp RX10 cX10_followEnd 5 (some .boolean) "followEnd" false 36 (sCS false 206 3 39) := ok_cs (by decide +kernel : decode cX10_followEnd 36 = .ok (.invokestatic 222, 3)) mw_X10_222 wt_X11_endType (by decide) rfl
theorem o181_39 : Okp RX10 cX10_followEnd 5 (some .boolean) "followEnd" false 39 (sCV false 164 2 11 42) := ok_cv (by decide +kernel : decode cX10_followEnd 39 = .ok (.invokevirtual 169, 3)) mw_X10_169 rfl (by decide) wm_X10_push wse_X10_push (by decide) rfl
theorem o181_42 : Okp RX10 cX10_followEnd 5 (some .boolean) "followEnd" false 42 (sLR 0 43) := ok_aload_n (by decide +kernel : decode cX10_followEnd 42 = .ok (.aload_n 0, 1)) rfl
theorem o181_43 : Okp RX10 cX10_followEnd 5 (some .boolean) "followEnd" false 43 (sLR 0 44) := ok_aload_n (by decide +kernel : decode cX10_followEnd 43 = .ok (.aload_n 0, 1)) rfl
theorem o181_44 : Okp RX10 cX10_followEnd 5 (some .boolean) "followEnd" false 44 (sLI 2 45) := ok_iload_n (by decide +kernel : decode cX10_followEnd 44 = .ok (.iload_n 2, 1)) rfl
theorem o181_45 : Okp RX10 cX10_followEnd 5 (some .boolean) "followEnd" false 45 (sCV false 168 2 11 48) := ok_cv (by decide +kernel : decode cX10_followEnd 45 = .ok (.invokevirtual 144, 3)) mw_X10_144 rfl (by decide) wm_X10_operandOf wse_X10_operandOf (by decide) rfl
theorem o181_48 : Okp RX10 cX10_followEnd 5 (some .boolean) "followEnd" false 48 (sK 0 49) := ok_iconst (by decide +kernel : decode cX10_followEnd 48 = .ok (.iconst 0, 1)) (by decide)
theorem o181_49 : Okp RX10 cX10_followEnd 5 (some .boolean) "followEnd" false 49 (sK 1 50) := ok_iconst (by decide +kernel : decode cX10_followEnd 49 = .ok (.iconst 1, 1)) (by decide)
theorem o181_50 : Okp RX10 cX10_followEnd 5 (some .boolean) "followEnd" false 50 (sCS false 206 3 53) := ok_cs (by decide +kernel : decode cX10_followEnd 50 = .ok (.invokestatic 222, 3)) mw_X10_222 wt_X11_endType (by decide) rfl
theorem o181_53 : Okp RX10 cX10_followEnd 5 (some .boolean) "followEnd" false 53 (sCV false 164 2 11 56) := ok_cv (by decide +kernel : decode cX10_followEnd 53 = .ok (.invokevirtual 169, 3)) mw_X10_169 rfl (by decide) wm_X10_push wse_X10_push (by decide) rfl
theorem o181_56 : Okp RX10 cX10_followEnd 5 (some .boolean) "followEnd" false 56 (sK 1 57) := ok_iconst (by decide +kernel : decode cX10_followEnd 56 = .ok (.iconst 1, 1)) (by decide)
theorem o181_57 : Okp RX10 cX10_followEnd 5 (some .boolean) "followEnd" false 57 sRZ := ok_zret rfl (by decide +kernel : decode cX10_followEnd 57 = .ok (.ireturn, 1))
theorem o181_58 : Okp RX10 cX10_followEnd 5 (some .boolean) "followEnd" false 58 (sLR 0 59) := ok_aload_n (by decide +kernel : decode cX10_followEnd 58 = .ok (.aload_n 0, 1)) rfl
theorem o181_59 : Okp RX10 cX10_followEnd 5 (some .boolean) "followEnd" false 59 (sLR 0 60) := ok_aload_n (by decide +kernel : decode cX10_followEnd 59 = .ok (.aload_n 0, 1)) rfl
theorem o181_60 : Okp RX10 cX10_followEnd 5 (some .boolean) "followEnd" false 60 (sLI 2 61) := ok_iload_n (by decide +kernel : decode cX10_followEnd 60 = .ok (.iload_n 2, 1)) rfl
theorem o181_61 : Okp RX10 cX10_followEnd 5 (some .boolean) "followEnd" false 61 (sCV false 168 2 11 64) := ok_cv (by decide +kernel : decode cX10_followEnd 61 = .ok (.invokevirtual 144, 3)) mw_X10_144 rfl (by decide) wm_X10_operandOf wse_X10_operandOf (by decide) rfl
theorem o181_64 : Okp RX10 cX10_followEnd 5 (some .boolean) "followEnd" false 64 (sCV false 183 2 11 67) := ok_cv (by decide +kernel : decode cX10_followEnd 64 = .ok (.invokevirtual 226, 3)) mw_X10_226 rfl (by decide) wm_X10_followSend wse_X10_followSend (by decide) rfl
theorem o181_67 : Okp RX10 cX10_followEnd 5 (some .boolean) "followEnd" false 67 (sK 1 68) := ok_iconst (by decide +kernel : decode cX10_followEnd 67 = .ok (.iconst 1, 1)) (by decide)
theorem o181_68 : Okp RX10 cX10_followEnd 5 (some .boolean) "followEnd" false 68 sRZ := ok_zret rfl (by decide +kernel : decode cX10_followEnd 68 = .ok (.ireturn, 1))
theorem o181_69 : Okp RX10 cX10_followEnd 5 (some .boolean) "followEnd" false 69 (sLR 0 70) := ok_aload_n (by decide +kernel : decode cX10_followEnd 69 = .ok (.aload_n 0, 1)) rfl
theorem o181_70 : Okp RX10 cX10_followEnd 5 (some .boolean) "followEnd" false 70 (sLI 2 71) := ok_iload_n (by decide +kernel : decode cX10_followEnd 70 = .ok (.iload_n 2, 1)) rfl
theorem o181_71 : Okp RX10 cX10_followEnd 5 (some .boolean) "followEnd" false 71 (sCV false 184 2 11 74) := ok_cv (by decide +kernel : decode cX10_followEnd 71 = .ok (.invokevirtual 229, 3)) mw_X10_229 rfl (by decide) wm_X10_followReceive wse_X10_followReceive (by decide) rfl
theorem o181_74 : Okp RX10 cX10_followEnd 5 (some .boolean) "followEnd" false 74 (sK 0 75) := ok_iconst (by decide +kernel : decode cX10_followEnd 74 = .ok (.iconst 0, 1)) (by decide)
theorem o181_75 : Okp RX10 cX10_followEnd 5 (some .boolean) "followEnd" false 75 sRZ := ok_zret rfl (by decide +kernel : decode cX10_followEnd 75 = .ok (.ireturn, 1))
theorem o181_76 : Okp RX10 cX10_followEnd 5 (some .boolean) "followEnd" false 76 (sLR 0 77) := ok_aload_n (by decide +kernel : decode cX10_followEnd 76 = .ok (.aload_n 0, 1)) rfl
theorem o181_77 : Okp RX10 cX10_followEnd 5 (some .boolean) "followEnd" false 77 (sCV false 165 1 11 80) := ok_cv (by decide +kernel : decode cX10_followEnd 77 = .ok (.invokevirtual 137, 3)) mw_X10_137 rfl (by decide) wm_X10_pop wse_X10_pop (by decide) rfl
theorem o181_80 : Okp RX10 cX10_followEnd 5 (some .boolean) "followEnd" false 80 (sSI 3 81) := ok_istore_n (by decide +kernel : decode cX10_followEnd 80 = .ok (.istore_n 3, 1)) rfl (by decide) (by decide)
theorem o181_81 : Okp RX10 cX10_followEnd 5 (some .boolean) "followEnd" false 81 (sLR 0 82) := ok_aload_n (by decide +kernel : decode cX10_followEnd 81 = .ok (.aload_n 0, 1)) rfl
theorem o181_82 : Okp RX10 cX10_followEnd 5 (some .boolean) "followEnd" false 82 (sLI 3 83) := ok_iload_n (by decide +kernel : decode cX10_followEnd 82 = .ok (.iload_n 3, 1)) rfl
theorem o181_83 : Okp RX10 cX10_followEnd 5 (some .boolean) "followEnd" false 83 (sCV false 182 2 11 86) := ok_cv (by decide +kernel : decode cX10_followEnd 83 = .ok (.invokevirtual 232, 3)) mw_X10_232 rfl (by decide) wm_X10_contractOf wse_X10_contractOf (by decide) rfl
theorem o181_86 : Okp RX10 cX10_followEnd 5 (some .boolean) "followEnd" false 86 (sSR 4 88) := ok_astore (by decide +kernel : decode cX10_followEnd 86 = .ok (.astore 4, 2)) (by decide) (by decide)
theorem o181_88 : Okp RX10 cX10_followEnd 5 (some .boolean) "followEnd" false 88 (sLR 0 89) := ok_aload_n (by decide +kernel : decode cX10_followEnd 88 = .ok (.aload_n 0, 1)) rfl
theorem o181_89 : Okp RX10 cX10_followEnd 5 (some .boolean) "followEnd" false 89 (sLR 4 91) := ok_aload (by decide +kernel : decode cX10_followEnd 89 = .ok (.aload 4, 2))
theorem o181_91 : Okp RX10 cX10_followEnd 5 (some .boolean) "followEnd" false 91 (sNl 110 94) := ok_ifnull (by decide +kernel : decode cX10_followEnd 91 = .ok (.ifnull 19, 3)) (by decide)
theorem o181_94 : Okp RX10 cX10_followEnd 5 (some .boolean) "followEnd" false 94 (sLR 4 96) := ok_aload (by decide +kernel : decode cX10_followEnd 94 = .ok (.aload 4, 2))
theorem o181_96 : Okp RX10 cX10_followEnd 5 (some .boolean) "followEnd" false 96 (sLI 3 97) := ok_iload_n (by decide +kernel : decode cX10_followEnd 96 = .ok (.iload_n 3, 1)) rfl
theorem o181_97 : Okp RX10 cX10_followEnd 5 (some .boolean) "followEnd" false 97 (sCS false 209 1 100) := ok_cs (by decide +kernel : decode cX10_followEnd 97 = .ok (.invokestatic 236, 3)) mw_X10_236 wt_X11_stateOfEnd (by decide) rfl
theorem o181_100 : Okp RX10 cX10_followEnd 5 (some .boolean) "followEnd" false 100 (sCV false 20 2 3 103) := ok_cv (by decide +kernel : decode cX10_followEnd 100 = .ok (.invokevirtual 239, 3)) mw_X10_239 rfl (by decide) wm_X2_turnAt wse_X2_turnAt (by decide) rfl
theorem o181_103 : Okp RX10 cX10_followEnd 5 (some .boolean) "followEnd" false 103 (sI1 1 110 106) := ok_if_ne (by decide +kernel : decode cX10_followEnd 103 = .ok (.ifCond .ne 7, 3)) (by decide)
theorem o181_106 : Okp RX10 cX10_followEnd 5 (some .boolean) "followEnd" false 106 (sK 1 107) := ok_iconst (by decide +kernel : decode cX10_followEnd 106 = .ok (.iconst 1, 1)) (by decide)
theorem o181_107 : Okp RX10 cX10_followEnd 5 (some .boolean) "followEnd" false 107 (sGo 111) := ok_goto (by decide +kernel : decode cX10_followEnd 107 = .ok (.goto 4, 3)) (by decide)
theorem o181_110 : Okp RX10 cX10_followEnd 5 (some .boolean) "followEnd" false 110 (sK 0 111) := ok_iconst (by decide +kernel : decode cX10_followEnd 110 = .ok (.iconst 0, 1)) (by decide)
theorem o181_111 : Okp RX10 cX10_followEnd 5 (some .boolean) "followEnd" false 111 (sCV false 166 2 11 114) := ok_cv (by decide +kernel : decode cX10_followEnd 111 = .ok (.invokevirtual 129, 3)) mw_X10_129 rfl (by decide) wm_X10_want wse_X10_want (by decide) rfl
theorem o181_114 : Okp RX10 cX10_followEnd 5 (some .boolean) "followEnd" false 114 (sK 1 115) := ok_iconst (by decide +kernel : decode cX10_followEnd 114 = .ok (.iconst 1, 1)) (by decide)
theorem o181_115 : Okp RX10 cX10_followEnd 5 (some .boolean) "followEnd" false 115 sRZ := ok_zret rfl (by decide +kernel : decode cX10_followEnd 115 = .ok (.ireturn, 1))
theorem oc181_0 : ∀ pc, Mnp (c181_0 pc) ∧ Okp RX10 cX10_followEnd 5 (some .boolean) "followEnd" false pc (c181_0 pc) := by
  intro pc
  unfold c181_0
  split
  · exact ⟨mn_sLI, o181_0⟩
  · exact ⟨mn_sSw, o181_1⟩
  · exact ⟨mn_sX, ok_X⟩
theorem oc181_1 : ∀ pc, Mnp (c181_1 pc) ∧ Okp RX10 cX10_followEnd 5 (some .boolean) "followEnd" false pc (c181_1 pc) := by
  intro pc
  unfold c181_1
  split
  · exact ⟨mn_sLR, o181_28⟩
  · exact ⟨mn_sLR, o181_29⟩
  · exact ⟨mn_sLI, o181_30⟩
  · exact ⟨mn_sCV, o181_31⟩
  · exact ⟨mn_sK, o181_34⟩
  · exact ⟨mn_sK, o181_35⟩
  · exact ⟨mn_sCS, o181_36⟩
  · exact ⟨mn_sCV, o181_39⟩
  · exact ⟨mn_sLR, o181_42⟩
  · exact ⟨mn_sLR, o181_43⟩
  · exact ⟨mn_sLI, o181_44⟩
  · exact ⟨mn_sCV, o181_45⟩
  · exact ⟨mn_sX, ok_X⟩
theorem oc181_2 : ∀ pc, Mnp (c181_2 pc) ∧ Okp RX10 cX10_followEnd 5 (some .boolean) "followEnd" false pc (c181_2 pc) := by
  intro pc
  unfold c181_2
  split
  · exact ⟨mn_sK, o181_48⟩
  · exact ⟨mn_sK, o181_49⟩
  · exact ⟨mn_sCS, o181_50⟩
  · exact ⟨mn_sCV, o181_53⟩
  · exact ⟨mn_sK, o181_56⟩
  · exact ⟨mn_sRZ, o181_57⟩
  · exact ⟨mn_sLR, o181_58⟩
  · exact ⟨mn_sLR, o181_59⟩
  · exact ⟨mn_sLI, o181_60⟩
  · exact ⟨mn_sCV, o181_61⟩
  · exact ⟨mn_sCV, o181_64⟩
  · exact ⟨mn_sK, o181_67⟩
  · exact ⟨mn_sRZ, o181_68⟩
  · exact ⟨mn_sLR, o181_69⟩
  · exact ⟨mn_sLI, o181_70⟩
  · exact ⟨mn_sCV, o181_71⟩
  · exact ⟨mn_sX, ok_X⟩
theorem oc181_3 : ∀ pc, Mnp (c181_3 pc) ∧ Okp RX10 cX10_followEnd 5 (some .boolean) "followEnd" false pc (c181_3 pc) := by
  intro pc
  unfold c181_3
  split
  · exact ⟨mn_sK, o181_74⟩
  · exact ⟨mn_sRZ, o181_75⟩
  · exact ⟨mn_sLR, o181_76⟩
  · exact ⟨mn_sCV, o181_77⟩
  · exact ⟨mn_sSI, o181_80⟩
  · exact ⟨mn_sLR, o181_81⟩
  · exact ⟨mn_sLI, o181_82⟩
  · exact ⟨mn_sCV, o181_83⟩
  · exact ⟨mn_sSR, o181_86⟩
  · exact ⟨mn_sLR, o181_88⟩
  · exact ⟨mn_sLR, o181_89⟩
  · exact ⟨mn_sNl, o181_91⟩
  · exact ⟨mn_sLR, o181_94⟩
  · exact ⟨mn_sX, ok_X⟩
theorem oc181_4 : ∀ pc, Mnp (c181_4 pc) ∧ Okp RX10 cX10_followEnd 5 (some .boolean) "followEnd" false pc (c181_4 pc) := by
  intro pc
  unfold c181_4
  split
  · exact ⟨mn_sLI, o181_96⟩
  · exact ⟨mn_sCS, o181_97⟩
  · exact ⟨mn_sCV, o181_100⟩
  · exact ⟨mn_sI1, o181_103⟩
  · exact ⟨mn_sK, o181_106⟩
  · exact ⟨mn_sGo, o181_107⟩
  · exact ⟨mn_sK, o181_110⟩
  · exact ⟨mn_sCV, o181_111⟩
  · exact ⟨mn_sK, o181_114⟩
  · exact ⟨mn_sRZ, o181_115⟩
  · exact ⟨mn_sX, ok_X⟩
theorem oc181 : ∀ pc, Mnp (c181 pc) ∧ Okp RX10 cX10_followEnd 5 (some .boolean) "followEnd" false pc (c181 pc) := by
  intro pc
  unfold c181
  split
  · exact oc181_0 pc
  · exact oc181_1 pc
  · exact oc181_2 pc
  · exact oc181_3 pc
  · exact oc181_4 pc
  · exact ⟨mn_sX, ok_X⟩
theorem o182_0 : Okp RX10 cX10_contractOf 2 (some (.object "SealedProcesses$Contract")) "contractOf" false 0 (sLI 1 1) := ok_iload_n (by decide +kernel : decode cX10_contractOf 0 = .ok (.iload_n 1, 1)) rfl
theorem o182_1 : Okp RX10 cX10_contractOf 2 (some (.object "SealedProcesses$Contract")) "contractOf" false 1 (sCS false 207 1 4) := ok_cs (by decide +kernel : decode cX10_contractOf 1 = .ok (.invokestatic 190, 3)) mw_X10_190 wt_X11_kindOf (by decide) rfl
theorem o182_4 : Okp RX10 cX10_contractOf 2 (some (.object "SealedProcesses$Contract")) "contractOf" false 4 (sK 5 5) := ok_iconst (by decide +kernel : decode cX10_contractOf 4 = .ok (.iconst 5, 1)) (by decide)
theorem o182_5 : Okp RX10 cX10_contractOf 2 (some (.object "SealedProcesses$Contract")) "contractOf" false 5 (sI2 1 22 8) := ok_icmp_ne (by decide +kernel : decode cX10_contractOf 5 = .ok (.if_icmp .ne 17, 3)) (by decide)
theorem o182_8 : Okp RX10 cX10_contractOf 2 (some (.object "SealedProcesses$Contract")) "contractOf" false 8 (sLR 0 9) := ok_aload_n (by decide +kernel : decode cX10_contractOf 8 = .ok (.aload_n 0, 1)) rfl
theorem o182_9 : Okp RX10 cX10_contractOf 2 (some (.object "SealedProcesses$Contract")) "contractOf" false 9 (sGR 11 7 12) := ok_getR (by decide +kernel : decode cX10_contractOf 9 = .ok (.getfield 40, 3)) fw_X10_40 rfl
theorem o182_12 : Okp RX10 cX10_contractOf 2 (some (.object "SealedProcesses$Contract")) "contractOf" false 12 (sLI 1 13) := ok_iload_n (by decide +kernel : decode cX10_contractOf 12 = .ok (.iload_n 1, 1)) rfl
theorem o182_13 : Okp RX10 cX10_contractOf 2 (some (.object "SealedProcesses$Contract")) "contractOf" false 13 (sCS false 208 1 16) := ok_cs (by decide +kernel : decode cX10_contractOf 13 = .ok (.invokestatic 193, 3)) mw_X10_193 wt_X11_namedBy (by decide) rfl
theorem o182_16 : Okp RX10 cX10_contractOf 2 (some (.object "SealedProcesses$Contract")) "contractOf" false 16 (sCV false 148 2 10 19) := ok_cv (by decide +kernel : decode cX10_contractOf 16 = .ok (.invokevirtual 244, 3)) mw_X10_244 rfl (by decide) wm_X9_contractAt wse_X9_contractAt (by decide) rfl
theorem o182_19 : Okp RX10 cX10_contractOf 2 (some (.object "SealedProcesses$Contract")) "contractOf" false 19 (sGo 23) := ok_goto (by decide +kernel : decode cX10_contractOf 19 = .ok (.goto 4, 3)) (by decide)
theorem o182_22 : Okp RX10 cX10_contractOf 2 (some (.object "SealedProcesses$Contract")) "contractOf" false 22 (sNul 23) := ok_null (by decide +kernel : decode cX10_contractOf 22 = .ok (.aconst_null, 1))
theorem o182_23 : Okp RX10 cX10_contractOf 2 (some (.object "SealedProcesses$Contract")) "contractOf" false 23 sRR := ok_aret rfl (Or.inl ⟨_, rfl⟩) (by decide +kernel : decode cX10_contractOf 23 = .ok (.areturn, 1))
theorem oc182 : ∀ pc, Mnp (c182 pc) ∧ Okp RX10 cX10_contractOf 2 (some (.object "SealedProcesses$Contract")) "contractOf" false pc (c182 pc) := by
  intro pc
  unfold c182
  split
  · exact ⟨mn_sLI, o182_0⟩
  · exact ⟨mn_sCS, o182_1⟩
  · exact ⟨mn_sK, o182_4⟩
  · exact ⟨mn_sI2, o182_5⟩
  · exact ⟨mn_sLR, o182_8⟩
  · exact ⟨mn_sGR, o182_9⟩
  · exact ⟨mn_sLI, o182_12⟩
  · exact ⟨mn_sCS, o182_13⟩
  · exact ⟨mn_sCV, o182_16⟩
  · exact ⟨mn_sGo, o182_19⟩
  · exact ⟨mn_sNul, o182_22⟩
  · exact ⟨mn_sRR, o182_23⟩
  · exact ⟨mn_sX, ok_X⟩
theorem o183_0 : Okp RX10 cX10_followSend 6 none "followSend" false 0 (sLR 0 1) := ok_aload_n (by decide +kernel : decode cX10_followSend 0 = .ok (.aload_n 0, 1)) rfl
theorem o183_1 : Okp RX10 cX10_followSend 6 none "followSend" false 1 (sCV false 165 1 11 4) := ok_cv (by decide +kernel : decode cX10_followSend 1 = .ok (.invokevirtual 137, 3)) mw_X10_137 rfl (by decide) wm_X10_pop wse_X10_pop (by decide) rfl
theorem o183_4 : Okp RX10 cX10_followSend 6 none "followSend" false 4 (sSI 2 5) := ok_istore_n (by decide +kernel : decode cX10_followSend 4 = .ok (.istore_n 2, 1)) rfl (by decide) (by decide)
theorem o183_5 : Okp RX10 cX10_followSend 6 none "followSend" false 5 (sK (-1) 6) := ok_iconst (by decide +kernel : decode cX10_followSend 5 = .ok (.iconst (-1), 1)) (by decide)
theorem o183_6 : Okp RX10 cX10_followSend 6 none "followSend" false 6 (sSI 3 7) := ok_istore_n (by decide +kernel : decode cX10_followSend 6 = .ok (.istore_n 3, 1)) rfl (by decide) (by decide)
theorem o183_7 : Okp RX10 cX10_followSend 6 none "followSend" false 7 (sLR 0 8) := ok_aload_n (by decide +kernel : decode cX10_followSend 7 = .ok (.aload_n 0, 1)) rfl
theorem o183_8 : Okp RX10 cX10_followSend 6 none "followSend" false 8 (sLI 2 9) := ok_iload_n (by decide +kernel : decode cX10_followSend 8 = .ok (.iload_n 2, 1)) rfl
theorem o183_9 : Okp RX10 cX10_followSend 6 none "followSend" false 9 (sCV false 182 2 11 12) := ok_cv (by decide +kernel : decode cX10_followSend 9 = .ok (.invokevirtual 232, 3)) mw_X10_232 rfl (by decide) wm_X10_contractOf wse_X10_contractOf (by decide) rfl
theorem o183_12 : Okp RX10 cX10_followSend 6 none "followSend" false 12 (sSR 4 14) := ok_astore (by decide +kernel : decode cX10_followSend 12 = .ok (.astore 4, 2)) (by decide) (by decide)
theorem o183_14 : Okp RX10 cX10_followSend 6 none "followSend" false 14 (sLR 4 16) := ok_aload (by decide +kernel : decode cX10_followSend 14 = .ok (.aload 4, 2))
theorem o183_16 : Okp RX10 cX10_followSend 6 none "followSend" false 16 (sNl 36 19) := ok_ifnull (by decide +kernel : decode cX10_followSend 16 = .ok (.ifnull 20, 3)) (by decide)
theorem o183_19 : Okp RX10 cX10_followSend 6 none "followSend" false 19 (sLR 4 21) := ok_aload (by decide +kernel : decode cX10_followSend 19 = .ok (.aload 4, 2))
theorem o183_21 : Okp RX10 cX10_followSend 6 none "followSend" false 21 (sLI 2 22) := ok_iload_n (by decide +kernel : decode cX10_followSend 21 = .ok (.iload_n 2, 1)) rfl
theorem o183_22 : Okp RX10 cX10_followSend 6 none "followSend" false 22 (sCS false 209 1 25) := ok_cs (by decide +kernel : decode cX10_followSend 22 = .ok (.invokestatic 236, 3)) mw_X10_236 wt_X11_stateOfEnd (by decide) rfl
theorem o183_25 : Okp RX10 cX10_followSend 6 none "followSend" false 25 (sLI 2 26) := ok_iload_n (by decide +kernel : decode cX10_followSend 25 = .ok (.iload_n 2, 1)) rfl
theorem o183_26 : Okp RX10 cX10_followSend 6 none "followSend" false 26 (sCS false 210 1 29) := ok_cs (by decide +kernel : decode cX10_followSend 26 = .ok (.invokestatic 247, 3)) mw_X10_247 wt_X11_sideOfEnd (by decide) rfl
theorem o183_29 : Okp RX10 cX10_followSend 6 none "followSend" false 29 (sLI 1 30) := ok_iload_n (by decide +kernel : decode cX10_followSend 29 = .ok (.iload_n 1, 1)) rfl
theorem o183_30 : Okp RX10 cX10_followSend 6 none "followSend" false 30 (sCV false 28 4 3 33) := ok_cv (by decide +kernel : decode cX10_followSend 30 = .ok (.invokevirtual 250, 3)) mw_X10_250 rfl (by decide) wm_X2_sendsBare wse_X2_sendsBare (by decide) rfl
theorem o183_33 : Okp RX10 cX10_followSend 6 none "followSend" false 33 (sI1 1 50 36) := ok_if_ne (by decide +kernel : decode cX10_followSend 33 = .ok (.ifCond .ne 17, 3)) (by decide)
theorem o183_36 : Okp RX10 cX10_followSend 6 none "followSend" false 36 (sLI 2 37) := ok_iload_n (by decide +kernel : decode cX10_followSend 36 = .ok (.iload_n 2, 1)) rfl
theorem o183_37 : Okp RX10 cX10_followSend 6 none "followSend" false 37 (sSI 3 38) := ok_istore_n (by decide +kernel : decode cX10_followSend 37 = .ok (.istore_n 3, 1)) rfl (by decide) (by decide)
theorem o183_38 : Okp RX10 cX10_followSend 6 none "followSend" false 38 (sLR 0 39) := ok_aload_n (by decide +kernel : decode cX10_followSend 38 = .ok (.aload_n 0, 1)) rfl
theorem o183_39 : Okp RX10 cX10_followSend 6 none "followSend" false 39 (sCV false 165 1 11 42) := ok_cv (by decide +kernel : decode cX10_followSend 39 = .ok (.invokevirtual 137, 3)) mw_X10_137 rfl (by decide) wm_X10_pop wse_X10_pop (by decide) rfl
theorem o183_42 : Okp RX10 cX10_followSend 6 none "followSend" false 42 (sSI 2 43) := ok_istore_n (by decide +kernel : decode cX10_followSend 42 = .ok (.istore_n 2, 1)) rfl (by decide) (by decide)
theorem o183_43 : Okp RX10 cX10_followSend 6 none "followSend" false 43 (sLR 0 44) := ok_aload_n (by decide +kernel : decode cX10_followSend 43 = .ok (.aload_n 0, 1)) rfl
theorem o183_44 : Okp RX10 cX10_followSend 6 none "followSend" false 44 (sLI 2 45) := ok_iload_n (by decide +kernel : decode cX10_followSend 44 = .ok (.iload_n 2, 1)) rfl
theorem o183_45 : Okp RX10 cX10_followSend 6 none "followSend" false 45 (sCV false 182 2 11 48) := ok_cv (by decide +kernel : decode cX10_followSend 45 = .ok (.invokevirtual 232, 3)) mw_X10_232 rfl (by decide) wm_X10_contractOf wse_X10_contractOf (by decide) rfl
theorem o183_48 : Okp RX10 cX10_followSend 6 none "followSend" false 48 (sSR 4 50) := ok_astore (by decide +kernel : decode cX10_followSend 48 = .ok (.astore 4, 2)) (by decide) (by decide)
theorem o183_50 : Okp RX10 cX10_followSend 6 none "followSend" false 50 (sLI 2 51) := ok_iload_n (by decide +kernel : decode cX10_followSend 50 = .ok (.iload_n 2, 1)) rfl
theorem o183_51 : Okp RX10 cX10_followSend 6 none "followSend" false 51 (sCS false 209 1 54) := ok_cs (by decide +kernel : decode cX10_followSend 51 = .ok (.invokestatic 236, 3)) mw_X10_236 wt_X11_stateOfEnd (by decide) rfl
theorem o183_54 : Okp RX10 cX10_followSend 6 none "followSend" false 54 (sSI 5 56) := ok_istore (by decide +kernel : decode cX10_followSend 54 = .ok (.istore 5, 2)) (by decide) (by decide)
theorem o183_56 : Okp RX10 cX10_followSend 6 none "followSend" false 56 (sLR 4 58) := ok_aload (by decide +kernel : decode cX10_followSend 56 = .ok (.aload 4, 2))
theorem o183_58 : Okp RX10 cX10_followSend 6 none "followSend" false 58 (sNl 101 61) := ok_ifnull (by decide +kernel : decode cX10_followSend 58 = .ok (.ifnull 43, 3)) (by decide)
theorem o183_61 : Okp RX10 cX10_followSend 6 none "followSend" false 61 (sLR 4 63) := ok_aload (by decide +kernel : decode cX10_followSend 61 = .ok (.aload 4, 2))
theorem o183_63 : Okp RX10 cX10_followSend 6 none "followSend" false 63 (sLI 5 65) := ok_iload (by decide +kernel : decode cX10_followSend 63 = .ok (.iload 5, 2))
theorem o183_65 : Okp RX10 cX10_followSend 6 none "followSend" false 65 (sCV false 20 2 3 68) := ok_cv (by decide +kernel : decode cX10_followSend 65 = .ok (.invokevirtual 239, 3)) mw_X10_239 rfl (by decide) wm_X2_turnAt wse_X2_turnAt (by decide) rfl
theorem o183_68 : Okp RX10 cX10_followSend 6 none "followSend" false 68 (sLI 2 69) := ok_iload_n (by decide +kernel : decode cX10_followSend 68 = .ok (.iload_n 2, 1)) rfl
theorem o183_69 : Okp RX10 cX10_followSend 6 none "followSend" false 69 (sCS false 210 1 72) := ok_cs (by decide +kernel : decode cX10_followSend 69 = .ok (.invokestatic 247, 3)) mw_X10_247 wt_X11_sideOfEnd (by decide) rfl
theorem o183_72 : Okp RX10 cX10_followSend 6 none "followSend" false 72 (sCS false 215 1 75) := ok_cs (by decide +kernel : decode cX10_followSend 72 = .ok (.invokestatic 254, 3)) mw_X10_254 wt_X11_turnOfSide (by decide) rfl
theorem o183_75 : Okp RX10 cX10_followSend 6 none "followSend" false 75 (sI2 1 101 78) := ok_icmp_ne (by decide +kernel : decode cX10_followSend 75 = .ok (.if_icmp .ne 26, 3)) (by decide)
theorem o183_78 : Okp RX10 cX10_followSend 6 none "followSend" false 78 (sLR 4 80) := ok_aload (by decide +kernel : decode cX10_followSend 78 = .ok (.aload 4, 2))
theorem o183_80 : Okp RX10 cX10_followSend 6 none "followSend" false 80 (sLI 5 82) := ok_iload (by decide +kernel : decode cX10_followSend 80 = .ok (.iload 5, 2))
theorem o183_82 : Okp RX10 cX10_followSend 6 none "followSend" false 82 (sLI 1 83) := ok_iload_n (by decide +kernel : decode cX10_followSend 82 = .ok (.iload_n 1, 1)) rfl
theorem o183_83 : Okp RX10 cX10_followSend 6 none "followSend" false 83 (sCV false 23 3 3 86) := ok_cv (by decide +kernel : decode cX10_followSend 83 = .ok (.invokevirtual 257, 3)) mw_X10_257 rfl (by decide) wm_X2_has wse_X2_has (by decide) rfl
theorem o183_86 : Okp RX10 cX10_followSend 6 none "followSend" false 86 (sI1 0 101 89) := ok_if_eq (by decide +kernel : decode cX10_followSend 86 = .ok (.ifCond .eq 15, 3)) (by decide)
theorem o183_89 : Okp RX10 cX10_followSend 6 none "followSend" false 89 (sLR 4 91) := ok_aload (by decide +kernel : decode cX10_followSend 89 = .ok (.aload 4, 2))
theorem o183_91 : Okp RX10 cX10_followSend 6 none "followSend" false 91 (sLI 5 93) := ok_iload (by decide +kernel : decode cX10_followSend 91 = .ok (.iload 5, 2))
theorem o183_93 : Okp RX10 cX10_followSend 6 none "followSend" false 93 (sLI 1 94) := ok_iload_n (by decide +kernel : decode cX10_followSend 93 = .ok (.iload_n 1, 1)) rfl
theorem o183_94 : Okp RX10 cX10_followSend 6 none "followSend" false 94 (sCV false 24 3 3 97) := ok_cv (by decide +kernel : decode cX10_followSend 94 = .ok (.invokevirtual 260, 3)) mw_X10_260 rfl (by decide) wm_X2_loadOf wse_X2_loadOf (by decide) rfl
theorem o183_97 : Okp RX10 cX10_followSend 6 none "followSend" false 97 (sLI 3 98) := ok_iload_n (by decide +kernel : decode cX10_followSend 97 = .ok (.iload_n 3, 1)) rfl
theorem o183_98 : Okp RX10 cX10_followSend 6 none "followSend" false 98 (sI2 0 107 101) := ok_icmp_eq (by decide +kernel : decode cX10_followSend 98 = .ok (.if_icmp .eq 9, 3)) (by decide)
theorem o183_101 : Okp RX10 cX10_followSend 6 none "followSend" false 101 (sLR 0 102) := ok_aload_n (by decide +kernel : decode cX10_followSend 101 = .ok (.aload_n 0, 1)) rfl
theorem o183_102 : Okp RX10 cX10_followSend 6 none "followSend" false 102 (sK 1 103) := ok_iconst (by decide +kernel : decode cX10_followSend 102 = .ok (.iconst 1, 1)) (by decide)
theorem o183_103 : Okp RX10 cX10_followSend 6 none "followSend" false 103 (sPZ 11 5 106) := ok_putZ (by decide +kernel : decode cX10_followSend 103 = .ok (.putfield 33, 3)) fw_X10_33 ⟨⟨tyX10_ok, nmX10⟩, Or.inl rfl, rfl⟩ rfl
theorem o183_106 : Okp RX10 cX10_followSend 6 none "followSend" false 106 sRV := ok_vret rfl (by decide +kernel : decode cX10_followSend 106 = .ok (.return_, 1))
theorem o183_107 : Okp RX10 cX10_followSend 6 none "followSend" false 107 (sLR 0 108) := ok_aload_n (by decide +kernel : decode cX10_followSend 107 = .ok (.aload_n 0, 1)) rfl
theorem o183_108 : Okp RX10 cX10_followSend 6 none "followSend" false 108 (sLI 2 109) := ok_iload_n (by decide +kernel : decode cX10_followSend 108 = .ok (.iload_n 2, 1)) rfl
theorem o183_109 : Okp RX10 cX10_followSend 6 none "followSend" false 109 (sCS false 208 1 112) := ok_cs (by decide +kernel : decode cX10_followSend 109 = .ok (.invokestatic 193, 3)) mw_X10_193 wt_X11_namedBy (by decide) rfl
theorem o183_112 : Okp RX10 cX10_followSend 6 none "followSend" false 112 (sLR 4 114) := ok_aload (by decide +kernel : decode cX10_followSend 112 = .ok (.aload 4, 2))
theorem o183_114 : Okp RX10 cX10_followSend 6 none "followSend" false 114 (sLI 5 116) := ok_iload (by decide +kernel : decode cX10_followSend 114 = .ok (.iload 5, 2))
theorem o183_116 : Okp RX10 cX10_followSend 6 none "followSend" false 116 (sLI 1 117) := ok_iload_n (by decide +kernel : decode cX10_followSend 116 = .ok (.iload_n 1, 1)) rfl
theorem o183_117 : Okp RX10 cX10_followSend 6 none "followSend" false 117 (sCV false 25 3 3 120) := ok_cv (by decide +kernel : decode cX10_followSend 117 = .ok (.invokevirtual 263, 3)) mw_X10_263 rfl (by decide) wm_X2_nextOf wse_X2_nextOf (by decide) rfl
theorem o183_120 : Okp RX10 cX10_followSend 6 none "followSend" false 120 (sLI 2 121) := ok_iload_n (by decide +kernel : decode cX10_followSend 120 = .ok (.iload_n 2, 1)) rfl
theorem o183_121 : Okp RX10 cX10_followSend 6 none "followSend" false 121 (sCS false 210 1 124) := ok_cs (by decide +kernel : decode cX10_followSend 121 = .ok (.invokestatic 247, 3)) mw_X10_247 wt_X11_sideOfEnd (by decide) rfl
theorem o183_124 : Okp RX10 cX10_followSend 6 none "followSend" false 124 (sCS false 206 3 127) := ok_cs (by decide +kernel : decode cX10_followSend 124 = .ok (.invokestatic 222, 3)) mw_X10_222 wt_X11_endType (by decide) rfl
theorem o183_127 : Okp RX10 cX10_followSend 6 none "followSend" false 127 (sCV false 164 2 11 130) := ok_cv (by decide +kernel : decode cX10_followSend 127 = .ok (.invokevirtual 169, 3)) mw_X10_169 rfl (by decide) wm_X10_push wse_X10_push (by decide) rfl
theorem o183_130 : Okp RX10 cX10_followSend 6 none "followSend" false 130 sRV := ok_vret rfl (by decide +kernel : decode cX10_followSend 130 = .ok (.return_, 1))
theorem oc183_0 : ∀ pc, Mnp (c183_0 pc) ∧ Okp RX10 cX10_followSend 6 none "followSend" false pc (c183_0 pc) := by
  intro pc
  unfold c183_0
  split
  · exact ⟨mn_sLR, o183_0⟩
  · exact ⟨mn_sCV, o183_1⟩
  · exact ⟨mn_sSI, o183_4⟩
  · exact ⟨mn_sK, o183_5⟩
  · exact ⟨mn_sSI, o183_6⟩
  · exact ⟨mn_sLR, o183_7⟩
  · exact ⟨mn_sLI, o183_8⟩
  · exact ⟨mn_sCV, o183_9⟩
  · exact ⟨mn_sSR, o183_12⟩
  · exact ⟨mn_sLR, o183_14⟩
  · exact ⟨mn_sNl, o183_16⟩
  · exact ⟨mn_sLR, o183_19⟩
  · exact ⟨mn_sLI, o183_21⟩
  · exact ⟨mn_sCS, o183_22⟩
  · exact ⟨mn_sX, ok_X⟩
theorem oc183_1 : ∀ pc, Mnp (c183_1 pc) ∧ Okp RX10 cX10_followSend 6 none "followSend" false pc (c183_1 pc) := by
  intro pc
  unfold c183_1
  split
  · exact ⟨mn_sLI, o183_25⟩
  · exact ⟨mn_sCS, o183_26⟩
  · exact ⟨mn_sLI, o183_29⟩
  · exact ⟨mn_sCV, o183_30⟩
  · exact ⟨mn_sI1, o183_33⟩
  · exact ⟨mn_sLI, o183_36⟩
  · exact ⟨mn_sSI, o183_37⟩
  · exact ⟨mn_sLR, o183_38⟩
  · exact ⟨mn_sCV, o183_39⟩
  · exact ⟨mn_sSI, o183_42⟩
  · exact ⟨mn_sLR, o183_43⟩
  · exact ⟨mn_sLI, o183_44⟩
  · exact ⟨mn_sCV, o183_45⟩
  · exact ⟨mn_sX, ok_X⟩
theorem oc183_2 : ∀ pc, Mnp (c183_2 pc) ∧ Okp RX10 cX10_followSend 6 none "followSend" false pc (c183_2 pc) := by
  intro pc
  unfold c183_2
  split
  · exact ⟨mn_sSR, o183_48⟩
  · exact ⟨mn_sLI, o183_50⟩
  · exact ⟨mn_sCS, o183_51⟩
  · exact ⟨mn_sSI, o183_54⟩
  · exact ⟨mn_sLR, o183_56⟩
  · exact ⟨mn_sNl, o183_58⟩
  · exact ⟨mn_sLR, o183_61⟩
  · exact ⟨mn_sLI, o183_63⟩
  · exact ⟨mn_sCV, o183_65⟩
  · exact ⟨mn_sLI, o183_68⟩
  · exact ⟨mn_sCS, o183_69⟩
  · exact ⟨mn_sX, ok_X⟩
theorem oc183_3 : ∀ pc, Mnp (c183_3 pc) ∧ Okp RX10 cX10_followSend 6 none "followSend" false pc (c183_3 pc) := by
  intro pc
  unfold c183_3
  split
  · exact ⟨mn_sCS, o183_72⟩
  · exact ⟨mn_sI2, o183_75⟩
  · exact ⟨mn_sLR, o183_78⟩
  · exact ⟨mn_sLI, o183_80⟩
  · exact ⟨mn_sLI, o183_82⟩
  · exact ⟨mn_sCV, o183_83⟩
  · exact ⟨mn_sI1, o183_86⟩
  · exact ⟨mn_sLR, o183_89⟩
  · exact ⟨mn_sLI, o183_91⟩
  · exact ⟨mn_sLI, o183_93⟩
  · exact ⟨mn_sCV, o183_94⟩
  · exact ⟨mn_sX, ok_X⟩
theorem oc183_4 : ∀ pc, Mnp (c183_4 pc) ∧ Okp RX10 cX10_followSend 6 none "followSend" false pc (c183_4 pc) := by
  intro pc
  unfold c183_4
  split
  · exact ⟨mn_sLI, o183_97⟩
  · exact ⟨mn_sI2, o183_98⟩
  · exact ⟨mn_sLR, o183_101⟩
  · exact ⟨mn_sK, o183_102⟩
  · exact ⟨mn_sPZ, o183_103⟩
  · exact ⟨mn_sRV, o183_106⟩
  · exact ⟨mn_sLR, o183_107⟩
  · exact ⟨mn_sLI, o183_108⟩
  · exact ⟨mn_sCS, o183_109⟩
  · exact ⟨mn_sLR, o183_112⟩
  · exact ⟨mn_sLI, o183_114⟩
  · exact ⟨mn_sLI, o183_116⟩
  · exact ⟨mn_sCV, o183_117⟩
  · exact ⟨mn_sX, ok_X⟩
theorem oc183_5 : ∀ pc, Mnp (c183_5 pc) ∧ Okp RX10 cX10_followSend 6 none "followSend" false pc (c183_5 pc) := by
  intro pc
  unfold c183_5
  split
  · exact ⟨mn_sLI, o183_120⟩
  · exact ⟨mn_sCS, o183_121⟩
  · exact ⟨mn_sCS, o183_124⟩
  · exact ⟨mn_sCV, o183_127⟩
  · exact ⟨mn_sRV, o183_130⟩
  · exact ⟨mn_sX, ok_X⟩
theorem oc183 : ∀ pc, Mnp (c183 pc) ∧ Okp RX10 cX10_followSend 6 none "followSend" false pc (c183 pc) := by
  intro pc
  unfold c183
  split
  · exact oc183_0 pc
  · exact oc183_1 pc
  · exact oc183_2 pc
  · exact oc183_3 pc
  · exact oc183_4 pc
  · exact oc183_5 pc
  · exact ⟨mn_sX, ok_X⟩
theorem o184_0 : Okp RX10 cX10_followReceive 8 none "followReceive" false 0 (sLR 0 1) := ok_aload_n (by decide +kernel : decode cX10_followReceive 0 = .ok (.aload_n 0, 1)) rfl
theorem o184_1 : Okp RX10 cX10_followReceive 8 none "followReceive" false 1 (sCV false 165 1 11 4) := ok_cv (by decide +kernel : decode cX10_followReceive 1 = .ok (.invokevirtual 137, 3)) mw_X10_137 rfl (by decide) wm_X10_pop wse_X10_pop (by decide) rfl
theorem o184_4 : Okp RX10 cX10_followReceive 8 none "followReceive" false 4 (sSI 2 5) := ok_istore_n (by decide +kernel : decode cX10_followReceive 4 = .ok (.istore_n 2, 1)) rfl (by decide) (by decide)
theorem o184_5 : Okp RX10 cX10_followReceive 8 none "followReceive" false 5 (sLR 0 6) := ok_aload_n (by decide +kernel : decode cX10_followReceive 5 = .ok (.aload_n 0, 1)) rfl
theorem o184_6 : Okp RX10 cX10_followReceive 8 none "followReceive" false 6 (sLI 2 7) := ok_iload_n (by decide +kernel : decode cX10_followReceive 6 = .ok (.iload_n 2, 1)) rfl
theorem o184_7 : Okp RX10 cX10_followReceive 8 none "followReceive" false 7 (sCV false 182 2 11 10) := ok_cv (by decide +kernel : decode cX10_followReceive 7 = .ok (.invokevirtual 232, 3)) mw_X10_232 rfl (by decide) wm_X10_contractOf wse_X10_contractOf (by decide) rfl
theorem o184_10 : Okp RX10 cX10_followReceive 8 none "followReceive" false 10 (sSR 3 11) := ok_astore_n (by decide +kernel : decode cX10_followReceive 10 = .ok (.astore_n 3, 1)) rfl (by decide) (by decide)
theorem o184_11 : Okp RX10 cX10_followReceive 8 none "followReceive" false 11 (sLI 2 12) := ok_iload_n (by decide +kernel : decode cX10_followReceive 11 = .ok (.iload_n 2, 1)) rfl
theorem o184_12 : Okp RX10 cX10_followReceive 8 none "followReceive" false 12 (sCS false 209 1 15) := ok_cs (by decide +kernel : decode cX10_followReceive 12 = .ok (.invokestatic 236, 3)) mw_X10_236 wt_X11_stateOfEnd (by decide) rfl
theorem o184_15 : Okp RX10 cX10_followReceive 8 none "followReceive" false 15 (sSI 4 17) := ok_istore (by decide +kernel : decode cX10_followReceive 15 = .ok (.istore 4, 2)) (by decide) (by decide)
theorem o184_17 : Okp RX10 cX10_followReceive 8 none "followReceive" false 17 (sLR 0 18) := ok_aload_n (by decide +kernel : decode cX10_followReceive 17 = .ok (.aload_n 0, 1)) rfl
theorem o184_18 : Okp RX10 cX10_followReceive 8 none "followReceive" false 18 (sLI 1 19) := ok_iload_n (by decide +kernel : decode cX10_followReceive 18 = .ok (.iload_n 1, 1)) rfl
theorem o184_19 : Okp RX10 cX10_followReceive 8 none "followReceive" false 19 (sCV false 168 2 11 22) := ok_cv (by decide +kernel : decode cX10_followReceive 19 = .ok (.invokevirtual 144, 3)) mw_X10_144 rfl (by decide) wm_X10_operandOf wse_X10_operandOf (by decide) rfl
theorem o184_22 : Okp RX10 cX10_followReceive 8 none "followReceive" false 22 (sSI 5 24) := ok_istore (by decide +kernel : decode cX10_followReceive 22 = .ok (.istore 5, 2)) (by decide) (by decide)
theorem o184_24 : Okp RX10 cX10_followReceive 8 none "followReceive" false 24 (sLR 3 25) := ok_aload_n (by decide +kernel : decode cX10_followReceive 24 = .ok (.aload_n 3, 1)) rfl
theorem o184_25 : Okp RX10 cX10_followReceive 8 none "followReceive" false 25 (sNl 57 28) := ok_ifnull (by decide +kernel : decode cX10_followReceive 25 = .ok (.ifnull 32, 3)) (by decide)
theorem o184_28 : Okp RX10 cX10_followReceive 8 none "followReceive" false 28 (sLR 3 29) := ok_aload_n (by decide +kernel : decode cX10_followReceive 28 = .ok (.aload_n 3, 1)) rfl
theorem o184_29 : Okp RX10 cX10_followReceive 8 none "followReceive" false 29 (sLI 4 31) := ok_iload (by decide +kernel : decode cX10_followReceive 29 = .ok (.iload 4, 2))
theorem o184_31 : Okp RX10 cX10_followReceive 8 none "followReceive" false 31 (sCV false 20 2 3 34) := ok_cv (by decide +kernel : decode cX10_followReceive 31 = .ok (.invokevirtual 239, 3)) mw_X10_239 rfl (by decide) wm_X2_turnAt wse_X2_turnAt (by decide) rfl
theorem o184_34 : Okp RX10 cX10_followReceive 8 none "followReceive" false 34 (sK 1 35) := ok_iconst (by decide +kernel : decode cX10_followReceive 34 = .ok (.iconst 1, 1)) (by decide)
theorem o184_35 : Okp RX10 cX10_followReceive 8 none "followReceive" false 35 (sLI 2 36) := ok_iload_n (by decide +kernel : decode cX10_followReceive 35 = .ok (.iload_n 2, 1)) rfl
theorem o184_36 : Okp RX10 cX10_followReceive 8 none "followReceive" false 36 (sCS false 210 1 39) := ok_cs (by decide +kernel : decode cX10_followReceive 36 = .ok (.invokestatic 247, 3)) mw_X10_247 wt_X11_sideOfEnd (by decide) rfl
theorem o184_39 : Okp RX10 cX10_followReceive 8 none "followReceive" false 39 (sB2 fSub 40) := ok_isub (by decide +kernel : decode cX10_followReceive 39 = .ok (.isub, 1))
theorem o184_40 : Okp RX10 cX10_followReceive 8 none "followReceive" false 40 (sCS false 215 1 43) := ok_cs (by decide +kernel : decode cX10_followReceive 40 = .ok (.invokestatic 254, 3)) mw_X10_254 wt_X11_turnOfSide (by decide) rfl
theorem o184_43 : Okp RX10 cX10_followReceive 8 none "followReceive" false 43 (sI2 1 57 46) := ok_icmp_ne (by decide +kernel : decode cX10_followReceive 43 = .ok (.if_icmp .ne 14, 3)) (by decide)
theorem o184_46 : Okp RX10 cX10_followReceive 8 none "followReceive" false 46 (sLR 3 47) := ok_aload_n (by decide +kernel : decode cX10_followReceive 46 = .ok (.aload_n 3, 1)) rfl
theorem o184_47 : Okp RX10 cX10_followReceive 8 none "followReceive" false 47 (sLI 4 49) := ok_iload (by decide +kernel : decode cX10_followReceive 47 = .ok (.iload 4, 2))
theorem o184_49 : Okp RX10 cX10_followReceive 8 none "followReceive" false 49 (sCV false 21 2 3 52) := ok_cv (by decide +kernel : decode cX10_followReceive 49 = .ok (.invokevirtual 266, 3)) mw_X10_266 rfl (by decide) wm_X2_countAt wse_X2_countAt (by decide) rfl
theorem o184_52 : Okp RX10 cX10_followReceive 8 none "followReceive" false 52 (sLI 5 54) := ok_iload (by decide +kernel : decode cX10_followReceive 52 = .ok (.iload 5, 2))
theorem o184_54 : Okp RX10 cX10_followReceive 8 none "followReceive" false 54 (sI2 0 63 57) := ok_icmp_eq (by decide +kernel : decode cX10_followReceive 54 = .ok (.if_icmp .eq 9, 3)) (by decide)
theorem o184_57 : Okp RX10 cX10_followReceive 8 none "followReceive" false 57 (sLR 0 58) := ok_aload_n (by decide +kernel : decode cX10_followReceive 57 = .ok (.aload_n 0, 1)) rfl
theorem o184_58 : Okp RX10 cX10_followReceive 8 none "followReceive" false 58 (sK 1 59) := ok_iconst (by decide +kernel : decode cX10_followReceive 58 = .ok (.iconst 1, 1)) (by decide)
theorem o184_59 : Okp RX10 cX10_followReceive 8 none "followReceive" false 59 (sPZ 11 5 62) := ok_putZ (by decide +kernel : decode cX10_followReceive 59 = .ok (.putfield 33, 3)) fw_X10_33 ⟨⟨tyX10_ok, nmX10⟩, Or.inl rfl, rfl⟩ rfl
theorem o184_62 : Okp RX10 cX10_followReceive 8 none "followReceive" false 62 sRV := ok_vret rfl (by decide +kernel : decode cX10_followReceive 62 = .ok (.return_, 1))
theorem o184_63 : Okp RX10 cX10_followReceive 8 none "followReceive" false 63 (sLR 0 64) := ok_aload_n (by decide +kernel : decode cX10_followReceive 63 = .ok (.aload_n 0, 1)) rfl
theorem o184_64 : Okp RX10 cX10_followReceive 8 none "followReceive" false 64 (sGI 11 4 67) := ok_getI (by decide +kernel : decode cX10_followReceive 64 = .ok (.getfield 29, 3)) fw_X10_29 rfl
theorem o184_67 : Okp RX10 cX10_followReceive 8 none "followReceive" false 67 (sSI 6 69) := ok_istore (by decide +kernel : decode cX10_followReceive 67 = .ok (.istore 6, 2)) (by decide) (by decide)
theorem o184_69 : Okp RX10 cX10_followReceive 8 none "followReceive" false 69 (sK 0 70) := ok_iconst (by decide +kernel : decode cX10_followReceive 69 = .ok (.iconst 0, 1)) (by decide)
theorem o184_70 : Okp RX10 cX10_followReceive 8 none "followReceive" false 70 (sSI 7 72) := ok_istore (by decide +kernel : decode cX10_followReceive 70 = .ok (.istore 7, 2)) (by decide) (by decide)
theorem o184_72 : Okp RX10 cX10_followReceive 8 none "followReceive" false 72 (sLI 7 74) := ok_iload (by decide +kernel : decode cX10_followReceive 72 = .ok (.iload 7, 2))
theorem o184_74 : Okp RX10 cX10_followReceive 8 none "followReceive" false 74 (sLI 5 76) := ok_iload (by decide +kernel : decode cX10_followReceive 74 = .ok (.iload 5, 2))
theorem o184_76 : Okp RX10 cX10_followReceive 8 none "followReceive" false 76 (sI2 3 159 79) := ok_icmp_ge (by decide +kernel : decode cX10_followReceive 76 = .ok (.if_icmp .ge 83, 3)) (by decide)
theorem o184_79 : Okp RX10 cX10_followReceive 8 none "followReceive" false 79 (sLR 0 80) := ok_aload_n (by decide +kernel : decode cX10_followReceive 79 = .ok (.aload_n 0, 1)) rfl
theorem o184_80 : Okp RX10 cX10_followReceive 8 none "followReceive" false 80 (sGI 11 5 83) := ok_getI (by decide +kernel : decode cX10_followReceive 80 = .ok (.getfield 33, 3)) fw_X10_33 rfl
theorem o184_83 : Okp RX10 cX10_followReceive 8 none "followReceive" false 83 (sI1 1 159 86) := ok_if_ne (by decide +kernel : decode cX10_followReceive 83 = .ok (.ifCond .ne 76, 3)) (by decide)
theorem o184_86 : Okp RX10 cX10_followReceive 8 none "followReceive" false 86 (sLR 0 87) := ok_aload_n (by decide +kernel : decode cX10_followReceive 86 = .ok (.aload_n 0, 1)) rfl
theorem o184_87 : Okp RX10 cX10_followReceive 8 none "followReceive" false 87 (sLI 6 89) := ok_iload (by decide +kernel : decode cX10_followReceive 87 = .ok (.iload 6, 2))
theorem o184_89 : Okp RX10 cX10_followReceive 8 none "followReceive" false 89 (sPI 11 4 92) := ok_putI (by decide +kernel : decode cX10_followReceive 89 = .ok (.putfield 29, 3)) fw_X10_29 ⟨⟨tyX10_ok, nmX10⟩, Or.inl rfl, rfl⟩ rfl
theorem o184_92 : Okp RX10 cX10_followReceive 8 none "followReceive" false 92 (sLR 0 93) := ok_aload_n (by decide +kernel : decode cX10_followReceive 92 = .ok (.aload_n 0, 1)) rfl
theorem o184_93 : Okp RX10 cX10_followReceive 8 none "followReceive" false 93 (sLI 2 94) := ok_iload_n (by decide +kernel : decode cX10_followReceive 93 = .ok (.iload_n 2, 1)) rfl
theorem o184_94 : Okp RX10 cX10_followReceive 8 none "followReceive" false 94 (sCS false 208 1 97) := ok_cs (by decide +kernel : decode cX10_followReceive 94 = .ok (.invokestatic 193, 3)) mw_X10_193 wt_X11_namedBy (by decide) rfl
theorem o184_97 : Okp RX10 cX10_followReceive 8 none "followReceive" false 97 (sLR 3 98) := ok_aload_n (by decide +kernel : decode cX10_followReceive 97 = .ok (.aload_n 3, 1)) rfl
theorem o184_98 : Okp RX10 cX10_followReceive 8 none "followReceive" false 98 (sLI 4 100) := ok_iload (by decide +kernel : decode cX10_followReceive 98 = .ok (.iload 4, 2))
theorem o184_100 : Okp RX10 cX10_followReceive 8 none "followReceive" false 100 (sLI 7 102) := ok_iload (by decide +kernel : decode cX10_followReceive 100 = .ok (.iload 7, 2))
theorem o184_102 : Okp RX10 cX10_followReceive 8 none "followReceive" false 102 (sCV false 25 3 3 105) := ok_cv (by decide +kernel : decode cX10_followReceive 102 = .ok (.invokevirtual 263, 3)) mw_X10_263 rfl (by decide) wm_X2_nextOf wse_X2_nextOf (by decide) rfl
theorem o184_105 : Okp RX10 cX10_followReceive 8 none "followReceive" false 105 (sLI 2 106) := ok_iload_n (by decide +kernel : decode cX10_followReceive 105 = .ok (.iload_n 2, 1)) rfl
theorem o184_106 : Okp RX10 cX10_followReceive 8 none "followReceive" false 106 (sCS false 210 1 109) := ok_cs (by decide +kernel : decode cX10_followReceive 106 = .ok (.invokestatic 247, 3)) mw_X10_247 wt_X11_sideOfEnd (by decide) rfl
theorem o184_109 : Okp RX10 cX10_followReceive 8 none "followReceive" false 109 (sCS false 206 3 112) := ok_cs (by decide +kernel : decode cX10_followReceive 109 = .ok (.invokestatic 222, 3)) mw_X10_222 wt_X11_endType (by decide) rfl
theorem o184_112 : Okp RX10 cX10_followReceive 8 none "followReceive" false 112 (sCV false 164 2 11 115) := ok_cv (by decide +kernel : decode cX10_followReceive 112 = .ok (.invokevirtual 169, 3)) mw_X10_169 rfl (by decide) wm_X10_push wse_X10_push (by decide) rfl
theorem o184_115 : Okp RX10 cX10_followReceive 8 none "followReceive" false 115 (sLR 3 116) := ok_aload_n (by decide +kernel : decode cX10_followReceive 115 = .ok (.aload_n 3, 1)) rfl
theorem o184_116 : Okp RX10 cX10_followReceive 8 none "followReceive" false 116 (sLI 4 118) := ok_iload (by decide +kernel : decode cX10_followReceive 116 = .ok (.iload 4, 2))
theorem o184_118 : Okp RX10 cX10_followReceive 8 none "followReceive" false 118 (sLI 7 120) := ok_iload (by decide +kernel : decode cX10_followReceive 118 = .ok (.iload 7, 2))
theorem o184_120 : Okp RX10 cX10_followReceive 8 none "followReceive" false 120 (sCV false 24 3 3 123) := ok_cv (by decide +kernel : decode cX10_followReceive 120 = .ok (.invokevirtual 260, 3)) mw_X10_260 rfl (by decide) wm_X2_loadOf wse_X2_loadOf (by decide) rfl
theorem o184_123 : Okp RX10 cX10_followReceive 8 none "followReceive" false 123 (sK (-1) 124) := ok_iconst (by decide +kernel : decode cX10_followReceive 123 = .ok (.iconst (-1), 1)) (by decide)
theorem o184_124 : Okp RX10 cX10_followReceive 8 none "followReceive" false 124 (sI2 0 139 127) := ok_icmp_eq (by decide +kernel : decode cX10_followReceive 124 = .ok (.if_icmp .eq 15, 3)) (by decide)
theorem o184_127 : Okp RX10 cX10_followReceive 8 none "followReceive" false 127 (sLR 0 128) := ok_aload_n (by decide +kernel : decode cX10_followReceive 127 = .ok (.aload_n 0, 1)) rfl
theorem o184_128 : Okp RX10 cX10_followReceive 8 none "followReceive" false 128 (sLR 3 129) := ok_aload_n (by decide +kernel : decode cX10_followReceive 128 = .ok (.aload_n 3, 1)) rfl
theorem o184_129 : Okp RX10 cX10_followReceive 8 none "followReceive" false 129 (sLI 4 131) := ok_iload (by decide +kernel : decode cX10_followReceive 129 = .ok (.iload 4, 2))
theorem o184_131 : Okp RX10 cX10_followReceive 8 none "followReceive" false 131 (sLI 7 133) := ok_iload (by decide +kernel : decode cX10_followReceive 131 = .ok (.iload 7, 2))
theorem o184_133 : Okp RX10 cX10_followReceive 8 none "followReceive" false 133 (sCV false 24 3 3 136) := ok_cv (by decide +kernel : decode cX10_followReceive 133 = .ok (.invokevirtual 260, 3)) mw_X10_260 rfl (by decide) wm_X2_loadOf wse_X2_loadOf (by decide) rfl
theorem o184_136 : Okp RX10 cX10_followReceive 8 none "followReceive" false 136 (sCV false 164 2 11 139) := ok_cv (by decide +kernel : decode cX10_followReceive 136 = .ok (.invokevirtual 169, 3)) mw_X10_169 rfl (by decide) wm_X10_push wse_X10_push (by decide) rfl
theorem o184_139 : Okp RX10 cX10_followReceive 8 none "followReceive" false 139 (sLR 0 140) := ok_aload_n (by decide +kernel : decode cX10_followReceive 139 = .ok (.aload_n 0, 1)) rfl
theorem o184_140 : Okp RX10 cX10_followReceive 8 none "followReceive" false 140 (sLR 0 141) := ok_aload_n (by decide +kernel : decode cX10_followReceive 140 = .ok (.aload_n 0, 1)) rfl
theorem o184_141 : Okp RX10 cX10_followReceive 8 none "followReceive" false 141 (sLI 1 142) := ok_iload_n (by decide +kernel : decode cX10_followReceive 141 = .ok (.iload_n 1, 1)) rfl
theorem o184_142 : Okp RX10 cX10_followReceive 8 none "followReceive" false 142 (sK 1 143) := ok_iconst (by decide +kernel : decode cX10_followReceive 142 = .ok (.iconst 1, 1)) (by decide)
theorem o184_143 : Okp RX10 cX10_followReceive 8 none "followReceive" false 143 (sB2 fAdd 144) := ok_iadd (by decide +kernel : decode cX10_followReceive 143 = .ok (.iadd, 1))
theorem o184_144 : Okp RX10 cX10_followReceive 8 none "followReceive" false 144 (sLI 7 146) := ok_iload (by decide +kernel : decode cX10_followReceive 144 = .ok (.iload 7, 2))
theorem o184_146 : Okp RX10 cX10_followReceive 8 none "followReceive" false 146 (sB2 fAdd 147) := ok_iadd (by decide +kernel : decode cX10_followReceive 146 = .ok (.iadd, 1))
theorem o184_147 : Okp RX10 cX10_followReceive 8 none "followReceive" false 147 (sCV false 168 2 11 150) := ok_cv (by decide +kernel : decode cX10_followReceive 147 = .ok (.invokevirtual 144, 3)) mw_X10_144 rfl (by decide) wm_X10_operandOf wse_X10_operandOf (by decide) rfl
theorem o184_150 : Okp RX10 cX10_followReceive 8 none "followReceive" false 150 (sCV false 162 2 11 153) := ok_cv (by decide +kernel : decode cX10_followReceive 150 = .ok (.invokevirtual 93, 3)) mw_X10_93 rfl (by decide) wm_X10_arriveAt wse_X10_arriveAt (by decide) rfl
theorem o184_153 : Okp RX10 cX10_followReceive 8 none "followReceive" false 153 (sInc 7 1 156) := ok_iinc (by decide +kernel : decode cX10_followReceive 153 = .ok (.iinc 7 1, 3)) (by decide) (by decide)
theorem o184_156 : Okp RX10 cX10_followReceive 8 none "followReceive" false 156 (sGo 72) := ok_goto (by decide +kernel : decode cX10_followReceive 156 = .ok (.goto (-84), 3)) (by decide)
theorem o184_159 : Okp RX10 cX10_followReceive 8 none "followReceive" false 159 sRV := ok_vret rfl (by decide +kernel : decode cX10_followReceive 159 = .ok (.return_, 1))
theorem oc184_0 : ∀ pc, Mnp (c184_0 pc) ∧ Okp RX10 cX10_followReceive 8 none "followReceive" false pc (c184_0 pc) := by
  intro pc
  unfold c184_0
  split
  · exact ⟨mn_sLR, o184_0⟩
  · exact ⟨mn_sCV, o184_1⟩
  · exact ⟨mn_sSI, o184_4⟩
  · exact ⟨mn_sLR, o184_5⟩
  · exact ⟨mn_sLI, o184_6⟩
  · exact ⟨mn_sCV, o184_7⟩
  · exact ⟨mn_sSR, o184_10⟩
  · exact ⟨mn_sLI, o184_11⟩
  · exact ⟨mn_sCS, o184_12⟩
  · exact ⟨mn_sSI, o184_15⟩
  · exact ⟨mn_sLR, o184_17⟩
  · exact ⟨mn_sLI, o184_18⟩
  · exact ⟨mn_sCV, o184_19⟩
  · exact ⟨mn_sSI, o184_22⟩
  · exact ⟨mn_sX, ok_X⟩
theorem oc184_1 : ∀ pc, Mnp (c184_1 pc) ∧ Okp RX10 cX10_followReceive 8 none "followReceive" false pc (c184_1 pc) := by
  intro pc
  unfold c184_1
  split
  · exact ⟨mn_sLR, o184_24⟩
  · exact ⟨mn_sNl, o184_25⟩
  · exact ⟨mn_sLR, o184_28⟩
  · exact ⟨mn_sLI, o184_29⟩
  · exact ⟨mn_sCV, o184_31⟩
  · exact ⟨mn_sK, o184_34⟩
  · exact ⟨mn_sLI, o184_35⟩
  · exact ⟨mn_sCS, o184_36⟩
  · exact ⟨mn_sB2, o184_39⟩
  · exact ⟨mn_sCS, o184_40⟩
  · exact ⟨mn_sI2, o184_43⟩
  · exact ⟨mn_sLR, o184_46⟩
  · exact ⟨mn_sLI, o184_47⟩
  · exact ⟨mn_sX, ok_X⟩
theorem oc184_2 : ∀ pc, Mnp (c184_2 pc) ∧ Okp RX10 cX10_followReceive 8 none "followReceive" false pc (c184_2 pc) := by
  intro pc
  unfold c184_2
  split
  · exact ⟨mn_sCV, o184_49⟩
  · exact ⟨mn_sLI, o184_52⟩
  · exact ⟨mn_sI2, o184_54⟩
  · exact ⟨mn_sLR, o184_57⟩
  · exact ⟨mn_sK, o184_58⟩
  · exact ⟨mn_sPZ, o184_59⟩
  · exact ⟨mn_sRV, o184_62⟩
  · exact ⟨mn_sLR, o184_63⟩
  · exact ⟨mn_sGI, o184_64⟩
  · exact ⟨mn_sSI, o184_67⟩
  · exact ⟨mn_sK, o184_69⟩
  · exact ⟨mn_sSI, o184_70⟩
  · exact ⟨mn_sX, ok_X⟩
theorem oc184_3 : ∀ pc, Mnp (c184_3 pc) ∧ Okp RX10 cX10_followReceive 8 none "followReceive" false pc (c184_3 pc) := by
  intro pc
  unfold c184_3
  split
  · exact ⟨mn_sLI, o184_72⟩
  · exact ⟨mn_sLI, o184_74⟩
  · exact ⟨mn_sI2, o184_76⟩
  · exact ⟨mn_sLR, o184_79⟩
  · exact ⟨mn_sGI, o184_80⟩
  · exact ⟨mn_sI1, o184_83⟩
  · exact ⟨mn_sLR, o184_86⟩
  · exact ⟨mn_sLI, o184_87⟩
  · exact ⟨mn_sPI, o184_89⟩
  · exact ⟨mn_sLR, o184_92⟩
  · exact ⟨mn_sLI, o184_93⟩
  · exact ⟨mn_sCS, o184_94⟩
  · exact ⟨mn_sX, ok_X⟩
theorem oc184_4 : ∀ pc, Mnp (c184_4 pc) ∧ Okp RX10 cX10_followReceive 8 none "followReceive" false pc (c184_4 pc) := by
  intro pc
  unfold c184_4
  split
  · exact ⟨mn_sLR, o184_97⟩
  · exact ⟨mn_sLI, o184_98⟩
  · exact ⟨mn_sLI, o184_100⟩
  · exact ⟨mn_sCV, o184_102⟩
  · exact ⟨mn_sLI, o184_105⟩
  · exact ⟨mn_sCS, o184_106⟩
  · exact ⟨mn_sCS, o184_109⟩
  · exact ⟨mn_sCV, o184_112⟩
  · exact ⟨mn_sLR, o184_115⟩
  · exact ⟨mn_sLI, o184_116⟩
  · exact ⟨mn_sLI, o184_118⟩
  · exact ⟨mn_sX, ok_X⟩
theorem oc184_5 : ∀ pc, Mnp (c184_5 pc) ∧ Okp RX10 cX10_followReceive 8 none "followReceive" false pc (c184_5 pc) := by
  intro pc
  unfold c184_5
  split
  · exact ⟨mn_sCV, o184_120⟩
  · exact ⟨mn_sK, o184_123⟩
  · exact ⟨mn_sI2, o184_124⟩
  · exact ⟨mn_sLR, o184_127⟩
  · exact ⟨mn_sLR, o184_128⟩
  · exact ⟨mn_sLI, o184_129⟩
  · exact ⟨mn_sLI, o184_131⟩
  · exact ⟨mn_sCV, o184_133⟩
  · exact ⟨mn_sCV, o184_136⟩
  · exact ⟨mn_sLR, o184_139⟩
  · exact ⟨mn_sLR, o184_140⟩
  · exact ⟨mn_sLI, o184_141⟩
  · exact ⟨mn_sK, o184_142⟩
  · exact ⟨mn_sB2, o184_143⟩
  · exact ⟨mn_sX, ok_X⟩
theorem oc184_6 : ∀ pc, Mnp (c184_6 pc) ∧ Okp RX10 cX10_followReceive 8 none "followReceive" false pc (c184_6 pc) := by
  intro pc
  unfold c184_6
  split
  · exact ⟨mn_sLI, o184_144⟩
  · exact ⟨mn_sB2, o184_146⟩
  · exact ⟨mn_sCV, o184_147⟩
  · exact ⟨mn_sCV, o184_150⟩
  · exact ⟨mn_sInc, o184_153⟩
  · exact ⟨mn_sGo, o184_156⟩
  · exact ⟨mn_sRV, o184_159⟩
  · exact ⟨mn_sX, ok_X⟩
theorem oc184 : ∀ pc, Mnp (c184 pc) ∧ Okp RX10 cX10_followReceive 8 none "followReceive" false pc (c184 pc) := by
  intro pc
  unfold c184
  split
  · exact oc184_0 pc
  · exact oc184_1 pc
  · exact oc184_2 pc
  · exact oc184_3 pc
  · exact oc184_4 pc
  · exact oc184_5 pc
  · exact oc184_6 pc
  · exact ⟨mn_sX, ok_X⟩
theorem o185_0 : Okp RX11 cX11_init 1 none "<init>" false 0 (sLR 0 1) := ok_aload_n (by decide +kernel : decode cX11_init 0 = .ok (.aload_n 0, 1)) rfl
theorem o185_1 : Okp RX11 cX11_init 1 none "<init>" false 1 (sCt 4) := ok_oinit (by decide +kernel : decode cX11_init 1 = .ok (.invokespecial 3, 3)) wq_X11_3 wq_i wq_c
theorem o185_4 : Okp RX11 cX11_init 1 none "<init>" false 4 (sLR 0 5) := ok_aload_n (by decide +kernel : decode cX11_init 4 = .ok (.aload_n 0, 1)) rfl
theorem o185_5 : Okp RX11 cX11_init 1 none "<init>" false 5 (sK 2000 8) := ok_sipush (by decide +kernel : decode cX11_init 5 = .ok (.sipush 2000, 3)) (by decide)
theorem o185_8 : Okp RX11 cX11_init 1 none "<init>" false 8 (sNA 15 10) := ok_newI (by decide +kernel : decode cX11_init 8 = .ok (.newarray .int, 2)) wa_int
theorem o185_10 : Okp RX11 cX11_init 1 none "<init>" false 10 (sPR 12 0 13) := ok_putR (by decide +kernel : decode cX11_init 10 = .ok (.putfield 9, 3)) fw_X11_9 ⟨⟨tyX11_ok, nmX11⟩, Or.inr ⟨rfl, rfl, rfl⟩, rfl⟩ (Or.inr ⟨_, rfl⟩) rfl
theorem o185_13 : Okp RX11 cX11_init 1 none "<init>" false 13 (sLR 0 14) := ok_aload_n (by decide +kernel : decode cX11_init 13 = .ok (.aload_n 0, 1)) rfl
theorem o185_14 : Okp RX11 cX11_init 1 none "<init>" false 14 (sK 0 15) := ok_iconst (by decide +kernel : decode cX11_init 14 = .ok (.iconst 0, 1)) (by decide)
theorem o185_15 : Okp RX11 cX11_init 1 none "<init>" false 15 (sPI 12 1 18) := ok_putI (by decide +kernel : decode cX11_init 15 = .ok (.putfield 13, 3)) fw_X11_13 ⟨⟨tyX11_ok, nmX11⟩, Or.inl rfl, rfl⟩ rfl
theorem o185_18 : Okp RX11 cX11_init 1 none "<init>" false 18 (sLR 0 19) := ok_aload_n (by decide +kernel : decode cX11_init 18 = .ok (.aload_n 0, 1)) rfl
theorem o185_19 : Okp RX11 cX11_init 1 none "<init>" false 19 (sK 6 21) := ok_bipush (by decide +kernel : decode cX11_init 19 = .ok (.bipush 6, 2)) (by decide)
theorem o185_21 : Okp RX11 cX11_init 1 none "<init>" false 21 (sNA 20 24) := ok_anew (by decide +kernel : decode cX11_init 21 = .ok (.anewarray 17, 3)) (by decide) (fun _ => rfl) wl_X11_17 wo_X9
theorem o185_24 : Okp RX11 cX11_init 1 none "<init>" false 24 (sPR 12 2 27) := ok_putR (by decide +kernel : decode cX11_init 24 = .ok (.putfield 19, 3)) fw_X11_19 ⟨⟨tyX11_ok, nmX11⟩, Or.inr ⟨rfl, rfl, rfl⟩, rfl⟩ (Or.inr ⟨_, rfl⟩) rfl
theorem o185_27 : Okp RX11 cX11_init 1 none "<init>" false 27 (sLR 0 28) := ok_aload_n (by decide +kernel : decode cX11_init 27 = .ok (.aload_n 0, 1)) rfl
theorem o185_28 : Okp RX11 cX11_init 1 none "<init>" false 28 (sK (-1) 29) := ok_iconst (by decide +kernel : decode cX11_init 28 = .ok (.iconst (-1), 1)) (by decide)
theorem o185_29 : Okp RX11 cX11_init 1 none "<init>" false 29 (sPI 12 3 32) := ok_putI (by decide +kernel : decode cX11_init 29 = .ok (.putfield 23, 3)) fw_X11_23 ⟨⟨tyX11_ok, nmX11⟩, Or.inl rfl, rfl⟩ rfl
theorem o185_32 : Okp RX11 cX11_init 1 none "<init>" false 32 (sLR 0 33) := ok_aload_n (by decide +kernel : decode cX11_init 32 = .ok (.aload_n 0, 1)) rfl
theorem o185_33 : Okp RX11 cX11_init 1 none "<init>" false 33 (sK (-1) 34) := ok_iconst (by decide +kernel : decode cX11_init 33 = .ok (.iconst (-1), 1)) (by decide)
theorem o185_34 : Okp RX11 cX11_init 1 none "<init>" false 34 (sPI 12 4 37) := ok_putI (by decide +kernel : decode cX11_init 34 = .ok (.putfield 26, 3)) fw_X11_26 ⟨⟨tyX11_ok, nmX11⟩, Or.inl rfl, rfl⟩ rfl
theorem o185_37 : Okp RX11 cX11_init 1 none "<init>" false 37 (sLR 0 38) := ok_aload_n (by decide +kernel : decode cX11_init 37 = .ok (.aload_n 0, 1)) rfl
theorem o185_38 : Okp RX11 cX11_init 1 none "<init>" false 38 (sNew 4 2 41) := ok_new (by decide +kernel : decode cX11_init 38 = .ok (.new 29, 3)) ⟨rfl, rfl, by decide, cw_X3, tyX3_ok, wl_X11_29, wn_X3, wi_SealedProcesses_Decoder, df_X3⟩
theorem o185_41 : Okp RX11 cX11_init 1 none "<init>" false 41 (sDup 42) := ok_dup (by decide +kernel : decode cX11_init 41 = .ok (.dup, 1))
theorem o185_42 : Okp RX11 cX11_init 1 none "<init>" false 42 (sCI 29 1 45) := ok_ci (by decide +kernel : decode cX11_init 42 = .ok (.invokespecial 31, 3)) mw_X11_31 rfl rfl wm_X3_init (by decide) rfl
theorem o185_45 : Okp RX11 cX11_init 1 none "<init>" false 45 (sPR 12 5 48) := ok_putR (by decide +kernel : decode cX11_init 45 = .ok (.putfield 32, 3)) fw_X11_32 ⟨⟨tyX11_ok, nmX11⟩, Or.inr ⟨rfl, rfl, rfl⟩, rfl⟩ (Or.inl ⟨_, rfl⟩) rfl
theorem o185_48 : Okp RX11 cX11_init 1 none "<init>" false 48 (sLR 0 49) := ok_aload_n (by decide +kernel : decode cX11_init 48 = .ok (.aload_n 0, 1)) rfl
theorem o185_49 : Okp RX11 cX11_init 1 none "<init>" false 49 (sNew 11 9 52) := ok_new (by decide +kernel : decode cX11_init 49 = .ok (.new 36, 3)) ⟨rfl, rfl, by decide, cw_X10, tyX10_ok, wl_X11_36, wn_X10, wi_SealedProcesses_Verifier, df_X10⟩
theorem o185_52 : Okp RX11 cX11_init 1 none "<init>" false 52 (sDup 53) := ok_dup (by decide +kernel : decode cX11_init 52 = .ok (.dup, 1))
theorem o185_53 : Okp RX11 cX11_init 1 none "<init>" false 53 (sCI 158 1 56) := ok_ci (by decide +kernel : decode cX11_init 53 = .ok (.invokespecial 38, 3)) mw_X11_38 rfl rfl wm_X10_init (by decide) rfl
theorem o185_56 : Okp RX11 cX11_init 1 none "<init>" false 56 (sPR 12 6 59) := ok_putR (by decide +kernel : decode cX11_init 56 = .ok (.putfield 39, 3)) fw_X11_39 ⟨⟨tyX11_ok, nmX11⟩, Or.inr ⟨rfl, rfl, rfl⟩, rfl⟩ (Or.inl ⟨_, rfl⟩) rfl
theorem o185_59 : Okp RX11 cX11_init 1 none "<init>" false 59 (sLR 0 60) := ok_aload_n (by decide +kernel : decode cX11_init 59 = .ok (.aload_n 0, 1)) rfl
theorem o185_60 : Okp RX11 cX11_init 1 none "<init>" false 60 (sNew 7 12 63) := ok_new (by decide +kernel : decode cX11_init 60 = .ok (.new 43, 3)) ⟨rfl, rfl, by decide, cw_X6, tyX6_ok, wl_X11_43, wn_X6, wi_SealedProcesses_Manifest, df_X6⟩
theorem o185_63 : Okp RX11 cX11_init 1 none "<init>" false 63 (sDup 64) := ok_dup (by decide +kernel : decode cX11_init 63 = .ok (.dup, 1))
theorem o185_64 : Okp RX11 cX11_init 1 none "<init>" false 64 (sCI 97 1 67) := ok_ci (by decide +kernel : decode cX11_init 64 = .ok (.invokespecial 45, 3)) mw_X11_45 rfl rfl wm_X6_init (by decide) rfl
theorem o185_67 : Okp RX11 cX11_init 1 none "<init>" false 67 (sPR 12 7 70) := ok_putR (by decide +kernel : decode cX11_init 67 = .ok (.putfield 46, 3)) fw_X11_46 ⟨⟨tyX11_ok, nmX11⟩, Or.inr ⟨rfl, rfl, rfl⟩, rfl⟩ (Or.inl ⟨_, rfl⟩) rfl
theorem o185_70 : Okp RX11 cX11_init 1 none "<init>" false 70 (sLR 0 71) := ok_aload_n (by decide +kernel : decode cX11_init 70 = .ok (.aload_n 0, 1)) rfl
theorem o185_71 : Okp RX11 cX11_init 1 none "<init>" false 71 (sNew 6 15 74) := ok_new (by decide +kernel : decode cX11_init 71 = .ok (.new 50, 3)) ⟨rfl, rfl, by decide, cw_X5, tyX5_ok, wl_X11_50, wn_X5, wi_SealedProcesses_Machine, df_X5⟩
theorem o185_74 : Okp RX11 cX11_init 1 none "<init>" false 74 (sDup 75) := ok_dup (by decide +kernel : decode cX11_init 74 = .ok (.dup, 1))
theorem o185_75 : Okp RX11 cX11_init 1 none "<init>" false 75 (sCI 62 1 78) := ok_ci (by decide +kernel : decode cX11_init 75 = .ok (.invokespecial 52, 3)) mw_X11_52 rfl rfl wm_X5_init (by decide) rfl
theorem o185_78 : Okp RX11 cX11_init 1 none "<init>" false 78 (sPR 12 8 81) := ok_putR (by decide +kernel : decode cX11_init 78 = .ok (.putfield 53, 3)) fw_X11_53 ⟨⟨tyX11_ok, nmX11⟩, Or.inr ⟨rfl, rfl, rfl⟩, rfl⟩ (Or.inl ⟨_, rfl⟩) rfl
theorem o185_81 : Okp RX11 cX11_init 1 none "<init>" false 81 sRV := ok_vret rfl (by decide +kernel : decode cX11_init 81 = .ok (.return_, 1))
theorem oc185_0 : ∀ pc, Mnp (c185_0 pc) ∧ Okp RX11 cX11_init 1 none "<init>" false pc (c185_0 pc) := by
  intro pc
  unfold c185_0
  split
  · exact ⟨mn_sLR, o185_0⟩
  · exact ⟨mn_sCt, o185_1⟩
  · exact ⟨mn_sLR, o185_4⟩
  · exact ⟨mn_sK, o185_5⟩
  · exact ⟨mn_sNA, o185_8⟩
  · exact ⟨mn_sPR, o185_10⟩
  · exact ⟨mn_sLR, o185_13⟩
  · exact ⟨mn_sK, o185_14⟩
  · exact ⟨mn_sPI, o185_15⟩
  · exact ⟨mn_sLR, o185_18⟩
  · exact ⟨mn_sK, o185_19⟩
  · exact ⟨mn_sNA, o185_21⟩
  · exact ⟨mn_sX, ok_X⟩
theorem oc185_1 : ∀ pc, Mnp (c185_1 pc) ∧ Okp RX11 cX11_init 1 none "<init>" false pc (c185_1 pc) := by
  intro pc
  unfold c185_1
  split
  · exact ⟨mn_sPR, o185_24⟩
  · exact ⟨mn_sLR, o185_27⟩
  · exact ⟨mn_sK, o185_28⟩
  · exact ⟨mn_sPI, o185_29⟩
  · exact ⟨mn_sLR, o185_32⟩
  · exact ⟨mn_sK, o185_33⟩
  · exact ⟨mn_sPI, o185_34⟩
  · exact ⟨mn_sLR, o185_37⟩
  · exact ⟨mn_sNew, o185_38⟩
  · exact ⟨mn_sDup, o185_41⟩
  · exact ⟨mn_sCI, o185_42⟩
  · exact ⟨mn_sPR, o185_45⟩
  · exact ⟨mn_sX, ok_X⟩
theorem oc185_2 : ∀ pc, Mnp (c185_2 pc) ∧ Okp RX11 cX11_init 1 none "<init>" false pc (c185_2 pc) := by
  intro pc
  unfold c185_2
  split
  · exact ⟨mn_sLR, o185_48⟩
  · exact ⟨mn_sNew, o185_49⟩
  · exact ⟨mn_sDup, o185_52⟩
  · exact ⟨mn_sCI, o185_53⟩
  · exact ⟨mn_sPR, o185_56⟩
  · exact ⟨mn_sLR, o185_59⟩
  · exact ⟨mn_sNew, o185_60⟩
  · exact ⟨mn_sDup, o185_63⟩
  · exact ⟨mn_sCI, o185_64⟩
  · exact ⟨mn_sPR, o185_67⟩
  · exact ⟨mn_sLR, o185_70⟩
  · exact ⟨mn_sNew, o185_71⟩
  · exact ⟨mn_sX, ok_X⟩
theorem oc185_3 : ∀ pc, Mnp (c185_3 pc) ∧ Okp RX11 cX11_init 1 none "<init>" false pc (c185_3 pc) := by
  intro pc
  unfold c185_3
  split
  · exact ⟨mn_sDup, o185_74⟩
  · exact ⟨mn_sCI, o185_75⟩
  · exact ⟨mn_sPR, o185_78⟩
  · exact ⟨mn_sRV, o185_81⟩
  · exact ⟨mn_sX, ok_X⟩
theorem oc185 : ∀ pc, Mnp (c185 pc) ∧ Okp RX11 cX11_init 1 none "<init>" false pc (c185 pc) := by
  intro pc
  unfold c185
  split
  · exact oc185_0 pc
  · exact oc185_1 pc
  · exact oc185_2 pc
  · exact oc185_3 pc
  · exact ⟨mn_sX, ok_X⟩
theorem o186_0 : Okp RX11 cX11_feed 6 (some .int) "feed" false 0 (sLR 0 1) := ok_aload_n (by decide +kernel : decode cX11_feed 0 = .ok (.aload_n 0, 1)) rfl
theorem o186_1 : Okp RX11 cX11_feed 6 (some .int) "feed" false 1 (sGI 12 1 4) := ok_getI (by decide +kernel : decode cX11_feed 1 = .ok (.getfield 13, 3)) fw_X11_13 rfl
theorem o186_4 : Okp RX11 cX11_feed 6 (some .int) "feed" false 4 (sK 20 6) := ok_bipush (by decide +kernel : decode cX11_feed 4 = .ok (.bipush 20, 2)) (by decide)
theorem o186_6 : Okp RX11 cX11_feed 6 (some .int) "feed" false 6 (sB2 fAdd 7) := ok_iadd (by decide +kernel : decode cX11_feed 6 = .ok (.iadd, 1))
theorem o186_7 : Okp RX11 cX11_feed 6 (some .int) "feed" false 7 (sK 2000 10) := ok_sipush (by decide +kernel : decode cX11_feed 7 = .ok (.sipush 2000, 3)) (by decide)
theorem o186_10 : Okp RX11 cX11_feed 6 (some .int) "feed" false 10 (sI2 5 15 13) := ok_icmp_le (by decide +kernel : decode cX11_feed 10 = .ok (.if_icmp .le 5, 3)) (by decide)
theorem o186_13 : Okp RX11 cX11_feed 6 (some .int) "feed" false 13 (sK (-1) 14) := ok_iconst (by decide +kernel : decode cX11_feed 13 = .ok (.iconst (-1), 1)) (by decide)
theorem o186_14 : Okp RX11 cX11_feed 6 (some .int) "feed" false 14 sRI := ok_iret rfl (by decide +kernel : decode cX11_feed 14 = .ok (.ireturn, 1))
theorem o186_15 : Okp RX11 cX11_feed 6 (some .int) "feed" false 15 (sLR 0 16) := ok_aload_n (by decide +kernel : decode cX11_feed 15 = .ok (.aload_n 0, 1)) rfl
theorem o186_16 : Okp RX11 cX11_feed 6 (some .int) "feed" false 16 (sLI 1 17) := ok_iload_n (by decide +kernel : decode cX11_feed 16 = .ok (.iload_n 1, 1)) rfl
theorem o186_17 : Okp RX11 cX11_feed 6 (some .int) "feed" false 17 (sCV false 200 2 12 20) := ok_cv (by decide +kernel : decode cX11_feed 17 = .ok (.invokevirtual 57, 3)) mw_X11_57 rfl (by decide) wm_X11_tapeNumber wse_X11_tapeNumber (by decide) rfl
theorem o186_20 : Okp RX11 cX11_feed 6 (some .int) "feed" false 20 (sLR 0 21) := ok_aload_n (by decide +kernel : decode cX11_feed 20 = .ok (.aload_n 0, 1)) rfl
theorem o186_21 : Okp RX11 cX11_feed 6 (some .int) "feed" false 21 (sLI 2 22) := ok_iload_n (by decide +kernel : decode cX11_feed 21 = .ok (.iload_n 2, 1)) rfl
theorem o186_22 : Okp RX11 cX11_feed 6 (some .int) "feed" false 22 (sCV false 200 2 12 25) := ok_cv (by decide +kernel : decode cX11_feed 22 = .ok (.invokevirtual 57, 3)) mw_X11_57 rfl (by decide) wm_X11_tapeNumber wse_X11_tapeNumber (by decide) rfl
theorem o186_25 : Okp RX11 cX11_feed 6 (some .int) "feed" false 25 (sLR 0 26) := ok_aload_n (by decide +kernel : decode cX11_feed 25 = .ok (.aload_n 0, 1)) rfl
theorem o186_26 : Okp RX11 cX11_feed 6 (some .int) "feed" false 26 (sLI 3 27) := ok_iload_n (by decide +kernel : decode cX11_feed 26 = .ok (.iload_n 3, 1)) rfl
theorem o186_27 : Okp RX11 cX11_feed 6 (some .int) "feed" false 27 (sCV false 200 2 12 30) := ok_cv (by decide +kernel : decode cX11_feed 27 = .ok (.invokevirtual 57, 3)) mw_X11_57 rfl (by decide) wm_X11_tapeNumber wse_X11_tapeNumber (by decide) rfl
theorem o186_30 : Okp RX11 cX11_feed 6 (some .int) "feed" false 30 (sLR 0 31) := ok_aload_n (by decide +kernel : decode cX11_feed 30 = .ok (.aload_n 0, 1)) rfl
theorem o186_31 : Okp RX11 cX11_feed 6 (some .int) "feed" false 31 (sLI 4 33) := ok_iload (by decide +kernel : decode cX11_feed 31 = .ok (.iload 4, 2))
theorem o186_33 : Okp RX11 cX11_feed 6 (some .int) "feed" false 33 (sCV false 200 2 12 36) := ok_cv (by decide +kernel : decode cX11_feed 33 = .ok (.invokevirtual 57, 3)) mw_X11_57 rfl (by decide) wm_X11_tapeNumber wse_X11_tapeNumber (by decide) rfl
theorem o186_36 : Okp RX11 cX11_feed 6 (some .int) "feed" false 36 (sLR 0 37) := ok_aload_n (by decide +kernel : decode cX11_feed 36 = .ok (.aload_n 0, 1)) rfl
theorem o186_37 : Okp RX11 cX11_feed 6 (some .int) "feed" false 37 (sLI 5 39) := ok_iload (by decide +kernel : decode cX11_feed 37 = .ok (.iload 5, 2))
theorem o186_39 : Okp RX11 cX11_feed 6 (some .int) "feed" false 39 (sCV false 200 2 12 42) := ok_cv (by decide +kernel : decode cX11_feed 39 = .ok (.invokevirtual 57, 3)) mw_X11_57 rfl (by decide) wm_X11_tapeNumber wse_X11_tapeNumber (by decide) rfl
theorem o186_42 : Okp RX11 cX11_feed 6 (some .int) "feed" false 42 (sLR 0 43) := ok_aload_n (by decide +kernel : decode cX11_feed 42 = .ok (.aload_n 0, 1)) rfl
theorem o186_43 : Okp RX11 cX11_feed 6 (some .int) "feed" false 43 (sGI 12 1 46) := ok_getI (by decide +kernel : decode cX11_feed 43 = .ok (.getfield 13, 3)) fw_X11_13 rfl
theorem o186_46 : Okp RX11 cX11_feed 6 (some .int) "feed" false 46 sRI := ok_iret rfl (by decide +kernel : decode cX11_feed 46 = .ok (.ireturn, 1))
theorem oc186_0 : ∀ pc, Mnp (c186_0 pc) ∧ Okp RX11 cX11_feed 6 (some .int) "feed" false pc (c186_0 pc) := by
  intro pc
  unfold c186_0
  split
  · exact ⟨mn_sLR, o186_0⟩
  · exact ⟨mn_sGI, o186_1⟩
  · exact ⟨mn_sK, o186_4⟩
  · exact ⟨mn_sB2, o186_6⟩
  · exact ⟨mn_sK, o186_7⟩
  · exact ⟨mn_sI2, o186_10⟩
  · exact ⟨mn_sK, o186_13⟩
  · exact ⟨mn_sRI, o186_14⟩
  · exact ⟨mn_sLR, o186_15⟩
  · exact ⟨mn_sLI, o186_16⟩
  · exact ⟨mn_sCV, o186_17⟩
  · exact ⟨mn_sLR, o186_20⟩
  · exact ⟨mn_sLI, o186_21⟩
  · exact ⟨mn_sCV, o186_22⟩
  · exact ⟨mn_sX, ok_X⟩
theorem oc186_1 : ∀ pc, Mnp (c186_1 pc) ∧ Okp RX11 cX11_feed 6 (some .int) "feed" false pc (c186_1 pc) := by
  intro pc
  unfold c186_1
  split
  · exact ⟨mn_sLR, o186_25⟩
  · exact ⟨mn_sLI, o186_26⟩
  · exact ⟨mn_sCV, o186_27⟩
  · exact ⟨mn_sLR, o186_30⟩
  · exact ⟨mn_sLI, o186_31⟩
  · exact ⟨mn_sCV, o186_33⟩
  · exact ⟨mn_sLR, o186_36⟩
  · exact ⟨mn_sLI, o186_37⟩
  · exact ⟨mn_sCV, o186_39⟩
  · exact ⟨mn_sLR, o186_42⟩
  · exact ⟨mn_sGI, o186_43⟩
  · exact ⟨mn_sRI, o186_46⟩
  · exact ⟨mn_sX, ok_X⟩
theorem oc186 : ∀ pc, Mnp (c186 pc) ∧ Okp RX11 cX11_feed 6 (some .int) "feed" false pc (c186 pc) := by
  intro pc
  unfold c186
  split
  · exact oc186_0 pc
  · exact oc186_1 pc
  · exact ⟨mn_sX, ok_X⟩
theorem o187_0 : Okp RX11 cX11_load 4 (some .int) "load" false 0 (sLI 1 1) := ok_iload_n (by decide +kernel : decode cX11_load 0 = .ok (.iload_n 1, 1)) rfl
theorem o187_1 : Okp RX11 cX11_load 4 (some .int) "load" false 1 (sI1 2 12 4) := ok_if_lt (by decide +kernel : decode cX11_load 1 = .ok (.ifCond .lt 11, 3)) (by decide)
theorem o187_4 : Okp RX11 cX11_load 4 (some .int) "load" false 4 (sLI 1 5) := ok_iload_n (by decide +kernel : decode cX11_load 4 = .ok (.iload_n 1, 1)) rfl
theorem o187_5 : Okp RX11 cX11_load 4 (some .int) "load" false 5 (sLR 0 6) := ok_aload_n (by decide +kernel : decode cX11_load 5 = .ok (.aload_n 0, 1)) rfl
theorem o187_6 : Okp RX11 cX11_load 4 (some .int) "load" false 6 (sGI 12 1 9) := ok_getI (by decide +kernel : decode cX11_load 6 = .ok (.getfield 13, 3)) fw_X11_13 rfl
theorem o187_9 : Okp RX11 cX11_load 4 (some .int) "load" false 9 (sI2 5 15 12) := ok_icmp_le (by decide +kernel : decode cX11_load 9 = .ok (.if_icmp .le 6, 3)) (by decide)
theorem o187_12 : Okp RX11 cX11_load 4 (some .int) "load" false 12 (sK (-2) 14) := ok_bipush (by decide +kernel : decode cX11_load 12 = .ok (.bipush (-2), 2)) (by decide)
theorem o187_14 : Okp RX11 cX11_load 4 (some .int) "load" false 14 sRI := ok_iret rfl (by decide +kernel : decode cX11_load 14 = .ok (.ireturn, 1))
theorem o187_15 : Okp RX11 cX11_load 4 (some .int) "load" false 15 (sNew 10 10 18) := ok_new (by decide +kernel : decode cX11_load 15 = .ok (.new 17, 3)) ⟨rfl, rfl, by decide, cw_X9, tyX9_ok, wl_X11_17, wn_X9, wi_SealedProcesses_TypedModule, df_X9⟩
theorem o187_18 : Okp RX11 cX11_load 4 (some .int) "load" false 18 (sDup 19) := ok_dup (by decide +kernel : decode cX11_load 18 = .ok (.dup, 1))
theorem o187_19 : Okp RX11 cX11_load 4 (some .int) "load" false 19 (sLR 0 20) := ok_aload_n (by decide +kernel : decode cX11_load 19 = .ok (.aload_n 0, 1)) rfl
theorem o187_20 : Okp RX11 cX11_load 4 (some .int) "load" false 20 (sGR 12 0 23) := ok_getR (by decide +kernel : decode cX11_load 20 = .ok (.getfield 9, 3)) fw_X11_9 rfl
theorem o187_23 : Okp RX11 cX11_load 4 (some .int) "load" false 23 (sLI 1 24) := ok_iload_n (by decide +kernel : decode cX11_load 23 = .ok (.iload_n 1, 1)) rfl
theorem o187_24 : Okp RX11 cX11_load 4 (some .int) "load" false 24 (sCI 144 3 27) := ok_ci (by decide +kernel : decode cX11_load 24 = .ok (.invokespecial 61, 3)) mw_X11_61 rfl rfl wm_X9_init (by decide) rfl
theorem o187_27 : Okp RX11 cX11_load 4 (some .int) "load" false 27 (sSR 2 28) := ok_astore_n (by decide +kernel : decode cX11_load 27 = .ok (.astore_n 2, 1)) rfl (by decide) (by decide)
theorem o187_28 : Okp RX11 cX11_load 4 (some .int) "load" false 28 (sLR 0 29) := ok_aload_n (by decide +kernel : decode cX11_load 28 = .ok (.aload_n 0, 1)) rfl
theorem o187_29 : Okp RX11 cX11_load 4 (some .int) "load" false 29 (sK 0 30) := ok_iconst (by decide +kernel : decode cX11_load 29 = .ok (.iconst 0, 1)) (by decide)
theorem o187_30 : Okp RX11 cX11_load 4 (some .int) "load" false 30 (sPI 12 1 33) := ok_putI (by decide +kernel : decode cX11_load 30 = .ok (.putfield 13, 3)) fw_X11_13 ⟨⟨tyX11_ok, nmX11⟩, Or.inl rfl, rfl⟩ rfl
theorem o187_33 : Okp RX11 cX11_load 4 (some .int) "load" false 33 (sLR 0 34) := ok_aload_n (by decide +kernel : decode cX11_load 33 = .ok (.aload_n 0, 1)) rfl
theorem o187_34 : Okp RX11 cX11_load 4 (some .int) "load" false 34 (sLR 0 35) := ok_aload_n (by decide +kernel : decode cX11_load 34 = .ok (.aload_n 0, 1)) rfl
theorem o187_35 : Okp RX11 cX11_load 4 (some .int) "load" false 35 (sGR 12 5 38) := ok_getR (by decide +kernel : decode cX11_load 35 = .ok (.getfield 32, 3)) fw_X11_32 rfl
theorem o187_38 : Okp RX11 cX11_load 4 (some .int) "load" false 38 (sLR 2 39) := ok_aload_n (by decide +kernel : decode cX11_load 38 = .ok (.aload_n 2, 1)) rfl
theorem o187_39 : Okp RX11 cX11_load 4 (some .int) "load" false 39 (sCV false 30 2 4 42) := ok_cv (by decide +kernel : decode cX11_load 39 = .ok (.invokevirtual 64, 3)) mw_X11_64 rfl (by decide) wm_X3_decode wse_X3_decode (by decide) rfl
theorem o187_42 : Okp RX11 cX11_load 4 (some .int) "load" false 42 (sCV false 201 2 12 45) := ok_cv (by decide +kernel : decode cX11_load 42 = .ok (.invokevirtual 68, 3)) mw_X11_68 rfl (by decide) wm_X11_tell wse_X11_tell (by decide) rfl
theorem o187_45 : Okp RX11 cX11_load 4 (some .int) "load" false 45 (sLR 0 46) := ok_aload_n (by decide +kernel : decode cX11_load 45 = .ok (.aload_n 0, 1)) rfl
theorem o187_46 : Okp RX11 cX11_load 4 (some .int) "load" false 46 (sGI 12 3 49) := ok_getI (by decide +kernel : decode cX11_load 46 = .ok (.getfield 23, 3)) fw_X11_23 rfl
theorem o187_49 : Okp RX11 cX11_load 4 (some .int) "load" false 49 (sI1 1 64 52) := ok_if_ne (by decide +kernel : decode cX11_load 49 = .ok (.ifCond .ne 15, 3)) (by decide)
theorem o187_52 : Okp RX11 cX11_load 4 (some .int) "load" false 52 (sLR 0 53) := ok_aload_n (by decide +kernel : decode cX11_load 52 = .ok (.aload_n 0, 1)) rfl
theorem o187_53 : Okp RX11 cX11_load 4 (some .int) "load" false 53 (sLR 0 54) := ok_aload_n (by decide +kernel : decode cX11_load 53 = .ok (.aload_n 0, 1)) rfl
theorem o187_54 : Okp RX11 cX11_load 4 (some .int) "load" false 54 (sGR 12 6 57) := ok_getR (by decide +kernel : decode cX11_load 54 = .ok (.getfield 39, 3)) fw_X11_39 rfl
theorem o187_57 : Okp RX11 cX11_load 4 (some .int) "load" false 57 (sLR 2 58) := ok_aload_n (by decide +kernel : decode cX11_load 57 = .ok (.aload_n 2, 1)) rfl
theorem o187_58 : Okp RX11 cX11_load 4 (some .int) "load" false 58 (sCV false 159 2 11 61) := ok_cv (by decide +kernel : decode cX11_load 58 = .ok (.invokevirtual 72, 3)) mw_X11_72 rfl (by decide) wm_X10_verify wse_X10_verify (by decide) rfl
theorem o187_61 : Okp RX11 cX11_load 4 (some .int) "load" false 61 (sCV false 201 2 12 64) := ok_cv (by decide +kernel : decode cX11_load 61 = .ok (.invokevirtual 68, 3)) mw_X11_68 rfl (by decide) wm_X11_tell wse_X11_tell (by decide) rfl
theorem o187_64 : Okp RX11 cX11_load 4 (some .int) "load" false 64 (sLR 0 65) := ok_aload_n (by decide +kernel : decode cX11_load 64 = .ok (.aload_n 0, 1)) rfl
theorem o187_65 : Okp RX11 cX11_load 4 (some .int) "load" false 65 (sGI 12 3 68) := ok_getI (by decide +kernel : decode cX11_load 65 = .ok (.getfield 23, 3)) fw_X11_23 rfl
theorem o187_68 : Okp RX11 cX11_load 4 (some .int) "load" false 68 (sI1 0 73 71) := ok_if_eq (by decide +kernel : decode cX11_load 68 = .ok (.ifCond .eq 5, 3)) (by decide)
theorem o187_71 : Okp RX11 cX11_load 4 (some .int) "load" false 71 (sK (-1) 72) := ok_iconst (by decide +kernel : decode cX11_load 71 = .ok (.iconst (-1), 1)) (by decide)
theorem o187_72 : Okp RX11 cX11_load 4 (some .int) "load" false 72 sRI := ok_iret rfl (by decide +kernel : decode cX11_load 72 = .ok (.ireturn, 1))
theorem o187_73 : Okp RX11 cX11_load 4 (some .int) "load" false 73 (sK 0 74) := ok_iconst (by decide +kernel : decode cX11_load 73 = .ok (.iconst 0, 1)) (by decide)
theorem o187_74 : Okp RX11 cX11_load 4 (some .int) "load" false 74 (sSI 3 75) := ok_istore_n (by decide +kernel : decode cX11_load 74 = .ok (.istore_n 3, 1)) rfl (by decide) (by decide)
theorem o187_75 : Okp RX11 cX11_load 4 (some .int) "load" false 75 (sLI 3 76) := ok_iload_n (by decide +kernel : decode cX11_load 75 = .ok (.iload_n 3, 1)) rfl
theorem o187_76 : Okp RX11 cX11_load 4 (some .int) "load" false 76 (sK 6 78) := ok_bipush (by decide +kernel : decode cX11_load 76 = .ok (.bipush 6, 2)) (by decide)
theorem o187_78 : Okp RX11 cX11_load 4 (some .int) "load" false 78 (sI2 3 105 81) := ok_icmp_ge (by decide +kernel : decode cX11_load 78 = .ok (.if_icmp .ge 27, 3)) (by decide)
theorem o187_81 : Okp RX11 cX11_load 4 (some .int) "load" false 81 (sLR 0 82) := ok_aload_n (by decide +kernel : decode cX11_load 81 = .ok (.aload_n 0, 1)) rfl
theorem o187_82 : Okp RX11 cX11_load 4 (some .int) "load" false 82 (sGR 12 2 85) := ok_getR (by decide +kernel : decode cX11_load 82 = .ok (.getfield 19, 3)) fw_X11_19 rfl
theorem o187_85 : Okp RX11 cX11_load 4 (some .int) "load" false 85 (sLI 3 86) := ok_iload_n (by decide +kernel : decode cX11_load 85 = .ok (.iload_n 3, 1)) rfl
theorem o187_86 : Okp RX11 cX11_load 4 (some .int) "load" false 86 (sRA 87) := ok_aaload (by decide +kernel : decode cX11_load 86 = .ok (.aaload, 1))
theorem o187_87 : Okp RX11 cX11_load 4 (some .int) "load" false 87 (sNl 90 99) := ok_ifnonnull (by decide +kernel : decode cX11_load 87 = .ok (.ifnonnull 12, 3)) (by decide)
theorem o187_90 : Okp RX11 cX11_load 4 (some .int) "load" false 90 (sLR 0 91) := ok_aload_n (by decide +kernel : decode cX11_load 90 = .ok (.aload_n 0, 1)) rfl
theorem o187_91 : Okp RX11 cX11_load 4 (some .int) "load" false 91 (sGR 12 2 94) := ok_getR (by decide +kernel : decode cX11_load 91 = .ok (.getfield 19, 3)) fw_X11_19 rfl
theorem o187_94 : Okp RX11 cX11_load 4 (some .int) "load" false 94 (sLI 3 95) := ok_iload_n (by decide +kernel : decode cX11_load 94 = .ok (.iload_n 3, 1)) rfl
theorem o187_95 : Okp RX11 cX11_load 4 (some .int) "load" false 95 (sLR 2 96) := ok_aload_n (by decide +kernel : decode cX11_load 95 = .ok (.aload_n 2, 1)) rfl
theorem o187_96 : Okp RX11 cX11_load 4 (some .int) "load" false 96 (sRS 97) := ok_aastore (by decide +kernel : decode cX11_load 96 = .ok (.aastore, 1))
theorem o187_97 : Okp RX11 cX11_load 4 (some .int) "load" false 97 (sLI 3 98) := ok_iload_n (by decide +kernel : decode cX11_load 97 = .ok (.iload_n 3, 1)) rfl
theorem o187_98 : Okp RX11 cX11_load 4 (some .int) "load" false 98 sRI := ok_iret rfl (by decide +kernel : decode cX11_load 98 = .ok (.ireturn, 1))
theorem o187_99 : Okp RX11 cX11_load 4 (some .int) "load" false 99 (sInc 3 1 102) := ok_iinc (by decide +kernel : decode cX11_load 99 = .ok (.iinc 3 1, 3)) (by decide) (by decide)
theorem o187_102 : Okp RX11 cX11_load 4 (some .int) "load" false 102 (sGo 75) := ok_goto (by decide +kernel : decode cX11_load 102 = .ok (.goto (-27), 3)) (by decide)
theorem o187_105 : Okp RX11 cX11_load 4 (some .int) "load" false 105 (sK (-1) 106) := ok_iconst (by decide +kernel : decode cX11_load 105 = .ok (.iconst (-1), 1)) (by decide)
theorem o187_106 : Okp RX11 cX11_load 4 (some .int) "load" false 106 sRI := ok_iret rfl (by decide +kernel : decode cX11_load 106 = .ok (.ireturn, 1))
theorem oc187_0 : ∀ pc, Mnp (c187_0 pc) ∧ Okp RX11 cX11_load 4 (some .int) "load" false pc (c187_0 pc) := by
  intro pc
  unfold c187_0
  split
  · exact ⟨mn_sLI, o187_0⟩
  · exact ⟨mn_sI1, o187_1⟩
  · exact ⟨mn_sLI, o187_4⟩
  · exact ⟨mn_sLR, o187_5⟩
  · exact ⟨mn_sGI, o187_6⟩
  · exact ⟨mn_sI2, o187_9⟩
  · exact ⟨mn_sK, o187_12⟩
  · exact ⟨mn_sRI, o187_14⟩
  · exact ⟨mn_sNew, o187_15⟩
  · exact ⟨mn_sDup, o187_18⟩
  · exact ⟨mn_sLR, o187_19⟩
  · exact ⟨mn_sGR, o187_20⟩
  · exact ⟨mn_sLI, o187_23⟩
  · exact ⟨mn_sX, ok_X⟩
theorem oc187_1 : ∀ pc, Mnp (c187_1 pc) ∧ Okp RX11 cX11_load 4 (some .int) "load" false pc (c187_1 pc) := by
  intro pc
  unfold c187_1
  split
  · exact ⟨mn_sCI, o187_24⟩
  · exact ⟨mn_sSR, o187_27⟩
  · exact ⟨mn_sLR, o187_28⟩
  · exact ⟨mn_sK, o187_29⟩
  · exact ⟨mn_sPI, o187_30⟩
  · exact ⟨mn_sLR, o187_33⟩
  · exact ⟨mn_sLR, o187_34⟩
  · exact ⟨mn_sGR, o187_35⟩
  · exact ⟨mn_sLR, o187_38⟩
  · exact ⟨mn_sCV, o187_39⟩
  · exact ⟨mn_sCV, o187_42⟩
  · exact ⟨mn_sLR, o187_45⟩
  · exact ⟨mn_sGI, o187_46⟩
  · exact ⟨mn_sX, ok_X⟩
theorem oc187_2 : ∀ pc, Mnp (c187_2 pc) ∧ Okp RX11 cX11_load 4 (some .int) "load" false pc (c187_2 pc) := by
  intro pc
  unfold c187_2
  split
  · exact ⟨mn_sI1, o187_49⟩
  · exact ⟨mn_sLR, o187_52⟩
  · exact ⟨mn_sLR, o187_53⟩
  · exact ⟨mn_sGR, o187_54⟩
  · exact ⟨mn_sLR, o187_57⟩
  · exact ⟨mn_sCV, o187_58⟩
  · exact ⟨mn_sCV, o187_61⟩
  · exact ⟨mn_sLR, o187_64⟩
  · exact ⟨mn_sGI, o187_65⟩
  · exact ⟨mn_sI1, o187_68⟩
  · exact ⟨mn_sK, o187_71⟩
  · exact ⟨mn_sX, ok_X⟩
theorem oc187_3 : ∀ pc, Mnp (c187_3 pc) ∧ Okp RX11 cX11_load 4 (some .int) "load" false pc (c187_3 pc) := by
  intro pc
  unfold c187_3
  split
  · exact ⟨mn_sRI, o187_72⟩
  · exact ⟨mn_sK, o187_73⟩
  · exact ⟨mn_sSI, o187_74⟩
  · exact ⟨mn_sLI, o187_75⟩
  · exact ⟨mn_sK, o187_76⟩
  · exact ⟨mn_sI2, o187_78⟩
  · exact ⟨mn_sLR, o187_81⟩
  · exact ⟨mn_sGR, o187_82⟩
  · exact ⟨mn_sLI, o187_85⟩
  · exact ⟨mn_sRA, o187_86⟩
  · exact ⟨mn_sNl, o187_87⟩
  · exact ⟨mn_sLR, o187_90⟩
  · exact ⟨mn_sGR, o187_91⟩
  · exact ⟨mn_sLI, o187_94⟩
  · exact ⟨mn_sLR, o187_95⟩
  · exact ⟨mn_sX, ok_X⟩
theorem oc187_4 : ∀ pc, Mnp (c187_4 pc) ∧ Okp RX11 cX11_load 4 (some .int) "load" false pc (c187_4 pc) := by
  intro pc
  unfold c187_4
  split
  · exact ⟨mn_sRS, o187_96⟩
  · exact ⟨mn_sLI, o187_97⟩
  · exact ⟨mn_sRI, o187_98⟩
  · exact ⟨mn_sInc, o187_99⟩
  · exact ⟨mn_sGo, o187_102⟩
  · exact ⟨mn_sK, o187_105⟩
  · exact ⟨mn_sRI, o187_106⟩
  · exact ⟨mn_sX, ok_X⟩
theorem oc187 : ∀ pc, Mnp (c187 pc) ∧ Okp RX11 cX11_load 4 (some .int) "load" false pc (c187 pc) := by
  intro pc
  unfold c187
  split
  · exact oc187_0 pc
  · exact oc187_1 pc
  · exact oc187_2 pc
  · exact oc187_3 pc
  · exact oc187_4 pc
  · exact ⟨mn_sX, ok_X⟩
theorem o188_0 : Okp RX11 cX11_fault 2 (some .int) "fault" false 0 (sLI 1 1) := ok_iload_n (by decide +kernel : decode cX11_fault 0 = .ok (.iload_n 1, 1)) rfl
theorem o188_1 : Okp RX11 cX11_fault 2 (some .int) "fault" false 1 (sI1 1 9 4) := ok_if_ne (by decide +kernel : decode cX11_fault 1 = .ok (.ifCond .ne 8, 3)) (by decide)
theorem o188_4 : Okp RX11 cX11_fault 2 (some .int) "fault" false 4 (sLR 0 5) := ok_aload_n (by decide +kernel : decode cX11_fault 4 = .ok (.aload_n 0, 1)) rfl
theorem o188_5 : Okp RX11 cX11_fault 2 (some .int) "fault" false 5 (sGI 12 3 8) := ok_getI (by decide +kernel : decode cX11_fault 5 = .ok (.getfield 23, 3)) fw_X11_23 rfl
theorem o188_8 : Okp RX11 cX11_fault 2 (some .int) "fault" false 8 sRI := ok_iret rfl (by decide +kernel : decode cX11_fault 8 = .ok (.ireturn, 1))
theorem o188_9 : Okp RX11 cX11_fault 2 (some .int) "fault" false 9 (sLI 1 10) := ok_iload_n (by decide +kernel : decode cX11_fault 9 = .ok (.iload_n 1, 1)) rfl
theorem o188_10 : Okp RX11 cX11_fault 2 (some .int) "fault" false 10 (sK 1 11) := ok_iconst (by decide +kernel : decode cX11_fault 10 = .ok (.iconst 1, 1)) (by decide)
theorem o188_11 : Okp RX11 cX11_fault 2 (some .int) "fault" false 11 (sI2 1 21 14) := ok_icmp_ne (by decide +kernel : decode cX11_fault 11 = .ok (.if_icmp .ne 10, 3)) (by decide)
theorem o188_14 : Okp RX11 cX11_fault 2 (some .int) "fault" false 14 (sLR 0 15) := ok_aload_n (by decide +kernel : decode cX11_fault 14 = .ok (.aload_n 0, 1)) rfl
theorem o188_15 : Okp RX11 cX11_fault 2 (some .int) "fault" false 15 (sGI 12 4 18) := ok_getI (by decide +kernel : decode cX11_fault 15 = .ok (.getfield 26, 3)) fw_X11_26 rfl
theorem o188_18 : Okp RX11 cX11_fault 2 (some .int) "fault" false 18 (sGo 22) := ok_goto (by decide +kernel : decode cX11_fault 18 = .ok (.goto 4, 3)) (by decide)
theorem o188_21 : Okp RX11 cX11_fault 2 (some .int) "fault" false 21 (sK (-1) 22) := ok_iconst (by decide +kernel : decode cX11_fault 21 = .ok (.iconst (-1), 1)) (by decide)
theorem o188_22 : Okp RX11 cX11_fault 2 (some .int) "fault" false 22 sRI := ok_iret rfl (by decide +kernel : decode cX11_fault 22 = .ok (.ireturn, 1))
theorem oc188 : ∀ pc, Mnp (c188 pc) ∧ Okp RX11 cX11_fault 2 (some .int) "fault" false pc (c188 pc) := by
  intro pc
  unfold c188
  split
  · exact ⟨mn_sLI, o188_0⟩
  · exact ⟨mn_sI1, o188_1⟩
  · exact ⟨mn_sLR, o188_4⟩
  · exact ⟨mn_sGI, o188_5⟩
  · exact ⟨mn_sRI, o188_8⟩
  · exact ⟨mn_sLI, o188_9⟩
  · exact ⟨mn_sK, o188_10⟩
  · exact ⟨mn_sI2, o188_11⟩
  · exact ⟨mn_sLR, o188_14⟩
  · exact ⟨mn_sGI, o188_15⟩
  · exact ⟨mn_sGo, o188_18⟩
  · exact ⟨mn_sK, o188_21⟩
  · exact ⟨mn_sRI, o188_22⟩
  · exact ⟨mn_sX, ok_X⟩
theorem o189_0 : Okp RX11 cX11_discard 2 (some .boolean) "discard" false 0 (sLR 0 1) := ok_aload_n (by decide +kernel : decode cX11_discard 0 = .ok (.aload_n 0, 1)) rfl
theorem o189_1 : Okp RX11 cX11_discard 2 (some .boolean) "discard" false 1 (sLI 1 2) := ok_iload_n (by decide +kernel : decode cX11_discard 1 = .ok (.iload_n 1, 1)) rfl
theorem o189_2 : Okp RX11 cX11_discard 2 (some .boolean) "discard" false 2 (sCV false 202 2 12 5) := ok_cv (by decide +kernel : decode cX11_discard 2 = .ok (.invokevirtual 75, 3)) mw_X11_75 rfl (by decide) wm_X11_onShelf wse_X11_onShelf (by decide) rfl
theorem o189_5 : Okp RX11 cX11_discard 2 (some .boolean) "discard" false 5 (sNl 8 10) := ok_ifnonnull (by decide +kernel : decode cX11_discard 5 = .ok (.ifnonnull 5, 3)) (by decide)
theorem o189_8 : Okp RX11 cX11_discard 2 (some .boolean) "discard" false 8 (sK 0 9) := ok_iconst (by decide +kernel : decode cX11_discard 8 = .ok (.iconst 0, 1)) (by decide)
theorem o189_9 : Okp RX11 cX11_discard 2 (some .boolean) "discard" false 9 sRZ := ok_zret rfl (by decide +kernel : decode cX11_discard 9 = .ok (.ireturn, 1))
theorem o189_10 : Okp RX11 cX11_discard 2 (some .boolean) "discard" false 10 (sLR 0 11) := ok_aload_n (by decide +kernel : decode cX11_discard 10 = .ok (.aload_n 0, 1)) rfl
theorem o189_11 : Okp RX11 cX11_discard 2 (some .boolean) "discard" false 11 (sGR 12 2 14) := ok_getR (by decide +kernel : decode cX11_discard 11 = .ok (.getfield 19, 3)) fw_X11_19 rfl
theorem o189_14 : Okp RX11 cX11_discard 2 (some .boolean) "discard" false 14 (sLI 1 15) := ok_iload_n (by decide +kernel : decode cX11_discard 14 = .ok (.iload_n 1, 1)) rfl
theorem o189_15 : Okp RX11 cX11_discard 2 (some .boolean) "discard" false 15 (sNul 16) := ok_null (by decide +kernel : decode cX11_discard 15 = .ok (.aconst_null, 1))
theorem o189_16 : Okp RX11 cX11_discard 2 (some .boolean) "discard" false 16 (sRS 17) := ok_aastore (by decide +kernel : decode cX11_discard 16 = .ok (.aastore, 1))
theorem o189_17 : Okp RX11 cX11_discard 2 (some .boolean) "discard" false 17 (sK 1 18) := ok_iconst (by decide +kernel : decode cX11_discard 17 = .ok (.iconst 1, 1)) (by decide)
theorem o189_18 : Okp RX11 cX11_discard 2 (some .boolean) "discard" false 18 sRZ := ok_zret rfl (by decide +kernel : decode cX11_discard 18 = .ok (.ireturn, 1))
theorem oc189 : ∀ pc, Mnp (c189 pc) ∧ Okp RX11 cX11_discard 2 (some .boolean) "discard" false pc (c189 pc) := by
  intro pc
  unfold c189
  split
  · exact ⟨mn_sLR, o189_0⟩
  · exact ⟨mn_sLI, o189_1⟩
  · exact ⟨mn_sCV, o189_2⟩
  · exact ⟨mn_sNl, o189_5⟩
  · exact ⟨mn_sK, o189_8⟩
  · exact ⟨mn_sRZ, o189_9⟩
  · exact ⟨mn_sLR, o189_10⟩
  · exact ⟨mn_sGR, o189_11⟩
  · exact ⟨mn_sLI, o189_14⟩
  · exact ⟨mn_sNul, o189_15⟩
  · exact ⟨mn_sRS, o189_16⟩
  · exact ⟨mn_sK, o189_17⟩
  · exact ⟨mn_sRZ, o189_18⟩
  · exact ⟨mn_sX, ok_X⟩
theorem o190_0 : Okp RX11 cX11_module 5 (some .int) "module" false 0 (sLR 0 1) := ok_aload_n (by decide +kernel : decode cX11_module 0 = .ok (.aload_n 0, 1)) rfl
theorem o190_1 : Okp RX11 cX11_module 5 (some .int) "module" false 1 (sLI 1 2) := ok_iload_n (by decide +kernel : decode cX11_module 1 = .ok (.iload_n 1, 1)) rfl
theorem o190_2 : Okp RX11 cX11_module 5 (some .int) "module" false 2 (sCV false 202 2 12 5) := ok_cv (by decide +kernel : decode cX11_module 2 = .ok (.invokevirtual 75, 3)) mw_X11_75 rfl (by decide) wm_X11_onShelf wse_X11_onShelf (by decide) rfl
theorem o190_5 : Okp RX11 cX11_module 5 (some .int) "module" false 5 (sSR 4 7) := ok_astore (by decide +kernel : decode cX11_module 5 = .ok (.astore 4, 2)) (by decide) (by decide)
theorem o190_7 : Okp RX11 cX11_module 5 (some .int) "module" false 7 (sLR 4 9) := ok_aload (by decide +kernel : decode cX11_module 7 = .ok (.aload 4, 2))
theorem o190_9 : Okp RX11 cX11_module 5 (some .int) "module" false 9 (sNl 12 14) := ok_ifnonnull (by decide +kernel : decode cX11_module 9 = .ok (.ifnonnull 5, 3)) (by decide)
theorem o190_12 : Okp RX11 cX11_module 5 (some .int) "module" false 12 (sK (-1) 13) := ok_iconst (by decide +kernel : decode cX11_module 12 = .ok (.iconst (-1), 1)) (by decide)
theorem o190_13 : Okp RX11 cX11_module 5 (some .int) "module" false 13 sRI := ok_iret rfl (by decide +kernel : decode cX11_module 13 = .ok (.ireturn, 1))
theorem o190_14 : Okp RX11 cX11_module 5 (some .int) "module" false 14 (sLI 3 15) := ok_iload_n (by decide +kernel : decode cX11_module 14 = .ok (.iload_n 3, 1)) rfl
theorem o190_15 : Okp RX11 cX11_module 5 (some .int) "module" false 15 (sSw [(0, 44), (1, 50), (2, 56), (3, 62)] 68) := ok_tsw (by decide +kernel : decode cX11_module 15 = .ok (.tableswitch 53 0 3 #[29, 35, 41, 47], 29)) (by decide) (by decide) (by decide)
theorem o190_44 : Okp RX11 cX11_module 5 (some .int) "module" false 44 (sLR 4 46) := ok_aload (by decide +kernel : decode cX11_module 44 = .ok (.aload 4, 2))
theorem o190_46 : Okp RX11 cX11_module 5 (some .int) "module" false 46 (sGI 10 2 49) := ok_getI (by decide +kernel : decode cX11_module 46 = .ok (.getfield 79, 3)) fw_X11_79 rfl
theorem o190_49 : Okp RX11 cX11_module 5 (some .int) "module" false 49 sRI := ok_iret rfl (by decide +kernel : decode cX11_module 49 = .ok (.ireturn, 1))
theorem o190_50 : Okp RX11 cX11_module 5 (some .int) "module" false 50 (sLR 4 52) := ok_aload (by decide +kernel : decode cX11_module 50 = .ok (.aload 4, 2))
theorem o190_52 : Okp RX11 cX11_module 5 (some .int) "module" false 52 (sGI 10 6 55) := ok_getI (by decide +kernel : decode cX11_module 52 = .ok (.getfield 82, 3)) fw_X11_82 rfl
theorem o190_55 : Okp RX11 cX11_module 5 (some .int) "module" false 55 sRI := ok_iret rfl (by decide +kernel : decode cX11_module 55 = .ok (.ireturn, 1))
theorem o190_56 : Okp RX11 cX11_module 5 (some .int) "module" false 56 (sLR 4 58) := ok_aload (by decide +kernel : decode cX11_module 56 = .ok (.aload 4, 2))
theorem o190_58 : Okp RX11 cX11_module 5 (some .int) "module" false 58 (sGI 10 8 61) := ok_getI (by decide +kernel : decode cX11_module 58 = .ok (.getfield 85, 3)) fw_X11_85 rfl
theorem o190_61 : Okp RX11 cX11_module 5 (some .int) "module" false 61 sRI := ok_iret rfl (by decide +kernel : decode cX11_module 61 = .ok (.ireturn, 1))
theorem o190_62 : Okp RX11 cX11_module 5 (some .int) "module" false 62 (sLR 4 64) := ok_aload (by decide +kernel : decode cX11_module 62 = .ok (.aload 4, 2))
theorem o190_64 : Okp RX11 cX11_module 5 (some .int) "module" false 64 (sGI 10 1 67) := ok_getI (by decide +kernel : decode cX11_module 64 = .ok (.getfield 88, 3)) fw_X11_88 rfl
theorem o190_67 : Okp RX11 cX11_module 5 (some .int) "module" false 67 sRI := ok_iret rfl (by decide +kernel : decode cX11_module 67 = .ok (.ireturn, 1))
theorem o190_68 : Okp RX11 cX11_module 5 (some .int) "module" false 68 (sLR 4 70) := ok_aload (by decide +kernel : decode cX11_module 68 = .ok (.aload 4, 2))
theorem o190_70 : Okp RX11 cX11_module 5 (some .int) "module" false 70 (sLI 2 71) := ok_iload_n (by decide +kernel : decode cX11_module 70 = .ok (.iload_n 2, 1)) rfl
theorem o190_71 : Okp RX11 cX11_module 5 (some .int) "module" false 71 (sCV false 149 2 10 74) := ok_cv (by decide +kernel : decode cX11_module 71 = .ok (.invokevirtual 91, 3)) mw_X11_91 rfl (by decide) wm_X9_routineAt wse_X9_routineAt (by decide) rfl
theorem o190_74 : Okp RX11 cX11_module 5 (some .int) "module" false 74 (sLI 3 75) := ok_iload_n (by decide +kernel : decode cX11_module 74 = .ok (.iload_n 3, 1)) rfl
theorem o190_75 : Okp RX11 cX11_module 5 (some .int) "module" false 75 (sCS false 204 2 78) := ok_cs (by decide +kernel : decode cX11_module 75 = .ok (.invokestatic 95, 3)) mw_X11_95 wt_X11_ofRoutine (by decide) rfl
theorem o190_78 : Okp RX11 cX11_module 5 (some .int) "module" false 78 sRI := ok_iret rfl (by decide +kernel : decode cX11_module 78 = .ok (.ireturn, 1))
theorem oc190_0 : ∀ pc, Mnp (c190_0 pc) ∧ Okp RX11 cX11_module 5 (some .int) "module" false pc (c190_0 pc) := by
  intro pc
  unfold c190_0
  split
  · exact ⟨mn_sLR, o190_0⟩
  · exact ⟨mn_sLI, o190_1⟩
  · exact ⟨mn_sCV, o190_2⟩
  · exact ⟨mn_sSR, o190_5⟩
  · exact ⟨mn_sLR, o190_7⟩
  · exact ⟨mn_sNl, o190_9⟩
  · exact ⟨mn_sK, o190_12⟩
  · exact ⟨mn_sRI, o190_13⟩
  · exact ⟨mn_sLI, o190_14⟩
  · exact ⟨mn_sSw, o190_15⟩
  · exact ⟨mn_sX, ok_X⟩
theorem oc190_1 : ∀ pc, Mnp (c190_1 pc) ∧ Okp RX11 cX11_module 5 (some .int) "module" false pc (c190_1 pc) := by
  intro pc
  unfold c190_1
  split
  · exact ⟨mn_sLR, o190_44⟩
  · exact ⟨mn_sGI, o190_46⟩
  · exact ⟨mn_sX, ok_X⟩
theorem oc190_2 : ∀ pc, Mnp (c190_2 pc) ∧ Okp RX11 cX11_module 5 (some .int) "module" false pc (c190_2 pc) := by
  intro pc
  unfold c190_2
  split
  · exact ⟨mn_sRI, o190_49⟩
  · exact ⟨mn_sLR, o190_50⟩
  · exact ⟨mn_sGI, o190_52⟩
  · exact ⟨mn_sRI, o190_55⟩
  · exact ⟨mn_sLR, o190_56⟩
  · exact ⟨mn_sGI, o190_58⟩
  · exact ⟨mn_sRI, o190_61⟩
  · exact ⟨mn_sLR, o190_62⟩
  · exact ⟨mn_sGI, o190_64⟩
  · exact ⟨mn_sRI, o190_67⟩
  · exact ⟨mn_sLR, o190_68⟩
  · exact ⟨mn_sLI, o190_70⟩
  · exact ⟨mn_sCV, o190_71⟩
  · exact ⟨mn_sX, ok_X⟩
theorem oc190_3 : ∀ pc, Mnp (c190_3 pc) ∧ Okp RX11 cX11_module 5 (some .int) "module" false pc (c190_3 pc) := by
  intro pc
  unfold c190_3
  split
  · exact ⟨mn_sLI, o190_74⟩
  · exact ⟨mn_sCS, o190_75⟩
  · exact ⟨mn_sRI, o190_78⟩
  · exact ⟨mn_sX, ok_X⟩
theorem oc190 : ∀ pc, Mnp (c190 pc) ∧ Okp RX11 cX11_module 5 (some .int) "module" false pc (c190 pc) := by
  intro pc
  unfold c190
  split
  · exact oc190_0 pc
  · exact oc190_1 pc
  · exact oc190_2 pc
  · exact oc190_3 pc
  · exact ⟨mn_sX, ok_X⟩
theorem o191_0 : Okp RX11 cX11_typeAt 8 (some .int) "typeAt" false 0 (sLR 0 1) := ok_aload_n (by decide +kernel : decode cX11_typeAt 0 = .ok (.aload_n 0, 1)) rfl
theorem o191_1 : Okp RX11 cX11_typeAt 8 (some .int) "typeAt" false 1 (sLI 1 2) := ok_iload_n (by decide +kernel : decode cX11_typeAt 1 = .ok (.iload_n 1, 1)) rfl
theorem o191_2 : Okp RX11 cX11_typeAt 8 (some .int) "typeAt" false 2 (sCV false 202 2 12 5) := ok_cv (by decide +kernel : decode cX11_typeAt 2 = .ok (.invokevirtual 75, 3)) mw_X11_75 rfl (by decide) wm_X11_onShelf wse_X11_onShelf (by decide) rfl
theorem o191_5 : Okp RX11 cX11_typeAt 8 (some .int) "typeAt" false 5 (sSR 6 7) := ok_astore (by decide +kernel : decode cX11_typeAt 5 = .ok (.astore 6, 2)) (by decide) (by decide)
theorem o191_7 : Okp RX11 cX11_typeAt 8 (some .int) "typeAt" false 7 (sLR 6 9) := ok_aload (by decide +kernel : decode cX11_typeAt 7 = .ok (.aload 6, 2))
theorem o191_9 : Okp RX11 cX11_typeAt 8 (some .int) "typeAt" false 9 (sNl 12 16) := ok_ifnonnull (by decide +kernel : decode cX11_typeAt 9 = .ok (.ifnonnull 7, 3)) (by decide)
theorem o191_12 : Okp RX11 cX11_typeAt 8 (some .int) "typeAt" false 12 (sNul 13) := ok_null (by decide +kernel : decode cX11_typeAt 12 = .ok (.aconst_null, 1))
theorem o191_13 : Okp RX11 cX11_typeAt 8 (some .int) "typeAt" false 13 (sGo 22) := ok_goto (by decide +kernel : decode cX11_typeAt 13 = .ok (.goto 9, 3)) (by decide)
theorem o191_16 : Okp RX11 cX11_typeAt 8 (some .int) "typeAt" false 16 (sLR 6 18) := ok_aload (by decide +kernel : decode cX11_typeAt 16 = .ok (.aload 6, 2))
theorem o191_18 : Okp RX11 cX11_typeAt 8 (some .int) "typeAt" false 18 (sLI 2 19) := ok_iload_n (by decide +kernel : decode cX11_typeAt 18 = .ok (.iload_n 2, 1)) rfl
theorem o191_19 : Okp RX11 cX11_typeAt 8 (some .int) "typeAt" false 19 (sCV false 149 2 10 22) := ok_cv (by decide +kernel : decode cX11_typeAt 19 = .ok (.invokevirtual 91, 3)) mw_X11_91 rfl (by decide) wm_X9_routineAt wse_X9_routineAt (by decide) rfl
theorem o191_22 : Okp RX11 cX11_typeAt 8 (some .int) "typeAt" false 22 (sSR 7 24) := ok_astore (by decide +kernel : decode cX11_typeAt 22 = .ok (.astore 7, 2)) (by decide) (by decide)
theorem o191_24 : Okp RX11 cX11_typeAt 8 (some .int) "typeAt" false 24 (sLR 7 26) := ok_aload (by decide +kernel : decode cX11_typeAt 24 = .ok (.aload 7, 2))
theorem o191_26 : Okp RX11 cX11_typeAt 8 (some .int) "typeAt" false 26 (sNl 43 29) := ok_ifnull (by decide +kernel : decode cX11_typeAt 26 = .ok (.ifnull 17, 3)) (by decide)
theorem o191_29 : Okp RX11 cX11_typeAt 8 (some .int) "typeAt" false 29 (sLR 7 31) := ok_aload (by decide +kernel : decode cX11_typeAt 29 = .ok (.aload 7, 2))
theorem o191_31 : Okp RX11 cX11_typeAt 8 (some .int) "typeAt" false 31 (sLI 3 32) := ok_iload_n (by decide +kernel : decode cX11_typeAt 31 = .ok (.iload_n 3, 1)) rfl
theorem o191_32 : Okp RX11 cX11_typeAt 8 (some .int) "typeAt" false 32 (sCV false 111 2 8 35) := ok_cv (by decide +kernel : decode cX11_typeAt 32 = .ok (.invokevirtual 99, 3)) mw_X11_99 rfl (by decide) wm_X7_heightAt wse_X7_heightAt (by decide) rfl
theorem o191_35 : Okp RX11 cX11_typeAt 8 (some .int) "typeAt" false 35 (sI1 2 43 38) := ok_if_lt (by decide +kernel : decode cX11_typeAt 35 = .ok (.ifCond .lt 8, 3)) (by decide)
theorem o191_38 : Okp RX11 cX11_typeAt 8 (some .int) "typeAt" false 38 (sLI 5 40) := ok_iload (by decide +kernel : decode cX11_typeAt 38 = .ok (.iload 5, 2))
theorem o191_40 : Okp RX11 cX11_typeAt 8 (some .int) "typeAt" false 40 (sI1 3 45 43) := ok_if_ge (by decide +kernel : decode cX11_typeAt 40 = .ok (.ifCond .ge 5, 3)) (by decide)
theorem o191_43 : Okp RX11 cX11_typeAt 8 (some .int) "typeAt" false 43 (sK (-1) 44) := ok_iconst (by decide +kernel : decode cX11_typeAt 43 = .ok (.iconst (-1), 1)) (by decide)
theorem o191_44 : Okp RX11 cX11_typeAt 8 (some .int) "typeAt" false 44 sRI := ok_iret rfl (by decide +kernel : decode cX11_typeAt 44 = .ok (.ireturn, 1))
theorem o191_45 : Okp RX11 cX11_typeAt 8 (some .int) "typeAt" false 45 (sLI 4 47) := ok_iload (by decide +kernel : decode cX11_typeAt 45 = .ok (.iload 4, 2))
theorem o191_47 : Okp RX11 cX11_typeAt 8 (some .int) "typeAt" false 47 (sI1 1 73 50) := ok_if_ne (by decide +kernel : decode cX11_typeAt 47 = .ok (.ifCond .ne 26, 3)) (by decide)
theorem o191_50 : Okp RX11 cX11_typeAt 8 (some .int) "typeAt" false 50 (sLI 5 52) := ok_iload (by decide +kernel : decode cX11_typeAt 50 = .ok (.iload 5, 2))
theorem o191_52 : Okp RX11 cX11_typeAt 8 (some .int) "typeAt" false 52 (sLR 7 54) := ok_aload (by decide +kernel : decode cX11_typeAt 52 = .ok (.aload 7, 2))
theorem o191_54 : Okp RX11 cX11_typeAt 8 (some .int) "typeAt" false 54 (sLI 3 55) := ok_iload_n (by decide +kernel : decode cX11_typeAt 54 = .ok (.iload_n 3, 1)) rfl
theorem o191_55 : Okp RX11 cX11_typeAt 8 (some .int) "typeAt" false 55 (sCV false 111 2 8 58) := ok_cv (by decide +kernel : decode cX11_typeAt 55 = .ok (.invokevirtual 99, 3)) mw_X11_99 rfl (by decide) wm_X7_heightAt wse_X7_heightAt (by decide) rfl
theorem o191_58 : Okp RX11 cX11_typeAt 8 (some .int) "typeAt" false 58 (sI2 3 73 61) := ok_icmp_ge (by decide +kernel : decode cX11_typeAt 58 = .ok (.if_icmp .ge 15, 3)) (by decide)
theorem o191_61 : Okp RX11 cX11_typeAt 8 (some .int) "typeAt" false 61 (sLR 7 63) := ok_aload (by decide +kernel : decode cX11_typeAt 61 = .ok (.aload 7, 2))
theorem o191_63 : Okp RX11 cX11_typeAt 8 (some .int) "typeAt" false 63 (sLI 3 64) := ok_iload_n (by decide +kernel : decode cX11_typeAt 63 = .ok (.iload_n 3, 1)) rfl
theorem o191_64 : Okp RX11 cX11_typeAt 8 (some .int) "typeAt" false 64 (sLI 5 66) := ok_iload (by decide +kernel : decode cX11_typeAt 64 = .ok (.iload 5, 2))
theorem o191_66 : Okp RX11 cX11_typeAt 8 (some .int) "typeAt" false 66 (sCV false 113 3 8 69) := ok_cv (by decide +kernel : decode cX11_typeAt 66 = .ok (.invokevirtual 105, 3)) mw_X11_105 rfl (by decide) wm_X7_typeComing wse_X7_typeComing (by decide) rfl
theorem o191_69 : Okp RX11 cX11_typeAt 8 (some .int) "typeAt" false 69 (sCS false 207 1 72) := ok_cs (by decide +kernel : decode cX11_typeAt 69 = .ok (.invokestatic 109, 3)) mw_X11_109 wt_X11_kindOf (by decide) rfl
theorem o191_72 : Okp RX11 cX11_typeAt 8 (some .int) "typeAt" false 72 sRI := ok_iret rfl (by decide +kernel : decode cX11_typeAt 72 = .ok (.ireturn, 1))
theorem o191_73 : Okp RX11 cX11_typeAt 8 (some .int) "typeAt" false 73 (sLI 4 75) := ok_iload (by decide +kernel : decode cX11_typeAt 73 = .ok (.iload 4, 2))
theorem o191_75 : Okp RX11 cX11_typeAt 8 (some .int) "typeAt" false 75 (sK 1 76) := ok_iconst (by decide +kernel : decode cX11_typeAt 75 = .ok (.iconst 1, 1)) (by decide)
theorem o191_76 : Okp RX11 cX11_typeAt 8 (some .int) "typeAt" false 76 (sI2 1 104 79) := ok_icmp_ne (by decide +kernel : decode cX11_typeAt 76 = .ok (.if_icmp .ne 28, 3)) (by decide)
theorem o191_79 : Okp RX11 cX11_typeAt 8 (some .int) "typeAt" false 79 (sLI 5 81) := ok_iload (by decide +kernel : decode cX11_typeAt 79 = .ok (.iload 5, 2))
theorem o191_81 : Okp RX11 cX11_typeAt 8 (some .int) "typeAt" false 81 (sLR 7 83) := ok_aload (by decide +kernel : decode cX11_typeAt 81 = .ok (.aload 7, 2))
theorem o191_83 : Okp RX11 cX11_typeAt 8 (some .int) "typeAt" false 83 (sGI 8 3 86) := ok_getI (by decide +kernel : decode cX11_typeAt 83 = .ok (.getfield 112, 3)) fw_X11_112 rfl
theorem o191_86 : Okp RX11 cX11_typeAt 8 (some .int) "typeAt" false 86 (sI2 3 104 89) := ok_icmp_ge (by decide +kernel : decode cX11_typeAt 86 = .ok (.if_icmp .ge 18, 3)) (by decide)
theorem o191_89 : Okp RX11 cX11_typeAt 8 (some .int) "typeAt" false 89 (sLR 7 91) := ok_aload (by decide +kernel : decode cX11_typeAt 89 = .ok (.aload 7, 2))
theorem o191_91 : Okp RX11 cX11_typeAt 8 (some .int) "typeAt" false 91 (sLI 3 92) := ok_iload_n (by decide +kernel : decode cX11_typeAt 91 = .ok (.iload_n 3, 1)) rfl
theorem o191_92 : Okp RX11 cX11_typeAt 8 (some .int) "typeAt" false 92 (sK 16 94) := ok_bipush (by decide +kernel : decode cX11_typeAt 92 = .ok (.bipush 16, 2)) (by decide)
theorem o191_94 : Okp RX11 cX11_typeAt 8 (some .int) "typeAt" false 94 (sLI 5 96) := ok_iload (by decide +kernel : decode cX11_typeAt 94 = .ok (.iload 5, 2))
theorem o191_96 : Okp RX11 cX11_typeAt 8 (some .int) "typeAt" false 96 (sB2 fAdd 97) := ok_iadd (by decide +kernel : decode cX11_typeAt 96 = .ok (.iadd, 1))
theorem o191_97 : Okp RX11 cX11_typeAt 8 (some .int) "typeAt" false 97 (sCV false 113 3 8 100) := ok_cv (by decide +kernel : decode cX11_typeAt 97 = .ok (.invokevirtual 105, 3)) mw_X11_105 rfl (by decide) wm_X7_typeComing wse_X7_typeComing (by decide) rfl
theorem o191_100 : Okp RX11 cX11_typeAt 8 (some .int) "typeAt" false 100 (sCS false 207 1 103) := ok_cs (by decide +kernel : decode cX11_typeAt 100 = .ok (.invokestatic 109, 3)) mw_X11_109 wt_X11_kindOf (by decide) rfl
theorem o191_103 : Okp RX11 cX11_typeAt 8 (some .int) "typeAt" false 103 sRI := ok_iret rfl (by decide +kernel : decode cX11_typeAt 103 = .ok (.ireturn, 1))
theorem o191_104 : Okp RX11 cX11_typeAt 8 (some .int) "typeAt" false 104 (sK (-1) 105) := ok_iconst (by decide +kernel : decode cX11_typeAt 104 = .ok (.iconst (-1), 1)) (by decide)
theorem o191_105 : Okp RX11 cX11_typeAt 8 (some .int) "typeAt" false 105 sRI := ok_iret rfl (by decide +kernel : decode cX11_typeAt 105 = .ok (.ireturn, 1))
theorem oc191_0 : ∀ pc, Mnp (c191_0 pc) ∧ Okp RX11 cX11_typeAt 8 (some .int) "typeAt" false pc (c191_0 pc) := by
  intro pc
  unfold c191_0
  split
  · exact ⟨mn_sLR, o191_0⟩
  · exact ⟨mn_sLI, o191_1⟩
  · exact ⟨mn_sCV, o191_2⟩
  · exact ⟨mn_sSR, o191_5⟩
  · exact ⟨mn_sLR, o191_7⟩
  · exact ⟨mn_sNl, o191_9⟩
  · exact ⟨mn_sNul, o191_12⟩
  · exact ⟨mn_sGo, o191_13⟩
  · exact ⟨mn_sLR, o191_16⟩
  · exact ⟨mn_sLI, o191_18⟩
  · exact ⟨mn_sCV, o191_19⟩
  · exact ⟨mn_sSR, o191_22⟩
  · exact ⟨mn_sX, ok_X⟩
theorem oc191_1 : ∀ pc, Mnp (c191_1 pc) ∧ Okp RX11 cX11_typeAt 8 (some .int) "typeAt" false pc (c191_1 pc) := by
  intro pc
  unfold c191_1
  split
  · exact ⟨mn_sLR, o191_24⟩
  · exact ⟨mn_sNl, o191_26⟩
  · exact ⟨mn_sLR, o191_29⟩
  · exact ⟨mn_sLI, o191_31⟩
  · exact ⟨mn_sCV, o191_32⟩
  · exact ⟨mn_sI1, o191_35⟩
  · exact ⟨mn_sLI, o191_38⟩
  · exact ⟨mn_sI1, o191_40⟩
  · exact ⟨mn_sK, o191_43⟩
  · exact ⟨mn_sRI, o191_44⟩
  · exact ⟨mn_sLI, o191_45⟩
  · exact ⟨mn_sI1, o191_47⟩
  · exact ⟨mn_sX, ok_X⟩
theorem oc191_2 : ∀ pc, Mnp (c191_2 pc) ∧ Okp RX11 cX11_typeAt 8 (some .int) "typeAt" false pc (c191_2 pc) := by
  intro pc
  unfold c191_2
  split
  · exact ⟨mn_sLI, o191_50⟩
  · exact ⟨mn_sLR, o191_52⟩
  · exact ⟨mn_sLI, o191_54⟩
  · exact ⟨mn_sCV, o191_55⟩
  · exact ⟨mn_sI2, o191_58⟩
  · exact ⟨mn_sLR, o191_61⟩
  · exact ⟨mn_sLI, o191_63⟩
  · exact ⟨mn_sLI, o191_64⟩
  · exact ⟨mn_sCV, o191_66⟩
  · exact ⟨mn_sCS, o191_69⟩
  · exact ⟨mn_sX, ok_X⟩
theorem oc191_3 : ∀ pc, Mnp (c191_3 pc) ∧ Okp RX11 cX11_typeAt 8 (some .int) "typeAt" false pc (c191_3 pc) := by
  intro pc
  unfold c191_3
  split
  · exact ⟨mn_sRI, o191_72⟩
  · exact ⟨mn_sLI, o191_73⟩
  · exact ⟨mn_sK, o191_75⟩
  · exact ⟨mn_sI2, o191_76⟩
  · exact ⟨mn_sLI, o191_79⟩
  · exact ⟨mn_sLR, o191_81⟩
  · exact ⟨mn_sGI, o191_83⟩
  · exact ⟨mn_sI2, o191_86⟩
  · exact ⟨mn_sLR, o191_89⟩
  · exact ⟨mn_sLI, o191_91⟩
  · exact ⟨mn_sK, o191_92⟩
  · exact ⟨mn_sLI, o191_94⟩
  · exact ⟨mn_sX, ok_X⟩
theorem oc191_4 : ∀ pc, Mnp (c191_4 pc) ∧ Okp RX11 cX11_typeAt 8 (some .int) "typeAt" false pc (c191_4 pc) := by
  intro pc
  unfold c191_4
  split
  · exact ⟨mn_sB2, o191_96⟩
  · exact ⟨mn_sCV, o191_97⟩
  · exact ⟨mn_sCS, o191_100⟩
  · exact ⟨mn_sRI, o191_103⟩
  · exact ⟨mn_sK, o191_104⟩
  · exact ⟨mn_sRI, o191_105⟩
  · exact ⟨mn_sX, ok_X⟩
theorem oc191 : ∀ pc, Mnp (c191 pc) ∧ Okp RX11 cX11_typeAt 8 (some .int) "typeAt" false pc (c191 pc) := by
  intro pc
  unfold c191
  split
  · exact oc191_0 pc
  · exact oc191_1 pc
  · exact oc191_2 pc
  · exact oc191_3 pc
  · exact oc191_4 pc
  · exact ⟨mn_sX, ok_X⟩
