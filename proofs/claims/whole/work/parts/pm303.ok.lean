theorem o88_0 : Okp RX5 cX5_spawn 6 (some .int) "spawn" false 0 (sLR 1 1) := ok_aload_n (by decide +kernel : decode cX5_spawn 0 = .ok (.aload_n 1, 1)) rfl
theorem o88_1 : Okp RX5 cX5_spawn 6 (some .int) "spawn" false 1 (sLI 2 2) := ok_iload_n (by decide +kernel : decode cX5_spawn 1 = .ok (.iload_n 2, 1)) rfl
theorem o88_2 : Okp RX5 cX5_spawn 6 (some .int) "spawn" false 2 (sCS false 84 2 5) := ok_cs (by decide +kernel : decode cX5_spawn 2 = .ok (.invokestatic 330, 3)) mw_X5_330 wt_X5_parametersOf (by decide) rfl
theorem o88_5 : Okp RX5 cX5_spawn 6 (some .int) "spawn" false 5 (sSI 3 6) := ok_istore_n (by decide +kernel : decode cX5_spawn 5 = .ok (.istore_n 3, 1)) rfl (by decide) (by decide)
theorem o88_6 : Okp RX5 cX5_spawn 6 (some .int) "spawn" false 6 (sLR 0 7) := ok_aload_n (by decide +kernel : decode cX5_spawn 6 = .ok (.aload_n 0, 1)) rfl
theorem o88_7 : Okp RX5 cX5_spawn 6 (some .int) "spawn" false 7 (sLR 1 8) := ok_aload_n (by decide +kernel : decode cX5_spawn 7 = .ok (.aload_n 1, 1)) rfl
theorem o88_8 : Okp RX5 cX5_spawn 6 (some .int) "spawn" false 8 (sLI 3 9) := ok_iload_n (by decide +kernel : decode cX5_spawn 8 = .ok (.iload_n 3, 1)) rfl
theorem o88_9 : Okp RX5 cX5_spawn 6 (some .int) "spawn" false 9 (sCV false 85 3 6 12) := ok_cv (by decide +kernel : decode cX5_spawn 9 = .ok (.invokevirtual 333, 3)) mw_X5_333 rfl (by decide) wm_X5_takeParameters wse_X5_takeParameters (by decide) rfl
theorem o88_12 : Okp RX5 cX5_spawn 6 (some .int) "spawn" false 12 (sK 0 13) := ok_iconst (by decide +kernel : decode cX5_spawn 12 = .ok (.iconst 0, 1)) (by decide)
theorem o88_13 : Okp RX5 cX5_spawn 6 (some .int) "spawn" false 13 (sSI 4 15) := ok_istore (by decide +kernel : decode cX5_spawn 13 = .ok (.istore 4, 2)) (by decide) (by decide)
theorem o88_15 : Okp RX5 cX5_spawn 6 (some .int) "spawn" false 15 (sLI 4 17) := ok_iload (by decide +kernel : decode cX5_spawn 15 = .ok (.iload 4, 2))
theorem o88_17 : Okp RX5 cX5_spawn 6 (some .int) "spawn" false 17 (sK 12 19) := ok_bipush (by decide +kernel : decode cX5_spawn 17 = .ok (.bipush 12, 2)) (by decide)
theorem o88_19 : Okp RX5 cX5_spawn 6 (some .int) "spawn" false 19 (sI2 3 101 22) := ok_icmp_ge (by decide +kernel : decode cX5_spawn 19 = .ok (.if_icmp .ge 82, 3)) (by decide)
theorem o88_22 : Okp RX5 cX5_spawn 6 (some .int) "spawn" false 22 (sLR 0 23) := ok_aload_n (by decide +kernel : decode cX5_spawn 22 = .ok (.aload_n 0, 1)) rfl
theorem o88_23 : Okp RX5 cX5_spawn 6 (some .int) "spawn" false 23 (sLI 4 25) := ok_iload (by decide +kernel : decode cX5_spawn 23 = .ok (.iload 4, 2))
theorem o88_25 : Okp RX5 cX5_spawn 6 (some .int) "spawn" false 25 (sCV false 68 2 6 28) := ok_cv (by decide +kernel : decode cX5_spawn 25 = .ok (.invokevirtual 164, 3)) mw_X5_164 rfl (by decide) wm_X5_livingAt wse_X5_livingAt (by decide) rfl
theorem o88_28 : Okp RX5 cX5_spawn 6 (some .int) "spawn" false 28 (sNl 31 95) := ok_ifnonnull (by decide +kernel : decode cX5_spawn 28 = .ok (.ifnonnull 67, 3)) (by decide)
theorem o88_31 : Okp RX5 cX5_spawn 6 (some .int) "spawn" false 31 (sLR 0 32) := ok_aload_n (by decide +kernel : decode cX5_spawn 31 = .ok (.aload_n 0, 1)) rfl
theorem o88_32 : Okp RX5 cX5_spawn 6 (some .int) "spawn" false 32 (sLR 0 33) := ok_aload_n (by decide +kernel : decode cX5_spawn 32 = .ok (.aload_n 0, 1)) rfl
theorem o88_33 : Okp RX5 cX5_spawn 6 (some .int) "spawn" false 33 (sLI 4 35) := ok_iload (by decide +kernel : decode cX5_spawn 33 = .ok (.iload 4, 2))
theorem o88_35 : Okp RX5 cX5_spawn 6 (some .int) "spawn" false 35 (sLR 1 36) := ok_aload_n (by decide +kernel : decode cX5_spawn 35 = .ok (.aload_n 1, 1)) rfl
theorem o88_36 : Okp RX5 cX5_spawn 6 (some .int) "spawn" false 36 (sGR 9 1 39) := ok_getR (by decide +kernel : decode cX5_spawn 36 = .ok (.getfield 192, 3)) fw_X5_192 rfl
theorem o88_39 : Okp RX5 cX5_spawn 6 (some .int) "spawn" false 39 (sLR 1 40) := ok_aload_n (by decide +kernel : decode cX5_spawn 39 = .ok (.aload_n 1, 1)) rfl
theorem o88_40 : Okp RX5 cX5_spawn 6 (some .int) "spawn" false 40 (sGI 9 2 43) := ok_getI (by decide +kernel : decode cX5_spawn 40 = .ok (.getfield 362, 3)) fw_X5_362 rfl
theorem o88_43 : Okp RX5 cX5_spawn 6 (some .int) "spawn" false 43 (sLI 2 44) := ok_iload_n (by decide +kernel : decode cX5_spawn 43 = .ok (.iload_n 2, 1)) rfl
theorem o88_44 : Okp RX5 cX5_spawn 6 (some .int) "spawn" false 44 (sLR 1 45) := ok_aload_n (by decide +kernel : decode cX5_spawn 44 = .ok (.aload_n 1, 1)) rfl
theorem o88_45 : Okp RX5 cX5_spawn 6 (some .int) "spawn" false 45 (sGI 9 3 48) := ok_getI (by decide +kernel : decode cX5_spawn 45 = .ok (.getfield 365, 3)) fw_X5_365 rfl
theorem o88_48 : Okp RX5 cX5_spawn 6 (some .int) "spawn" false 48 (sCV false 66 6 6 51) := ok_cv (by decide +kernel : decode cX5_spawn 48 = .ok (.invokevirtual 105, 3)) mw_X5_105 rfl (by decide) wm_X5_begin wse_X5_begin (by decide) rfl
theorem o88_51 : Okp RX5 cX5_spawn 6 (some .int) "spawn" false 51 (sLI 3 52) := ok_iload_n (by decide +kernel : decode cX5_spawn 51 = .ok (.iload_n 3, 1)) rfl
theorem o88_52 : Okp RX5 cX5_spawn 6 (some .int) "spawn" false 52 (sCV false 86 3 6 55) := ok_cv (by decide +kernel : decode cX5_spawn 52 = .ok (.invokevirtual 340, 3)) mw_X5_340 rfl (by decide) wm_X5_layParameters wse_X5_layParameters (by decide) rfl
theorem o88_55 : Okp RX5 cX5_spawn 6 (some .int) "spawn" false 55 (sK 0 56) := ok_iconst (by decide +kernel : decode cX5_spawn 55 = .ok (.iconst 0, 1)) (by decide)
theorem o88_56 : Okp RX5 cX5_spawn 6 (some .int) "spawn" false 56 (sSI 5 58) := ok_istore (by decide +kernel : decode cX5_spawn 56 = .ok (.istore 5, 2)) (by decide) (by decide)
theorem o88_58 : Okp RX5 cX5_spawn 6 (some .int) "spawn" false 58 (sLI 5 60) := ok_iload (by decide +kernel : decode cX5_spawn 58 = .ok (.iload 5, 2))
theorem o88_60 : Okp RX5 cX5_spawn 6 (some .int) "spawn" false 60 (sLI 3 61) := ok_iload_n (by decide +kernel : decode cX5_spawn 60 = .ok (.iload_n 3, 1)) rfl
theorem o88_61 : Okp RX5 cX5_spawn 6 (some .int) "spawn" false 61 (sI2 3 93 64) := ok_icmp_ge (by decide +kernel : decode cX5_spawn 61 = .ok (.if_icmp .ge 32, 3)) (by decide)
theorem o88_64 : Okp RX5 cX5_spawn 6 (some .int) "spawn" false 64 (sLR 0 65) := ok_aload_n (by decide +kernel : decode cX5_spawn 64 = .ok (.aload_n 0, 1)) rfl
theorem o88_65 : Okp RX5 cX5_spawn 6 (some .int) "spawn" false 65 (sGR 6 4 68) := ok_getR (by decide +kernel : decode cX5_spawn 65 = .ok (.getfield 37, 3)) fw_X5_37 rfl
theorem o88_68 : Okp RX5 cX5_spawn 6 (some .int) "spawn" false 68 (sLR 0 69) := ok_aload_n (by decide +kernel : decode cX5_spawn 68 = .ok (.aload_n 0, 1)) rfl
theorem o88_69 : Okp RX5 cX5_spawn 6 (some .int) "spawn" false 69 (sGR 6 13 72) := ok_getR (by decide +kernel : decode cX5_spawn 69 = .ok (.getfield 67, 3)) fw_X5_67 rfl
theorem o88_72 : Okp RX5 cX5_spawn 6 (some .int) "spawn" false 72 (sLI 5 74) := ok_iload (by decide +kernel : decode cX5_spawn 72 = .ok (.iload 5, 2))
theorem o88_74 : Okp RX5 cX5_spawn 6 (some .int) "spawn" false 74 (sIA 75) := ok_iaload (by decide +kernel : decode cX5_spawn 74 = .ok (.iaload, 1))
theorem o88_75 : Okp RX5 cX5_spawn 6 (some .int) "spawn" false 75 (sLR 0 76) := ok_aload_n (by decide +kernel : decode cX5_spawn 75 = .ok (.aload_n 0, 1)) rfl
theorem o88_76 : Okp RX5 cX5_spawn 6 (some .int) "spawn" false 76 (sGR 6 14 79) := ok_getR (by decide +kernel : decode cX5_spawn 76 = .ok (.getfield 70, 3)) fw_X5_70 rfl
theorem o88_79 : Okp RX5 cX5_spawn 6 (some .int) "spawn" false 79 (sLI 5 81) := ok_iload (by decide +kernel : decode cX5_spawn 79 = .ok (.iload 5, 2))
theorem o88_81 : Okp RX5 cX5_spawn 6 (some .int) "spawn" false 81 (sIA 82) := ok_iaload (by decide +kernel : decode cX5_spawn 81 = .ok (.iaload, 1))
theorem o88_82 : Okp RX5 cX5_spawn 6 (some .int) "spawn" false 82 (sLI 4 84) := ok_iload (by decide +kernel : decode cX5_spawn 82 = .ok (.iload 4, 2))
theorem o88_84 : Okp RX5 cX5_spawn 6 (some .int) "spawn" false 84 (sCV false 57 4 5 87) := ok_cv (by decide +kernel : decode cX5_spawn 84 = .ok (.invokevirtual 368, 3)) mw_X5_368 rfl (by decide) wm_X4_hand wse_X4_hand (by decide) rfl
theorem o88_87 : Okp RX5 cX5_spawn 6 (some .int) "spawn" false 87 (sInc 5 1 90) := ok_iinc (by decide +kernel : decode cX5_spawn 87 = .ok (.iinc 5 1, 3)) (by decide) (by decide)
theorem o88_90 : Okp RX5 cX5_spawn 6 (some .int) "spawn" false 90 (sGo 58) := ok_goto (by decide +kernel : decode cX5_spawn 90 = .ok (.goto (-32), 3)) (by decide)
theorem o88_93 : Okp RX5 cX5_spawn 6 (some .int) "spawn" false 93 (sK 0 94) := ok_iconst (by decide +kernel : decode cX5_spawn 93 = .ok (.iconst 0, 1)) (by decide)
theorem o88_94 : Okp RX5 cX5_spawn 6 (some .int) "spawn" false 94 sRI := ok_iret rfl (by decide +kernel : decode cX5_spawn 94 = .ok (.ireturn, 1))
theorem o88_95 : Okp RX5 cX5_spawn 6 (some .int) "spawn" false 95 (sInc 4 1 98) := ok_iinc (by decide +kernel : decode cX5_spawn 95 = .ok (.iinc 4 1, 3)) (by decide) (by decide)
theorem o88_98 : Okp RX5 cX5_spawn 6 (some .int) "spawn" false 98 (sGo 15) := ok_goto (by decide +kernel : decode cX5_spawn 98 = .ok (.goto (-83), 3)) (by decide)
theorem o88_101 : Okp RX5 cX5_spawn 6 (some .int) "spawn" false 101 (sK 8 103) := ok_bipush (by decide +kernel : decode cX5_spawn 101 = .ok (.bipush 8, 2)) (by decide)
theorem o88_103 : Okp RX5 cX5_spawn 6 (some .int) "spawn" false 103 sRI := ok_iret rfl (by decide +kernel : decode cX5_spawn 103 = .ok (.ireturn, 1))
theorem oc88_0 : ∀ pc, Mnp (c88_0 pc) ∧ Okp RX5 cX5_spawn 6 (some .int) "spawn" false pc (c88_0 pc) := by
  intro pc
  unfold c88_0
  split
  · exact ⟨mn_sLR, o88_0⟩
  · exact ⟨mn_sLI, o88_1⟩
  · exact ⟨mn_sCS, o88_2⟩
  · exact ⟨mn_sSI, o88_5⟩
  · exact ⟨mn_sLR, o88_6⟩
  · exact ⟨mn_sLR, o88_7⟩
  · exact ⟨mn_sLI, o88_8⟩
  · exact ⟨mn_sCV, o88_9⟩
  · exact ⟨mn_sK, o88_12⟩
  · exact ⟨mn_sSI, o88_13⟩
  · exact ⟨mn_sLI, o88_15⟩
  · exact ⟨mn_sK, o88_17⟩
  · exact ⟨mn_sI2, o88_19⟩
  · exact ⟨mn_sLR, o88_22⟩
  · exact ⟨mn_sLI, o88_23⟩
  · exact ⟨mn_sX, ok_X⟩
theorem oc88_1 : ∀ pc, Mnp (c88_1 pc) ∧ Okp RX5 cX5_spawn 6 (some .int) "spawn" false pc (c88_1 pc) := by
  intro pc
  unfold c88_1
  split
  · exact ⟨mn_sCV, o88_25⟩
  · exact ⟨mn_sNl, o88_28⟩
  · exact ⟨mn_sLR, o88_31⟩
  · exact ⟨mn_sLR, o88_32⟩
  · exact ⟨mn_sLI, o88_33⟩
  · exact ⟨mn_sLR, o88_35⟩
  · exact ⟨mn_sGR, o88_36⟩
  · exact ⟨mn_sLR, o88_39⟩
  · exact ⟨mn_sGI, o88_40⟩
  · exact ⟨mn_sLI, o88_43⟩
  · exact ⟨mn_sLR, o88_44⟩
  · exact ⟨mn_sGI, o88_45⟩
  · exact ⟨mn_sX, ok_X⟩
theorem oc88_2 : ∀ pc, Mnp (c88_2 pc) ∧ Okp RX5 cX5_spawn 6 (some .int) "spawn" false pc (c88_2 pc) := by
  intro pc
  unfold c88_2
  split
  · exact ⟨mn_sCV, o88_48⟩
  · exact ⟨mn_sLI, o88_51⟩
  · exact ⟨mn_sCV, o88_52⟩
  · exact ⟨mn_sK, o88_55⟩
  · exact ⟨mn_sSI, o88_56⟩
  · exact ⟨mn_sLI, o88_58⟩
  · exact ⟨mn_sLI, o88_60⟩
  · exact ⟨mn_sI2, o88_61⟩
  · exact ⟨mn_sLR, o88_64⟩
  · exact ⟨mn_sGR, o88_65⟩
  · exact ⟨mn_sLR, o88_68⟩
  · exact ⟨mn_sGR, o88_69⟩
  · exact ⟨mn_sX, ok_X⟩
theorem oc88_3 : ∀ pc, Mnp (c88_3 pc) ∧ Okp RX5 cX5_spawn 6 (some .int) "spawn" false pc (c88_3 pc) := by
  intro pc
  unfold c88_3
  split
  · exact ⟨mn_sLI, o88_72⟩
  · exact ⟨mn_sIA, o88_74⟩
  · exact ⟨mn_sLR, o88_75⟩
  · exact ⟨mn_sGR, o88_76⟩
  · exact ⟨mn_sLI, o88_79⟩
  · exact ⟨mn_sIA, o88_81⟩
  · exact ⟨mn_sLI, o88_82⟩
  · exact ⟨mn_sCV, o88_84⟩
  · exact ⟨mn_sInc, o88_87⟩
  · exact ⟨mn_sGo, o88_90⟩
  · exact ⟨mn_sK, o88_93⟩
  · exact ⟨mn_sRI, o88_94⟩
  · exact ⟨mn_sInc, o88_95⟩
  · exact ⟨mn_sX, ok_X⟩
theorem oc88_4 : ∀ pc, Mnp (c88_4 pc) ∧ Okp RX5 cX5_spawn 6 (some .int) "spawn" false pc (c88_4 pc) := by
  intro pc
  unfold c88_4
  split
  · exact ⟨mn_sGo, o88_98⟩
  · exact ⟨mn_sK, o88_101⟩
  · exact ⟨mn_sRI, o88_103⟩
  · exact ⟨mn_sX, ok_X⟩
theorem oc88 : ∀ pc, Mnp (c88 pc) ∧ Okp RX5 cX5_spawn 6 (some .int) "spawn" false pc (c88 pc) := by
  intro pc
  unfold c88
  split
  · exact oc88_0 pc
  · exact oc88_1 pc
  · exact oc88_2 pc
  · exact oc88_3 pc
  · exact oc88_4 pc
  · exact ⟨mn_sX, ok_X⟩
theorem o89_0 : Okp RX5 cX5_out 3 (some .int) "out" false 0 (sLR 1 1) := ok_aload_n (by decide +kernel : decode cX5_out 0 = .ok (.aload_n 1, 1)) rfl
theorem o89_1 : Okp RX5 cX5_out 3 (some .int) "out" false 1 (sCV false 128 1 9 4) := ok_cv (by decide +kernel : decode cX5_out 1 = .ok (.invokevirtual 277, 3)) mw_X5_277 rfl (by decide) wm_X8_pop wse_X8_pop (by decide) rfl
theorem o89_4 : Okp RX5 cX5_out 3 (some .int) "out" false 4 (sSI 2 5) := ok_istore_n (by decide +kernel : decode cX5_out 4 = .ok (.istore_n 2, 1)) rfl (by decide) (by decide)
theorem o89_5 : Okp RX5 cX5_out 3 (some .int) "out" false 5 (sLR 0 6) := ok_aload_n (by decide +kernel : decode cX5_out 5 = .ok (.aload_n 0, 1)) rfl
theorem o89_6 : Okp RX5 cX5_out 3 (some .int) "out" false 6 (sGI 6 8 9) := ok_getI (by decide +kernel : decode cX5_out 6 = .ok (.getfield 51, 3)) fw_X5_51 rfl
theorem o89_9 : Okp RX5 cX5_out 3 (some .int) "out" false 9 (sK 500 12) := ok_sipush (by decide +kernel : decode cX5_out 9 = .ok (.sipush 500, 3)) (by decide)
theorem o89_12 : Okp RX5 cX5_out 3 (some .int) "out" false 12 (sI2 2 18 15) := ok_icmp_lt (by decide +kernel : decode cX5_out 12 = .ok (.if_icmp .lt 6, 3)) (by decide)
theorem o89_15 : Okp RX5 cX5_out 3 (some .int) "out" false 15 (sK 10 17) := ok_bipush (by decide +kernel : decode cX5_out 15 = .ok (.bipush 10, 2)) (by decide)
theorem o89_17 : Okp RX5 cX5_out 3 (some .int) "out" false 17 sRI := ok_iret rfl (by decide +kernel : decode cX5_out 17 = .ok (.ireturn, 1))
theorem o89_18 : Okp RX5 cX5_out 3 (some .int) "out" false 18 (sLR 0 19) := ok_aload_n (by decide +kernel : decode cX5_out 18 = .ok (.aload_n 0, 1)) rfl
theorem o89_19 : Okp RX5 cX5_out 3 (some .int) "out" false 19 (sGR 6 6 22) := ok_getR (by decide +kernel : decode cX5_out 19 = .ok (.getfield 45, 3)) fw_X5_45 rfl
theorem o89_22 : Okp RX5 cX5_out 3 (some .int) "out" false 22 (sLR 0 23) := ok_aload_n (by decide +kernel : decode cX5_out 22 = .ok (.aload_n 0, 1)) rfl
theorem o89_23 : Okp RX5 cX5_out 3 (some .int) "out" false 23 (sGI 6 8 26) := ok_getI (by decide +kernel : decode cX5_out 23 = .ok (.getfield 51, 3)) fw_X5_51 rfl
theorem o89_26 : Okp RX5 cX5_out 3 (some .int) "out" false 26 (sLR 1 27) := ok_aload_n (by decide +kernel : decode cX5_out 26 = .ok (.aload_n 1, 1)) rfl
theorem o89_27 : Okp RX5 cX5_out 3 (some .int) "out" false 27 (sGI 9 0 30) := ok_getI (by decide +kernel : decode cX5_out 27 = .ok (.getfield 248, 3)) fw_X5_248 rfl
theorem o89_30 : Okp RX5 cX5_out 3 (some .int) "out" false 30 (sIS 31) := ok_iastore (by decide +kernel : decode cX5_out 30 = .ok (.iastore, 1))
theorem o89_31 : Okp RX5 cX5_out 3 (some .int) "out" false 31 (sLR 0 32) := ok_aload_n (by decide +kernel : decode cX5_out 31 = .ok (.aload_n 0, 1)) rfl
theorem o89_32 : Okp RX5 cX5_out 3 (some .int) "out" false 32 (sGR 6 7 35) := ok_getR (by decide +kernel : decode cX5_out 32 = .ok (.getfield 48, 3)) fw_X5_48 rfl
theorem o89_35 : Okp RX5 cX5_out 3 (some .int) "out" false 35 (sLR 0 36) := ok_aload_n (by decide +kernel : decode cX5_out 35 = .ok (.aload_n 0, 1)) rfl
theorem o89_36 : Okp RX5 cX5_out 3 (some .int) "out" false 36 (sGI 6 8 39) := ok_getI (by decide +kernel : decode cX5_out 36 = .ok (.getfield 51, 3)) fw_X5_51 rfl
theorem o89_39 : Okp RX5 cX5_out 3 (some .int) "out" false 39 (sLI 2 40) := ok_iload_n (by decide +kernel : decode cX5_out 39 = .ok (.iload_n 2, 1)) rfl
theorem o89_40 : Okp RX5 cX5_out 3 (some .int) "out" false 40 (sIS 41) := ok_iastore (by decide +kernel : decode cX5_out 40 = .ok (.iastore, 1))
theorem o89_41 : Okp RX5 cX5_out 3 (some .int) "out" false 41 (sLR 0 42) := ok_aload_n (by decide +kernel : decode cX5_out 41 = .ok (.aload_n 0, 1)) rfl
theorem o89_42 : Okp RX5 cX5_out 3 (some .int) "out" false 42 (sDup 43) := ok_dup (by decide +kernel : decode cX5_out 42 = .ok (.dup, 1))
theorem o89_43 : Okp RX5 cX5_out 3 (some .int) "out" false 43 (sGI 6 8 46) := ok_getI (by decide +kernel : decode cX5_out 43 = .ok (.getfield 51, 3)) fw_X5_51 rfl
theorem o89_46 : Okp RX5 cX5_out 3 (some .int) "out" false 46 (sK 1 47) := ok_iconst (by decide +kernel : decode cX5_out 46 = .ok (.iconst 1, 1)) (by decide)
theorem o89_47 : Okp RX5 cX5_out 3 (some .int) "out" false 47 (sB2 fAdd 48) := ok_iadd (by decide +kernel : decode cX5_out 47 = .ok (.iadd, 1))
theorem o89_48 : Okp RX5 cX5_out 3 (some .int) "out" false 48 (sPI 6 8 51) := ok_putI (by decide +kernel : decode cX5_out 48 = .ok (.putfield 51, 3)) fw_X5_51 ⟨⟨tyX5_ok, nmX5⟩, Or.inl rfl, rfl⟩ rfl
theorem o89_51 : Okp RX5 cX5_out 3 (some .int) "out" false 51 (sK 0 52) := ok_iconst (by decide +kernel : decode cX5_out 51 = .ok (.iconst 0, 1)) (by decide)
theorem o89_52 : Okp RX5 cX5_out 3 (some .int) "out" false 52 sRI := ok_iret rfl (by decide +kernel : decode cX5_out 52 = .ok (.ireturn, 1))
theorem oc89_0 : ∀ pc, Mnp (c89_0 pc) ∧ Okp RX5 cX5_out 3 (some .int) "out" false pc (c89_0 pc) := by
  intro pc
  unfold c89_0
  split
  · exact ⟨mn_sLR, o89_0⟩
  · exact ⟨mn_sCV, o89_1⟩
  · exact ⟨mn_sSI, o89_4⟩
  · exact ⟨mn_sLR, o89_5⟩
  · exact ⟨mn_sGI, o89_6⟩
  · exact ⟨mn_sK, o89_9⟩
  · exact ⟨mn_sI2, o89_12⟩
  · exact ⟨mn_sK, o89_15⟩
  · exact ⟨mn_sRI, o89_17⟩
  · exact ⟨mn_sLR, o89_18⟩
  · exact ⟨mn_sGR, o89_19⟩
  · exact ⟨mn_sLR, o89_22⟩
  · exact ⟨mn_sGI, o89_23⟩
  · exact ⟨mn_sX, ok_X⟩
theorem oc89_1 : ∀ pc, Mnp (c89_1 pc) ∧ Okp RX5 cX5_out 3 (some .int) "out" false pc (c89_1 pc) := by
  intro pc
  unfold c89_1
  split
  · exact ⟨mn_sLR, o89_26⟩
  · exact ⟨mn_sGI, o89_27⟩
  · exact ⟨mn_sIS, o89_30⟩
  · exact ⟨mn_sLR, o89_31⟩
  · exact ⟨mn_sGR, o89_32⟩
  · exact ⟨mn_sLR, o89_35⟩
  · exact ⟨mn_sGI, o89_36⟩
  · exact ⟨mn_sLI, o89_39⟩
  · exact ⟨mn_sIS, o89_40⟩
  · exact ⟨mn_sLR, o89_41⟩
  · exact ⟨mn_sDup, o89_42⟩
  · exact ⟨mn_sGI, o89_43⟩
  · exact ⟨mn_sK, o89_46⟩
  · exact ⟨mn_sB2, o89_47⟩
  · exact ⟨mn_sX, ok_X⟩
theorem oc89_2 : ∀ pc, Mnp (c89_2 pc) ∧ Okp RX5 cX5_out 3 (some .int) "out" false pc (c89_2 pc) := by
  intro pc
  unfold c89_2
  split
  · exact ⟨mn_sPI, o89_48⟩
  · exact ⟨mn_sK, o89_51⟩
  · exact ⟨mn_sRI, o89_52⟩
  · exact ⟨mn_sX, ok_X⟩
theorem oc89 : ∀ pc, Mnp (c89 pc) ∧ Okp RX5 cX5_out 3 (some .int) "out" false pc (c89 pc) := by
  intro pc
  unfold c89
  split
  · exact oc89_0 pc
  · exact oc89_1 pc
  · exact oc89_2 pc
  · exact ⟨mn_sX, ok_X⟩
theorem o90_0 : Okp RX5 cX5_layInHeap 5 (some .int) "layInHeap" false 0 (sLI 3 1) := ok_iload_n (by decide +kernel : decode cX5_layInHeap 0 = .ok (.iload_n 3, 1)) rfl
theorem o90_1 : Okp RX5 cX5_layInHeap 5 (some .int) "layInHeap" false 1 (sI1 3 6 4) := ok_if_ge (by decide +kernel : decode cX5_layInHeap 1 = .ok (.ifCond .ge 5, 3)) (by decide)
theorem o90_4 : Okp RX5 cX5_layInHeap 5 (some .int) "layInHeap" false 4 (sK 4 5) := ok_iconst (by decide +kernel : decode cX5_layInHeap 4 = .ok (.iconst 4, 1)) (by decide)
theorem o90_5 : Okp RX5 cX5_layInHeap 5 (some .int) "layInHeap" false 5 sRI := ok_iret rfl (by decide +kernel : decode cX5_layInHeap 5 = .ok (.ireturn, 1))
theorem o90_6 : Okp RX5 cX5_layInHeap 5 (some .int) "layInHeap" false 6 (sLI 3 7) := ok_iload_n (by decide +kernel : decode cX5_layInHeap 6 = .ok (.iload_n 3, 1)) rfl
theorem o90_7 : Okp RX5 cX5_layInHeap 5 (some .int) "layInHeap" false 7 (sLR 1 8) := ok_aload_n (by decide +kernel : decode cX5_layInHeap 7 = .ok (.aload_n 1, 1)) rfl
theorem o90_8 : Okp RX5 cX5_layInHeap 5 (some .int) "layInHeap" false 8 (sGI 9 3 11) := ok_getI (by decide +kernel : decode cX5_layInHeap 8 = .ok (.getfield 365, 3)) fw_X5_365 rfl
theorem o90_11 : Okp RX5 cX5_layInHeap 5 (some .int) "layInHeap" false 11 (sI2 2 16 14) := ok_icmp_lt (by decide +kernel : decode cX5_layInHeap 11 = .ok (.if_icmp .lt 5, 3)) (by decide)
theorem o90_14 : Okp RX5 cX5_layInHeap 5 (some .int) "layInHeap" false 14 (sK 5 15) := ok_iconst (by decide +kernel : decode cX5_layInHeap 14 = .ok (.iconst 5, 1)) (by decide)
theorem o90_15 : Okp RX5 cX5_layInHeap 5 (some .int) "layInHeap" false 15 sRI := ok_iret rfl (by decide +kernel : decode cX5_layInHeap 15 = .ok (.ireturn, 1))
theorem o90_16 : Okp RX5 cX5_layInHeap 5 (some .int) "layInHeap" false 16 (sLI 3 17) := ok_iload_n (by decide +kernel : decode cX5_layInHeap 16 = .ok (.iload_n 3, 1)) rfl
theorem o90_17 : Okp RX5 cX5_layInHeap 5 (some .int) "layInHeap" false 17 (sLR 1 18) := ok_aload_n (by decide +kernel : decode cX5_layInHeap 17 = .ok (.aload_n 1, 1)) rfl
theorem o90_18 : Okp RX5 cX5_layInHeap 5 (some .int) "layInHeap" false 18 (sCV false 136 1 9 21) := ok_cv (by decide +kernel : decode cX5_layInHeap 18 = .ok (.invokevirtual 371, 3)) mw_X5_371 rfl (by decide) wm_X8_room wse_X8_room (by decide) rfl
theorem o90_21 : Okp RX5 cX5_layInHeap 5 (some .int) "layInHeap" false 21 (sI2 2 36 24) := ok_icmp_lt (by decide +kernel : decode cX5_layInHeap 21 = .ok (.if_icmp .lt 15, 3)) (by decide)
theorem o90_24 : Okp RX5 cX5_layInHeap 5 (some .int) "layInHeap" false 24 (sLR 0 25) := ok_aload_n (by decide +kernel : decode cX5_layInHeap 24 = .ok (.aload_n 0, 1)) rfl
theorem o90_25 : Okp RX5 cX5_layInHeap 5 (some .int) "layInHeap" false 25 (sLR 1 26) := ok_aload_n (by decide +kernel : decode cX5_layInHeap 25 = .ok (.aload_n 1, 1)) rfl
theorem o90_26 : Okp RX5 cX5_layInHeap 5 (some .int) "layInHeap" false 26 (sLR 0 27) := ok_aload_n (by decide +kernel : decode cX5_layInHeap 26 = .ok (.aload_n 0, 1)) rfl
theorem o90_27 : Okp RX5 cX5_layInHeap 5 (some .int) "layInHeap" false 27 (sGR 6 5 30) := ok_getR (by decide +kernel : decode cX5_layInHeap 27 = .ok (.getfield 41, 3)) fw_X5_41 rfl
theorem o90_30 : Okp RX5 cX5_layInHeap 5 (some .int) "layInHeap" false 30 (sCV false 141 2 9 33) := ok_cv (by decide +kernel : decode cX5_layInHeap 30 = .ok (.invokevirtual 171, 3)) mw_X5_171 rfl (by decide) wm_X8_collect wse_X8_collect (by decide) rfl
theorem o90_33 : Okp RX5 cX5_layInHeap 5 (some .int) "layInHeap" false 33 (sPR 6 5 36) := ok_putR (by decide +kernel : decode cX5_layInHeap 33 = .ok (.putfield 41, 3)) fw_X5_41 ⟨⟨tyX5_ok, nmX5⟩, Or.inl rfl, rfl⟩ (Or.inr ⟨_, rfl⟩) rfl
theorem o90_36 : Okp RX5 cX5_layInHeap 5 (some .int) "layInHeap" false 36 (sLR 1 37) := ok_aload_n (by decide +kernel : decode cX5_layInHeap 36 = .ok (.aload_n 1, 1)) rfl
theorem o90_37 : Okp RX5 cX5_layInHeap 5 (some .int) "layInHeap" false 37 (sLI 2 38) := ok_iload_n (by decide +kernel : decode cX5_layInHeap 37 = .ok (.iload_n 2, 1)) rfl
theorem o90_38 : Okp RX5 cX5_layInHeap 5 (some .int) "layInHeap" false 38 (sLI 3 39) := ok_iload_n (by decide +kernel : decode cX5_layInHeap 38 = .ok (.iload_n 3, 1)) rfl
theorem o90_39 : Okp RX5 cX5_layInHeap 5 (some .int) "layInHeap" false 39 (sB2 fAdd 40) := ok_iadd (by decide +kernel : decode cX5_layInHeap 39 = .ok (.iadd, 1))
theorem o90_40 : Okp RX5 cX5_layInHeap 5 (some .int) "layInHeap" false 40 (sCV false 137 2 9 43) := ok_cv (by decide +kernel : decode cX5_layInHeap 40 = .ok (.invokevirtual 374, 3)) mw_X5_374 rfl (by decide) wm_X8_make wse_X8_make (by decide) rfl
theorem o90_43 : Okp RX5 cX5_layInHeap 5 (some .int) "layInHeap" false 43 (sSI 4 45) := ok_istore (by decide +kernel : decode cX5_layInHeap 43 = .ok (.istore 4, 2)) (by decide) (by decide)
theorem o90_45 : Okp RX5 cX5_layInHeap 5 (some .int) "layInHeap" false 45 (sLI 4 47) := ok_iload (by decide +kernel : decode cX5_layInHeap 45 = .ok (.iload 4, 2))
theorem o90_47 : Okp RX5 cX5_layInHeap 5 (some .int) "layInHeap" false 47 (sI1 1 52 50) := ok_if_ne (by decide +kernel : decode cX5_layInHeap 47 = .ok (.ifCond .ne 5, 3)) (by decide)
theorem o90_50 : Okp RX5 cX5_layInHeap 5 (some .int) "layInHeap" false 50 (sK 5 51) := ok_iconst (by decide +kernel : decode cX5_layInHeap 50 = .ok (.iconst 5, 1)) (by decide)
theorem o90_51 : Okp RX5 cX5_layInHeap 5 (some .int) "layInHeap" false 51 sRI := ok_iret rfl (by decide +kernel : decode cX5_layInHeap 51 = .ok (.ireturn, 1))
theorem o90_52 : Okp RX5 cX5_layInHeap 5 (some .int) "layInHeap" false 52 (sLR 1 53) := ok_aload_n (by decide +kernel : decode cX5_layInHeap 52 = .ok (.aload_n 1, 1)) rfl
theorem o90_53 : Okp RX5 cX5_layInHeap 5 (some .int) "layInHeap" false 53 (sK 1 54) := ok_iconst (by decide +kernel : decode cX5_layInHeap 53 = .ok (.iconst 1, 1)) (by decide)
theorem o90_54 : Okp RX5 cX5_layInHeap 5 (some .int) "layInHeap" false 54 (sLI 4 56) := ok_iload (by decide +kernel : decode cX5_layInHeap 54 = .ok (.iload 4, 2))
theorem o90_56 : Okp RX5 cX5_layInHeap 5 (some .int) "layInHeap" false 56 (sCV false 127 3 9 59) := ok_cv (by decide +kernel : decode cX5_layInHeap 56 = .ok (.invokevirtual 305, 3)) mw_X5_305 rfl (by decide) wm_X8_push wse_X8_push (by decide) rfl
theorem o90_59 : Okp RX5 cX5_layInHeap 5 (some .int) "layInHeap" false 59 (sK 0 60) := ok_iconst (by decide +kernel : decode cX5_layInHeap 59 = .ok (.iconst 0, 1)) (by decide)
theorem o90_60 : Okp RX5 cX5_layInHeap 5 (some .int) "layInHeap" false 60 sRI := ok_iret rfl (by decide +kernel : decode cX5_layInHeap 60 = .ok (.ireturn, 1))
theorem oc90_0 : ∀ pc, Mnp (c90_0 pc) ∧ Okp RX5 cX5_layInHeap 5 (some .int) "layInHeap" false pc (c90_0 pc) := by
  intro pc
  unfold c90_0
  split
  · exact ⟨mn_sLI, o90_0⟩
  · exact ⟨mn_sI1, o90_1⟩
  · exact ⟨mn_sK, o90_4⟩
  · exact ⟨mn_sRI, o90_5⟩
  · exact ⟨mn_sLI, o90_6⟩
  · exact ⟨mn_sLR, o90_7⟩
  · exact ⟨mn_sGI, o90_8⟩
  · exact ⟨mn_sI2, o90_11⟩
  · exact ⟨mn_sK, o90_14⟩
  · exact ⟨mn_sRI, o90_15⟩
  · exact ⟨mn_sLI, o90_16⟩
  · exact ⟨mn_sLR, o90_17⟩
  · exact ⟨mn_sCV, o90_18⟩
  · exact ⟨mn_sI2, o90_21⟩
  · exact ⟨mn_sX, ok_X⟩
theorem oc90_1 : ∀ pc, Mnp (c90_1 pc) ∧ Okp RX5 cX5_layInHeap 5 (some .int) "layInHeap" false pc (c90_1 pc) := by
  intro pc
  unfold c90_1
  split
  · exact ⟨mn_sLR, o90_24⟩
  · exact ⟨mn_sLR, o90_25⟩
  · exact ⟨mn_sLR, o90_26⟩
  · exact ⟨mn_sGR, o90_27⟩
  · exact ⟨mn_sCV, o90_30⟩
  · exact ⟨mn_sPR, o90_33⟩
  · exact ⟨mn_sLR, o90_36⟩
  · exact ⟨mn_sLI, o90_37⟩
  · exact ⟨mn_sLI, o90_38⟩
  · exact ⟨mn_sB2, o90_39⟩
  · exact ⟨mn_sCV, o90_40⟩
  · exact ⟨mn_sSI, o90_43⟩
  · exact ⟨mn_sLI, o90_45⟩
  · exact ⟨mn_sI1, o90_47⟩
  · exact ⟨mn_sX, ok_X⟩
theorem oc90_2 : ∀ pc, Mnp (c90_2 pc) ∧ Okp RX5 cX5_layInHeap 5 (some .int) "layInHeap" false pc (c90_2 pc) := by
  intro pc
  unfold c90_2
  split
  · exact ⟨mn_sK, o90_50⟩
  · exact ⟨mn_sRI, o90_51⟩
  · exact ⟨mn_sLR, o90_52⟩
  · exact ⟨mn_sK, o90_53⟩
  · exact ⟨mn_sLI, o90_54⟩
  · exact ⟨mn_sCV, o90_56⟩
  · exact ⟨mn_sK, o90_59⟩
  · exact ⟨mn_sRI, o90_60⟩
  · exact ⟨mn_sX, ok_X⟩
theorem oc90 : ∀ pc, Mnp (c90 pc) ∧ Okp RX5 cX5_layInHeap 5 (some .int) "layInHeap" false pc (c90 pc) := by
  intro pc
  unfold c90
  split
  · exact oc90_0 pc
  · exact oc90_1 pc
  · exact oc90_2 pc
  · exact ⟨mn_sX, ok_X⟩
theorem o91_0 : Okp RX5 cX5_performNode 6 (some .int) "performNode" false 0 (sLI 2 1) := ok_iload_n (by decide +kernel : decode cX5_performNode 0 = .ok (.iload_n 2, 1)) rfl
theorem o91_1 : Okp RX5 cX5_performNode 6 (some .int) "performNode" false 1 (sK 24 3) := ok_bipush (by decide +kernel : decode cX5_performNode 1 = .ok (.bipush 24, 2)) (by decide)
theorem o91_3 : Okp RX5 cX5_performNode 6 (some .int) "performNode" false 3 (sI2 1 13 6) := ok_icmp_ne (by decide +kernel : decode cX5_performNode 3 = .ok (.if_icmp .ne 10, 3)) (by decide)
theorem o91_6 : Okp RX5 cX5_performNode 6 (some .int) "performNode" false 6 (sLR 1 7) := ok_aload_n (by decide +kernel : decode cX5_performNode 6 = .ok (.aload_n 1, 1)) rfl
theorem o91_7 : Okp RX5 cX5_performNode 6 (some .int) "performNode" false 7 (sCV false 128 1 9 10) := ok_cv (by decide +kernel : decode cX5_performNode 7 = .ok (.invokevirtual 277, 3)) mw_X5_277 rfl (by decide) wm_X8_pop wse_X8_pop (by decide) rfl
theorem o91_10 : Okp RX5 cX5_performNode 6 (some .int) "performNode" false 10 (sGo 14) := ok_goto (by decide +kernel : decode cX5_performNode 10 = .ok (.goto 4, 3)) (by decide)
theorem o91_13 : Okp RX5 cX5_performNode 6 (some .int) "performNode" false 13 (sK 0 14) := ok_iconst (by decide +kernel : decode cX5_performNode 13 = .ok (.iconst 0, 1)) (by decide)
theorem o91_14 : Okp RX5 cX5_performNode 6 (some .int) "performNode" false 14 (sSI 4 16) := ok_istore (by decide +kernel : decode cX5_performNode 14 = .ok (.istore 4, 2)) (by decide) (by decide)
theorem o91_16 : Okp RX5 cX5_performNode 6 (some .int) "performNode" false 16 (sLR 1 17) := ok_aload_n (by decide +kernel : decode cX5_performNode 16 = .ok (.aload_n 1, 1)) rfl
theorem o91_17 : Okp RX5 cX5_performNode 6 (some .int) "performNode" false 17 (sCV false 128 1 9 20) := ok_cv (by decide +kernel : decode cX5_performNode 17 = .ok (.invokevirtual 277, 3)) mw_X5_277 rfl (by decide) wm_X8_pop wse_X8_pop (by decide) rfl
theorem o91_20 : Okp RX5 cX5_performNode 6 (some .int) "performNode" false 20 (sSI 5 22) := ok_istore (by decide +kernel : decode cX5_performNode 20 = .ok (.istore 5, 2)) (by decide) (by decide)
theorem o91_22 : Okp RX5 cX5_performNode 6 (some .int) "performNode" false 22 (sLI 5 24) := ok_iload (by decide +kernel : decode cX5_performNode 22 = .ok (.iload 5, 2))
theorem o91_24 : Okp RX5 cX5_performNode 6 (some .int) "performNode" false 24 (sI1 1 29 27) := ok_if_ne (by decide +kernel : decode cX5_performNode 24 = .ok (.ifCond .ne 5, 3)) (by decide)
theorem o91_27 : Okp RX5 cX5_performNode 6 (some .int) "performNode" false 27 (sK 1 28) := ok_iconst (by decide +kernel : decode cX5_performNode 27 = .ok (.iconst 1, 1)) (by decide)
theorem o91_28 : Okp RX5 cX5_performNode 6 (some .int) "performNode" false 28 sRI := ok_iret rfl (by decide +kernel : decode cX5_performNode 28 = .ok (.ireturn, 1))
theorem o91_29 : Okp RX5 cX5_performNode 6 (some .int) "performNode" false 29 (sLI 2 30) := ok_iload_n (by decide +kernel : decode cX5_performNode 29 = .ok (.iload_n 2, 1)) rfl
theorem o91_30 : Okp RX5 cX5_performNode 6 (some .int) "performNode" false 30 (sK 24 32) := ok_bipush (by decide +kernel : decode cX5_performNode 30 = .ok (.bipush 24, 2)) (by decide)
theorem o91_32 : Okp RX5 cX5_performNode 6 (some .int) "performNode" false 32 (sI2 1 50 35) := ok_icmp_ne (by decide +kernel : decode cX5_performNode 32 = .ok (.if_icmp .ne 18, 3)) (by decide)
theorem o91_35 : Okp RX5 cX5_performNode 6 (some .int) "performNode" false 35 (sLR 1 36) := ok_aload_n (by decide +kernel : decode cX5_performNode 35 = .ok (.aload_n 1, 1)) rfl
theorem o91_36 : Okp RX5 cX5_performNode 6 (some .int) "performNode" false 36 (sLI 5 38) := ok_iload (by decide +kernel : decode cX5_performNode 36 = .ok (.iload 5, 2))
theorem o91_38 : Okp RX5 cX5_performNode 6 (some .int) "performNode" false 38 (sK 1 39) := ok_iconst (by decide +kernel : decode cX5_performNode 38 = .ok (.iconst 1, 1)) (by decide)
theorem o91_39 : Okp RX5 cX5_performNode 6 (some .int) "performNode" false 39 (sB2 fAdd 40) := ok_iadd (by decide +kernel : decode cX5_performNode 39 = .ok (.iadd, 1))
theorem o91_40 : Okp RX5 cX5_performNode 6 (some .int) "performNode" false 40 (sLI 3 41) := ok_iload_n (by decide +kernel : decode cX5_performNode 40 = .ok (.iload_n 3, 1)) rfl
theorem o91_41 : Okp RX5 cX5_performNode 6 (some .int) "performNode" false 41 (sB2 fAdd 42) := ok_iadd (by decide +kernel : decode cX5_performNode 41 = .ok (.iadd, 1))
theorem o91_42 : Okp RX5 cX5_performNode 6 (some .int) "performNode" false 42 (sLI 4 44) := ok_iload (by decide +kernel : decode cX5_performNode 42 = .ok (.iload 4, 2))
theorem o91_44 : Okp RX5 cX5_performNode 6 (some .int) "performNode" false 44 (sCV false 135 3 9 47) := ok_cv (by decide +kernel : decode cX5_performNode 44 = .ok (.invokevirtual 376, 3)) mw_X5_376 rfl (by decide) wm_X8_setCell wse_X8_setCell (by decide) rfl
theorem o91_47 : Okp RX5 cX5_performNode 6 (some .int) "performNode" false 47 (sGo 71) := ok_goto (by decide +kernel : decode cX5_performNode 47 = .ok (.goto 24, 3)) (by decide)
theorem o91_50 : Okp RX5 cX5_performNode 6 (some .int) "performNode" false 50 (sLR 1 51) := ok_aload_n (by decide +kernel : decode cX5_performNode 50 = .ok (.aload_n 1, 1)) rfl
theorem o91_51 : Okp RX5 cX5_performNode 6 (some .int) "performNode" false 51 (sLR 1 52) := ok_aload_n (by decide +kernel : decode cX5_performNode 51 = .ok (.aload_n 1, 1)) rfl
theorem o91_52 : Okp RX5 cX5_performNode 6 (some .int) "performNode" false 52 (sLI 5 54) := ok_iload (by decide +kernel : decode cX5_performNode 52 = .ok (.iload 5, 2))
theorem o91_54 : Okp RX5 cX5_performNode 6 (some .int) "performNode" false 54 (sLI 3 55) := ok_iload_n (by decide +kernel : decode cX5_performNode 54 = .ok (.iload_n 3, 1)) rfl
theorem o91_55 : Okp RX5 cX5_performNode 6 (some .int) "performNode" false 55 (sCV false 140 3 9 58) := ok_cv (by decide +kernel : decode cX5_performNode 55 = .ok (.invokevirtual 379, 3)) mw_X5_379 rfl (by decide) wm_X8_kindOfField wse_X8_kindOfField (by decide) rfl
theorem o91_58 : Okp RX5 cX5_performNode 6 (some .int) "performNode" false 58 (sLR 1 59) := ok_aload_n (by decide +kernel : decode cX5_performNode 58 = .ok (.aload_n 1, 1)) rfl
theorem o91_59 : Okp RX5 cX5_performNode 6 (some .int) "performNode" false 59 (sLI 5 61) := ok_iload (by decide +kernel : decode cX5_performNode 59 = .ok (.iload 5, 2))
theorem o91_61 : Okp RX5 cX5_performNode 6 (some .int) "performNode" false 61 (sK 1 62) := ok_iconst (by decide +kernel : decode cX5_performNode 61 = .ok (.iconst 1, 1)) (by decide)
theorem o91_62 : Okp RX5 cX5_performNode 6 (some .int) "performNode" false 62 (sB2 fAdd 63) := ok_iadd (by decide +kernel : decode cX5_performNode 62 = .ok (.iadd, 1))
theorem o91_63 : Okp RX5 cX5_performNode 6 (some .int) "performNode" false 63 (sLI 3 64) := ok_iload_n (by decide +kernel : decode cX5_performNode 63 = .ok (.iload_n 3, 1)) rfl
theorem o91_64 : Okp RX5 cX5_performNode 6 (some .int) "performNode" false 64 (sB2 fAdd 65) := ok_iadd (by decide +kernel : decode cX5_performNode 64 = .ok (.iadd, 1))
theorem o91_65 : Okp RX5 cX5_performNode 6 (some .int) "performNode" false 65 (sCV false 134 2 9 68) := ok_cv (by decide +kernel : decode cX5_performNode 65 = .ok (.invokevirtual 382, 3)) mw_X5_382 rfl (by decide) wm_X8_cellAt wse_X8_cellAt (by decide) rfl
theorem o91_68 : Okp RX5 cX5_performNode 6 (some .int) "performNode" false 68 (sCV false 127 3 9 71) := ok_cv (by decide +kernel : decode cX5_performNode 68 = .ok (.invokevirtual 305, 3)) mw_X5_305 rfl (by decide) wm_X8_push wse_X8_push (by decide) rfl
theorem o91_71 : Okp RX5 cX5_performNode 6 (some .int) "performNode" false 71 (sK 0 72) := ok_iconst (by decide +kernel : decode cX5_performNode 71 = .ok (.iconst 0, 1)) (by decide)
theorem o91_72 : Okp RX5 cX5_performNode 6 (some .int) "performNode" false 72 sRI := ok_iret rfl (by decide +kernel : decode cX5_performNode 72 = .ok (.ireturn, 1))
theorem oc91_0 : ∀ pc, Mnp (c91_0 pc) ∧ Okp RX5 cX5_performNode 6 (some .int) "performNode" false pc (c91_0 pc) := by
  intro pc
  unfold c91_0
  split
  · exact ⟨mn_sLI, o91_0⟩
  · exact ⟨mn_sK, o91_1⟩
  · exact ⟨mn_sI2, o91_3⟩
  · exact ⟨mn_sLR, o91_6⟩
  · exact ⟨mn_sCV, o91_7⟩
  · exact ⟨mn_sGo, o91_10⟩
  · exact ⟨mn_sK, o91_13⟩
  · exact ⟨mn_sSI, o91_14⟩
  · exact ⟨mn_sLR, o91_16⟩
  · exact ⟨mn_sCV, o91_17⟩
  · exact ⟨mn_sSI, o91_20⟩
  · exact ⟨mn_sLI, o91_22⟩
  · exact ⟨mn_sX, ok_X⟩
theorem oc91_1 : ∀ pc, Mnp (c91_1 pc) ∧ Okp RX5 cX5_performNode 6 (some .int) "performNode" false pc (c91_1 pc) := by
  intro pc
  unfold c91_1
  split
  · exact ⟨mn_sI1, o91_24⟩
  · exact ⟨mn_sK, o91_27⟩
  · exact ⟨mn_sRI, o91_28⟩
  · exact ⟨mn_sLI, o91_29⟩
  · exact ⟨mn_sK, o91_30⟩
  · exact ⟨mn_sI2, o91_32⟩
  · exact ⟨mn_sLR, o91_35⟩
  · exact ⟨mn_sLI, o91_36⟩
  · exact ⟨mn_sK, o91_38⟩
  · exact ⟨mn_sB2, o91_39⟩
  · exact ⟨mn_sLI, o91_40⟩
  · exact ⟨mn_sB2, o91_41⟩
  · exact ⟨mn_sLI, o91_42⟩
  · exact ⟨mn_sCV, o91_44⟩
  · exact ⟨mn_sGo, o91_47⟩
  · exact ⟨mn_sX, ok_X⟩
theorem oc91_2 : ∀ pc, Mnp (c91_2 pc) ∧ Okp RX5 cX5_performNode 6 (some .int) "performNode" false pc (c91_2 pc) := by
  intro pc
  unfold c91_2
  split
  · exact ⟨mn_sLR, o91_50⟩
  · exact ⟨mn_sLR, o91_51⟩
  · exact ⟨mn_sLI, o91_52⟩
  · exact ⟨mn_sLI, o91_54⟩
  · exact ⟨mn_sCV, o91_55⟩
  · exact ⟨mn_sLR, o91_58⟩
  · exact ⟨mn_sLI, o91_59⟩
  · exact ⟨mn_sK, o91_61⟩
  · exact ⟨mn_sB2, o91_62⟩
  · exact ⟨mn_sLI, o91_63⟩
  · exact ⟨mn_sB2, o91_64⟩
  · exact ⟨mn_sCV, o91_65⟩
  · exact ⟨mn_sCV, o91_68⟩
  · exact ⟨mn_sK, o91_71⟩
  · exact ⟨mn_sX, ok_X⟩
theorem oc91_3 : ∀ pc, Mnp (c91_3 pc) ∧ Okp RX5 cX5_performNode 6 (some .int) "performNode" false pc (c91_3 pc) := by
  intro pc
  unfold c91_3
  split
  · exact ⟨mn_sRI, o91_72⟩
  · exact ⟨mn_sX, ok_X⟩
theorem oc91 : ∀ pc, Mnp (c91 pc) ∧ Okp RX5 cX5_performNode 6 (some .int) "performNode" false pc (c91 pc) := by
  intro pc
  unfold c91
  split
  · exact oc91_0 pc
  · exact oc91_1 pc
  · exact oc91_2 pc
  · exact oc91_3 pc
  · exact ⟨mn_sX, ok_X⟩
theorem o92_0 : Okp RX5 cX5_performRow 7 (some .int) "performRow" false 0 (sLI 2 1) := ok_iload_n (by decide +kernel : decode cX5_performRow 0 = .ok (.iload_n 2, 1)) rfl
theorem o92_1 : Okp RX5 cX5_performRow 7 (some .int) "performRow" false 1 (sK 29 3) := ok_bipush (by decide +kernel : decode cX5_performRow 1 = .ok (.bipush 29, 2)) (by decide)
theorem o92_3 : Okp RX5 cX5_performRow 7 (some .int) "performRow" false 3 (sI2 1 13 6) := ok_icmp_ne (by decide +kernel : decode cX5_performRow 3 = .ok (.if_icmp .ne 10, 3)) (by decide)
theorem o92_6 : Okp RX5 cX5_performRow 7 (some .int) "performRow" false 6 (sLR 1 7) := ok_aload_n (by decide +kernel : decode cX5_performRow 6 = .ok (.aload_n 1, 1)) rfl
theorem o92_7 : Okp RX5 cX5_performRow 7 (some .int) "performRow" false 7 (sCV false 128 1 9 10) := ok_cv (by decide +kernel : decode cX5_performRow 7 = .ok (.invokevirtual 277, 3)) mw_X5_277 rfl (by decide) wm_X8_pop wse_X8_pop (by decide) rfl
theorem o92_10 : Okp RX5 cX5_performRow 7 (some .int) "performRow" false 10 (sGo 14) := ok_goto (by decide +kernel : decode cX5_performRow 10 = .ok (.goto 4, 3)) (by decide)
theorem o92_13 : Okp RX5 cX5_performRow 7 (some .int) "performRow" false 13 (sK 0 14) := ok_iconst (by decide +kernel : decode cX5_performRow 13 = .ok (.iconst 0, 1)) (by decide)
theorem o92_14 : Okp RX5 cX5_performRow 7 (some .int) "performRow" false 14 (sSI 3 15) := ok_istore_n (by decide +kernel : decode cX5_performRow 14 = .ok (.istore_n 3, 1)) rfl (by decide) (by decide)
theorem o92_15 : Okp RX5 cX5_performRow 7 (some .int) "performRow" false 15 (sLI 2 16) := ok_iload_n (by decide +kernel : decode cX5_performRow 15 = .ok (.iload_n 2, 1)) rfl
theorem o92_16 : Okp RX5 cX5_performRow 7 (some .int) "performRow" false 16 (sK 27 18) := ok_bipush (by decide +kernel : decode cX5_performRow 16 = .ok (.bipush 27, 2)) (by decide)
theorem o92_18 : Okp RX5 cX5_performRow 7 (some .int) "performRow" false 18 (sI2 1 25 21) := ok_icmp_ne (by decide +kernel : decode cX5_performRow 18 = .ok (.if_icmp .ne 7, 3)) (by decide)
theorem o92_21 : Okp RX5 cX5_performRow 7 (some .int) "performRow" false 21 (sK 0 22) := ok_iconst (by decide +kernel : decode cX5_performRow 21 = .ok (.iconst 0, 1)) (by decide)
theorem o92_22 : Okp RX5 cX5_performRow 7 (some .int) "performRow" false 22 (sGo 29) := ok_goto (by decide +kernel : decode cX5_performRow 22 = .ok (.goto 7, 3)) (by decide)
theorem o92_25 : Okp RX5 cX5_performRow 7 (some .int) "performRow" false 25 (sLR 1 26) := ok_aload_n (by decide +kernel : decode cX5_performRow 25 = .ok (.aload_n 1, 1)) rfl
theorem o92_26 : Okp RX5 cX5_performRow 7 (some .int) "performRow" false 26 (sCV false 128 1 9 29) := ok_cv (by decide +kernel : decode cX5_performRow 26 = .ok (.invokevirtual 277, 3)) mw_X5_277 rfl (by decide) wm_X8_pop wse_X8_pop (by decide) rfl
theorem o92_29 : Okp RX5 cX5_performRow 7 (some .int) "performRow" false 29 (sSI 4 31) := ok_istore (by decide +kernel : decode cX5_performRow 29 = .ok (.istore 4, 2)) (by decide) (by decide)
theorem o92_31 : Okp RX5 cX5_performRow 7 (some .int) "performRow" false 31 (sLR 1 32) := ok_aload_n (by decide +kernel : decode cX5_performRow 31 = .ok (.aload_n 1, 1)) rfl
theorem o92_32 : Okp RX5 cX5_performRow 7 (some .int) "performRow" false 32 (sCV false 128 1 9 35) := ok_cv (by decide +kernel : decode cX5_performRow 32 = .ok (.invokevirtual 277, 3)) mw_X5_277 rfl (by decide) wm_X8_pop wse_X8_pop (by decide) rfl
theorem o92_35 : Okp RX5 cX5_performRow 7 (some .int) "performRow" false 35 (sSI 5 37) := ok_istore (by decide +kernel : decode cX5_performRow 35 = .ok (.istore 5, 2)) (by decide) (by decide)
theorem o92_37 : Okp RX5 cX5_performRow 7 (some .int) "performRow" false 37 (sLI 5 39) := ok_iload (by decide +kernel : decode cX5_performRow 37 = .ok (.iload 5, 2))
theorem o92_39 : Okp RX5 cX5_performRow 7 (some .int) "performRow" false 39 (sI1 1 44 42) := ok_if_ne (by decide +kernel : decode cX5_performRow 39 = .ok (.ifCond .ne 5, 3)) (by decide)
theorem o92_42 : Okp RX5 cX5_performRow 7 (some .int) "performRow" false 42 (sK 1 43) := ok_iconst (by decide +kernel : decode cX5_performRow 42 = .ok (.iconst 1, 1)) (by decide)
theorem o92_43 : Okp RX5 cX5_performRow 7 (some .int) "performRow" false 43 sRI := ok_iret rfl (by decide +kernel : decode cX5_performRow 43 = .ok (.ireturn, 1))
theorem o92_44 : Okp RX5 cX5_performRow 7 (some .int) "performRow" false 44 (sLR 1 45) := ok_aload_n (by decide +kernel : decode cX5_performRow 44 = .ok (.aload_n 1, 1)) rfl
theorem o92_45 : Okp RX5 cX5_performRow 7 (some .int) "performRow" false 45 (sLI 5 47) := ok_iload (by decide +kernel : decode cX5_performRow 45 = .ok (.iload 5, 2))
theorem o92_47 : Okp RX5 cX5_performRow 7 (some .int) "performRow" false 47 (sCV false 138 2 9 50) := ok_cv (by decide +kernel : decode cX5_performRow 47 = .ok (.invokevirtual 385, 3)) mw_X5_385 rfl (by decide) wm_X8_lengthOf wse_X8_lengthOf (by decide) rfl
theorem o92_50 : Okp RX5 cX5_performRow 7 (some .int) "performRow" false 50 (sSI 6 52) := ok_istore (by decide +kernel : decode cX5_performRow 50 = .ok (.istore 6, 2)) (by decide) (by decide)
theorem o92_52 : Okp RX5 cX5_performRow 7 (some .int) "performRow" false 52 (sLI 2 53) := ok_iload_n (by decide +kernel : decode cX5_performRow 52 = .ok (.iload_n 2, 1)) rfl
theorem o92_53 : Okp RX5 cX5_performRow 7 (some .int) "performRow" false 53 (sK 27 55) := ok_bipush (by decide +kernel : decode cX5_performRow 53 = .ok (.bipush 27, 2)) (by decide)
theorem o92_55 : Okp RX5 cX5_performRow 7 (some .int) "performRow" false 55 (sI2 1 67 58) := ok_icmp_ne (by decide +kernel : decode cX5_performRow 55 = .ok (.if_icmp .ne 12, 3)) (by decide)
theorem o92_58 : Okp RX5 cX5_performRow 7 (some .int) "performRow" false 58 (sLR 1 59) := ok_aload_n (by decide +kernel : decode cX5_performRow 58 = .ok (.aload_n 1, 1)) rfl
theorem o92_59 : Okp RX5 cX5_performRow 7 (some .int) "performRow" false 59 (sK 0 60) := ok_iconst (by decide +kernel : decode cX5_performRow 59 = .ok (.iconst 0, 1)) (by decide)
theorem o92_60 : Okp RX5 cX5_performRow 7 (some .int) "performRow" false 60 (sLI 6 62) := ok_iload (by decide +kernel : decode cX5_performRow 60 = .ok (.iload 6, 2))
theorem o92_62 : Okp RX5 cX5_performRow 7 (some .int) "performRow" false 62 (sCV false 127 3 9 65) := ok_cv (by decide +kernel : decode cX5_performRow 62 = .ok (.invokevirtual 305, 3)) mw_X5_305 rfl (by decide) wm_X8_push wse_X8_push (by decide) rfl
theorem o92_65 : Okp RX5 cX5_performRow 7 (some .int) "performRow" false 65 (sK 0 66) := ok_iconst (by decide +kernel : decode cX5_performRow 65 = .ok (.iconst 0, 1)) (by decide)
theorem o92_66 : Okp RX5 cX5_performRow 7 (some .int) "performRow" false 66 sRI := ok_iret rfl (by decide +kernel : decode cX5_performRow 66 = .ok (.ireturn, 1))
theorem o92_67 : Okp RX5 cX5_performRow 7 (some .int) "performRow" false 67 (sLI 4 69) := ok_iload (by decide +kernel : decode cX5_performRow 67 = .ok (.iload 4, 2))
theorem o92_69 : Okp RX5 cX5_performRow 7 (some .int) "performRow" false 69 (sI1 2 79 72) := ok_if_lt (by decide +kernel : decode cX5_performRow 69 = .ok (.ifCond .lt 10, 3)) (by decide)
theorem o92_72 : Okp RX5 cX5_performRow 7 (some .int) "performRow" false 72 (sLI 4 74) := ok_iload (by decide +kernel : decode cX5_performRow 72 = .ok (.iload 4, 2))
theorem o92_74 : Okp RX5 cX5_performRow 7 (some .int) "performRow" false 74 (sLI 6 76) := ok_iload (by decide +kernel : decode cX5_performRow 74 = .ok (.iload 6, 2))
theorem o92_76 : Okp RX5 cX5_performRow 7 (some .int) "performRow" false 76 (sI2 2 81 79) := ok_icmp_lt (by decide +kernel : decode cX5_performRow 76 = .ok (.if_icmp .lt 5, 3)) (by decide)
theorem o92_79 : Okp RX5 cX5_performRow 7 (some .int) "performRow" false 79 (sK 2 80) := ok_iconst (by decide +kernel : decode cX5_performRow 79 = .ok (.iconst 2, 1)) (by decide)
theorem o92_80 : Okp RX5 cX5_performRow 7 (some .int) "performRow" false 80 sRI := ok_iret rfl (by decide +kernel : decode cX5_performRow 80 = .ok (.ireturn, 1))
theorem o92_81 : Okp RX5 cX5_performRow 7 (some .int) "performRow" false 81 (sLI 2 82) := ok_iload_n (by decide +kernel : decode cX5_performRow 81 = .ok (.iload_n 2, 1)) rfl
theorem o92_82 : Okp RX5 cX5_performRow 7 (some .int) "performRow" false 82 (sK 29 84) := ok_bipush (by decide +kernel : decode cX5_performRow 82 = .ok (.bipush 29, 2)) (by decide)
theorem o92_84 : Okp RX5 cX5_performRow 7 (some .int) "performRow" false 84 (sI2 1 102 87) := ok_icmp_ne (by decide +kernel : decode cX5_performRow 84 = .ok (.if_icmp .ne 18, 3)) (by decide)
theorem o92_87 : Okp RX5 cX5_performRow 7 (some .int) "performRow" false 87 (sLR 1 88) := ok_aload_n (by decide +kernel : decode cX5_performRow 87 = .ok (.aload_n 1, 1)) rfl
theorem o92_88 : Okp RX5 cX5_performRow 7 (some .int) "performRow" false 88 (sLI 5 90) := ok_iload (by decide +kernel : decode cX5_performRow 88 = .ok (.iload 5, 2))
theorem o92_90 : Okp RX5 cX5_performRow 7 (some .int) "performRow" false 90 (sK 1 91) := ok_iconst (by decide +kernel : decode cX5_performRow 90 = .ok (.iconst 1, 1)) (by decide)
theorem o92_91 : Okp RX5 cX5_performRow 7 (some .int) "performRow" false 91 (sB2 fAdd 92) := ok_iadd (by decide +kernel : decode cX5_performRow 91 = .ok (.iadd, 1))
theorem o92_92 : Okp RX5 cX5_performRow 7 (some .int) "performRow" false 92 (sLI 4 94) := ok_iload (by decide +kernel : decode cX5_performRow 92 = .ok (.iload 4, 2))
theorem o92_94 : Okp RX5 cX5_performRow 7 (some .int) "performRow" false 94 (sB2 fAdd 95) := ok_iadd (by decide +kernel : decode cX5_performRow 94 = .ok (.iadd, 1))
theorem o92_95 : Okp RX5 cX5_performRow 7 (some .int) "performRow" false 95 (sLI 3 96) := ok_iload_n (by decide +kernel : decode cX5_performRow 95 = .ok (.iload_n 3, 1)) rfl
theorem o92_96 : Okp RX5 cX5_performRow 7 (some .int) "performRow" false 96 (sCV false 135 3 9 99) := ok_cv (by decide +kernel : decode cX5_performRow 96 = .ok (.invokevirtual 376, 3)) mw_X5_376 rfl (by decide) wm_X8_setCell wse_X8_setCell (by decide) rfl
theorem o92_99 : Okp RX5 cX5_performRow 7 (some .int) "performRow" false 99 (sGo 123) := ok_goto (by decide +kernel : decode cX5_performRow 99 = .ok (.goto 24, 3)) (by decide)
theorem o92_102 : Okp RX5 cX5_performRow 7 (some .int) "performRow" false 102 (sLR 1 103) := ok_aload_n (by decide +kernel : decode cX5_performRow 102 = .ok (.aload_n 1, 1)) rfl
theorem o92_103 : Okp RX5 cX5_performRow 7 (some .int) "performRow" false 103 (sLR 1 104) := ok_aload_n (by decide +kernel : decode cX5_performRow 103 = .ok (.aload_n 1, 1)) rfl
theorem o92_104 : Okp RX5 cX5_performRow 7 (some .int) "performRow" false 104 (sLI 5 106) := ok_iload (by decide +kernel : decode cX5_performRow 104 = .ok (.iload 5, 2))
theorem o92_106 : Okp RX5 cX5_performRow 7 (some .int) "performRow" false 106 (sCV false 139 2 9 109) := ok_cv (by decide +kernel : decode cX5_performRow 106 = .ok (.invokevirtual 388, 3)) mw_X5_388 rfl (by decide) wm_X8_kindOfItem wse_X8_kindOfItem (by decide) rfl
theorem o92_109 : Okp RX5 cX5_performRow 7 (some .int) "performRow" false 109 (sLR 1 110) := ok_aload_n (by decide +kernel : decode cX5_performRow 109 = .ok (.aload_n 1, 1)) rfl
theorem o92_110 : Okp RX5 cX5_performRow 7 (some .int) "performRow" false 110 (sLI 5 112) := ok_iload (by decide +kernel : decode cX5_performRow 110 = .ok (.iload 5, 2))
theorem o92_112 : Okp RX5 cX5_performRow 7 (some .int) "performRow" false 112 (sK 1 113) := ok_iconst (by decide +kernel : decode cX5_performRow 112 = .ok (.iconst 1, 1)) (by decide)
theorem o92_113 : Okp RX5 cX5_performRow 7 (some .int) "performRow" false 113 (sB2 fAdd 114) := ok_iadd (by decide +kernel : decode cX5_performRow 113 = .ok (.iadd, 1))
theorem o92_114 : Okp RX5 cX5_performRow 7 (some .int) "performRow" false 114 (sLI 4 116) := ok_iload (by decide +kernel : decode cX5_performRow 114 = .ok (.iload 4, 2))
theorem o92_116 : Okp RX5 cX5_performRow 7 (some .int) "performRow" false 116 (sB2 fAdd 117) := ok_iadd (by decide +kernel : decode cX5_performRow 116 = .ok (.iadd, 1))
theorem o92_117 : Okp RX5 cX5_performRow 7 (some .int) "performRow" false 117 (sCV false 134 2 9 120) := ok_cv (by decide +kernel : decode cX5_performRow 117 = .ok (.invokevirtual 382, 3)) mw_X5_382 rfl (by decide) wm_X8_cellAt wse_X8_cellAt (by decide) rfl
theorem o92_120 : Okp RX5 cX5_performRow 7 (some .int) "performRow" false 120 (sCV false 127 3 9 123) := ok_cv (by decide +kernel : decode cX5_performRow 120 = .ok (.invokevirtual 305, 3)) mw_X5_305 rfl (by decide) wm_X8_push wse_X8_push (by decide) rfl
theorem o92_123 : Okp RX5 cX5_performRow 7 (some .int) "performRow" false 123 (sK 0 124) := ok_iconst (by decide +kernel : decode cX5_performRow 123 = .ok (.iconst 0, 1)) (by decide)
theorem o92_124 : Okp RX5 cX5_performRow 7 (some .int) "performRow" false 124 sRI := ok_iret rfl (by decide +kernel : decode cX5_performRow 124 = .ok (.ireturn, 1))
theorem oc92_0 : ∀ pc, Mnp (c92_0 pc) ∧ Okp RX5 cX5_performRow 7 (some .int) "performRow" false pc (c92_0 pc) := by
  intro pc
  unfold c92_0
  split
  · exact ⟨mn_sLI, o92_0⟩
  · exact ⟨mn_sK, o92_1⟩
  · exact ⟨mn_sI2, o92_3⟩
  · exact ⟨mn_sLR, o92_6⟩
  · exact ⟨mn_sCV, o92_7⟩
  · exact ⟨mn_sGo, o92_10⟩
  · exact ⟨mn_sK, o92_13⟩
  · exact ⟨mn_sSI, o92_14⟩
  · exact ⟨mn_sLI, o92_15⟩
  · exact ⟨mn_sK, o92_16⟩
  · exact ⟨mn_sI2, o92_18⟩
  · exact ⟨mn_sK, o92_21⟩
  · exact ⟨mn_sGo, o92_22⟩
  · exact ⟨mn_sX, ok_X⟩
theorem oc92_1 : ∀ pc, Mnp (c92_1 pc) ∧ Okp RX5 cX5_performRow 7 (some .int) "performRow" false pc (c92_1 pc) := by
  intro pc
  unfold c92_1
  split
  · exact ⟨mn_sLR, o92_25⟩
  · exact ⟨mn_sCV, o92_26⟩
  · exact ⟨mn_sSI, o92_29⟩
  · exact ⟨mn_sLR, o92_31⟩
  · exact ⟨mn_sCV, o92_32⟩
  · exact ⟨mn_sSI, o92_35⟩
  · exact ⟨mn_sLI, o92_37⟩
  · exact ⟨mn_sI1, o92_39⟩
  · exact ⟨mn_sK, o92_42⟩
  · exact ⟨mn_sRI, o92_43⟩
  · exact ⟨mn_sLR, o92_44⟩
  · exact ⟨mn_sLI, o92_45⟩
  · exact ⟨mn_sCV, o92_47⟩
  · exact ⟨mn_sX, ok_X⟩
theorem oc92_2 : ∀ pc, Mnp (c92_2 pc) ∧ Okp RX5 cX5_performRow 7 (some .int) "performRow" false pc (c92_2 pc) := by
  intro pc
  unfold c92_2
  split
  · exact ⟨mn_sSI, o92_50⟩
  · exact ⟨mn_sLI, o92_52⟩
  · exact ⟨mn_sK, o92_53⟩
  · exact ⟨mn_sI2, o92_55⟩
  · exact ⟨mn_sLR, o92_58⟩
  · exact ⟨mn_sK, o92_59⟩
  · exact ⟨mn_sLI, o92_60⟩
  · exact ⟨mn_sCV, o92_62⟩
  · exact ⟨mn_sK, o92_65⟩
  · exact ⟨mn_sRI, o92_66⟩
  · exact ⟨mn_sLI, o92_67⟩
  · exact ⟨mn_sI1, o92_69⟩
  · exact ⟨mn_sX, ok_X⟩
theorem oc92_3 : ∀ pc, Mnp (c92_3 pc) ∧ Okp RX5 cX5_performRow 7 (some .int) "performRow" false pc (c92_3 pc) := by
  intro pc
  unfold c92_3
  split
  · exact ⟨mn_sLI, o92_72⟩
  · exact ⟨mn_sLI, o92_74⟩
  · exact ⟨mn_sI2, o92_76⟩
  · exact ⟨mn_sK, o92_79⟩
  · exact ⟨mn_sRI, o92_80⟩
  · exact ⟨mn_sLI, o92_81⟩
  · exact ⟨mn_sK, o92_82⟩
  · exact ⟨mn_sI2, o92_84⟩
  · exact ⟨mn_sLR, o92_87⟩
  · exact ⟨mn_sLI, o92_88⟩
  · exact ⟨mn_sK, o92_90⟩
  · exact ⟨mn_sB2, o92_91⟩
  · exact ⟨mn_sLI, o92_92⟩
  · exact ⟨mn_sB2, o92_94⟩
  · exact ⟨mn_sLI, o92_95⟩
  · exact ⟨mn_sX, ok_X⟩
theorem oc92_4 : ∀ pc, Mnp (c92_4 pc) ∧ Okp RX5 cX5_performRow 7 (some .int) "performRow" false pc (c92_4 pc) := by
  intro pc
  unfold c92_4
  split
  · exact ⟨mn_sCV, o92_96⟩
  · exact ⟨mn_sGo, o92_99⟩
  · exact ⟨mn_sLR, o92_102⟩
  · exact ⟨mn_sLR, o92_103⟩
  · exact ⟨mn_sLI, o92_104⟩
  · exact ⟨mn_sCV, o92_106⟩
  · exact ⟨mn_sLR, o92_109⟩
  · exact ⟨mn_sLI, o92_110⟩
  · exact ⟨mn_sK, o92_112⟩
  · exact ⟨mn_sB2, o92_113⟩
  · exact ⟨mn_sLI, o92_114⟩
  · exact ⟨mn_sB2, o92_116⟩
  · exact ⟨mn_sCV, o92_117⟩
  · exact ⟨mn_sX, ok_X⟩
theorem oc92_5 : ∀ pc, Mnp (c92_5 pc) ∧ Okp RX5 cX5_performRow 7 (some .int) "performRow" false pc (c92_5 pc) := by
  intro pc
  unfold c92_5
  split
  · exact ⟨mn_sCV, o92_120⟩
  · exact ⟨mn_sK, o92_123⟩
  · exact ⟨mn_sRI, o92_124⟩
  · exact ⟨mn_sX, ok_X⟩
theorem oc92 : ∀ pc, Mnp (c92 pc) ∧ Okp RX5 cX5_performRow 7 (some .int) "performRow" false pc (c92 pc) := by
  intro pc
  unfold c92
  split
  · exact oc92_0 pc
  · exact oc92_1 pc
  · exact oc92_2 pc
  · exact oc92_3 pc
  · exact oc92_4 pc
  · exact oc92_5 pc
  · exact ⟨mn_sX, ok_X⟩
theorem o93_0 : Okp RX5 cX5_performBlock 6 (some .int) "performBlock" false 0 (sLI 2 1) := ok_iload_n (by decide +kernel : decode cX5_performBlock 0 = .ok (.iload_n 2, 1)) rfl
theorem o93_1 : Okp RX5 cX5_performBlock 6 (some .int) "performBlock" false 1 (sK 32 3) := ok_bipush (by decide +kernel : decode cX5_performBlock 1 = .ok (.bipush 32, 2)) (by decide)
theorem o93_3 : Okp RX5 cX5_performBlock 6 (some .int) "performBlock" false 3 (sI2 1 45 6) := ok_icmp_ne (by decide +kernel : decode cX5_performBlock 3 = .ok (.if_icmp .ne 42, 3)) (by decide)
theorem o93_6 : Okp RX5 cX5_performBlock 6 (some .int) "performBlock" false 6 (sLR 0 7) := ok_aload_n (by decide +kernel : decode cX5_performBlock 6 = .ok (.aload_n 0, 1)) rfl
theorem o93_7 : Okp RX5 cX5_performBlock 6 (some .int) "performBlock" false 7 (sGR 6 3 10) := ok_getR (by decide +kernel : decode cX5_performBlock 7 = .ok (.getfield 28, 3)) fw_X5_28 rfl
theorem o93_10 : Okp RX5 cX5_performBlock 6 (some .int) "performBlock" false 10 (sLR 1 11) := ok_aload_n (by decide +kernel : decode cX5_performBlock 10 = .ok (.aload_n 1, 1)) rfl
theorem o93_11 : Okp RX5 cX5_performBlock 6 (some .int) "performBlock" false 11 (sGR 9 1 14) := ok_getR (by decide +kernel : decode cX5_performBlock 11 = .ok (.getfield 192, 3)) fw_X5_192 rfl
theorem o93_14 : Okp RX5 cX5_performBlock 6 (some .int) "performBlock" false 14 (sLI 3 15) := ok_iload_n (by decide +kernel : decode cX5_performBlock 14 = .ok (.iload_n 3, 1)) rfl
theorem o93_15 : Okp RX5 cX5_performBlock 6 (some .int) "performBlock" false 15 (sCV false 152 2 10 18) := ok_cv (by decide +kernel : decode cX5_performBlock 15 = .ok (.invokevirtual 270, 3)) mw_X5_270 rfl (by decide) wm_X9_sizeOfRecord wse_X9_sizeOfRecord (by decide) rfl
theorem o93_18 : Okp RX5 cX5_performBlock 6 (some .int) "performBlock" false 18 (sLR 1 19) := ok_aload_n (by decide +kernel : decode cX5_performBlock 18 = .ok (.aload_n 1, 1)) rfl
theorem o93_19 : Okp RX5 cX5_performBlock 6 (some .int) "performBlock" false 19 (sGI 9 0 22) := ok_getI (by decide +kernel : decode cX5_performBlock 19 = .ok (.getfield 248, 3)) fw_X5_248 rfl
theorem o93_22 : Okp RX5 cX5_performBlock 6 (some .int) "performBlock" false 22 (sCV false 2 3 1 25) := ok_cv (by decide +kernel : decode cX5_performBlock 22 = .ok (.invokevirtual 391, 3)) mw_X5_391 rfl (by decide) wm_X0_make wse_X0_make (by decide) rfl
theorem o93_25 : Okp RX5 cX5_performBlock 6 (some .int) "performBlock" false 25 (sSI 4 27) := ok_istore (by decide +kernel : decode cX5_performBlock 25 = .ok (.istore 4, 2)) (by decide) (by decide)
theorem o93_27 : Okp RX5 cX5_performBlock 6 (some .int) "performBlock" false 27 (sLI 4 29) := ok_iload (by decide +kernel : decode cX5_performBlock 27 = .ok (.iload 4, 2))
theorem o93_29 : Okp RX5 cX5_performBlock 6 (some .int) "performBlock" false 29 (sK (-1) 30) := ok_iconst (by decide +kernel : decode cX5_performBlock 29 = .ok (.iconst (-1), 1)) (by decide)
theorem o93_30 : Okp RX5 cX5_performBlock 6 (some .int) "performBlock" false 30 (sI2 1 36 33) := ok_icmp_ne (by decide +kernel : decode cX5_performBlock 30 = .ok (.if_icmp .ne 6, 3)) (by decide)
theorem o93_33 : Okp RX5 cX5_performBlock 6 (some .int) "performBlock" false 33 (sK 6 35) := ok_bipush (by decide +kernel : decode cX5_performBlock 33 = .ok (.bipush 6, 2)) (by decide)
theorem o93_35 : Okp RX5 cX5_performBlock 6 (some .int) "performBlock" false 35 sRI := ok_iret rfl (by decide +kernel : decode cX5_performBlock 35 = .ok (.ireturn, 1))
theorem o93_36 : Okp RX5 cX5_performBlock 6 (some .int) "performBlock" false 36 (sLR 1 37) := ok_aload_n (by decide +kernel : decode cX5_performBlock 36 = .ok (.aload_n 1, 1)) rfl
theorem o93_37 : Okp RX5 cX5_performBlock 6 (some .int) "performBlock" false 37 (sK 4 38) := ok_iconst (by decide +kernel : decode cX5_performBlock 37 = .ok (.iconst 4, 1)) (by decide)
theorem o93_38 : Okp RX5 cX5_performBlock 6 (some .int) "performBlock" false 38 (sLI 4 40) := ok_iload (by decide +kernel : decode cX5_performBlock 38 = .ok (.iload 4, 2))
theorem o93_40 : Okp RX5 cX5_performBlock 6 (some .int) "performBlock" false 40 (sCV false 127 3 9 43) := ok_cv (by decide +kernel : decode cX5_performBlock 40 = .ok (.invokevirtual 305, 3)) mw_X5_305 rfl (by decide) wm_X8_push wse_X8_push (by decide) rfl
theorem o93_43 : Okp RX5 cX5_performBlock 6 (some .int) "performBlock" false 43 (sK 0 44) := ok_iconst (by decide +kernel : decode cX5_performBlock 43 = .ok (.iconst 0, 1)) (by decide)
theorem o93_44 : Okp RX5 cX5_performBlock 6 (some .int) "performBlock" false 44 sRI := ok_iret rfl (by decide +kernel : decode cX5_performBlock 44 = .ok (.ireturn, 1))
theorem o93_45 : Okp RX5 cX5_performBlock 6 (some .int) "performBlock" false 45 (sLI 2 46) := ok_iload_n (by decide +kernel : decode cX5_performBlock 45 = .ok (.iload_n 2, 1)) rfl
theorem o93_46 : Okp RX5 cX5_performBlock 6 (some .int) "performBlock" false 46 (sK 34 48) := ok_bipush (by decide +kernel : decode cX5_performBlock 46 = .ok (.bipush 34, 2)) (by decide)
theorem o93_48 : Okp RX5 cX5_performBlock 6 (some .int) "performBlock" false 48 (sI2 1 58 51) := ok_icmp_ne (by decide +kernel : decode cX5_performBlock 48 = .ok (.if_icmp .ne 10, 3)) (by decide)
theorem o93_51 : Okp RX5 cX5_performBlock 6 (some .int) "performBlock" false 51 (sLR 1 52) := ok_aload_n (by decide +kernel : decode cX5_performBlock 51 = .ok (.aload_n 1, 1)) rfl
theorem o93_52 : Okp RX5 cX5_performBlock 6 (some .int) "performBlock" false 52 (sCV false 128 1 9 55) := ok_cv (by decide +kernel : decode cX5_performBlock 52 = .ok (.invokevirtual 277, 3)) mw_X5_277 rfl (by decide) wm_X8_pop wse_X8_pop (by decide) rfl
theorem o93_55 : Okp RX5 cX5_performBlock 6 (some .int) "performBlock" false 55 (sGo 59) := ok_goto (by decide +kernel : decode cX5_performBlock 55 = .ok (.goto 4, 3)) (by decide)
theorem o93_58 : Okp RX5 cX5_performBlock 6 (some .int) "performBlock" false 58 (sK 0 59) := ok_iconst (by decide +kernel : decode cX5_performBlock 58 = .ok (.iconst 0, 1)) (by decide)
theorem o93_59 : Okp RX5 cX5_performBlock 6 (some .int) "performBlock" false 59 (sSI 4 61) := ok_istore (by decide +kernel : decode cX5_performBlock 59 = .ok (.istore 4, 2)) (by decide) (by decide)
theorem o93_61 : Okp RX5 cX5_performBlock 6 (some .int) "performBlock" false 61 (sLR 1 62) := ok_aload_n (by decide +kernel : decode cX5_performBlock 61 = .ok (.aload_n 1, 1)) rfl
theorem o93_62 : Okp RX5 cX5_performBlock 6 (some .int) "performBlock" false 62 (sCV false 132 1 9 65) := ok_cv (by decide +kernel : decode cX5_performBlock 62 = .ok (.invokevirtual 199, 3)) mw_X5_199 rfl (by decide) wm_X8_highest wse_X8_highest (by decide) rfl
theorem o93_65 : Okp RX5 cX5_performBlock 6 (some .int) "performBlock" false 65 (sSI 5 67) := ok_istore (by decide +kernel : decode cX5_performBlock 65 = .ok (.istore 5, 2)) (by decide) (by decide)
theorem o93_67 : Okp RX5 cX5_performBlock 6 (some .int) "performBlock" false 67 (sLI 2 68) := ok_iload_n (by decide +kernel : decode cX5_performBlock 67 = .ok (.iload_n 2, 1)) rfl
theorem o93_68 : Okp RX5 cX5_performBlock 6 (some .int) "performBlock" false 68 (sK 33 70) := ok_bipush (by decide +kernel : decode cX5_performBlock 68 = .ok (.bipush 33, 2)) (by decide)
theorem o93_70 : Okp RX5 cX5_performBlock 6 (some .int) "performBlock" false 70 (sI2 1 91 73) := ok_icmp_ne (by decide +kernel : decode cX5_performBlock 70 = .ok (.if_icmp .ne 21, 3)) (by decide)
theorem o93_73 : Okp RX5 cX5_performBlock 6 (some .int) "performBlock" false 73 (sLR 1 74) := ok_aload_n (by decide +kernel : decode cX5_performBlock 73 = .ok (.aload_n 1, 1)) rfl
theorem o93_74 : Okp RX5 cX5_performBlock 6 (some .int) "performBlock" false 74 (sK 0 75) := ok_iconst (by decide +kernel : decode cX5_performBlock 74 = .ok (.iconst 0, 1)) (by decide)
theorem o93_75 : Okp RX5 cX5_performBlock 6 (some .int) "performBlock" false 75 (sLR 0 76) := ok_aload_n (by decide +kernel : decode cX5_performBlock 75 = .ok (.aload_n 0, 1)) rfl
theorem o93_76 : Okp RX5 cX5_performBlock 6 (some .int) "performBlock" false 76 (sGR 6 3 79) := ok_getR (by decide +kernel : decode cX5_performBlock 76 = .ok (.getfield 28, 3)) fw_X5_28 rfl
theorem o93_79 : Okp RX5 cX5_performBlock 6 (some .int) "performBlock" false 79 (sLI 5 81) := ok_iload (by decide +kernel : decode cX5_performBlock 79 = .ok (.iload 5, 2))
theorem o93_81 : Okp RX5 cX5_performBlock 6 (some .int) "performBlock" false 81 (sLI 3 82) := ok_iload_n (by decide +kernel : decode cX5_performBlock 81 = .ok (.iload_n 3, 1)) rfl
theorem o93_82 : Okp RX5 cX5_performBlock 6 (some .int) "performBlock" false 82 (sCV false 6 3 1 85) := ok_cv (by decide +kernel : decode cX5_performBlock 82 = .ok (.invokevirtual 393, 3)) mw_X5_393 rfl (by decide) wm_X0_see wse_X0_see (by decide) rfl
theorem o93_85 : Okp RX5 cX5_performBlock 6 (some .int) "performBlock" false 85 (sCV false 127 3 9 88) := ok_cv (by decide +kernel : decode cX5_performBlock 85 = .ok (.invokevirtual 305, 3)) mw_X5_305 rfl (by decide) wm_X8_push wse_X8_push (by decide) rfl
theorem o93_88 : Okp RX5 cX5_performBlock 6 (some .int) "performBlock" false 88 (sGo 123) := ok_goto (by decide +kernel : decode cX5_performBlock 88 = .ok (.goto 35, 3)) (by decide)
theorem o93_91 : Okp RX5 cX5_performBlock 6 (some .int) "performBlock" false 91 (sLI 2 92) := ok_iload_n (by decide +kernel : decode cX5_performBlock 91 = .ok (.iload_n 2, 1)) rfl
theorem o93_92 : Okp RX5 cX5_performBlock 6 (some .int) "performBlock" false 92 (sK 34 94) := ok_bipush (by decide +kernel : decode cX5_performBlock 92 = .ok (.bipush 34, 2)) (by decide)
theorem o93_94 : Okp RX5 cX5_performBlock 6 (some .int) "performBlock" false 94 (sI2 1 112 97) := ok_icmp_ne (by decide +kernel : decode cX5_performBlock 94 = .ok (.if_icmp .ne 18, 3)) (by decide)
theorem o93_97 : Okp RX5 cX5_performBlock 6 (some .int) "performBlock" false 97 (sLR 0 98) := ok_aload_n (by decide +kernel : decode cX5_performBlock 97 = .ok (.aload_n 0, 1)) rfl
theorem o93_98 : Okp RX5 cX5_performBlock 6 (some .int) "performBlock" false 98 (sGR 6 3 101) := ok_getR (by decide +kernel : decode cX5_performBlock 98 = .ok (.getfield 28, 3)) fw_X5_28 rfl
theorem o93_101 : Okp RX5 cX5_performBlock 6 (some .int) "performBlock" false 101 (sLI 5 103) := ok_iload (by decide +kernel : decode cX5_performBlock 101 = .ok (.iload 5, 2))
theorem o93_103 : Okp RX5 cX5_performBlock 6 (some .int) "performBlock" false 103 (sLI 3 104) := ok_iload_n (by decide +kernel : decode cX5_performBlock 103 = .ok (.iload_n 3, 1)) rfl
theorem o93_104 : Okp RX5 cX5_performBlock 6 (some .int) "performBlock" false 104 (sLI 4 106) := ok_iload (by decide +kernel : decode cX5_performBlock 104 = .ok (.iload 4, 2))
theorem o93_106 : Okp RX5 cX5_performBlock 6 (some .int) "performBlock" false 106 (sCV false 7 4 1 109) := ok_cv (by decide +kernel : decode cX5_performBlock 106 = .ok (.invokevirtual 396, 3)) mw_X5_396 rfl (by decide) wm_X0_set wse_X0_set (by decide) rfl
theorem o93_109 : Okp RX5 cX5_performBlock 6 (some .int) "performBlock" false 109 (sGo 123) := ok_goto (by decide +kernel : decode cX5_performBlock 109 = .ok (.goto 14, 3)) (by decide)
theorem o93_112 : Okp RX5 cX5_performBlock 6 (some .int) "performBlock" false 112 (sLR 0 113) := ok_aload_n (by decide +kernel : decode cX5_performBlock 112 = .ok (.aload_n 0, 1)) rfl
theorem o93_113 : Okp RX5 cX5_performBlock 6 (some .int) "performBlock" false 113 (sGR 6 3 116) := ok_getR (by decide +kernel : decode cX5_performBlock 113 = .ok (.getfield 28, 3)) fw_X5_28 rfl
theorem o93_116 : Okp RX5 cX5_performBlock 6 (some .int) "performBlock" false 116 (sLR 1 117) := ok_aload_n (by decide +kernel : decode cX5_performBlock 116 = .ok (.aload_n 1, 1)) rfl
theorem o93_117 : Okp RX5 cX5_performBlock 6 (some .int) "performBlock" false 117 (sCV false 128 1 9 120) := ok_cv (by decide +kernel : decode cX5_performBlock 117 = .ok (.invokevirtual 277, 3)) mw_X5_277 rfl (by decide) wm_X8_pop wse_X8_pop (by decide) rfl
theorem o93_120 : Okp RX5 cX5_performBlock 6 (some .int) "performBlock" false 120 (sCV false 8 2 1 123) := ok_cv (by decide +kernel : decode cX5_performBlock 120 = .ok (.invokevirtual 399, 3)) mw_X5_399 rfl (by decide) wm_X0_free wse_X0_free (by decide) rfl
theorem o93_123 : Okp RX5 cX5_performBlock 6 (some .int) "performBlock" false 123 (sK 0 124) := ok_iconst (by decide +kernel : decode cX5_performBlock 123 = .ok (.iconst 0, 1)) (by decide)
theorem o93_124 : Okp RX5 cX5_performBlock 6 (some .int) "performBlock" false 124 sRI := ok_iret rfl (by decide +kernel : decode cX5_performBlock 124 = .ok (.ireturn, 1))
theorem oc93_0 : ∀ pc, Mnp (c93_0 pc) ∧ Okp RX5 cX5_performBlock 6 (some .int) "performBlock" false pc (c93_0 pc) := by
  intro pc
  unfold c93_0
  split
  · exact ⟨mn_sLI, o93_0⟩
  · exact ⟨mn_sK, o93_1⟩
  · exact ⟨mn_sI2, o93_3⟩
  · exact ⟨mn_sLR, o93_6⟩
  · exact ⟨mn_sGR, o93_7⟩
  · exact ⟨mn_sLR, o93_10⟩
  · exact ⟨mn_sGR, o93_11⟩
  · exact ⟨mn_sLI, o93_14⟩
  · exact ⟨mn_sCV, o93_15⟩
  · exact ⟨mn_sLR, o93_18⟩
  · exact ⟨mn_sGI, o93_19⟩
  · exact ⟨mn_sCV, o93_22⟩
  · exact ⟨mn_sX, ok_X⟩
theorem oc93_1 : ∀ pc, Mnp (c93_1 pc) ∧ Okp RX5 cX5_performBlock 6 (some .int) "performBlock" false pc (c93_1 pc) := by
  intro pc
  unfold c93_1
  split
  · exact ⟨mn_sSI, o93_25⟩
  · exact ⟨mn_sLI, o93_27⟩
  · exact ⟨mn_sK, o93_29⟩
  · exact ⟨mn_sI2, o93_30⟩
  · exact ⟨mn_sK, o93_33⟩
  · exact ⟨mn_sRI, o93_35⟩
  · exact ⟨mn_sLR, o93_36⟩
  · exact ⟨mn_sK, o93_37⟩
  · exact ⟨mn_sLI, o93_38⟩
  · exact ⟨mn_sCV, o93_40⟩
  · exact ⟨mn_sK, o93_43⟩
  · exact ⟨mn_sRI, o93_44⟩
  · exact ⟨mn_sLI, o93_45⟩
  · exact ⟨mn_sK, o93_46⟩
  · exact ⟨mn_sX, ok_X⟩
theorem oc93_2 : ∀ pc, Mnp (c93_2 pc) ∧ Okp RX5 cX5_performBlock 6 (some .int) "performBlock" false pc (c93_2 pc) := by
  intro pc
  unfold c93_2
  split
  · exact ⟨mn_sI2, o93_48⟩
  · exact ⟨mn_sLR, o93_51⟩
  · exact ⟨mn_sCV, o93_52⟩
  · exact ⟨mn_sGo, o93_55⟩
  · exact ⟨mn_sK, o93_58⟩
  · exact ⟨mn_sSI, o93_59⟩
  · exact ⟨mn_sLR, o93_61⟩
  · exact ⟨mn_sCV, o93_62⟩
  · exact ⟨mn_sSI, o93_65⟩
  · exact ⟨mn_sLI, o93_67⟩
  · exact ⟨mn_sK, o93_68⟩
  · exact ⟨mn_sI2, o93_70⟩
  · exact ⟨mn_sX, ok_X⟩
theorem oc93_3 : ∀ pc, Mnp (c93_3 pc) ∧ Okp RX5 cX5_performBlock 6 (some .int) "performBlock" false pc (c93_3 pc) := by
  intro pc
  unfold c93_3
  split
  · exact ⟨mn_sLR, o93_73⟩
  · exact ⟨mn_sK, o93_74⟩
  · exact ⟨mn_sLR, o93_75⟩
  · exact ⟨mn_sGR, o93_76⟩
  · exact ⟨mn_sLI, o93_79⟩
  · exact ⟨mn_sLI, o93_81⟩
  · exact ⟨mn_sCV, o93_82⟩
  · exact ⟨mn_sCV, o93_85⟩
  · exact ⟨mn_sGo, o93_88⟩
  · exact ⟨mn_sLI, o93_91⟩
  · exact ⟨mn_sK, o93_92⟩
  · exact ⟨mn_sI2, o93_94⟩
  · exact ⟨mn_sX, ok_X⟩
theorem oc93_4 : ∀ pc, Mnp (c93_4 pc) ∧ Okp RX5 cX5_performBlock 6 (some .int) "performBlock" false pc (c93_4 pc) := by
  intro pc
  unfold c93_4
  split
  · exact ⟨mn_sLR, o93_97⟩
  · exact ⟨mn_sGR, o93_98⟩
  · exact ⟨mn_sLI, o93_101⟩
  · exact ⟨mn_sLI, o93_103⟩
  · exact ⟨mn_sLI, o93_104⟩
  · exact ⟨mn_sCV, o93_106⟩
  · exact ⟨mn_sGo, o93_109⟩
  · exact ⟨mn_sLR, o93_112⟩
  · exact ⟨mn_sGR, o93_113⟩
  · exact ⟨mn_sLR, o93_116⟩
  · exact ⟨mn_sCV, o93_117⟩
  · exact ⟨mn_sX, ok_X⟩
theorem oc93_5 : ∀ pc, Mnp (c93_5 pc) ∧ Okp RX5 cX5_performBlock 6 (some .int) "performBlock" false pc (c93_5 pc) := by
  intro pc
  unfold c93_5
  split
  · exact ⟨mn_sCV, o93_120⟩
  · exact ⟨mn_sK, o93_123⟩
  · exact ⟨mn_sRI, o93_124⟩
  · exact ⟨mn_sX, ok_X⟩
theorem oc93 : ∀ pc, Mnp (c93 pc) ∧ Okp RX5 cX5_performBlock 6 (some .int) "performBlock" false pc (c93 pc) := by
  intro pc
  unfold c93
  split
  · exact oc93_0 pc
  · exact oc93_1 pc
  · exact oc93_2 pc
  · exact oc93_3 pc
  · exact oc93_4 pc
  · exact oc93_5 pc
  · exact ⟨mn_sX, ok_X⟩
theorem o94_0 : Okp RX5 cX5_openChannel 4 (some .int) "openChannel" false 0 (sLR 0 1) := ok_aload_n (by decide +kernel : decode cX5_openChannel 0 = .ok (.aload_n 0, 1)) rfl
theorem o94_1 : Okp RX5 cX5_openChannel 4 (some .int) "openChannel" false 1 (sGR 6 4 4) := ok_getR (by decide +kernel : decode cX5_openChannel 1 = .ok (.getfield 37, 3)) fw_X5_37 rfl
theorem o94_4 : Okp RX5 cX5_openChannel 4 (some .int) "openChannel" false 4 (sLR 1 5) := ok_aload_n (by decide +kernel : decode cX5_openChannel 4 = .ok (.aload_n 1, 1)) rfl
theorem o94_5 : Okp RX5 cX5_openChannel 4 (some .int) "openChannel" false 5 (sGR 9 1 8) := ok_getR (by decide +kernel : decode cX5_openChannel 5 = .ok (.getfield 192, 3)) fw_X5_192 rfl
theorem o94_8 : Okp RX5 cX5_openChannel 4 (some .int) "openChannel" false 8 (sLI 2 9) := ok_iload_n (by decide +kernel : decode cX5_openChannel 8 = .ok (.iload_n 2, 1)) rfl
theorem o94_9 : Okp RX5 cX5_openChannel 4 (some .int) "openChannel" false 9 (sCV false 148 2 10 12) := ok_cv (by decide +kernel : decode cX5_openChannel 9 = .ok (.invokevirtual 130, 3)) mw_X5_130 rfl (by decide) wm_X9_contractAt wse_X9_contractAt (by decide) rfl
theorem o94_12 : Okp RX5 cX5_openChannel 4 (some .int) "openChannel" false 12 (sLR 1 13) := ok_aload_n (by decide +kernel : decode cX5_openChannel 12 = .ok (.aload_n 1, 1)) rfl
theorem o94_13 : Okp RX5 cX5_openChannel 4 (some .int) "openChannel" false 13 (sGI 9 0 16) := ok_getI (by decide +kernel : decode cX5_openChannel 13 = .ok (.getfield 248, 3)) fw_X5_248 rfl
theorem o94_16 : Okp RX5 cX5_openChannel 4 (some .int) "openChannel" false 16 (sCV false 43 3 5 19) := ok_cv (by decide +kernel : decode cX5_openChannel 16 = .ok (.invokevirtual 142, 3)) mw_X5_142 rfl (by decide) wm_X4_make wse_X4_make (by decide) rfl
theorem o94_19 : Okp RX5 cX5_openChannel 4 (some .int) "openChannel" false 19 (sSI 3 20) := ok_istore_n (by decide +kernel : decode cX5_openChannel 19 = .ok (.istore_n 3, 1)) rfl (by decide) (by decide)
theorem o94_20 : Okp RX5 cX5_openChannel 4 (some .int) "openChannel" false 20 (sLI 3 21) := ok_iload_n (by decide +kernel : decode cX5_openChannel 20 = .ok (.iload_n 3, 1)) rfl
theorem o94_21 : Okp RX5 cX5_openChannel 4 (some .int) "openChannel" false 21 (sK (-1) 22) := ok_iconst (by decide +kernel : decode cX5_openChannel 21 = .ok (.iconst (-1), 1)) (by decide)
theorem o94_22 : Okp RX5 cX5_openChannel 4 (some .int) "openChannel" false 22 (sI2 1 28 25) := ok_icmp_ne (by decide +kernel : decode cX5_openChannel 22 = .ok (.if_icmp .ne 6, 3)) (by decide)
theorem o94_25 : Okp RX5 cX5_openChannel 4 (some .int) "openChannel" false 25 (sK 7 27) := ok_bipush (by decide +kernel : decode cX5_openChannel 25 = .ok (.bipush 7, 2)) (by decide)
theorem o94_27 : Okp RX5 cX5_openChannel 4 (some .int) "openChannel" false 27 sRI := ok_iret rfl (by decide +kernel : decode cX5_openChannel 27 = .ok (.ireturn, 1))
theorem o94_28 : Okp RX5 cX5_openChannel 4 (some .int) "openChannel" false 28 (sLR 1 29) := ok_aload_n (by decide +kernel : decode cX5_openChannel 28 = .ok (.aload_n 1, 1)) rfl
theorem o94_29 : Okp RX5 cX5_openChannel 4 (some .int) "openChannel" false 29 (sK 5 30) := ok_iconst (by decide +kernel : decode cX5_openChannel 29 = .ok (.iconst 5, 1)) (by decide)
theorem o94_30 : Okp RX5 cX5_openChannel 4 (some .int) "openChannel" false 30 (sK 2 31) := ok_iconst (by decide +kernel : decode cX5_openChannel 30 = .ok (.iconst 2, 1)) (by decide)
theorem o94_31 : Okp RX5 cX5_openChannel 4 (some .int) "openChannel" false 31 (sLI 3 32) := ok_iload_n (by decide +kernel : decode cX5_openChannel 31 = .ok (.iload_n 3, 1)) rfl
theorem o94_32 : Okp RX5 cX5_openChannel 4 (some .int) "openChannel" false 32 (sB2 fMul 33) := ok_imul (by decide +kernel : decode cX5_openChannel 32 = .ok (.imul, 1))
theorem o94_33 : Okp RX5 cX5_openChannel 4 (some .int) "openChannel" false 33 (sCV false 127 3 9 36) := ok_cv (by decide +kernel : decode cX5_openChannel 33 = .ok (.invokevirtual 305, 3)) mw_X5_305 rfl (by decide) wm_X8_push wse_X8_push (by decide) rfl
theorem o94_36 : Okp RX5 cX5_openChannel 4 (some .int) "openChannel" false 36 (sLR 1 37) := ok_aload_n (by decide +kernel : decode cX5_openChannel 36 = .ok (.aload_n 1, 1)) rfl
theorem o94_37 : Okp RX5 cX5_openChannel 4 (some .int) "openChannel" false 37 (sK 5 38) := ok_iconst (by decide +kernel : decode cX5_openChannel 37 = .ok (.iconst 5, 1)) (by decide)
theorem o94_38 : Okp RX5 cX5_openChannel 4 (some .int) "openChannel" false 38 (sK 2 39) := ok_iconst (by decide +kernel : decode cX5_openChannel 38 = .ok (.iconst 2, 1)) (by decide)
theorem o94_39 : Okp RX5 cX5_openChannel 4 (some .int) "openChannel" false 39 (sLI 3 40) := ok_iload_n (by decide +kernel : decode cX5_openChannel 39 = .ok (.iload_n 3, 1)) rfl
theorem o94_40 : Okp RX5 cX5_openChannel 4 (some .int) "openChannel" false 40 (sB2 fMul 41) := ok_imul (by decide +kernel : decode cX5_openChannel 40 = .ok (.imul, 1))
theorem o94_41 : Okp RX5 cX5_openChannel 4 (some .int) "openChannel" false 41 (sK 1 42) := ok_iconst (by decide +kernel : decode cX5_openChannel 41 = .ok (.iconst 1, 1)) (by decide)
theorem o94_42 : Okp RX5 cX5_openChannel 4 (some .int) "openChannel" false 42 (sB2 fAdd 43) := ok_iadd (by decide +kernel : decode cX5_openChannel 42 = .ok (.iadd, 1))
theorem o94_43 : Okp RX5 cX5_openChannel 4 (some .int) "openChannel" false 43 (sCV false 127 3 9 46) := ok_cv (by decide +kernel : decode cX5_openChannel 43 = .ok (.invokevirtual 305, 3)) mw_X5_305 rfl (by decide) wm_X8_push wse_X8_push (by decide) rfl
theorem o94_46 : Okp RX5 cX5_openChannel 4 (some .int) "openChannel" false 46 (sK 0 47) := ok_iconst (by decide +kernel : decode cX5_openChannel 46 = .ok (.iconst 0, 1)) (by decide)
theorem o94_47 : Okp RX5 cX5_openChannel 4 (some .int) "openChannel" false 47 sRI := ok_iret rfl (by decide +kernel : decode cX5_openChannel 47 = .ok (.ireturn, 1))
theorem oc94_0 : ∀ pc, Mnp (c94_0 pc) ∧ Okp RX5 cX5_openChannel 4 (some .int) "openChannel" false pc (c94_0 pc) := by
  intro pc
  unfold c94_0
  split
  · exact ⟨mn_sLR, o94_0⟩
  · exact ⟨mn_sGR, o94_1⟩
  · exact ⟨mn_sLR, o94_4⟩
  · exact ⟨mn_sGR, o94_5⟩
  · exact ⟨mn_sLI, o94_8⟩
  · exact ⟨mn_sCV, o94_9⟩
  · exact ⟨mn_sLR, o94_12⟩
  · exact ⟨mn_sGI, o94_13⟩
  · exact ⟨mn_sCV, o94_16⟩
  · exact ⟨mn_sSI, o94_19⟩
  · exact ⟨mn_sLI, o94_20⟩
  · exact ⟨mn_sK, o94_21⟩
  · exact ⟨mn_sI2, o94_22⟩
  · exact ⟨mn_sX, ok_X⟩
theorem oc94_1 : ∀ pc, Mnp (c94_1 pc) ∧ Okp RX5 cX5_openChannel 4 (some .int) "openChannel" false pc (c94_1 pc) := by
  intro pc
  unfold c94_1
  split
  · exact ⟨mn_sK, o94_25⟩
  · exact ⟨mn_sRI, o94_27⟩
  · exact ⟨mn_sLR, o94_28⟩
  · exact ⟨mn_sK, o94_29⟩
  · exact ⟨mn_sK, o94_30⟩
  · exact ⟨mn_sLI, o94_31⟩
  · exact ⟨mn_sB2, o94_32⟩
  · exact ⟨mn_sCV, o94_33⟩
  · exact ⟨mn_sLR, o94_36⟩
  · exact ⟨mn_sK, o94_37⟩
  · exact ⟨mn_sK, o94_38⟩
  · exact ⟨mn_sLI, o94_39⟩
  · exact ⟨mn_sB2, o94_40⟩
  · exact ⟨mn_sK, o94_41⟩
  · exact ⟨mn_sB2, o94_42⟩
  · exact ⟨mn_sCV, o94_43⟩
  · exact ⟨mn_sK, o94_46⟩
  · exact ⟨mn_sRI, o94_47⟩
  · exact ⟨mn_sX, ok_X⟩
theorem oc94 : ∀ pc, Mnp (c94 pc) ∧ Okp RX5 cX5_openChannel 4 (some .int) "openChannel" false pc (c94 pc) := by
  intro pc
  unfold c94
  split
  · exact oc94_0 pc
  · exact oc94_1 pc
  · exact ⟨mn_sX, ok_X⟩
theorem o95_0 : Okp RX5 cX5_send 6 (some .int) "send" false 0 (sK (-1) 1) := ok_iconst (by decide +kernel : decode cX5_send 0 = .ok (.iconst (-1), 1)) (by decide)
theorem o95_1 : Okp RX5 cX5_send 6 (some .int) "send" false 1 (sSI 3 2) := ok_istore_n (by decide +kernel : decode cX5_send 1 = .ok (.istore_n 3, 1)) rfl (by decide) (by decide)
theorem o95_2 : Okp RX5 cX5_send 6 (some .int) "send" false 2 (sK 0 3) := ok_iconst (by decide +kernel : decode cX5_send 2 = .ok (.iconst 0, 1)) (by decide)
theorem o95_3 : Okp RX5 cX5_send 6 (some .int) "send" false 3 (sSI 4 5) := ok_istore (by decide +kernel : decode cX5_send 3 = .ok (.istore 4, 2)) (by decide) (by decide)
theorem o95_5 : Okp RX5 cX5_send 6 (some .int) "send" false 5 (sLR 0 6) := ok_aload_n (by decide +kernel : decode cX5_send 5 = .ok (.aload_n 0, 1)) rfl
theorem o95_6 : Okp RX5 cX5_send 6 (some .int) "send" false 6 (sLR 1 7) := ok_aload_n (by decide +kernel : decode cX5_send 6 = .ok (.aload_n 1, 1)) rfl
theorem o95_7 : Okp RX5 cX5_send 6 (some .int) "send" false 7 (sLI 2 8) := ok_iload_n (by decide +kernel : decode cX5_send 7 = .ok (.iload_n 2, 1)) rfl
theorem o95_8 : Okp RX5 cX5_send 6 (some .int) "send" false 8 (sCV false 75 3 6 11) := ok_cv (by decide +kernel : decode cX5_send 8 = .ok (.invokevirtual 226, 3)) mw_X5_226 rfl (by decide) wm_X5_isBare wse_X5_isBare (by decide) rfl
theorem o95_11 : Okp RX5 cX5_send 6 (some .int) "send" false 11 (sI1 1 25 14) := ok_if_ne (by decide +kernel : decode cX5_send 11 = .ok (.ifCond .ne 14, 3)) (by decide)
theorem o95_14 : Okp RX5 cX5_send 6 (some .int) "send" false 14 (sLR 1 15) := ok_aload_n (by decide +kernel : decode cX5_send 14 = .ok (.aload_n 1, 1)) rfl
theorem o95_15 : Okp RX5 cX5_send 6 (some .int) "send" false 15 (sCV false 128 1 9 18) := ok_cv (by decide +kernel : decode cX5_send 15 = .ok (.invokevirtual 277, 3)) mw_X5_277 rfl (by decide) wm_X8_pop wse_X8_pop (by decide) rfl
theorem o95_18 : Okp RX5 cX5_send 6 (some .int) "send" false 18 (sSI 4 20) := ok_istore (by decide +kernel : decode cX5_send 18 = .ok (.istore 4, 2)) (by decide) (by decide)
theorem o95_20 : Okp RX5 cX5_send 6 (some .int) "send" false 20 (sLR 1 21) := ok_aload_n (by decide +kernel : decode cX5_send 20 = .ok (.aload_n 1, 1)) rfl
theorem o95_21 : Okp RX5 cX5_send 6 (some .int) "send" false 21 (sGI 9 14 24) := ok_getI (by decide +kernel : decode cX5_send 21 = .ok (.getfield 311, 3)) fw_X5_311 rfl
theorem o95_24 : Okp RX5 cX5_send 6 (some .int) "send" false 24 (sSI 3 25) := ok_istore_n (by decide +kernel : decode cX5_send 24 = .ok (.istore_n 3, 1)) rfl (by decide) (by decide)
theorem o95_25 : Okp RX5 cX5_send 6 (some .int) "send" false 25 (sLR 1 26) := ok_aload_n (by decide +kernel : decode cX5_send 25 = .ok (.aload_n 1, 1)) rfl
theorem o95_26 : Okp RX5 cX5_send 6 (some .int) "send" false 26 (sCV false 132 1 9 29) := ok_cv (by decide +kernel : decode cX5_send 26 = .ok (.invokevirtual 199, 3)) mw_X5_199 rfl (by decide) wm_X8_highest wse_X8_highest (by decide) rfl
theorem o95_29 : Okp RX5 cX5_send 6 (some .int) "send" false 29 (sSI 5 31) := ok_istore (by decide +kernel : decode cX5_send 29 = .ok (.istore 5, 2)) (by decide) (by decide)
theorem o95_31 : Okp RX5 cX5_send 6 (some .int) "send" false 31 (sLR 0 32) := ok_aload_n (by decide +kernel : decode cX5_send 31 = .ok (.aload_n 0, 1)) rfl
theorem o95_32 : Okp RX5 cX5_send 6 (some .int) "send" false 32 (sGR 6 4 35) := ok_getR (by decide +kernel : decode cX5_send 32 = .ok (.getfield 37, 3)) fw_X5_37 rfl
theorem o95_35 : Okp RX5 cX5_send 6 (some .int) "send" false 35 (sLI 5 37) := ok_iload (by decide +kernel : decode cX5_send 35 = .ok (.iload 5, 2))
theorem o95_37 : Okp RX5 cX5_send 6 (some .int) "send" false 37 (sLI 2 38) := ok_iload_n (by decide +kernel : decode cX5_send 37 = .ok (.iload_n 2, 1)) rfl
theorem o95_38 : Okp RX5 cX5_send 6 (some .int) "send" false 38 (sCV false 51 3 5 41) := ok_cv (by decide +kernel : decode cX5_send 38 = .ok (.invokevirtual 401, 3)) mw_X5_401 rfl (by decide) wm_X4_moveOn wse_X4_moveOn (by decide) rfl
theorem o95_41 : Okp RX5 cX5_send 6 (some .int) "send" false 41 (sLR 0 42) := ok_aload_n (by decide +kernel : decode cX5_send 41 = .ok (.aload_n 0, 1)) rfl
theorem o95_42 : Okp RX5 cX5_send 6 (some .int) "send" false 42 (sGR 6 4 45) := ok_getR (by decide +kernel : decode cX5_send 42 = .ok (.getfield 37, 3)) fw_X5_37 rfl
theorem o95_45 : Okp RX5 cX5_send 6 (some .int) "send" false 45 (sLI 5 47) := ok_iload (by decide +kernel : decode cX5_send 45 = .ok (.iload 5, 2))
theorem o95_47 : Okp RX5 cX5_send 6 (some .int) "send" false 47 (sLI 2 48) := ok_iload_n (by decide +kernel : decode cX5_send 47 = .ok (.iload_n 2, 1)) rfl
theorem o95_48 : Okp RX5 cX5_send 6 (some .int) "send" false 48 (sLI 3 49) := ok_iload_n (by decide +kernel : decode cX5_send 48 = .ok (.iload_n 3, 1)) rfl
theorem o95_49 : Okp RX5 cX5_send 6 (some .int) "send" false 49 (sLI 4 51) := ok_iload (by decide +kernel : decode cX5_send 49 = .ok (.iload 4, 2))
theorem o95_51 : Okp RX5 cX5_send 6 (some .int) "send" false 51 (sCV false 52 5 5 54) := ok_cv (by decide +kernel : decode cX5_send 51 = .ok (.invokevirtual 404, 3)) mw_X5_404 rfl (by decide) wm_X4_send wse_X4_send (by decide) rfl
theorem o95_54 : Okp RX5 cX5_send 6 (some .int) "send" false 54 (sK 0 55) := ok_iconst (by decide +kernel : decode cX5_send 54 = .ok (.iconst 0, 1)) (by decide)
theorem o95_55 : Okp RX5 cX5_send 6 (some .int) "send" false 55 sRI := ok_iret rfl (by decide +kernel : decode cX5_send 55 = .ok (.ireturn, 1))
theorem oc95_0 : ∀ pc, Mnp (c95_0 pc) ∧ Okp RX5 cX5_send 6 (some .int) "send" false pc (c95_0 pc) := by
  intro pc
  unfold c95_0
  split
  · exact ⟨mn_sK, o95_0⟩
  · exact ⟨mn_sSI, o95_1⟩
  · exact ⟨mn_sK, o95_2⟩
  · exact ⟨mn_sSI, o95_3⟩
  · exact ⟨mn_sLR, o95_5⟩
  · exact ⟨mn_sLR, o95_6⟩
  · exact ⟨mn_sLI, o95_7⟩
  · exact ⟨mn_sCV, o95_8⟩
  · exact ⟨mn_sI1, o95_11⟩
  · exact ⟨mn_sLR, o95_14⟩
  · exact ⟨mn_sCV, o95_15⟩
  · exact ⟨mn_sSI, o95_18⟩
  · exact ⟨mn_sLR, o95_20⟩
  · exact ⟨mn_sGI, o95_21⟩
  · exact ⟨mn_sX, ok_X⟩
theorem oc95_1 : ∀ pc, Mnp (c95_1 pc) ∧ Okp RX5 cX5_send 6 (some .int) "send" false pc (c95_1 pc) := by
  intro pc
  unfold c95_1
  split
  · exact ⟨mn_sSI, o95_24⟩
  · exact ⟨mn_sLR, o95_25⟩
  · exact ⟨mn_sCV, o95_26⟩
  · exact ⟨mn_sSI, o95_29⟩
  · exact ⟨mn_sLR, o95_31⟩
  · exact ⟨mn_sGR, o95_32⟩
  · exact ⟨mn_sLI, o95_35⟩
  · exact ⟨mn_sLI, o95_37⟩
  · exact ⟨mn_sCV, o95_38⟩
  · exact ⟨mn_sLR, o95_41⟩
  · exact ⟨mn_sGR, o95_42⟩
  · exact ⟨mn_sLI, o95_45⟩
  · exact ⟨mn_sLI, o95_47⟩
  · exact ⟨mn_sX, ok_X⟩
theorem oc95_2 : ∀ pc, Mnp (c95_2 pc) ∧ Okp RX5 cX5_send 6 (some .int) "send" false pc (c95_2 pc) := by
  intro pc
  unfold c95_2
  split
  · exact ⟨mn_sLI, o95_48⟩
  · exact ⟨mn_sLI, o95_49⟩
  · exact ⟨mn_sCV, o95_51⟩
  · exact ⟨mn_sK, o95_54⟩
  · exact ⟨mn_sRI, o95_55⟩
  · exact ⟨mn_sX, ok_X⟩
theorem oc95 : ∀ pc, Mnp (c95 pc) ∧ Okp RX5 cX5_send 6 (some .int) "send" false pc (c95 pc) := by
  intro pc
  unfold c95
  split
  · exact oc95_0 pc
  · exact oc95_1 pc
  · exact oc95_2 pc
  · exact ⟨mn_sX, ok_X⟩
theorem o96_0 : Okp RX5 cX5_receive 7 (some .int) "receive" false 0 (sLR 1 1) := ok_aload_n (by decide +kernel : decode cX5_receive 0 = .ok (.aload_n 1, 1)) rfl
theorem o96_1 : Okp RX5 cX5_receive 7 (some .int) "receive" false 1 (sCV false 132 1 9 4) := ok_cv (by decide +kernel : decode cX5_receive 1 = .ok (.invokevirtual 199, 3)) mw_X5_199 rfl (by decide) wm_X8_highest wse_X8_highest (by decide) rfl
theorem o96_4 : Okp RX5 cX5_receive 7 (some .int) "receive" false 4 (sSI 3 5) := ok_istore_n (by decide +kernel : decode cX5_receive 4 = .ok (.istore_n 3, 1)) rfl (by decide) (by decide)
theorem o96_5 : Okp RX5 cX5_receive 7 (some .int) "receive" false 5 (sLR 0 6) := ok_aload_n (by decide +kernel : decode cX5_receive 5 = .ok (.aload_n 0, 1)) rfl
theorem o96_6 : Okp RX5 cX5_receive 7 (some .int) "receive" false 6 (sGR 6 4 9) := ok_getR (by decide +kernel : decode cX5_receive 6 = .ok (.getfield 37, 3)) fw_X5_37 rfl
theorem o96_9 : Okp RX5 cX5_receive 7 (some .int) "receive" false 9 (sLI 3 10) := ok_iload_n (by decide +kernel : decode cX5_receive 9 = .ok (.iload_n 3, 1)) rfl
theorem o96_10 : Okp RX5 cX5_receive 7 (some .int) "receive" false 10 (sCV false 53 2 5 13) := ok_cv (by decide +kernel : decode cX5_receive 10 = .ok (.invokevirtual 407, 3)) mw_X5_407 rfl (by decide) wm_X4_nextMessage wse_X4_nextMessage (by decide) rfl
theorem o96_13 : Okp RX5 cX5_receive 7 (some .int) "receive" false 13 (sSI 4 15) := ok_istore (by decide +kernel : decode cX5_receive 13 = .ok (.istore 4, 2)) (by decide) (by decide)
theorem o96_15 : Okp RX5 cX5_receive 7 (some .int) "receive" false 15 (sLR 0 16) := ok_aload_n (by decide +kernel : decode cX5_receive 15 = .ok (.aload_n 0, 1)) rfl
theorem o96_16 : Okp RX5 cX5_receive 7 (some .int) "receive" false 16 (sGR 6 4 19) := ok_getR (by decide +kernel : decode cX5_receive 16 = .ok (.getfield 37, 3)) fw_X5_37 rfl
theorem o96_19 : Okp RX5 cX5_receive 7 (some .int) "receive" false 19 (sLI 3 20) := ok_iload_n (by decide +kernel : decode cX5_receive 19 = .ok (.iload_n 3, 1)) rfl
theorem o96_20 : Okp RX5 cX5_receive 7 (some .int) "receive" false 20 (sCV false 54 2 5 23) := ok_cv (by decide +kernel : decode cX5_receive 20 = .ok (.invokevirtual 410, 3)) mw_X5_410 rfl (by decide) wm_X4_nextLoadKind wse_X4_nextLoadKind (by decide) rfl
theorem o96_23 : Okp RX5 cX5_receive 7 (some .int) "receive" false 23 (sSI 5 25) := ok_istore (by decide +kernel : decode cX5_receive 23 = .ok (.istore 5, 2)) (by decide) (by decide)
theorem o96_25 : Okp RX5 cX5_receive 7 (some .int) "receive" false 25 (sLR 0 26) := ok_aload_n (by decide +kernel : decode cX5_receive 25 = .ok (.aload_n 0, 1)) rfl
theorem o96_26 : Okp RX5 cX5_receive 7 (some .int) "receive" false 26 (sGR 6 4 29) := ok_getR (by decide +kernel : decode cX5_receive 26 = .ok (.getfield 37, 3)) fw_X5_37 rfl
theorem o96_29 : Okp RX5 cX5_receive 7 (some .int) "receive" false 29 (sLI 3 30) := ok_iload_n (by decide +kernel : decode cX5_receive 29 = .ok (.iload_n 3, 1)) rfl
theorem o96_30 : Okp RX5 cX5_receive 7 (some .int) "receive" false 30 (sCV false 55 2 5 33) := ok_cv (by decide +kernel : decode cX5_receive 30 = .ok (.invokevirtual 413, 3)) mw_X5_413 rfl (by decide) wm_X4_nextLoad wse_X4_nextLoad (by decide) rfl
theorem o96_33 : Okp RX5 cX5_receive 7 (some .int) "receive" false 33 (sSI 6 35) := ok_istore (by decide +kernel : decode cX5_receive 33 = .ok (.istore 6, 2)) (by decide) (by decide)
theorem o96_35 : Okp RX5 cX5_receive 7 (some .int) "receive" false 35 (sLI 4 37) := ok_iload (by decide +kernel : decode cX5_receive 35 = .ok (.iload 4, 2))
theorem o96_37 : Okp RX5 cX5_receive 7 (some .int) "receive" false 37 (sK (-1) 38) := ok_iconst (by decide +kernel : decode cX5_receive 37 = .ok (.iconst (-1), 1)) (by decide)
theorem o96_38 : Okp RX5 cX5_receive 7 (some .int) "receive" false 38 (sI2 1 43 41) := ok_icmp_ne (by decide +kernel : decode cX5_receive 38 = .ok (.if_icmp .ne 5, 3)) (by decide)
theorem o96_41 : Okp RX5 cX5_receive 7 (some .int) "receive" false 41 (sK 0 42) := ok_iconst (by decide +kernel : decode cX5_receive 41 = .ok (.iconst 0, 1)) (by decide)
theorem o96_42 : Okp RX5 cX5_receive 7 (some .int) "receive" false 42 sRI := ok_iret rfl (by decide +kernel : decode cX5_receive 42 = .ok (.ireturn, 1))
theorem o96_43 : Okp RX5 cX5_receive 7 (some .int) "receive" false 43 (sLR 0 44) := ok_aload_n (by decide +kernel : decode cX5_receive 43 = .ok (.aload_n 0, 1)) rfl
theorem o96_44 : Okp RX5 cX5_receive 7 (some .int) "receive" false 44 (sGR 6 4 47) := ok_getR (by decide +kernel : decode cX5_receive 44 = .ok (.getfield 37, 3)) fw_X5_37 rfl
theorem o96_47 : Okp RX5 cX5_receive 7 (some .int) "receive" false 47 (sLI 3 48) := ok_iload_n (by decide +kernel : decode cX5_receive 47 = .ok (.iload_n 3, 1)) rfl
theorem o96_48 : Okp RX5 cX5_receive 7 (some .int) "receive" false 48 (sCV false 56 2 5 51) := ok_cv (by decide +kernel : decode cX5_receive 48 = .ok (.invokevirtual 416, 3)) mw_X5_416 rfl (by decide) wm_X4_removeNext wse_X4_removeNext (by decide) rfl
theorem o96_51 : Okp RX5 cX5_receive 7 (some .int) "receive" false 51 (sLR 0 52) := ok_aload_n (by decide +kernel : decode cX5_receive 51 = .ok (.aload_n 0, 1)) rfl
theorem o96_52 : Okp RX5 cX5_receive 7 (some .int) "receive" false 52 (sGR 6 4 55) := ok_getR (by decide +kernel : decode cX5_receive 52 = .ok (.getfield 37, 3)) fw_X5_37 rfl
theorem o96_55 : Okp RX5 cX5_receive 7 (some .int) "receive" false 55 (sLI 3 56) := ok_iload_n (by decide +kernel : decode cX5_receive 55 = .ok (.iload_n 3, 1)) rfl
theorem o96_56 : Okp RX5 cX5_receive 7 (some .int) "receive" false 56 (sLI 4 58) := ok_iload (by decide +kernel : decode cX5_receive 56 = .ok (.iload 4, 2))
theorem o96_58 : Okp RX5 cX5_receive 7 (some .int) "receive" false 58 (sCV false 51 3 5 61) := ok_cv (by decide +kernel : decode cX5_receive 58 = .ok (.invokevirtual 401, 3)) mw_X5_401 rfl (by decide) wm_X4_moveOn wse_X4_moveOn (by decide) rfl
theorem o96_61 : Okp RX5 cX5_receive 7 (some .int) "receive" false 61 (sLI 5 63) := ok_iload (by decide +kernel : decode cX5_receive 61 = .ok (.iload 5, 2))
theorem o96_63 : Okp RX5 cX5_receive 7 (some .int) "receive" false 63 (sK (-1) 64) := ok_iconst (by decide +kernel : decode cX5_receive 63 = .ok (.iconst (-1), 1)) (by decide)
theorem o96_64 : Okp RX5 cX5_receive 7 (some .int) "receive" false 64 (sI2 0 90 67) := ok_icmp_eq (by decide +kernel : decode cX5_receive 64 = .ok (.if_icmp .eq 26, 3)) (by decide)
theorem o96_67 : Okp RX5 cX5_receive 7 (some .int) "receive" false 67 (sLR 1 68) := ok_aload_n (by decide +kernel : decode cX5_receive 67 = .ok (.aload_n 1, 1)) rfl
theorem o96_68 : Okp RX5 cX5_receive 7 (some .int) "receive" false 68 (sLI 5 70) := ok_iload (by decide +kernel : decode cX5_receive 68 = .ok (.iload 5, 2))
theorem o96_70 : Okp RX5 cX5_receive 7 (some .int) "receive" false 70 (sLI 6 72) := ok_iload (by decide +kernel : decode cX5_receive 70 = .ok (.iload 6, 2))
theorem o96_72 : Okp RX5 cX5_receive 7 (some .int) "receive" false 72 (sCV false 127 3 9 75) := ok_cv (by decide +kernel : decode cX5_receive 72 = .ok (.invokevirtual 305, 3)) mw_X5_305 rfl (by decide) wm_X8_push wse_X8_push (by decide) rfl
theorem o96_75 : Okp RX5 cX5_receive 7 (some .int) "receive" false 75 (sLR 0 76) := ok_aload_n (by decide +kernel : decode cX5_receive 75 = .ok (.aload_n 0, 1)) rfl
theorem o96_76 : Okp RX5 cX5_receive 7 (some .int) "receive" false 76 (sGR 6 4 79) := ok_getR (by decide +kernel : decode cX5_receive 76 = .ok (.getfield 37, 3)) fw_X5_37 rfl
theorem o96_79 : Okp RX5 cX5_receive 7 (some .int) "receive" false 79 (sLI 5 81) := ok_iload (by decide +kernel : decode cX5_receive 79 = .ok (.iload 5, 2))
theorem o96_81 : Okp RX5 cX5_receive 7 (some .int) "receive" false 81 (sLI 6 83) := ok_iload (by decide +kernel : decode cX5_receive 81 = .ok (.iload 6, 2))
theorem o96_83 : Okp RX5 cX5_receive 7 (some .int) "receive" false 83 (sLR 1 84) := ok_aload_n (by decide +kernel : decode cX5_receive 83 = .ok (.aload_n 1, 1)) rfl
theorem o96_84 : Okp RX5 cX5_receive 7 (some .int) "receive" false 84 (sGI 9 0 87) := ok_getI (by decide +kernel : decode cX5_receive 84 = .ok (.getfield 248, 3)) fw_X5_248 rfl
theorem o96_87 : Okp RX5 cX5_receive 7 (some .int) "receive" false 87 (sCV false 57 4 5 90) := ok_cv (by decide +kernel : decode cX5_receive 87 = .ok (.invokevirtual 368, 3)) mw_X5_368 rfl (by decide) wm_X4_hand wse_X4_hand (by decide) rfl
theorem o96_90 : Okp RX5 cX5_receive 7 (some .int) "receive" false 90 (sLR 1 91) := ok_aload_n (by decide +kernel : decode cX5_receive 90 = .ok (.aload_n 1, 1)) rfl
theorem o96_91 : Okp RX5 cX5_receive 7 (some .int) "receive" false 91 (sLR 1 92) := ok_aload_n (by decide +kernel : decode cX5_receive 91 = .ok (.aload_n 1, 1)) rfl
theorem o96_92 : Okp RX5 cX5_receive 7 (some .int) "receive" false 92 (sGR 9 1 95) := ok_getR (by decide +kernel : decode cX5_receive 92 = .ok (.getfield 192, 3)) fw_X5_192 rfl
theorem o96_95 : Okp RX5 cX5_receive 7 (some .int) "receive" false 95 (sLI 2 96) := ok_iload_n (by decide +kernel : decode cX5_receive 95 = .ok (.iload_n 2, 1)) rfl
theorem o96_96 : Okp RX5 cX5_receive 7 (some .int) "receive" false 96 (sK 2 97) := ok_iconst (by decide +kernel : decode cX5_receive 96 = .ok (.iconst 2, 1)) (by decide)
theorem o96_97 : Okp RX5 cX5_receive 7 (some .int) "receive" false 97 (sB2 fAdd 98) := ok_iadd (by decide +kernel : decode cX5_receive 97 = .ok (.iadd, 1))
theorem o96_98 : Okp RX5 cX5_receive 7 (some .int) "receive" false 98 (sLI 4 100) := ok_iload (by decide +kernel : decode cX5_receive 98 = .ok (.iload 4, 2))
theorem o96_100 : Okp RX5 cX5_receive 7 (some .int) "receive" false 100 (sB2 fAdd 101) := ok_iadd (by decide +kernel : decode cX5_receive 100 = .ok (.iadd, 1))
theorem o96_101 : Okp RX5 cX5_receive 7 (some .int) "receive" false 101 (sCV false 145 2 10 104) := ok_cv (by decide +kernel : decode cX5_receive 101 = .ok (.invokevirtual 196, 3)) mw_X5_196 rfl (by decide) wm_X9_byteAt wse_X9_byteAt (by decide) rfl
theorem o96_104 : Okp RX5 cX5_receive 7 (some .int) "receive" false 104 (sCV false 124 2 9 107) := ok_cv (by decide +kernel : decode cX5_receive 104 = .ok (.invokevirtual 237, 3)) mw_X5_237 rfl (by decide) wm_X8_goTo wse_X8_goTo (by decide) rfl
theorem o96_107 : Okp RX5 cX5_receive 7 (some .int) "receive" false 107 (sK 0 108) := ok_iconst (by decide +kernel : decode cX5_receive 107 = .ok (.iconst 0, 1)) (by decide)
theorem o96_108 : Okp RX5 cX5_receive 7 (some .int) "receive" false 108 sRI := ok_iret rfl (by decide +kernel : decode cX5_receive 108 = .ok (.ireturn, 1))
theorem oc96_0 : ∀ pc, Mnp (c96_0 pc) ∧ Okp RX5 cX5_receive 7 (some .int) "receive" false pc (c96_0 pc) := by
  intro pc
  unfold c96_0
  split
  · exact ⟨mn_sLR, o96_0⟩
  · exact ⟨mn_sCV, o96_1⟩
  · exact ⟨mn_sSI, o96_4⟩
  · exact ⟨mn_sLR, o96_5⟩
  · exact ⟨mn_sGR, o96_6⟩
  · exact ⟨mn_sLI, o96_9⟩
  · exact ⟨mn_sCV, o96_10⟩
  · exact ⟨mn_sSI, o96_13⟩
  · exact ⟨mn_sLR, o96_15⟩
  · exact ⟨mn_sGR, o96_16⟩
  · exact ⟨mn_sLI, o96_19⟩
  · exact ⟨mn_sCV, o96_20⟩
  · exact ⟨mn_sSI, o96_23⟩
  · exact ⟨mn_sX, ok_X⟩
theorem oc96_1 : ∀ pc, Mnp (c96_1 pc) ∧ Okp RX5 cX5_receive 7 (some .int) "receive" false pc (c96_1 pc) := by
  intro pc
  unfold c96_1
  split
  · exact ⟨mn_sLR, o96_25⟩
  · exact ⟨mn_sGR, o96_26⟩
  · exact ⟨mn_sLI, o96_29⟩
  · exact ⟨mn_sCV, o96_30⟩
  · exact ⟨mn_sSI, o96_33⟩
  · exact ⟨mn_sLI, o96_35⟩
  · exact ⟨mn_sK, o96_37⟩
  · exact ⟨mn_sI2, o96_38⟩
  · exact ⟨mn_sK, o96_41⟩
  · exact ⟨mn_sRI, o96_42⟩
  · exact ⟨mn_sLR, o96_43⟩
  · exact ⟨mn_sGR, o96_44⟩
  · exact ⟨mn_sLI, o96_47⟩
  · exact ⟨mn_sX, ok_X⟩
theorem oc96_2 : ∀ pc, Mnp (c96_2 pc) ∧ Okp RX5 cX5_receive 7 (some .int) "receive" false pc (c96_2 pc) := by
  intro pc
  unfold c96_2
  split
  · exact ⟨mn_sCV, o96_48⟩
  · exact ⟨mn_sLR, o96_51⟩
  · exact ⟨mn_sGR, o96_52⟩
  · exact ⟨mn_sLI, o96_55⟩
  · exact ⟨mn_sLI, o96_56⟩
  · exact ⟨mn_sCV, o96_58⟩
  · exact ⟨mn_sLI, o96_61⟩
  · exact ⟨mn_sK, o96_63⟩
  · exact ⟨mn_sI2, o96_64⟩
  · exact ⟨mn_sLR, o96_67⟩
  · exact ⟨mn_sLI, o96_68⟩
  · exact ⟨mn_sLI, o96_70⟩
  · exact ⟨mn_sX, ok_X⟩
theorem oc96_3 : ∀ pc, Mnp (c96_3 pc) ∧ Okp RX5 cX5_receive 7 (some .int) "receive" false pc (c96_3 pc) := by
  intro pc
  unfold c96_3
  split
  · exact ⟨mn_sCV, o96_72⟩
  · exact ⟨mn_sLR, o96_75⟩
  · exact ⟨mn_sGR, o96_76⟩
  · exact ⟨mn_sLI, o96_79⟩
  · exact ⟨mn_sLI, o96_81⟩
  · exact ⟨mn_sLR, o96_83⟩
  · exact ⟨mn_sGI, o96_84⟩
  · exact ⟨mn_sCV, o96_87⟩
  · exact ⟨mn_sLR, o96_90⟩
  · exact ⟨mn_sLR, o96_91⟩
  · exact ⟨mn_sGR, o96_92⟩
  · exact ⟨mn_sLI, o96_95⟩
  · exact ⟨mn_sX, ok_X⟩
theorem oc96_4 : ∀ pc, Mnp (c96_4 pc) ∧ Okp RX5 cX5_receive 7 (some .int) "receive" false pc (c96_4 pc) := by
  intro pc
  unfold c96_4
  split
  · exact ⟨mn_sK, o96_96⟩
  · exact ⟨mn_sB2, o96_97⟩
  · exact ⟨mn_sLI, o96_98⟩
  · exact ⟨mn_sB2, o96_100⟩
  · exact ⟨mn_sCV, o96_101⟩
  · exact ⟨mn_sCV, o96_104⟩
  · exact ⟨mn_sK, o96_107⟩
  · exact ⟨mn_sRI, o96_108⟩
  · exact ⟨mn_sX, ok_X⟩
theorem oc96 : ∀ pc, Mnp (c96 pc) ∧ Okp RX5 cX5_receive 7 (some .int) "receive" false pc (c96 pc) := by
  intro pc
  unfold c96
  split
  · exact oc96_0 pc
  · exact oc96_1 pc
  · exact oc96_2 pc
  · exact oc96_3 pc
  · exact oc96_4 pc
  · exact ⟨mn_sX, ok_X⟩
theorem o97_0 : Okp RX6 cX6_init 1 none "<init>" false 0 (sLR 0 1) := ok_aload_n (by decide +kernel : decode cX6_init 0 = .ok (.aload_n 0, 1)) rfl
theorem o97_1 : Okp RX6 cX6_init 1 none "<init>" false 1 (sCt 4) := ok_oinit (by decide +kernel : decode cX6_init 1 = .ok (.invokespecial 3, 3)) wq_X6_3 wq_i wq_c
theorem o97_4 : Okp RX6 cX6_init 1 none "<init>" false 4 (sLR 0 5) := ok_aload_n (by decide +kernel : decode cX6_init 4 = .ok (.aload_n 0, 1)) rfl
theorem o97_5 : Okp RX6 cX6_init 1 none "<init>" false 5 (sNew 2 6 8) := ok_new (by decide +kernel : decode cX6_init 5 = .ok (.new 9, 3)) ⟨rfl, rfl, by decide, cw_X1, tyX1_ok, wl_X6_9, wn_X1, wi_SealedProcesses_Bytes, df_X1⟩
theorem o97_8 : Okp RX6 cX6_init 1 none "<init>" false 8 (sDup 9) := ok_dup (by decide +kernel : decode cX6_init 8 = .ok (.dup, 1))
theorem o97_9 : Okp RX6 cX6_init 1 none "<init>" false 9 (sCI 10 1 12) := ok_ci (by decide +kernel : decode cX6_init 9 = .ok (.invokespecial 11, 3)) mw_X6_11 rfl rfl wm_X1_init (by decide) rfl
theorem o97_12 : Okp RX6 cX6_init 1 none "<init>" false 12 (sPR 7 0 15) := ok_putR (by decide +kernel : decode cX6_init 12 = .ok (.putfield 12, 3)) fw_X6_12 ⟨⟨tyX6_ok, nmX6⟩, Or.inr ⟨rfl, rfl, rfl⟩, rfl⟩ (Or.inl ⟨_, rfl⟩) rfl
theorem o97_15 : Okp RX6 cX6_init 1 none "<init>" false 15 (sLR 0 16) := ok_aload_n (by decide +kernel : decode cX6_init 15 = .ok (.aload_n 0, 1)) rfl
theorem o97_16 : Okp RX6 cX6_init 1 none "<init>" false 16 (sK 0 17) := ok_iconst (by decide +kernel : decode cX6_init 16 = .ok (.iconst 0, 1)) (by decide)
theorem o97_17 : Okp RX6 cX6_init 1 none "<init>" false 17 (sPI 7 1 20) := ok_putI (by decide +kernel : decode cX6_init 17 = .ok (.putfield 18, 3)) fw_X6_18 ⟨⟨tyX6_ok, nmX6⟩, Or.inl rfl, rfl⟩ rfl
theorem o97_20 : Okp RX6 cX6_init 1 none "<init>" false 20 (sLR 0 21) := ok_aload_n (by decide +kernel : decode cX6_init 20 = .ok (.aload_n 0, 1)) rfl
theorem o97_21 : Okp RX6 cX6_init 1 none "<init>" false 21 (sK 6 23) := ok_bipush (by decide +kernel : decode cX6_init 21 = .ok (.bipush 6, 2)) (by decide)
theorem o97_23 : Okp RX6 cX6_init 1 none "<init>" false 23 (sNA 20 26) := ok_anew (by decide +kernel : decode cX6_init 23 = .ok (.anewarray 22, 3)) (by decide) (fun _ => rfl) wl_X6_22 wo_X9
theorem o97_26 : Okp RX6 cX6_init 1 none "<init>" false 26 (sPR 7 2 29) := ok_putR (by decide +kernel : decode cX6_init 26 = .ok (.putfield 24, 3)) fw_X6_24 ⟨⟨tyX6_ok, nmX6⟩, Or.inr ⟨rfl, rfl, rfl⟩, rfl⟩ (Or.inr ⟨_, rfl⟩) rfl
theorem o97_29 : Okp RX6 cX6_init 1 none "<init>" false 29 (sLR 0 30) := ok_aload_n (by decide +kernel : decode cX6_init 29 = .ok (.aload_n 0, 1)) rfl
theorem o97_30 : Okp RX6 cX6_init 1 none "<init>" false 30 (sK 6 32) := ok_bipush (by decide +kernel : decode cX6_init 30 = .ok (.bipush 6, 2)) (by decide)
theorem o97_32 : Okp RX6 cX6_init 1 none "<init>" false 32 (sNA 15 34) := ok_newI (by decide +kernel : decode cX6_init 32 = .ok (.newarray .int, 2)) wa_int
theorem o97_34 : Okp RX6 cX6_init 1 none "<init>" false 34 (sPR 7 3 37) := ok_putR (by decide +kernel : decode cX6_init 34 = .ok (.putfield 28, 3)) fw_X6_28 ⟨⟨tyX6_ok, nmX6⟩, Or.inr ⟨rfl, rfl, rfl⟩, rfl⟩ (Or.inr ⟨_, rfl⟩) rfl
theorem o97_37 : Okp RX6 cX6_init 1 none "<init>" false 37 (sLR 0 38) := ok_aload_n (by decide +kernel : decode cX6_init 37 = .ok (.aload_n 0, 1)) rfl
theorem o97_38 : Okp RX6 cX6_init 1 none "<init>" false 38 (sK 6 40) := ok_bipush (by decide +kernel : decode cX6_init 38 = .ok (.bipush 6, 2)) (by decide)
theorem o97_40 : Okp RX6 cX6_init 1 none "<init>" false 40 (sNA 15 42) := ok_newI (by decide +kernel : decode cX6_init 40 = .ok (.newarray .int, 2)) wa_int
theorem o97_42 : Okp RX6 cX6_init 1 none "<init>" false 42 (sPR 7 4 45) := ok_putR (by decide +kernel : decode cX6_init 42 = .ok (.putfield 32, 3)) fw_X6_32 ⟨⟨tyX6_ok, nmX6⟩, Or.inr ⟨rfl, rfl, rfl⟩, rfl⟩ (Or.inr ⟨_, rfl⟩) rfl
theorem o97_45 : Okp RX6 cX6_init 1 none "<init>" false 45 (sLR 0 46) := ok_aload_n (by decide +kernel : decode cX6_init 45 = .ok (.aload_n 0, 1)) rfl
theorem o97_46 : Okp RX6 cX6_init 1 none "<init>" false 46 (sK 6 48) := ok_bipush (by decide +kernel : decode cX6_init 46 = .ok (.bipush 6, 2)) (by decide)
theorem o97_48 : Okp RX6 cX6_init 1 none "<init>" false 48 (sNA 15 50) := ok_newI (by decide +kernel : decode cX6_init 48 = .ok (.newarray .int, 2)) wa_int
theorem o97_50 : Okp RX6 cX6_init 1 none "<init>" false 50 (sPR 7 5 53) := ok_putR (by decide +kernel : decode cX6_init 50 = .ok (.putfield 35, 3)) fw_X6_35 ⟨⟨tyX6_ok, nmX6⟩, Or.inr ⟨rfl, rfl, rfl⟩, rfl⟩ (Or.inr ⟨_, rfl⟩) rfl
theorem o97_53 : Okp RX6 cX6_init 1 none "<init>" false 53 (sLR 0 54) := ok_aload_n (by decide +kernel : decode cX6_init 53 = .ok (.aload_n 0, 1)) rfl
theorem o97_54 : Okp RX6 cX6_init 1 none "<init>" false 54 (sK 24 56) := ok_bipush (by decide +kernel : decode cX6_init 54 = .ok (.bipush 24, 2)) (by decide)
theorem o97_56 : Okp RX6 cX6_init 1 none "<init>" false 56 (sNA 15 58) := ok_newI (by decide +kernel : decode cX6_init 56 = .ok (.newarray .int, 2)) wa_int
theorem o97_58 : Okp RX6 cX6_init 1 none "<init>" false 58 (sPR 7 6 61) := ok_putR (by decide +kernel : decode cX6_init 58 = .ok (.putfield 38, 3)) fw_X6_38 ⟨⟨tyX6_ok, nmX6⟩, Or.inr ⟨rfl, rfl, rfl⟩, rfl⟩ (Or.inr ⟨_, rfl⟩) rfl
theorem o97_61 : Okp RX6 cX6_init 1 none "<init>" false 61 (sLR 0 62) := ok_aload_n (by decide +kernel : decode cX6_init 61 = .ok (.aload_n 0, 1)) rfl
theorem o97_62 : Okp RX6 cX6_init 1 none "<init>" false 62 (sK 8 64) := ok_bipush (by decide +kernel : decode cX6_init 62 = .ok (.bipush 8, 2)) (by decide)
theorem o97_64 : Okp RX6 cX6_init 1 none "<init>" false 64 (sNA 15 66) := ok_newI (by decide +kernel : decode cX6_init 64 = .ok (.newarray .int, 2)) wa_int
theorem o97_66 : Okp RX6 cX6_init 1 none "<init>" false 66 (sPR 7 7 69) := ok_putR (by decide +kernel : decode cX6_init 66 = .ok (.putfield 41, 3)) fw_X6_41 ⟨⟨tyX6_ok, nmX6⟩, Or.inr ⟨rfl, rfl, rfl⟩, rfl⟩ (Or.inr ⟨_, rfl⟩) rfl
theorem o97_69 : Okp RX6 cX6_init 1 none "<init>" false 69 (sLR 0 70) := ok_aload_n (by decide +kernel : decode cX6_init 69 = .ok (.aload_n 0, 1)) rfl
theorem o97_70 : Okp RX6 cX6_init 1 none "<init>" false 70 (sK 8 72) := ok_bipush (by decide +kernel : decode cX6_init 70 = .ok (.bipush 8, 2)) (by decide)
theorem o97_72 : Okp RX6 cX6_init 1 none "<init>" false 72 (sNA 20 75) := ok_anew (by decide +kernel : decode cX6_init 72 = .ok (.anewarray 22, 3)) (by decide) (fun _ => rfl) wl_X6_22 wo_X9
theorem o97_75 : Okp RX6 cX6_init 1 none "<init>" false 75 (sPR 7 8 78) := ok_putR (by decide +kernel : decode cX6_init 75 = .ok (.putfield 44, 3)) fw_X6_44 ⟨⟨tyX6_ok, nmX6⟩, Or.inr ⟨rfl, rfl, rfl⟩, rfl⟩ (Or.inr ⟨_, rfl⟩) rfl
theorem o97_78 : Okp RX6 cX6_init 1 none "<init>" false 78 (sLR 0 79) := ok_aload_n (by decide +kernel : decode cX6_init 78 = .ok (.aload_n 0, 1)) rfl
theorem o97_79 : Okp RX6 cX6_init 1 none "<init>" false 79 (sK 8 81) := ok_bipush (by decide +kernel : decode cX6_init 79 = .ok (.bipush 8, 2)) (by decide)
theorem o97_81 : Okp RX6 cX6_init 1 none "<init>" false 81 (sNA 15 83) := ok_newI (by decide +kernel : decode cX6_init 81 = .ok (.newarray .int, 2)) wa_int
theorem o97_83 : Okp RX6 cX6_init 1 none "<init>" false 83 (sPR 7 9 86) := ok_putR (by decide +kernel : decode cX6_init 83 = .ok (.putfield 47, 3)) fw_X6_47 ⟨⟨tyX6_ok, nmX6⟩, Or.inr ⟨rfl, rfl, rfl⟩, rfl⟩ (Or.inr ⟨_, rfl⟩) rfl
theorem o97_86 : Okp RX6 cX6_init 1 none "<init>" false 86 (sLR 0 87) := ok_aload_n (by decide +kernel : decode cX6_init 86 = .ok (.aload_n 0, 1)) rfl
theorem o97_87 : Okp RX6 cX6_init 1 none "<init>" false 87 (sK 16 89) := ok_bipush (by decide +kernel : decode cX6_init 87 = .ok (.bipush 16, 2)) (by decide)
theorem o97_89 : Okp RX6 cX6_init 1 none "<init>" false 89 (sNA 15 91) := ok_newI (by decide +kernel : decode cX6_init 89 = .ok (.newarray .int, 2)) wa_int
theorem o97_91 : Okp RX6 cX6_init 1 none "<init>" false 91 (sPR 7 10 94) := ok_putR (by decide +kernel : decode cX6_init 91 = .ok (.putfield 50, 3)) fw_X6_50 ⟨⟨tyX6_ok, nmX6⟩, Or.inr ⟨rfl, rfl, rfl⟩, rfl⟩ (Or.inr ⟨_, rfl⟩) rfl
theorem o97_94 : Okp RX6 cX6_init 1 none "<init>" false 94 (sLR 0 95) := ok_aload_n (by decide +kernel : decode cX6_init 94 = .ok (.aload_n 0, 1)) rfl
theorem o97_95 : Okp RX6 cX6_init 1 none "<init>" false 95 (sK 0 96) := ok_iconst (by decide +kernel : decode cX6_init 95 = .ok (.iconst 0, 1)) (by decide)
theorem o97_96 : Okp RX6 cX6_init 1 none "<init>" false 96 (sPI 7 11 99) := ok_putI (by decide +kernel : decode cX6_init 96 = .ok (.putfield 53, 3)) fw_X6_53 ⟨⟨tyX6_ok, nmX6⟩, Or.inl rfl, rfl⟩ rfl
theorem o97_99 : Okp RX6 cX6_init 1 none "<init>" false 99 sRV := ok_vret rfl (by decide +kernel : decode cX6_init 99 = .ok (.return_, 1))
theorem oc97_0 : ∀ pc, Mnp (c97_0 pc) ∧ Okp RX6 cX6_init 1 none "<init>" false pc (c97_0 pc) := by
  intro pc
  unfold c97_0
  split
  · exact ⟨mn_sLR, o97_0⟩
  · exact ⟨mn_sCt, o97_1⟩
  · exact ⟨mn_sLR, o97_4⟩
  · exact ⟨mn_sNew, o97_5⟩
  · exact ⟨mn_sDup, o97_8⟩
  · exact ⟨mn_sCI, o97_9⟩
  · exact ⟨mn_sPR, o97_12⟩
  · exact ⟨mn_sLR, o97_15⟩
  · exact ⟨mn_sK, o97_16⟩
  · exact ⟨mn_sPI, o97_17⟩
  · exact ⟨mn_sLR, o97_20⟩
  · exact ⟨mn_sK, o97_21⟩
  · exact ⟨mn_sNA, o97_23⟩
  · exact ⟨mn_sX, ok_X⟩
theorem oc97_1 : ∀ pc, Mnp (c97_1 pc) ∧ Okp RX6 cX6_init 1 none "<init>" false pc (c97_1 pc) := by
  intro pc
  unfold c97_1
  split
  · exact ⟨mn_sPR, o97_26⟩
  · exact ⟨mn_sLR, o97_29⟩
  · exact ⟨mn_sK, o97_30⟩
  · exact ⟨mn_sNA, o97_32⟩
  · exact ⟨mn_sPR, o97_34⟩
  · exact ⟨mn_sLR, o97_37⟩
  · exact ⟨mn_sK, o97_38⟩
  · exact ⟨mn_sNA, o97_40⟩
  · exact ⟨mn_sPR, o97_42⟩
  · exact ⟨mn_sLR, o97_45⟩
  · exact ⟨mn_sK, o97_46⟩
  · exact ⟨mn_sX, ok_X⟩
theorem oc97_2 : ∀ pc, Mnp (c97_2 pc) ∧ Okp RX6 cX6_init 1 none "<init>" false pc (c97_2 pc) := by
  intro pc
  unfold c97_2
  split
  · exact ⟨mn_sNA, o97_48⟩
  · exact ⟨mn_sPR, o97_50⟩
  · exact ⟨mn_sLR, o97_53⟩
  · exact ⟨mn_sK, o97_54⟩
  · exact ⟨mn_sNA, o97_56⟩
  · exact ⟨mn_sPR, o97_58⟩
  · exact ⟨mn_sLR, o97_61⟩
  · exact ⟨mn_sK, o97_62⟩
  · exact ⟨mn_sNA, o97_64⟩
  · exact ⟨mn_sPR, o97_66⟩
  · exact ⟨mn_sLR, o97_69⟩
  · exact ⟨mn_sK, o97_70⟩
  · exact ⟨mn_sX, ok_X⟩
theorem oc97_3 : ∀ pc, Mnp (c97_3 pc) ∧ Okp RX6 cX6_init 1 none "<init>" false pc (c97_3 pc) := by
  intro pc
  unfold c97_3
  split
  · exact ⟨mn_sNA, o97_72⟩
  · exact ⟨mn_sPR, o97_75⟩
  · exact ⟨mn_sLR, o97_78⟩
  · exact ⟨mn_sK, o97_79⟩
  · exact ⟨mn_sNA, o97_81⟩
  · exact ⟨mn_sPR, o97_83⟩
  · exact ⟨mn_sLR, o97_86⟩
  · exact ⟨mn_sK, o97_87⟩
  · exact ⟨mn_sNA, o97_89⟩
  · exact ⟨mn_sPR, o97_91⟩
  · exact ⟨mn_sLR, o97_94⟩
  · exact ⟨mn_sK, o97_95⟩
  · exact ⟨mn_sX, ok_X⟩
theorem oc97_4 : ∀ pc, Mnp (c97_4 pc) ∧ Okp RX6 cX6_init 1 none "<init>" false pc (c97_4 pc) := by
  intro pc
  unfold c97_4
  split
  · exact ⟨mn_sPI, o97_96⟩
  · exact ⟨mn_sRV, o97_99⟩
  · exact ⟨mn_sX, ok_X⟩
theorem oc97 : ∀ pc, Mnp (c97 pc) ∧ Okp RX6 cX6_init 1 none "<init>" false pc (c97 pc) := by
  intro pc
  unfold c97
  split
  · exact oc97_0 pc
  · exact oc97_1 pc
  · exact oc97_2 pc
  · exact oc97_3 pc
  · exact oc97_4 pc
  · exact ⟨mn_sX, ok_X⟩
theorem o98_0 : Okp RX6 cX6_read 5 (some (.object "SealedProcesses$Bytes")) "read" false 0 (sLR 0 1) := ok_aload_n (by decide +kernel : decode cX6_read 0 = .ok (.aload_n 0, 1)) rfl
theorem o98_1 : Okp RX6 cX6_read 5 (some (.object "SealedProcesses$Bytes")) "read" false 1 (sGR 7 0 4) := ok_getR (by decide +kernel : decode cX6_read 1 = .ok (.getfield 12, 3)) fw_X6_12 rfl
theorem o98_4 : Okp RX6 cX6_read 5 (some (.object "SealedProcesses$Bytes")) "read" false 4 (sLR 1 5) := ok_aload_n (by decide +kernel : decode cX6_read 4 = .ok (.aload_n 1, 1)) rfl
theorem o98_5 : Okp RX6 cX6_read 5 (some (.object "SealedProcesses$Bytes")) "read" false 5 (sLI 2 6) := ok_iload_n (by decide +kernel : decode cX6_read 5 = .ok (.iload_n 2, 1)) rfl
theorem o98_6 : Okp RX6 cX6_read 5 (some (.object "SealedProcesses$Bytes")) "read" false 6 (sCV false 11 3 2 9) := ok_cv (by decide +kernel : decode cX6_read 6 = .ok (.invokevirtual 56, 3)) mw_X6_56 rfl (by decide) wm_X1_startOver wse_X1_startOver (by decide) rfl
theorem o98_9 : Okp RX6 cX6_read 5 (some (.object "SealedProcesses$Bytes")) "read" false 9 (sK 0 10) := ok_iconst (by decide +kernel : decode cX6_read 9 = .ok (.iconst 0, 1)) (by decide)
theorem o98_10 : Okp RX6 cX6_read 5 (some (.object "SealedProcesses$Bytes")) "read" false 10 (sSI 4 12) := ok_istore (by decide +kernel : decode cX6_read 10 = .ok (.istore 4, 2)) (by decide) (by decide)
theorem o98_12 : Okp RX6 cX6_read 5 (some (.object "SealedProcesses$Bytes")) "read" false 12 (sLI 4 14) := ok_iload (by decide +kernel : decode cX6_read 12 = .ok (.iload 4, 2))
theorem o98_14 : Okp RX6 cX6_read 5 (some (.object "SealedProcesses$Bytes")) "read" false 14 (sK 8 16) := ok_bipush (by decide +kernel : decode cX6_read 14 = .ok (.bipush 8, 2)) (by decide)
theorem o98_16 : Okp RX6 cX6_read 5 (some (.object "SealedProcesses$Bytes")) "read" false 16 (sI2 3 33 19) := ok_icmp_ge (by decide +kernel : decode cX6_read 16 = .ok (.if_icmp .ge 17, 3)) (by decide)
theorem o98_19 : Okp RX6 cX6_read 5 (some (.object "SealedProcesses$Bytes")) "read" false 19 (sLR 0 20) := ok_aload_n (by decide +kernel : decode cX6_read 19 = .ok (.aload_n 0, 1)) rfl
theorem o98_20 : Okp RX6 cX6_read 5 (some (.object "SealedProcesses$Bytes")) "read" false 20 (sGR 7 7 23) := ok_getR (by decide +kernel : decode cX6_read 20 = .ok (.getfield 41, 3)) fw_X6_41 rfl
theorem o98_23 : Okp RX6 cX6_read 5 (some (.object "SealedProcesses$Bytes")) "read" false 23 (sLI 4 25) := ok_iload (by decide +kernel : decode cX6_read 23 = .ok (.iload 4, 2))
theorem o98_25 : Okp RX6 cX6_read 5 (some (.object "SealedProcesses$Bytes")) "read" false 25 (sK 0 26) := ok_iconst (by decide +kernel : decode cX6_read 25 = .ok (.iconst 0, 1)) (by decide)
theorem o98_26 : Okp RX6 cX6_read 5 (some (.object "SealedProcesses$Bytes")) "read" false 26 (sIS 27) := ok_iastore (by decide +kernel : decode cX6_read 26 = .ok (.iastore, 1))
theorem o98_27 : Okp RX6 cX6_read 5 (some (.object "SealedProcesses$Bytes")) "read" false 27 (sInc 4 1 30) := ok_iinc (by decide +kernel : decode cX6_read 27 = .ok (.iinc 4 1, 3)) (by decide) (by decide)
theorem o98_30 : Okp RX6 cX6_read 5 (some (.object "SealedProcesses$Bytes")) "read" false 30 (sGo 12) := ok_goto (by decide +kernel : decode cX6_read 30 = .ok (.goto (-18), 3)) (by decide)
theorem o98_33 : Okp RX6 cX6_read 5 (some (.object "SealedProcesses$Bytes")) "read" false 33 (sLR 0 34) := ok_aload_n (by decide +kernel : decode cX6_read 33 = .ok (.aload_n 0, 1)) rfl
theorem o98_34 : Okp RX6 cX6_read 5 (some (.object "SealedProcesses$Bytes")) "read" false 34 (sGR 7 0 37) := ok_getR (by decide +kernel : decode cX6_read 34 = .ok (.getfield 12, 3)) fw_X6_12 rfl
theorem o98_37 : Okp RX6 cX6_read 5 (some (.object "SealedProcesses$Bytes")) "read" false 37 (sK 83 39) := ok_bipush (by decide +kernel : decode cX6_read 37 = .ok (.bipush 83, 2)) (by decide)
theorem o98_39 : Okp RX6 cX6_read 5 (some (.object "SealedProcesses$Bytes")) "read" false 39 (sK 83 41) := ok_bipush (by decide +kernel : decode cX6_read 39 = .ok (.bipush 83, 2)) (by decide)
theorem o98_41 : Okp RX6 cX6_read 5 (some (.object "SealedProcesses$Bytes")) "read" false 41 (sCV false 16 3 2 44) := ok_cv (by decide +kernel : decode cX6_read 41 = .ok (.invokevirtual 60, 3)) mw_X6_60 rfl (by decide) wm_X1_takeWithin wse_X1_takeWithin (by decide) rfl
theorem o98_44 : Okp RX6 cX6_read 5 (some (.object "SealedProcesses$Bytes")) "read" false 44 (sPop 45) := ok_pop (by decide +kernel : decode cX6_read 44 = .ok (.pop, 1))
theorem o98_45 : Okp RX6 cX6_read 5 (some (.object "SealedProcesses$Bytes")) "read" false 45 (sLR 0 46) := ok_aload_n (by decide +kernel : decode cX6_read 45 = .ok (.aload_n 0, 1)) rfl
theorem o98_46 : Okp RX6 cX6_read 5 (some (.object "SealedProcesses$Bytes")) "read" false 46 (sGR 7 0 49) := ok_getR (by decide +kernel : decode cX6_read 46 = .ok (.getfield 12, 3)) fw_X6_12 rfl
theorem o98_49 : Okp RX6 cX6_read 5 (some (.object "SealedProcesses$Bytes")) "read" false 49 (sK 70 51) := ok_bipush (by decide +kernel : decode cX6_read 49 = .ok (.bipush 70, 2)) (by decide)
theorem o98_51 : Okp RX6 cX6_read 5 (some (.object "SealedProcesses$Bytes")) "read" false 51 (sK 70 53) := ok_bipush (by decide +kernel : decode cX6_read 51 = .ok (.bipush 70, 2)) (by decide)
theorem o98_53 : Okp RX6 cX6_read 5 (some (.object "SealedProcesses$Bytes")) "read" false 53 (sCV false 16 3 2 56) := ok_cv (by decide +kernel : decode cX6_read 53 = .ok (.invokevirtual 60, 3)) mw_X6_60 rfl (by decide) wm_X1_takeWithin wse_X1_takeWithin (by decide) rfl
theorem o98_56 : Okp RX6 cX6_read 5 (some (.object "SealedProcesses$Bytes")) "read" false 56 (sPop 57) := ok_pop (by decide +kernel : decode cX6_read 56 = .ok (.pop, 1))
theorem o98_57 : Okp RX6 cX6_read 5 (some (.object "SealedProcesses$Bytes")) "read" false 57 (sLR 0 58) := ok_aload_n (by decide +kernel : decode cX6_read 57 = .ok (.aload_n 0, 1)) rfl
theorem o98_58 : Okp RX6 cX6_read 5 (some (.object "SealedProcesses$Bytes")) "read" false 58 (sLR 0 59) := ok_aload_n (by decide +kernel : decode cX6_read 58 = .ok (.aload_n 0, 1)) rfl
theorem o98_59 : Okp RX6 cX6_read 5 (some (.object "SealedProcesses$Bytes")) "read" false 59 (sGR 7 0 62) := ok_getR (by decide +kernel : decode cX6_read 59 = .ok (.getfield 12, 3)) fw_X6_12 rfl
theorem o98_62 : Okp RX6 cX6_read 5 (some (.object "SealedProcesses$Bytes")) "read" false 62 (sK 1 63) := ok_iconst (by decide +kernel : decode cX6_read 62 = .ok (.iconst 1, 1)) (by decide)
theorem o98_63 : Okp RX6 cX6_read 5 (some (.object "SealedProcesses$Bytes")) "read" false 63 (sK 6 65) := ok_bipush (by decide +kernel : decode cX6_read 63 = .ok (.bipush 6, 2)) (by decide)
theorem o98_65 : Okp RX6 cX6_read 5 (some (.object "SealedProcesses$Bytes")) "read" false 65 (sCV false 16 3 2 68) := ok_cv (by decide +kernel : decode cX6_read 65 = .ok (.invokevirtual 60, 3)) mw_X6_60 rfl (by decide) wm_X1_takeWithin wse_X1_takeWithin (by decide) rfl
theorem o98_68 : Okp RX6 cX6_read 5 (some (.object "SealedProcesses$Bytes")) "read" false 68 (sPI 7 1 71) := ok_putI (by decide +kernel : decode cX6_read 68 = .ok (.putfield 18, 3)) fw_X6_18 ⟨⟨tyX6_ok, nmX6⟩, Or.inl rfl, rfl⟩ rfl
theorem o98_71 : Okp RX6 cX6_read 5 (some (.object "SealedProcesses$Bytes")) "read" false 71 (sK 0 72) := ok_iconst (by decide +kernel : decode cX6_read 71 = .ok (.iconst 0, 1)) (by decide)
theorem o98_72 : Okp RX6 cX6_read 5 (some (.object "SealedProcesses$Bytes")) "read" false 72 (sSI 4 74) := ok_istore (by decide +kernel : decode cX6_read 72 = .ok (.istore 4, 2)) (by decide) (by decide)
theorem o98_74 : Okp RX6 cX6_read 5 (some (.object "SealedProcesses$Bytes")) "read" false 74 (sLI 4 76) := ok_iload (by decide +kernel : decode cX6_read 74 = .ok (.iload 4, 2))
theorem o98_76 : Okp RX6 cX6_read 5 (some (.object "SealedProcesses$Bytes")) "read" false 76 (sLR 0 77) := ok_aload_n (by decide +kernel : decode cX6_read 76 = .ok (.aload_n 0, 1)) rfl
theorem o98_77 : Okp RX6 cX6_read 5 (some (.object "SealedProcesses$Bytes")) "read" false 77 (sGI 7 1 80) := ok_getI (by decide +kernel : decode cX6_read 77 = .ok (.getfield 18, 3)) fw_X6_18 rfl
theorem o98_80 : Okp RX6 cX6_read 5 (some (.object "SealedProcesses$Bytes")) "read" false 80 (sI2 3 106 83) := ok_icmp_ge (by decide +kernel : decode cX6_read 80 = .ok (.if_icmp .ge 26, 3)) (by decide)
theorem o98_83 : Okp RX6 cX6_read 5 (some (.object "SealedProcesses$Bytes")) "read" false 83 (sLR 0 84) := ok_aload_n (by decide +kernel : decode cX6_read 83 = .ok (.aload_n 0, 1)) rfl
theorem o98_84 : Okp RX6 cX6_read 5 (some (.object "SealedProcesses$Bytes")) "read" false 84 (sGR 7 0 87) := ok_getR (by decide +kernel : decode cX6_read 84 = .ok (.getfield 12, 3)) fw_X6_12 rfl
theorem o98_87 : Okp RX6 cX6_read 5 (some (.object "SealedProcesses$Bytes")) "read" false 87 (sCV false 12 1 2 90) := ok_cv (by decide +kernel : decode cX6_read 87 = .ok (.invokevirtual 64, 3)) mw_X6_64 rfl (by decide) wm_X1_isRight wse_X1_isRight (by decide) rfl
theorem o98_90 : Okp RX6 cX6_read 5 (some (.object "SealedProcesses$Bytes")) "read" false 90 (sI1 0 106 93) := ok_if_eq (by decide +kernel : decode cX6_read 90 = .ok (.ifCond .eq 16, 3)) (by decide)
theorem o98_93 : Okp RX6 cX6_read 5 (some (.object "SealedProcesses$Bytes")) "read" false 93 (sLR 0 94) := ok_aload_n (by decide +kernel : decode cX6_read 93 = .ok (.aload_n 0, 1)) rfl
theorem o98_94 : Okp RX6 cX6_read 5 (some (.object "SealedProcesses$Bytes")) "read" false 94 (sLI 4 96) := ok_iload (by decide +kernel : decode cX6_read 94 = .ok (.iload 4, 2))
theorem o98_96 : Okp RX6 cX6_read 5 (some (.object "SealedProcesses$Bytes")) "read" false 96 (sLR 3 97) := ok_aload_n (by decide +kernel : decode cX6_read 96 = .ok (.aload_n 3, 1)) rfl
theorem o98_97 : Okp RX6 cX6_read 5 (some (.object "SealedProcesses$Bytes")) "read" false 97 (sCV false 99 3 7 100) := ok_cv (by decide +kernel : decode cX6_read 97 = .ok (.invokevirtual 68, 3)) mw_X6_68 rfl (by decide) wm_X6_readProcess wse_X6_readProcess (by decide) rfl
theorem o98_100 : Okp RX6 cX6_read 5 (some (.object "SealedProcesses$Bytes")) "read" false 100 (sInc 4 1 103) := ok_iinc (by decide +kernel : decode cX6_read 100 = .ok (.iinc 4 1, 3)) (by decide) (by decide)
theorem o98_103 : Okp RX6 cX6_read 5 (some (.object "SealedProcesses$Bytes")) "read" false 103 (sGo 74) := ok_goto (by decide +kernel : decode cX6_read 103 = .ok (.goto (-29), 3)) (by decide)
theorem o98_106 : Okp RX6 cX6_read 5 (some (.object "SealedProcesses$Bytes")) "read" false 106 (sLR 0 107) := ok_aload_n (by decide +kernel : decode cX6_read 106 = .ok (.aload_n 0, 1)) rfl
theorem o98_107 : Okp RX6 cX6_read 5 (some (.object "SealedProcesses$Bytes")) "read" false 107 (sGR 7 0 110) := ok_getR (by decide +kernel : decode cX6_read 107 = .ok (.getfield 12, 3)) fw_X6_12 rfl
theorem o98_110 : Okp RX6 cX6_read 5 (some (.object "SealedProcesses$Bytes")) "read" false 110 (sCV false 18 1 2 113) := ok_cv (by decide +kernel : decode cX6_read 110 = .ok (.invokevirtual 72, 3)) mw_X6_72 rfl (by decide) wm_X1_expectEnd wse_X1_expectEnd (by decide) rfl
theorem o98_113 : Okp RX6 cX6_read 5 (some (.object "SealedProcesses$Bytes")) "read" false 113 (sK 0 114) := ok_iconst (by decide +kernel : decode cX6_read 113 = .ok (.iconst 0, 1)) (by decide)
theorem o98_114 : Okp RX6 cX6_read 5 (some (.object "SealedProcesses$Bytes")) "read" false 114 (sSI 4 116) := ok_istore (by decide +kernel : decode cX6_read 114 = .ok (.istore 4, 2)) (by decide) (by decide)
theorem o98_116 : Okp RX6 cX6_read 5 (some (.object "SealedProcesses$Bytes")) "read" false 116 (sLI 4 118) := ok_iload (by decide +kernel : decode cX6_read 116 = .ok (.iload 4, 2))
theorem o98_118 : Okp RX6 cX6_read 5 (some (.object "SealedProcesses$Bytes")) "read" false 118 (sK 8 120) := ok_bipush (by decide +kernel : decode cX6_read 118 = .ok (.bipush 8, 2)) (by decide)
theorem o98_120 : Okp RX6 cX6_read 5 (some (.object "SealedProcesses$Bytes")) "read" false 120 (sI2 3 156 123) := ok_icmp_ge (by decide +kernel : decode cX6_read 120 = .ok (.if_icmp .ge 36, 3)) (by decide)
theorem o98_123 : Okp RX6 cX6_read 5 (some (.object "SealedProcesses$Bytes")) "read" false 123 (sLR 0 124) := ok_aload_n (by decide +kernel : decode cX6_read 123 = .ok (.aload_n 0, 1)) rfl
theorem o98_124 : Okp RX6 cX6_read 5 (some (.object "SealedProcesses$Bytes")) "read" false 124 (sGR 7 7 127) := ok_getR (by decide +kernel : decode cX6_read 124 = .ok (.getfield 41, 3)) fw_X6_41 rfl
theorem o98_127 : Okp RX6 cX6_read 5 (some (.object "SealedProcesses$Bytes")) "read" false 127 (sLI 4 129) := ok_iload (by decide +kernel : decode cX6_read 127 = .ok (.iload 4, 2))
theorem o98_129 : Okp RX6 cX6_read 5 (some (.object "SealedProcesses$Bytes")) "read" false 129 (sIA 130) := ok_iaload (by decide +kernel : decode cX6_read 129 = .ok (.iaload, 1))
theorem o98_130 : Okp RX6 cX6_read 5 (some (.object "SealedProcesses$Bytes")) "read" false 130 (sK 1 131) := ok_iconst (by decide +kernel : decode cX6_read 130 = .ok (.iconst 1, 1)) (by decide)
theorem o98_131 : Okp RX6 cX6_read 5 (some (.object "SealedProcesses$Bytes")) "read" false 131 (sI2 1 150 134) := ok_icmp_ne (by decide +kernel : decode cX6_read 131 = .ok (.if_icmp .ne 19, 3)) (by decide)
theorem o98_134 : Okp RX6 cX6_read 5 (some (.object "SealedProcesses$Bytes")) "read" false 134 (sLR 0 135) := ok_aload_n (by decide +kernel : decode cX6_read 134 = .ok (.aload_n 0, 1)) rfl
theorem o98_135 : Okp RX6 cX6_read 5 (some (.object "SealedProcesses$Bytes")) "read" false 135 (sGR 7 0 138) := ok_getR (by decide +kernel : decode cX6_read 135 = .ok (.getfield 12, 3)) fw_X6_12 rfl
theorem o98_138 : Okp RX6 cX6_read 5 (some (.object "SealedProcesses$Bytes")) "read" false 138 (sK 6 140) := ok_bipush (by decide +kernel : decode cX6_read 138 = .ok (.bipush 6, 2)) (by decide)
theorem o98_140 : Okp RX6 cX6_read 5 (some (.object "SealedProcesses$Bytes")) "read" false 140 (sLR 0 141) := ok_aload_n (by decide +kernel : decode cX6_read 140 = .ok (.aload_n 0, 1)) rfl
theorem o98_141 : Okp RX6 cX6_read 5 (some (.object "SealedProcesses$Bytes")) "read" false 141 (sGR 7 0 144) := ok_getR (by decide +kernel : decode cX6_read 141 = .ok (.getfield 12, 3)) fw_X6_12 rfl
theorem o98_144 : Okp RX6 cX6_read 5 (some (.object "SealedProcesses$Bytes")) "read" false 144 (sGI 2 3 147) := ok_getI (by decide +kernel : decode cX6_read 144 = .ok (.getfield 75, 3)) fw_X6_75 rfl
theorem o98_147 : Okp RX6 cX6_read 5 (some (.object "SealedProcesses$Bytes")) "read" false 147 (sCV false 13 3 2 150) := ok_cv (by decide +kernel : decode cX6_read 147 = .ok (.invokevirtual 78, 3)) mw_X6_78 rfl (by decide) wm_X1_fail wse_X1_fail (by decide) rfl
theorem o98_150 : Okp RX6 cX6_read 5 (some (.object "SealedProcesses$Bytes")) "read" false 150 (sInc 4 1 153) := ok_iinc (by decide +kernel : decode cX6_read 150 = .ok (.iinc 4 1, 3)) (by decide) (by decide)
theorem o98_153 : Okp RX6 cX6_read 5 (some (.object "SealedProcesses$Bytes")) "read" false 153 (sGo 116) := ok_goto (by decide +kernel : decode cX6_read 153 = .ok (.goto (-37), 3)) (by decide)
theorem o98_156 : Okp RX6 cX6_read 5 (some (.object "SealedProcesses$Bytes")) "read" false 156 (sLR 0 157) := ok_aload_n (by decide +kernel : decode cX6_read 156 = .ok (.aload_n 0, 1)) rfl
theorem o98_157 : Okp RX6 cX6_read 5 (some (.object "SealedProcesses$Bytes")) "read" false 157 (sGR 7 0 160) := ok_getR (by decide +kernel : decode cX6_read 157 = .ok (.getfield 12, 3)) fw_X6_12 rfl
theorem o98_160 : Okp RX6 cX6_read 5 (some (.object "SealedProcesses$Bytes")) "read" false 160 sRR := ok_aret rfl (Or.inl ⟨_, rfl⟩) (by decide +kernel : decode cX6_read 160 = .ok (.areturn, 1))
theorem oc98_0 : ∀ pc, Mnp (c98_0 pc) ∧ Okp RX6 cX6_read 5 (some (.object "SealedProcesses$Bytes")) "read" false pc (c98_0 pc) := by
  intro pc
  unfold c98_0
  split
  · exact ⟨mn_sLR, o98_0⟩
  · exact ⟨mn_sGR, o98_1⟩
  · exact ⟨mn_sLR, o98_4⟩
  · exact ⟨mn_sLI, o98_5⟩
  · exact ⟨mn_sCV, o98_6⟩
  · exact ⟨mn_sK, o98_9⟩
  · exact ⟨mn_sSI, o98_10⟩
  · exact ⟨mn_sLI, o98_12⟩
  · exact ⟨mn_sK, o98_14⟩
  · exact ⟨mn_sI2, o98_16⟩
  · exact ⟨mn_sLR, o98_19⟩
  · exact ⟨mn_sGR, o98_20⟩
  · exact ⟨mn_sLI, o98_23⟩
  · exact ⟨mn_sX, ok_X⟩
theorem oc98_1 : ∀ pc, Mnp (c98_1 pc) ∧ Okp RX6 cX6_read 5 (some (.object "SealedProcesses$Bytes")) "read" false pc (c98_1 pc) := by
  intro pc
  unfold c98_1
  split
  · exact ⟨mn_sK, o98_25⟩
  · exact ⟨mn_sIS, o98_26⟩
  · exact ⟨mn_sInc, o98_27⟩
  · exact ⟨mn_sGo, o98_30⟩
  · exact ⟨mn_sLR, o98_33⟩
  · exact ⟨mn_sGR, o98_34⟩
  · exact ⟨mn_sK, o98_37⟩
  · exact ⟨mn_sK, o98_39⟩
  · exact ⟨mn_sCV, o98_41⟩
  · exact ⟨mn_sPop, o98_44⟩
  · exact ⟨mn_sLR, o98_45⟩
  · exact ⟨mn_sGR, o98_46⟩
  · exact ⟨mn_sX, ok_X⟩
theorem oc98_2 : ∀ pc, Mnp (c98_2 pc) ∧ Okp RX6 cX6_read 5 (some (.object "SealedProcesses$Bytes")) "read" false pc (c98_2 pc) := by
  intro pc
  unfold c98_2
  split
  · exact ⟨mn_sK, o98_49⟩
  · exact ⟨mn_sK, o98_51⟩
  · exact ⟨mn_sCV, o98_53⟩
  · exact ⟨mn_sPop, o98_56⟩
  · exact ⟨mn_sLR, o98_57⟩
  · exact ⟨mn_sLR, o98_58⟩
  · exact ⟨mn_sGR, o98_59⟩
  · exact ⟨mn_sK, o98_62⟩
  · exact ⟨mn_sK, o98_63⟩
  · exact ⟨mn_sCV, o98_65⟩
  · exact ⟨mn_sPI, o98_68⟩
  · exact ⟨mn_sK, o98_71⟩
  · exact ⟨mn_sX, ok_X⟩
theorem oc98_3 : ∀ pc, Mnp (c98_3 pc) ∧ Okp RX6 cX6_read 5 (some (.object "SealedProcesses$Bytes")) "read" false pc (c98_3 pc) := by
  intro pc
  unfold c98_3
  split
  · exact ⟨mn_sSI, o98_72⟩
  · exact ⟨mn_sLI, o98_74⟩
  · exact ⟨mn_sLR, o98_76⟩
  · exact ⟨mn_sGI, o98_77⟩
  · exact ⟨mn_sI2, o98_80⟩
  · exact ⟨mn_sLR, o98_83⟩
  · exact ⟨mn_sGR, o98_84⟩
  · exact ⟨mn_sCV, o98_87⟩
  · exact ⟨mn_sI1, o98_90⟩
  · exact ⟨mn_sLR, o98_93⟩
  · exact ⟨mn_sLI, o98_94⟩
  · exact ⟨mn_sX, ok_X⟩
theorem oc98_4 : ∀ pc, Mnp (c98_4 pc) ∧ Okp RX6 cX6_read 5 (some (.object "SealedProcesses$Bytes")) "read" false pc (c98_4 pc) := by
  intro pc
  unfold c98_4
  split
  · exact ⟨mn_sLR, o98_96⟩
  · exact ⟨mn_sCV, o98_97⟩
  · exact ⟨mn_sInc, o98_100⟩
  · exact ⟨mn_sGo, o98_103⟩
  · exact ⟨mn_sLR, o98_106⟩
  · exact ⟨mn_sGR, o98_107⟩
  · exact ⟨mn_sCV, o98_110⟩
  · exact ⟨mn_sK, o98_113⟩
  · exact ⟨mn_sSI, o98_114⟩
  · exact ⟨mn_sLI, o98_116⟩
  · exact ⟨mn_sK, o98_118⟩
  · exact ⟨mn_sX, ok_X⟩
theorem oc98_5 : ∀ pc, Mnp (c98_5 pc) ∧ Okp RX6 cX6_read 5 (some (.object "SealedProcesses$Bytes")) "read" false pc (c98_5 pc) := by
  intro pc
  unfold c98_5
  split
  · exact ⟨mn_sI2, o98_120⟩
  · exact ⟨mn_sLR, o98_123⟩
  · exact ⟨mn_sGR, o98_124⟩
  · exact ⟨mn_sLI, o98_127⟩
  · exact ⟨mn_sIA, o98_129⟩
  · exact ⟨mn_sK, o98_130⟩
  · exact ⟨mn_sI2, o98_131⟩
  · exact ⟨mn_sLR, o98_134⟩
  · exact ⟨mn_sGR, o98_135⟩
  · exact ⟨mn_sK, o98_138⟩
  · exact ⟨mn_sLR, o98_140⟩
  · exact ⟨mn_sGR, o98_141⟩
  · exact ⟨mn_sX, ok_X⟩
theorem oc98_6 : ∀ pc, Mnp (c98_6 pc) ∧ Okp RX6 cX6_read 5 (some (.object "SealedProcesses$Bytes")) "read" false pc (c98_6 pc) := by
  intro pc
  unfold c98_6
  split
  · exact ⟨mn_sGI, o98_144⟩
  · exact ⟨mn_sCV, o98_147⟩
  · exact ⟨mn_sInc, o98_150⟩
  · exact ⟨mn_sGo, o98_153⟩
  · exact ⟨mn_sLR, o98_156⟩
  · exact ⟨mn_sGR, o98_157⟩
  · exact ⟨mn_sRR, o98_160⟩
  · exact ⟨mn_sX, ok_X⟩
theorem oc98 : ∀ pc, Mnp (c98 pc) ∧ Okp RX6 cX6_read 5 (some (.object "SealedProcesses$Bytes")) "read" false pc (c98 pc) := by
  intro pc
  unfold c98
  split
  · exact oc98_0 pc
  · exact oc98_1 pc
  · exact oc98_2 pc
  · exact oc98_3 pc
  · exact oc98_4 pc
  · exact oc98_5 pc
  · exact oc98_6 pc
  · exact ⟨mn_sX, ok_X⟩
theorem o99_0 : Okp RX6 cX6_readProcess 9 none "readProcess" false 0 (sLR 0 1) := ok_aload_n (by decide +kernel : decode cX6_readProcess 0 = .ok (.aload_n 0, 1)) rfl
theorem o99_1 : Okp RX6 cX6_readProcess 9 none "readProcess" false 1 (sGR 7 0 4) := ok_getR (by decide +kernel : decode cX6_readProcess 1 = .ok (.getfield 12, 3)) fw_X6_12 rfl
theorem o99_4 : Okp RX6 cX6_readProcess 9 none "readProcess" false 4 (sCV false 15 1 2 7) := ok_cv (by decide +kernel : decode cX6_readProcess 4 = .ok (.invokevirtual 82, 3)) mw_X6_82 rfl (by decide) wm_X1_take wse_X1_take (by decide) rfl
theorem o99_7 : Okp RX6 cX6_readProcess 9 none "readProcess" false 7 (sSI 3 8) := ok_istore_n (by decide +kernel : decode cX6_readProcess 7 = .ok (.istore_n 3, 1)) rfl (by decide) (by decide)
theorem o99_8 : Okp RX6 cX6_readProcess 9 none "readProcess" false 8 (sLI 3 9) := ok_iload_n (by decide +kernel : decode cX6_readProcess 8 = .ok (.iload_n 3, 1)) rfl
theorem o99_9 : Okp RX6 cX6_readProcess 9 none "readProcess" false 9 (sLR 2 10) := ok_aload_n (by decide +kernel : decode cX6_readProcess 9 = .ok (.aload_n 2, 1)) rfl
theorem o99_10 : Okp RX6 cX6_readProcess 9 none "readProcess" false 10 (sLen 11) := ok_alen (by decide +kernel : decode cX6_readProcess 10 = .ok (.arraylength, 1))
theorem o99_11 : Okp RX6 cX6_readProcess 9 none "readProcess" false 11 (sI2 3 20 14) := ok_icmp_ge (by decide +kernel : decode cX6_readProcess 11 = .ok (.if_icmp .ge 9, 3)) (by decide)
theorem o99_14 : Okp RX6 cX6_readProcess 9 none "readProcess" false 14 (sLR 2 15) := ok_aload_n (by decide +kernel : decode cX6_readProcess 14 = .ok (.aload_n 2, 1)) rfl
theorem o99_15 : Okp RX6 cX6_readProcess 9 none "readProcess" false 15 (sLI 3 16) := ok_iload_n (by decide +kernel : decode cX6_readProcess 15 = .ok (.iload_n 3, 1)) rfl
theorem o99_16 : Okp RX6 cX6_readProcess 9 none "readProcess" false 16 (sRA 17) := ok_aaload (by decide +kernel : decode cX6_readProcess 16 = .ok (.aaload, 1))
theorem o99_17 : Okp RX6 cX6_readProcess 9 none "readProcess" false 17 (sGo 21) := ok_goto (by decide +kernel : decode cX6_readProcess 17 = .ok (.goto 4, 3)) (by decide)
theorem o99_20 : Okp RX6 cX6_readProcess 9 none "readProcess" false 20 (sNul 21) := ok_null (by decide +kernel : decode cX6_readProcess 20 = .ok (.aconst_null, 1))
theorem o99_21 : Okp RX6 cX6_readProcess 9 none "readProcess" false 21 (sSR 4 23) := ok_astore (by decide +kernel : decode cX6_readProcess 21 = .ok (.astore 4, 2)) (by decide) (by decide)
theorem o99_23 : Okp RX6 cX6_readProcess 9 none "readProcess" false 23 (sLR 4 25) := ok_aload (by decide +kernel : decode cX6_readProcess 23 = .ok (.aload 4, 2))
theorem o99_25 : Okp RX6 cX6_readProcess 9 none "readProcess" false 25 (sNl 28 46) := ok_ifnonnull (by decide +kernel : decode cX6_readProcess 25 = .ok (.ifnonnull 21, 3)) (by decide)
theorem o99_28 : Okp RX6 cX6_readProcess 9 none "readProcess" false 28 (sLR 0 29) := ok_aload_n (by decide +kernel : decode cX6_readProcess 28 = .ok (.aload_n 0, 1)) rfl
theorem o99_29 : Okp RX6 cX6_readProcess 9 none "readProcess" false 29 (sGR 7 0 32) := ok_getR (by decide +kernel : decode cX6_readProcess 29 = .ok (.getfield 12, 3)) fw_X6_12 rfl
theorem o99_32 : Okp RX6 cX6_readProcess 9 none "readProcess" false 32 (sK 3 33) := ok_iconst (by decide +kernel : decode cX6_readProcess 32 = .ok (.iconst 3, 1)) (by decide)
theorem o99_33 : Okp RX6 cX6_readProcess 9 none "readProcess" false 33 (sLR 0 34) := ok_aload_n (by decide +kernel : decode cX6_readProcess 33 = .ok (.aload_n 0, 1)) rfl
theorem o99_34 : Okp RX6 cX6_readProcess 9 none "readProcess" false 34 (sGR 7 0 37) := ok_getR (by decide +kernel : decode cX6_readProcess 34 = .ok (.getfield 12, 3)) fw_X6_12 rfl
theorem o99_37 : Okp RX6 cX6_readProcess 9 none "readProcess" false 37 (sGI 2 3 40) := ok_getI (by decide +kernel : decode cX6_readProcess 37 = .ok (.getfield 75, 3)) fw_X6_75 rfl
theorem o99_40 : Okp RX6 cX6_readProcess 9 none "readProcess" false 40 (sK 1 41) := ok_iconst (by decide +kernel : decode cX6_readProcess 40 = .ok (.iconst 1, 1)) (by decide)
theorem o99_41 : Okp RX6 cX6_readProcess 9 none "readProcess" false 41 (sB2 fSub 42) := ok_isub (by decide +kernel : decode cX6_readProcess 41 = .ok (.isub, 1))
theorem o99_42 : Okp RX6 cX6_readProcess 9 none "readProcess" false 42 (sCV false 13 3 2 45) := ok_cv (by decide +kernel : decode cX6_readProcess 42 = .ok (.invokevirtual 78, 3)) mw_X6_78 rfl (by decide) wm_X1_fail wse_X1_fail (by decide) rfl
theorem o99_45 : Okp RX6 cX6_readProcess 9 none "readProcess" false 45 sRV := ok_vret rfl (by decide +kernel : decode cX6_readProcess 45 = .ok (.return_, 1))
theorem o99_46 : Okp RX6 cX6_readProcess 9 none "readProcess" false 46 (sLR 0 47) := ok_aload_n (by decide +kernel : decode cX6_readProcess 46 = .ok (.aload_n 0, 1)) rfl
theorem o99_47 : Okp RX6 cX6_readProcess 9 none "readProcess" false 47 (sGR 7 0 50) := ok_getR (by decide +kernel : decode cX6_readProcess 47 = .ok (.getfield 12, 3)) fw_X6_12 rfl
theorem o99_50 : Okp RX6 cX6_readProcess 9 none "readProcess" false 50 (sCV false 15 1 2 53) := ok_cv (by decide +kernel : decode cX6_readProcess 50 = .ok (.invokevirtual 82, 3)) mw_X6_82 rfl (by decide) wm_X1_take wse_X1_take (by decide) rfl
theorem o99_53 : Okp RX6 cX6_readProcess 9 none "readProcess" false 53 (sSI 5 55) := ok_istore (by decide +kernel : decode cX6_readProcess 53 = .ok (.istore 5, 2)) (by decide) (by decide)
theorem o99_55 : Okp RX6 cX6_readProcess 9 none "readProcess" false 55 (sLR 4 57) := ok_aload (by decide +kernel : decode cX6_readProcess 55 = .ok (.aload 4, 2))
theorem o99_57 : Okp RX6 cX6_readProcess 9 none "readProcess" false 57 (sLI 5 59) := ok_iload (by decide +kernel : decode cX6_readProcess 57 = .ok (.iload 5, 2))
theorem o99_59 : Okp RX6 cX6_readProcess 9 none "readProcess" false 59 (sCV false 149 2 10 62) := ok_cv (by decide +kernel : decode cX6_readProcess 59 = .ok (.invokevirtual 86, 3)) mw_X6_86 rfl (by decide) wm_X9_routineAt wse_X9_routineAt (by decide) rfl
theorem o99_62 : Okp RX6 cX6_readProcess 9 none "readProcess" false 62 (sSR 6 64) := ok_astore (by decide +kernel : decode cX6_readProcess 62 = .ok (.astore 6, 2)) (by decide) (by decide)
theorem o99_64 : Okp RX6 cX6_readProcess 9 none "readProcess" false 64 (sLR 6 66) := ok_aload (by decide +kernel : decode cX6_readProcess 64 = .ok (.aload 6, 2))
theorem o99_66 : Okp RX6 cX6_readProcess 9 none "readProcess" false 66 (sNl 77 69) := ok_ifnull (by decide +kernel : decode cX6_readProcess 66 = .ok (.ifnull 11, 3)) (by decide)
theorem o99_69 : Okp RX6 cX6_readProcess 9 none "readProcess" false 69 (sLR 6 71) := ok_aload (by decide +kernel : decode cX6_readProcess 69 = .ok (.aload 6, 2))
theorem o99_71 : Okp RX6 cX6_readProcess 9 none "readProcess" false 71 (sCS false 100 1 74) := ok_cs (by decide +kernel : decode cX6_readProcess 71 = .ok (.invokestatic 90, 3)) mw_X6_90 wt_X6_isBootable (by decide) rfl
theorem o99_74 : Okp RX6 cX6_readProcess 9 none "readProcess" false 74 (sI1 1 95 77) := ok_if_ne (by decide +kernel : decode cX6_readProcess 74 = .ok (.ifCond .ne 21, 3)) (by decide)
theorem o99_77 : Okp RX6 cX6_readProcess 9 none "readProcess" false 77 (sLR 0 78) := ok_aload_n (by decide +kernel : decode cX6_readProcess 77 = .ok (.aload_n 0, 1)) rfl
theorem o99_78 : Okp RX6 cX6_readProcess 9 none "readProcess" false 78 (sGR 7 0 81) := ok_getR (by decide +kernel : decode cX6_readProcess 78 = .ok (.getfield 12, 3)) fw_X6_12 rfl
theorem o99_81 : Okp RX6 cX6_readProcess 9 none "readProcess" false 81 (sK 4 82) := ok_iconst (by decide +kernel : decode cX6_readProcess 81 = .ok (.iconst 4, 1)) (by decide)
theorem o99_82 : Okp RX6 cX6_readProcess 9 none "readProcess" false 82 (sLR 0 83) := ok_aload_n (by decide +kernel : decode cX6_readProcess 82 = .ok (.aload_n 0, 1)) rfl
theorem o99_83 : Okp RX6 cX6_readProcess 9 none "readProcess" false 83 (sGR 7 0 86) := ok_getR (by decide +kernel : decode cX6_readProcess 83 = .ok (.getfield 12, 3)) fw_X6_12 rfl
theorem o99_86 : Okp RX6 cX6_readProcess 9 none "readProcess" false 86 (sGI 2 3 89) := ok_getI (by decide +kernel : decode cX6_readProcess 86 = .ok (.getfield 75, 3)) fw_X6_75 rfl
theorem o99_89 : Okp RX6 cX6_readProcess 9 none "readProcess" false 89 (sK 1 90) := ok_iconst (by decide +kernel : decode cX6_readProcess 89 = .ok (.iconst 1, 1)) (by decide)
theorem o99_90 : Okp RX6 cX6_readProcess 9 none "readProcess" false 90 (sB2 fSub 91) := ok_isub (by decide +kernel : decode cX6_readProcess 90 = .ok (.isub, 1))
theorem o99_91 : Okp RX6 cX6_readProcess 9 none "readProcess" false 91 (sCV false 13 3 2 94) := ok_cv (by decide +kernel : decode cX6_readProcess 91 = .ok (.invokevirtual 78, 3)) mw_X6_78 rfl (by decide) wm_X1_fail wse_X1_fail (by decide) rfl
theorem o99_94 : Okp RX6 cX6_readProcess 9 none "readProcess" false 94 sRV := ok_vret rfl (by decide +kernel : decode cX6_readProcess 94 = .ok (.return_, 1))
theorem o99_95 : Okp RX6 cX6_readProcess 9 none "readProcess" false 95 (sLR 0 96) := ok_aload_n (by decide +kernel : decode cX6_readProcess 95 = .ok (.aload_n 0, 1)) rfl
theorem o99_96 : Okp RX6 cX6_readProcess 9 none "readProcess" false 96 (sGR 7 2 99) := ok_getR (by decide +kernel : decode cX6_readProcess 96 = .ok (.getfield 24, 3)) fw_X6_24 rfl
theorem o99_99 : Okp RX6 cX6_readProcess 9 none "readProcess" false 99 (sLI 1 100) := ok_iload_n (by decide +kernel : decode cX6_readProcess 99 = .ok (.iload_n 1, 1)) rfl
theorem o99_100 : Okp RX6 cX6_readProcess 9 none "readProcess" false 100 (sLR 4 102) := ok_aload (by decide +kernel : decode cX6_readProcess 100 = .ok (.aload 4, 2))
theorem o99_102 : Okp RX6 cX6_readProcess 9 none "readProcess" false 102 (sRS 103) := ok_aastore (by decide +kernel : decode cX6_readProcess 102 = .ok (.aastore, 1))
theorem o99_103 : Okp RX6 cX6_readProcess 9 none "readProcess" false 103 (sLR 0 104) := ok_aload_n (by decide +kernel : decode cX6_readProcess 103 = .ok (.aload_n 0, 1)) rfl
theorem o99_104 : Okp RX6 cX6_readProcess 9 none "readProcess" false 104 (sGR 7 3 107) := ok_getR (by decide +kernel : decode cX6_readProcess 104 = .ok (.getfield 28, 3)) fw_X6_28 rfl
theorem o99_107 : Okp RX6 cX6_readProcess 9 none "readProcess" false 107 (sLI 1 108) := ok_iload_n (by decide +kernel : decode cX6_readProcess 107 = .ok (.iload_n 1, 1)) rfl
theorem o99_108 : Okp RX6 cX6_readProcess 9 none "readProcess" false 108 (sLI 3 109) := ok_iload_n (by decide +kernel : decode cX6_readProcess 108 = .ok (.iload_n 3, 1)) rfl
theorem o99_109 : Okp RX6 cX6_readProcess 9 none "readProcess" false 109 (sIS 110) := ok_iastore (by decide +kernel : decode cX6_readProcess 109 = .ok (.iastore, 1))
theorem o99_110 : Okp RX6 cX6_readProcess 9 none "readProcess" false 110 (sLR 0 111) := ok_aload_n (by decide +kernel : decode cX6_readProcess 110 = .ok (.aload_n 0, 1)) rfl
theorem o99_111 : Okp RX6 cX6_readProcess 9 none "readProcess" false 111 (sGR 7 4 114) := ok_getR (by decide +kernel : decode cX6_readProcess 111 = .ok (.getfield 32, 3)) fw_X6_32 rfl
theorem o99_114 : Okp RX6 cX6_readProcess 9 none "readProcess" false 114 (sLI 1 115) := ok_iload_n (by decide +kernel : decode cX6_readProcess 114 = .ok (.iload_n 1, 1)) rfl
theorem o99_115 : Okp RX6 cX6_readProcess 9 none "readProcess" false 115 (sLI 5 117) := ok_iload (by decide +kernel : decode cX6_readProcess 115 = .ok (.iload 5, 2))
theorem o99_117 : Okp RX6 cX6_readProcess 9 none "readProcess" false 117 (sIS 118) := ok_iastore (by decide +kernel : decode cX6_readProcess 117 = .ok (.iastore, 1))
theorem o99_118 : Okp RX6 cX6_readProcess 9 none "readProcess" false 118 (sLR 0 119) := ok_aload_n (by decide +kernel : decode cX6_readProcess 118 = .ok (.aload_n 0, 1)) rfl
theorem o99_119 : Okp RX6 cX6_readProcess 9 none "readProcess" false 119 (sGR 7 5 122) := ok_getR (by decide +kernel : decode cX6_readProcess 119 = .ok (.getfield 35, 3)) fw_X6_35 rfl
theorem o99_122 : Okp RX6 cX6_readProcess 9 none "readProcess" false 122 (sLI 1 123) := ok_iload_n (by decide +kernel : decode cX6_readProcess 122 = .ok (.iload_n 1, 1)) rfl
theorem o99_123 : Okp RX6 cX6_readProcess 9 none "readProcess" false 123 (sLR 0 124) := ok_aload_n (by decide +kernel : decode cX6_readProcess 123 = .ok (.aload_n 0, 1)) rfl
theorem o99_124 : Okp RX6 cX6_readProcess 9 none "readProcess" false 124 (sGR 7 0 127) := ok_getR (by decide +kernel : decode cX6_readProcess 124 = .ok (.getfield 12, 3)) fw_X6_12 rfl
theorem o99_127 : Okp RX6 cX6_readProcess 9 none "readProcess" false 127 (sK 1 128) := ok_iconst (by decide +kernel : decode cX6_readProcess 127 = .ok (.iconst 1, 1)) (by decide)
theorem o99_128 : Okp RX6 cX6_readProcess 9 none "readProcess" false 128 (sK 64 130) := ok_bipush (by decide +kernel : decode cX6_readProcess 128 = .ok (.bipush 64, 2)) (by decide)
theorem o99_130 : Okp RX6 cX6_readProcess 9 none "readProcess" false 130 (sCV false 16 3 2 133) := ok_cv (by decide +kernel : decode cX6_readProcess 130 = .ok (.invokevirtual 60, 3)) mw_X6_60 rfl (by decide) wm_X1_takeWithin wse_X1_takeWithin (by decide) rfl
theorem o99_133 : Okp RX6 cX6_readProcess 9 none "readProcess" false 133 (sIS 134) := ok_iastore (by decide +kernel : decode cX6_readProcess 133 = .ok (.iastore, 1))
theorem o99_134 : Okp RX6 cX6_readProcess 9 none "readProcess" false 134 (sK 0 135) := ok_iconst (by decide +kernel : decode cX6_readProcess 134 = .ok (.iconst 0, 1)) (by decide)
theorem o99_135 : Okp RX6 cX6_readProcess 9 none "readProcess" false 135 (sSI 7 137) := ok_istore (by decide +kernel : decode cX6_readProcess 135 = .ok (.istore 7, 2)) (by decide) (by decide)
theorem o99_137 : Okp RX6 cX6_readProcess 9 none "readProcess" false 137 (sLI 7 139) := ok_iload (by decide +kernel : decode cX6_readProcess 137 = .ok (.iload 7, 2))
theorem o99_139 : Okp RX6 cX6_readProcess 9 none "readProcess" false 139 (sLR 6 141) := ok_aload (by decide +kernel : decode cX6_readProcess 139 = .ok (.aload 6, 2))
theorem o99_141 : Okp RX6 cX6_readProcess 9 none "readProcess" false 141 (sGI 8 0 144) := ok_getI (by decide +kernel : decode cX6_readProcess 141 = .ok (.getfield 94, 3)) fw_X6_94 rfl
theorem o99_144 : Okp RX6 cX6_readProcess 9 none "readProcess" false 144 (sI2 3 206 147) := ok_icmp_ge (by decide +kernel : decode cX6_readProcess 144 = .ok (.if_icmp .ge 62, 3)) (by decide)
theorem o99_147 : Okp RX6 cX6_readProcess 9 none "readProcess" false 147 (sLR 0 148) := ok_aload_n (by decide +kernel : decode cX6_readProcess 147 = .ok (.aload_n 0, 1)) rfl
theorem o99_148 : Okp RX6 cX6_readProcess 9 none "readProcess" false 148 (sGR 7 0 151) := ok_getR (by decide +kernel : decode cX6_readProcess 148 = .ok (.getfield 12, 3)) fw_X6_12 rfl
theorem o99_151 : Okp RX6 cX6_readProcess 9 none "readProcess" false 151 (sCV false 12 1 2 154) := ok_cv (by decide +kernel : decode cX6_readProcess 151 = .ok (.invokevirtual 64, 3)) mw_X6_64 rfl (by decide) wm_X1_isRight wse_X1_isRight (by decide) rfl
theorem o99_154 : Okp RX6 cX6_readProcess 9 none "readProcess" false 154 (sI1 0 206 157) := ok_if_eq (by decide +kernel : decode cX6_readProcess 154 = .ok (.ifCond .eq 52, 3)) (by decide)
theorem o99_157 : Okp RX6 cX6_readProcess 9 none "readProcess" false 157 (sLR 6 159) := ok_aload (by decide +kernel : decode cX6_readProcess 157 = .ok (.aload 6, 2))
theorem o99_159 : Okp RX6 cX6_readProcess 9 none "readProcess" false 159 (sLI 7 161) := ok_iload (by decide +kernel : decode cX6_readProcess 159 = .ok (.iload 7, 2))
theorem o99_161 : Okp RX6 cX6_readProcess 9 none "readProcess" false 161 (sCV false 107 2 8 164) := ok_cv (by decide +kernel : decode cX6_readProcess 161 = .ok (.invokevirtual 99, 3)) mw_X6_99 rfl (by decide) wm_X7_typeOfParameter wse_X7_typeOfParameter (by decide) rfl
theorem o99_164 : Okp RX6 cX6_readProcess 9 none "readProcess" false 164 (sSI 8 166) := ok_istore (by decide +kernel : decode cX6_readProcess 164 = .ok (.istore 8, 2)) (by decide) (by decide)
theorem o99_166 : Okp RX6 cX6_readProcess 9 none "readProcess" false 166 (sLR 0 167) := ok_aload_n (by decide +kernel : decode cX6_readProcess 166 = .ok (.aload_n 0, 1)) rfl
theorem o99_167 : Okp RX6 cX6_readProcess 9 none "readProcess" false 167 (sGR 7 6 170) := ok_getR (by decide +kernel : decode cX6_readProcess 167 = .ok (.getfield 38, 3)) fw_X6_38 rfl
theorem o99_170 : Okp RX6 cX6_readProcess 9 none "readProcess" false 170 (sLI 1 171) := ok_iload_n (by decide +kernel : decode cX6_readProcess 170 = .ok (.iload_n 1, 1)) rfl
theorem o99_171 : Okp RX6 cX6_readProcess 9 none "readProcess" false 171 (sK 4 172) := ok_iconst (by decide +kernel : decode cX6_readProcess 171 = .ok (.iconst 4, 1)) (by decide)
theorem o99_172 : Okp RX6 cX6_readProcess 9 none "readProcess" false 172 (sB2 fMul 173) := ok_imul (by decide +kernel : decode cX6_readProcess 172 = .ok (.imul, 1))
theorem o99_173 : Okp RX6 cX6_readProcess 9 none "readProcess" false 173 (sLI 7 175) := ok_iload (by decide +kernel : decode cX6_readProcess 173 = .ok (.iload 7, 2))
theorem o99_175 : Okp RX6 cX6_readProcess 9 none "readProcess" false 175 (sB2 fAdd 176) := ok_iadd (by decide +kernel : decode cX6_readProcess 175 = .ok (.iadd, 1))
theorem o99_176 : Okp RX6 cX6_readProcess 9 none "readProcess" false 176 (sLI 8 178) := ok_iload (by decide +kernel : decode cX6_readProcess 176 = .ok (.iload 8, 2))
theorem o99_178 : Okp RX6 cX6_readProcess 9 none "readProcess" false 178 (sI1 1 191 181) := ok_if_ne (by decide +kernel : decode cX6_readProcess 178 = .ok (.ifCond .ne 13, 3)) (by decide)
theorem o99_181 : Okp RX6 cX6_readProcess 9 none "readProcess" false 181 (sLR 0 182) := ok_aload_n (by decide +kernel : decode cX6_readProcess 181 = .ok (.aload_n 0, 1)) rfl
theorem o99_182 : Okp RX6 cX6_readProcess 9 none "readProcess" false 182 (sGR 7 0 185) := ok_getR (by decide +kernel : decode cX6_readProcess 182 = .ok (.getfield 12, 3)) fw_X6_12 rfl
theorem o99_185 : Okp RX6 cX6_readProcess 9 none "readProcess" false 185 (sCV false 17 1 2 188) := ok_cv (by decide +kernel : decode cX6_readProcess 185 = .ok (.invokevirtual 103, 3)) mw_X6_103 rfl (by decide) wm_X1_takeWord wse_X1_takeWord (by decide) rfl
theorem o99_188 : Okp RX6 cX6_readProcess 9 none "readProcess" false 188 (sGo 199) := ok_goto (by decide +kernel : decode cX6_readProcess 188 = .ok (.goto 11, 3)) (by decide)
theorem o99_191 : Okp RX6 cX6_readProcess 9 none "readProcess" false 191 (sLR 0 192) := ok_aload_n (by decide +kernel : decode cX6_readProcess 191 = .ok (.aload_n 0, 1)) rfl
theorem o99_192 : Okp RX6 cX6_readProcess 9 none "readProcess" false 192 (sLR 4 194) := ok_aload (by decide +kernel : decode cX6_readProcess 192 = .ok (.aload 4, 2))
theorem o99_194 : Okp RX6 cX6_readProcess 9 none "readProcess" false 194 (sLI 8 196) := ok_iload (by decide +kernel : decode cX6_readProcess 194 = .ok (.iload 8, 2))
theorem o99_196 : Okp RX6 cX6_readProcess 9 none "readProcess" false 196 (sCV false 101 3 7 199) := ok_cv (by decide +kernel : decode cX6_readProcess 196 = .ok (.invokevirtual 106, 3)) mw_X6_106 rfl (by decide) wm_X6_readEnd wse_X6_readEnd (by decide) rfl
theorem o99_199 : Okp RX6 cX6_readProcess 9 none "readProcess" false 199 (sIS 200) := ok_iastore (by decide +kernel : decode cX6_readProcess 199 = .ok (.iastore, 1))
theorem o99_200 : Okp RX6 cX6_readProcess 9 none "readProcess" false 200 (sInc 7 1 203) := ok_iinc (by decide +kernel : decode cX6_readProcess 200 = .ok (.iinc 7 1, 3)) (by decide) (by decide)
theorem o99_203 : Okp RX6 cX6_readProcess 9 none "readProcess" false 203 (sGo 137) := ok_goto (by decide +kernel : decode cX6_readProcess 203 = .ok (.goto (-66), 3)) (by decide)
theorem o99_206 : Okp RX6 cX6_readProcess 9 none "readProcess" false 206 sRV := ok_vret rfl (by decide +kernel : decode cX6_readProcess 206 = .ok (.return_, 1))
theorem oc99_0 : ∀ pc, Mnp (c99_0 pc) ∧ Okp RX6 cX6_readProcess 9 none "readProcess" false pc (c99_0 pc) := by
  intro pc
  unfold c99_0
  split
  · exact ⟨mn_sLR, o99_0⟩
  · exact ⟨mn_sGR, o99_1⟩
  · exact ⟨mn_sCV, o99_4⟩
  · exact ⟨mn_sSI, o99_7⟩
  · exact ⟨mn_sLI, o99_8⟩
  · exact ⟨mn_sLR, o99_9⟩
  · exact ⟨mn_sLen, o99_10⟩
  · exact ⟨mn_sI2, o99_11⟩
  · exact ⟨mn_sLR, o99_14⟩
  · exact ⟨mn_sLI, o99_15⟩
  · exact ⟨mn_sRA, o99_16⟩
  · exact ⟨mn_sGo, o99_17⟩
  · exact ⟨mn_sNul, o99_20⟩
  · exact ⟨mn_sSR, o99_21⟩
  · exact ⟨mn_sLR, o99_23⟩
  · exact ⟨mn_sX, ok_X⟩
theorem oc99_1 : ∀ pc, Mnp (c99_1 pc) ∧ Okp RX6 cX6_readProcess 9 none "readProcess" false pc (c99_1 pc) := by
  intro pc
  unfold c99_1
  split
  · exact ⟨mn_sNl, o99_25⟩
  · exact ⟨mn_sLR, o99_28⟩
  · exact ⟨mn_sGR, o99_29⟩
  · exact ⟨mn_sK, o99_32⟩
  · exact ⟨mn_sLR, o99_33⟩
  · exact ⟨mn_sGR, o99_34⟩
  · exact ⟨mn_sGI, o99_37⟩
  · exact ⟨mn_sK, o99_40⟩
  · exact ⟨mn_sB2, o99_41⟩
  · exact ⟨mn_sCV, o99_42⟩
  · exact ⟨mn_sRV, o99_45⟩
  · exact ⟨mn_sLR, o99_46⟩
  · exact ⟨mn_sGR, o99_47⟩
  · exact ⟨mn_sX, ok_X⟩
theorem oc99_2 : ∀ pc, Mnp (c99_2 pc) ∧ Okp RX6 cX6_readProcess 9 none "readProcess" false pc (c99_2 pc) := by
  intro pc
  unfold c99_2
  split
  · exact ⟨mn_sCV, o99_50⟩
  · exact ⟨mn_sSI, o99_53⟩
  · exact ⟨mn_sLR, o99_55⟩
  · exact ⟨mn_sLI, o99_57⟩
  · exact ⟨mn_sCV, o99_59⟩
  · exact ⟨mn_sSR, o99_62⟩
  · exact ⟨mn_sLR, o99_64⟩
  · exact ⟨mn_sNl, o99_66⟩
  · exact ⟨mn_sLR, o99_69⟩
  · exact ⟨mn_sCS, o99_71⟩
  · exact ⟨mn_sX, ok_X⟩
theorem oc99_3 : ∀ pc, Mnp (c99_3 pc) ∧ Okp RX6 cX6_readProcess 9 none "readProcess" false pc (c99_3 pc) := by
  intro pc
  unfold c99_3
  split
  · exact ⟨mn_sI1, o99_74⟩
  · exact ⟨mn_sLR, o99_77⟩
  · exact ⟨mn_sGR, o99_78⟩
  · exact ⟨mn_sK, o99_81⟩
  · exact ⟨mn_sLR, o99_82⟩
  · exact ⟨mn_sGR, o99_83⟩
  · exact ⟨mn_sGI, o99_86⟩
  · exact ⟨mn_sK, o99_89⟩
  · exact ⟨mn_sB2, o99_90⟩
  · exact ⟨mn_sCV, o99_91⟩
  · exact ⟨mn_sRV, o99_94⟩
  · exact ⟨mn_sLR, o99_95⟩
  · exact ⟨mn_sX, ok_X⟩
theorem oc99_4 : ∀ pc, Mnp (c99_4 pc) ∧ Okp RX6 cX6_readProcess 9 none "readProcess" false pc (c99_4 pc) := by
  intro pc
  unfold c99_4
  split
  · exact ⟨mn_sGR, o99_96⟩
  · exact ⟨mn_sLI, o99_99⟩
  · exact ⟨mn_sLR, o99_100⟩
  · exact ⟨mn_sRS, o99_102⟩
  · exact ⟨mn_sLR, o99_103⟩
  · exact ⟨mn_sGR, o99_104⟩
  · exact ⟨mn_sLI, o99_107⟩
  · exact ⟨mn_sLI, o99_108⟩
  · exact ⟨mn_sIS, o99_109⟩
  · exact ⟨mn_sLR, o99_110⟩
  · exact ⟨mn_sGR, o99_111⟩
  · exact ⟨mn_sLI, o99_114⟩
  · exact ⟨mn_sLI, o99_115⟩
  · exact ⟨mn_sIS, o99_117⟩
  · exact ⟨mn_sLR, o99_118⟩
  · exact ⟨mn_sGR, o99_119⟩
  · exact ⟨mn_sX, ok_X⟩
theorem oc99_5 : ∀ pc, Mnp (c99_5 pc) ∧ Okp RX6 cX6_readProcess 9 none "readProcess" false pc (c99_5 pc) := by
  intro pc
  unfold c99_5
  split
  · exact ⟨mn_sLI, o99_122⟩
  · exact ⟨mn_sLR, o99_123⟩
  · exact ⟨mn_sGR, o99_124⟩
  · exact ⟨mn_sK, o99_127⟩
  · exact ⟨mn_sK, o99_128⟩
  · exact ⟨mn_sCV, o99_130⟩
  · exact ⟨mn_sIS, o99_133⟩
  · exact ⟨mn_sK, o99_134⟩
  · exact ⟨mn_sSI, o99_135⟩
  · exact ⟨mn_sLI, o99_137⟩
  · exact ⟨mn_sLR, o99_139⟩
  · exact ⟨mn_sGI, o99_141⟩
  · exact ⟨mn_sX, ok_X⟩
theorem oc99_6 : ∀ pc, Mnp (c99_6 pc) ∧ Okp RX6 cX6_readProcess 9 none "readProcess" false pc (c99_6 pc) := by
  intro pc
  unfold c99_6
  split
  · exact ⟨mn_sI2, o99_144⟩
  · exact ⟨mn_sLR, o99_147⟩
  · exact ⟨mn_sGR, o99_148⟩
  · exact ⟨mn_sCV, o99_151⟩
  · exact ⟨mn_sI1, o99_154⟩
  · exact ⟨mn_sLR, o99_157⟩
  · exact ⟨mn_sLI, o99_159⟩
  · exact ⟨mn_sCV, o99_161⟩
  · exact ⟨mn_sSI, o99_164⟩
  · exact ⟨mn_sLR, o99_166⟩
  · exact ⟨mn_sGR, o99_167⟩
  · exact ⟨mn_sX, ok_X⟩
theorem oc99_7 : ∀ pc, Mnp (c99_7 pc) ∧ Okp RX6 cX6_readProcess 9 none "readProcess" false pc (c99_7 pc) := by
  intro pc
  unfold c99_7
  split
  · exact ⟨mn_sLI, o99_170⟩
  · exact ⟨mn_sK, o99_171⟩
  · exact ⟨mn_sB2, o99_172⟩
  · exact ⟨mn_sLI, o99_173⟩
  · exact ⟨mn_sB2, o99_175⟩
  · exact ⟨mn_sLI, o99_176⟩
  · exact ⟨mn_sI1, o99_178⟩
  · exact ⟨mn_sLR, o99_181⟩
  · exact ⟨mn_sGR, o99_182⟩
  · exact ⟨mn_sCV, o99_185⟩
  · exact ⟨mn_sGo, o99_188⟩
  · exact ⟨mn_sLR, o99_191⟩
  · exact ⟨mn_sX, ok_X⟩
theorem oc99_8 : ∀ pc, Mnp (c99_8 pc) ∧ Okp RX6 cX6_readProcess 9 none "readProcess" false pc (c99_8 pc) := by
  intro pc
  unfold c99_8
  split
  · exact ⟨mn_sLR, o99_192⟩
  · exact ⟨mn_sLI, o99_194⟩
  · exact ⟨mn_sCV, o99_196⟩
  · exact ⟨mn_sIS, o99_199⟩
  · exact ⟨mn_sInc, o99_200⟩
  · exact ⟨mn_sGo, o99_203⟩
  · exact ⟨mn_sRV, o99_206⟩
  · exact ⟨mn_sX, ok_X⟩
theorem oc99 : ∀ pc, Mnp (c99 pc) ∧ Okp RX6 cX6_readProcess 9 none "readProcess" false pc (c99 pc) := by
  intro pc
  unfold c99
  split
  · exact oc99_0 pc
  · exact oc99_1 pc
  · exact oc99_2 pc
  · exact oc99_3 pc
  · exact oc99_4 pc
  · exact oc99_5 pc
  · exact oc99_6 pc
  · exact oc99_7 pc
  · exact oc99_8 pc
  · exact ⟨mn_sX, ok_X⟩
theorem o100_0 : Okp RX6 cX6_isBootable 3 (some .boolean) "isBootable" false 0 (sK 0 1) := ok_iconst (by decide +kernel : decode cX6_isBootable 0 = .ok (.iconst 0, 1)) (by decide)
theorem o100_1 : Okp RX6 cX6_isBootable 3 (some .boolean) "isBootable" false 1 (sSI 1 2) := ok_istore_n (by decide +kernel : decode cX6_isBootable 1 = .ok (.istore_n 1, 1)) rfl (by decide) (by decide)
theorem o100_2 : Okp RX6 cX6_isBootable 3 (some .boolean) "isBootable" false 2 (sLI 1 3) := ok_iload_n (by decide +kernel : decode cX6_isBootable 2 = .ok (.iload_n 1, 1)) rfl
theorem o100_3 : Okp RX6 cX6_isBootable 3 (some .boolean) "isBootable" false 3 (sLR 0 4) := ok_aload_n (by decide +kernel : decode cX6_isBootable 3 = .ok (.aload_n 0, 1)) rfl
theorem o100_4 : Okp RX6 cX6_isBootable 3 (some .boolean) "isBootable" false 4 (sGI 8 0 7) := ok_getI (by decide +kernel : decode cX6_isBootable 4 = .ok (.getfield 94, 3)) fw_X6_94 rfl
theorem o100_7 : Okp RX6 cX6_isBootable 3 (some .boolean) "isBootable" false 7 (sI2 3 43 10) := ok_icmp_ge (by decide +kernel : decode cX6_isBootable 7 = .ok (.if_icmp .ge 36, 3)) (by decide)
theorem o100_10 : Okp RX6 cX6_isBootable 3 (some .boolean) "isBootable" false 10 (sLR 0 11) := ok_aload_n (by decide +kernel : decode cX6_isBootable 10 = .ok (.aload_n 0, 1)) rfl
theorem o100_11 : Okp RX6 cX6_isBootable 3 (some .boolean) "isBootable" false 11 (sLI 1 12) := ok_iload_n (by decide +kernel : decode cX6_isBootable 11 = .ok (.iload_n 1, 1)) rfl
theorem o100_12 : Okp RX6 cX6_isBootable 3 (some .boolean) "isBootable" false 12 (sCV false 107 2 8 15) := ok_cv (by decide +kernel : decode cX6_isBootable 12 = .ok (.invokevirtual 99, 3)) mw_X6_99 rfl (by decide) wm_X7_typeOfParameter wse_X7_typeOfParameter (by decide) rfl
theorem o100_15 : Okp RX6 cX6_isBootable 3 (some .boolean) "isBootable" false 15 (sSI 2 16) := ok_istore_n (by decide +kernel : decode cX6_isBootable 15 = .ok (.istore_n 2, 1)) rfl (by decide) (by decide)
theorem o100_16 : Okp RX6 cX6_isBootable 3 (some .boolean) "isBootable" false 16 (sLI 2 17) := ok_iload_n (by decide +kernel : decode cX6_isBootable 16 = .ok (.iload_n 2, 1)) rfl
theorem o100_17 : Okp RX6 cX6_isBootable 3 (some .boolean) "isBootable" false 17 (sI1 0 37 20) := ok_if_eq (by decide +kernel : decode cX6_isBootable 17 = .ok (.ifCond .eq 20, 3)) (by decide)
theorem o100_20 : Okp RX6 cX6_isBootable 3 (some .boolean) "isBootable" false 20 (sLI 2 21) := ok_iload_n (by decide +kernel : decode cX6_isBootable 20 = .ok (.iload_n 2, 1)) rfl
theorem o100_21 : Okp RX6 cX6_isBootable 3 (some .boolean) "isBootable" false 21 (sCS false 207 1 24) := ok_cs (by decide +kernel : decode cX6_isBootable 21 = .ok (.invokestatic 110, 3)) mw_X6_110 wt_X11_kindOf (by decide) rfl
theorem o100_24 : Okp RX6 cX6_isBootable 3 (some .boolean) "isBootable" false 24 (sK 5 25) := ok_iconst (by decide +kernel : decode cX6_isBootable 24 = .ok (.iconst 5, 1)) (by decide)
theorem o100_25 : Okp RX6 cX6_isBootable 3 (some .boolean) "isBootable" false 25 (sI2 1 35 28) := ok_icmp_ne (by decide +kernel : decode cX6_isBootable 25 = .ok (.if_icmp .ne 10, 3)) (by decide)
theorem o100_28 : Okp RX6 cX6_isBootable 3 (some .boolean) "isBootable" false 28 (sLI 2 29) := ok_iload_n (by decide +kernel : decode cX6_isBootable 28 = .ok (.iload_n 2, 1)) rfl
theorem o100_29 : Okp RX6 cX6_isBootable 3 (some .boolean) "isBootable" false 29 (sCS false 209 1 32) := ok_cs (by decide +kernel : decode cX6_isBootable 29 = .ok (.invokestatic 113, 3)) mw_X6_113 wt_X11_stateOfEnd (by decide) rfl
theorem o100_32 : Okp RX6 cX6_isBootable 3 (some .boolean) "isBootable" false 32 (sI1 0 37 35) := ok_if_eq (by decide +kernel : decode cX6_isBootable 32 = .ok (.ifCond .eq 5, 3)) (by decide)
theorem o100_35 : Okp RX6 cX6_isBootable 3 (some .boolean) "isBootable" false 35 (sK 0 36) := ok_iconst (by decide +kernel : decode cX6_isBootable 35 = .ok (.iconst 0, 1)) (by decide)
theorem o100_36 : Okp RX6 cX6_isBootable 3 (some .boolean) "isBootable" false 36 sRZ := ok_zret rfl (by decide +kernel : decode cX6_isBootable 36 = .ok (.ireturn, 1))
theorem o100_37 : Okp RX6 cX6_isBootable 3 (some .boolean) "isBootable" false 37 (sInc 1 1 40) := ok_iinc (by decide +kernel : decode cX6_isBootable 37 = .ok (.iinc 1 1, 3)) (by decide) (by decide)
theorem o100_40 : Okp RX6 cX6_isBootable 3 (some .boolean) "isBootable" false 40 (sGo 2) := ok_goto (by decide +kernel : decode cX6_isBootable 40 = .ok (.goto (-38), 3)) (by decide)
theorem o100_43 : Okp RX6 cX6_isBootable 3 (some .boolean) "isBootable" false 43 (sLR 0 44) := ok_aload_n (by decide +kernel : decode cX6_isBootable 43 = .ok (.aload_n 0, 1)) rfl
theorem o100_44 : Okp RX6 cX6_isBootable 3 (some .boolean) "isBootable" false 44 (sGI 8 2 47) := ok_getI (by decide +kernel : decode cX6_isBootable 44 = .ok (.getfield 116, 3)) fw_X6_116 rfl
theorem o100_47 : Okp RX6 cX6_isBootable 3 (some .boolean) "isBootable" false 47 (sK (-1) 48) := ok_iconst (by decide +kernel : decode cX6_isBootable 47 = .ok (.iconst (-1), 1)) (by decide)
theorem o100_48 : Okp RX6 cX6_isBootable 3 (some .boolean) "isBootable" false 48 (sI2 1 55 51) := ok_icmp_ne (by decide +kernel : decode cX6_isBootable 48 = .ok (.if_icmp .ne 7, 3)) (by decide)
theorem o100_51 : Okp RX6 cX6_isBootable 3 (some .boolean) "isBootable" false 51 (sK 1 52) := ok_iconst (by decide +kernel : decode cX6_isBootable 51 = .ok (.iconst 1, 1)) (by decide)
theorem o100_52 : Okp RX6 cX6_isBootable 3 (some .boolean) "isBootable" false 52 (sGo 56) := ok_goto (by decide +kernel : decode cX6_isBootable 52 = .ok (.goto 4, 3)) (by decide)
theorem o100_55 : Okp RX6 cX6_isBootable 3 (some .boolean) "isBootable" false 55 (sK 0 56) := ok_iconst (by decide +kernel : decode cX6_isBootable 55 = .ok (.iconst 0, 1)) (by decide)
theorem o100_56 : Okp RX6 cX6_isBootable 3 (some .boolean) "isBootable" false 56 sRZ := ok_zret rfl (by decide +kernel : decode cX6_isBootable 56 = .ok (.ireturn, 1))
theorem oc100_0 : ∀ pc, Mnp (c100_0 pc) ∧ Okp RX6 cX6_isBootable 3 (some .boolean) "isBootable" false pc (c100_0 pc) := by
  intro pc
  unfold c100_0
  split
  · exact ⟨mn_sK, o100_0⟩
  · exact ⟨mn_sSI, o100_1⟩
  · exact ⟨mn_sLI, o100_2⟩
  · exact ⟨mn_sLR, o100_3⟩
  · exact ⟨mn_sGI, o100_4⟩
  · exact ⟨mn_sI2, o100_7⟩
  · exact ⟨mn_sLR, o100_10⟩
  · exact ⟨mn_sLI, o100_11⟩
  · exact ⟨mn_sCV, o100_12⟩
  · exact ⟨mn_sSI, o100_15⟩
  · exact ⟨mn_sLI, o100_16⟩
  · exact ⟨mn_sI1, o100_17⟩
  · exact ⟨mn_sLI, o100_20⟩
  · exact ⟨mn_sCS, o100_21⟩
  · exact ⟨mn_sX, ok_X⟩
theorem oc100_1 : ∀ pc, Mnp (c100_1 pc) ∧ Okp RX6 cX6_isBootable 3 (some .boolean) "isBootable" false pc (c100_1 pc) := by
  intro pc
  unfold c100_1
  split
  · exact ⟨mn_sK, o100_24⟩
  · exact ⟨mn_sI2, o100_25⟩
  · exact ⟨mn_sLI, o100_28⟩
  · exact ⟨mn_sCS, o100_29⟩
  · exact ⟨mn_sI1, o100_32⟩
  · exact ⟨mn_sK, o100_35⟩
  · exact ⟨mn_sRZ, o100_36⟩
  · exact ⟨mn_sInc, o100_37⟩
  · exact ⟨mn_sGo, o100_40⟩
  · exact ⟨mn_sLR, o100_43⟩
  · exact ⟨mn_sGI, o100_44⟩
  · exact ⟨mn_sK, o100_47⟩
  · exact ⟨mn_sX, ok_X⟩
theorem oc100_2 : ∀ pc, Mnp (c100_2 pc) ∧ Okp RX6 cX6_isBootable 3 (some .boolean) "isBootable" false pc (c100_2 pc) := by
  intro pc
  unfold c100_2
  split
  · exact ⟨mn_sI2, o100_48⟩
  · exact ⟨mn_sK, o100_51⟩
  · exact ⟨mn_sGo, o100_52⟩
  · exact ⟨mn_sK, o100_55⟩
  · exact ⟨mn_sRZ, o100_56⟩
  · exact ⟨mn_sX, ok_X⟩
theorem oc100 : ∀ pc, Mnp (c100 pc) ∧ Okp RX6 cX6_isBootable 3 (some .boolean) "isBootable" false pc (c100 pc) := by
  intro pc
  unfold c100
  split
  · exact oc100_0 pc
  · exact oc100_1 pc
  · exact oc100_2 pc
  · exact ⟨mn_sX, ok_X⟩
theorem o101_0 : Okp RX6 cX6_readEnd 5 (some .int) "readEnd" false 0 (sLR 0 1) := ok_aload_n (by decide +kernel : decode cX6_readEnd 0 = .ok (.aload_n 0, 1)) rfl
theorem o101_1 : Okp RX6 cX6_readEnd 5 (some .int) "readEnd" false 1 (sGR 7 0 4) := ok_getR (by decide +kernel : decode cX6_readEnd 1 = .ok (.getfield 12, 3)) fw_X6_12 rfl
theorem o101_4 : Okp RX6 cX6_readEnd 5 (some .int) "readEnd" false 4 (sGI 2 3 7) := ok_getI (by decide +kernel : decode cX6_readEnd 4 = .ok (.getfield 75, 3)) fw_X6_75 rfl
theorem o101_7 : Okp RX6 cX6_readEnd 5 (some .int) "readEnd" false 7 (sSI 3 8) := ok_istore_n (by decide +kernel : decode cX6_readEnd 7 = .ok (.istore_n 3, 1)) rfl (by decide) (by decide)
theorem o101_8 : Okp RX6 cX6_readEnd 5 (some .int) "readEnd" false 8 (sLR 0 9) := ok_aload_n (by decide +kernel : decode cX6_readEnd 8 = .ok (.aload_n 0, 1)) rfl
theorem o101_9 : Okp RX6 cX6_readEnd 5 (some .int) "readEnd" false 9 (sGR 7 0 12) := ok_getR (by decide +kernel : decode cX6_readEnd 9 = .ok (.getfield 12, 3)) fw_X6_12 rfl
theorem o101_12 : Okp RX6 cX6_readEnd 5 (some .int) "readEnd" false 12 (sK 0 13) := ok_iconst (by decide +kernel : decode cX6_readEnd 12 = .ok (.iconst 0, 1)) (by decide)
theorem o101_13 : Okp RX6 cX6_readEnd 5 (some .int) "readEnd" false 13 (sK 7 15) := ok_bipush (by decide +kernel : decode cX6_readEnd 13 = .ok (.bipush 7, 2)) (by decide)
theorem o101_15 : Okp RX6 cX6_readEnd 5 (some .int) "readEnd" false 15 (sCV false 16 3 2 18) := ok_cv (by decide +kernel : decode cX6_readEnd 15 = .ok (.invokevirtual 60, 3)) mw_X6_60 rfl (by decide) wm_X1_takeWithin wse_X1_takeWithin (by decide) rfl
theorem o101_18 : Okp RX6 cX6_readEnd 5 (some .int) "readEnd" false 18 (sSI 4 20) := ok_istore (by decide +kernel : decode cX6_readEnd 18 = .ok (.istore 4, 2)) (by decide) (by decide)
theorem o101_20 : Okp RX6 cX6_readEnd 5 (some .int) "readEnd" false 20 (sLR 0 21) := ok_aload_n (by decide +kernel : decode cX6_readEnd 20 = .ok (.aload_n 0, 1)) rfl
theorem o101_21 : Okp RX6 cX6_readEnd 5 (some .int) "readEnd" false 21 (sGR 7 0 24) := ok_getR (by decide +kernel : decode cX6_readEnd 21 = .ok (.getfield 12, 3)) fw_X6_12 rfl
theorem o101_24 : Okp RX6 cX6_readEnd 5 (some .int) "readEnd" false 24 (sCV false 12 1 2 27) := ok_cv (by decide +kernel : decode cX6_readEnd 24 = .ok (.invokevirtual 64, 3)) mw_X6_64 rfl (by decide) wm_X1_isRight wse_X1_isRight (by decide) rfl
theorem o101_27 : Okp RX6 cX6_readEnd 5 (some .int) "readEnd" false 27 (sI1 1 33 30) := ok_if_ne (by decide +kernel : decode cX6_readEnd 27 = .ok (.ifCond .ne 6, 3)) (by decide)
theorem o101_30 : Okp RX6 cX6_readEnd 5 (some .int) "readEnd" false 30 (sLI 4 32) := ok_iload (by decide +kernel : decode cX6_readEnd 30 = .ok (.iload 4, 2))
theorem o101_32 : Okp RX6 cX6_readEnd 5 (some .int) "readEnd" false 32 sRI := ok_iret rfl (by decide +kernel : decode cX6_readEnd 32 = .ok (.ireturn, 1))
theorem o101_33 : Okp RX6 cX6_readEnd 5 (some .int) "readEnd" false 33 (sLR 0 34) := ok_aload_n (by decide +kernel : decode cX6_readEnd 33 = .ok (.aload_n 0, 1)) rfl
theorem o101_34 : Okp RX6 cX6_readEnd 5 (some .int) "readEnd" false 34 (sGR 7 7 37) := ok_getR (by decide +kernel : decode cX6_readEnd 34 = .ok (.getfield 41, 3)) fw_X6_41 rfl
theorem o101_37 : Okp RX6 cX6_readEnd 5 (some .int) "readEnd" false 37 (sLI 4 39) := ok_iload (by decide +kernel : decode cX6_readEnd 37 = .ok (.iload 4, 2))
theorem o101_39 : Okp RX6 cX6_readEnd 5 (some .int) "readEnd" false 39 (sDup2 40) := ok_dup2 (by decide +kernel : decode cX6_readEnd 39 = .ok (.dup2, 1))
theorem o101_40 : Okp RX6 cX6_readEnd 5 (some .int) "readEnd" false 40 (sIA 41) := ok_iaload (by decide +kernel : decode cX6_readEnd 40 = .ok (.iaload, 1))
theorem o101_41 : Okp RX6 cX6_readEnd 5 (some .int) "readEnd" false 41 (sK 1 42) := ok_iconst (by decide +kernel : decode cX6_readEnd 41 = .ok (.iconst 1, 1)) (by decide)
theorem o101_42 : Okp RX6 cX6_readEnd 5 (some .int) "readEnd" false 42 (sB2 fAdd 43) := ok_iadd (by decide +kernel : decode cX6_readEnd 42 = .ok (.iadd, 1))
theorem o101_43 : Okp RX6 cX6_readEnd 5 (some .int) "readEnd" false 43 (sIS 44) := ok_iastore (by decide +kernel : decode cX6_readEnd 43 = .ok (.iastore, 1))
theorem o101_44 : Okp RX6 cX6_readEnd 5 (some .int) "readEnd" false 44 (sLR 0 45) := ok_aload_n (by decide +kernel : decode cX6_readEnd 44 = .ok (.aload_n 0, 1)) rfl
theorem o101_45 : Okp RX6 cX6_readEnd 5 (some .int) "readEnd" false 45 (sGR 7 7 48) := ok_getR (by decide +kernel : decode cX6_readEnd 45 = .ok (.getfield 41, 3)) fw_X6_41 rfl
theorem o101_48 : Okp RX6 cX6_readEnd 5 (some .int) "readEnd" false 48 (sLI 4 50) := ok_iload (by decide +kernel : decode cX6_readEnd 48 = .ok (.iload 4, 2))
theorem o101_50 : Okp RX6 cX6_readEnd 5 (some .int) "readEnd" false 50 (sIA 51) := ok_iaload (by decide +kernel : decode cX6_readEnd 50 = .ok (.iaload, 1))
theorem o101_51 : Okp RX6 cX6_readEnd 5 (some .int) "readEnd" false 51 (sK 1 52) := ok_iconst (by decide +kernel : decode cX6_readEnd 51 = .ok (.iconst 1, 1)) (by decide)
theorem o101_52 : Okp RX6 cX6_readEnd 5 (some .int) "readEnd" false 52 (sI2 1 74 55) := ok_icmp_ne (by decide +kernel : decode cX6_readEnd 52 = .ok (.if_icmp .ne 22, 3)) (by decide)
theorem o101_55 : Okp RX6 cX6_readEnd 5 (some .int) "readEnd" false 55 (sLR 0 56) := ok_aload_n (by decide +kernel : decode cX6_readEnd 55 = .ok (.aload_n 0, 1)) rfl
theorem o101_56 : Okp RX6 cX6_readEnd 5 (some .int) "readEnd" false 56 (sGR 7 8 59) := ok_getR (by decide +kernel : decode cX6_readEnd 56 = .ok (.getfield 44, 3)) fw_X6_44 rfl
theorem o101_59 : Okp RX6 cX6_readEnd 5 (some .int) "readEnd" false 59 (sLI 4 61) := ok_iload (by decide +kernel : decode cX6_readEnd 59 = .ok (.iload 4, 2))
theorem o101_61 : Okp RX6 cX6_readEnd 5 (some .int) "readEnd" false 61 (sLR 1 62) := ok_aload_n (by decide +kernel : decode cX6_readEnd 61 = .ok (.aload_n 1, 1)) rfl
theorem o101_62 : Okp RX6 cX6_readEnd 5 (some .int) "readEnd" false 62 (sRS 63) := ok_aastore (by decide +kernel : decode cX6_readEnd 62 = .ok (.aastore, 1))
theorem o101_63 : Okp RX6 cX6_readEnd 5 (some .int) "readEnd" false 63 (sLR 0 64) := ok_aload_n (by decide +kernel : decode cX6_readEnd 63 = .ok (.aload_n 0, 1)) rfl
theorem o101_64 : Okp RX6 cX6_readEnd 5 (some .int) "readEnd" false 64 (sGR 7 9 67) := ok_getR (by decide +kernel : decode cX6_readEnd 64 = .ok (.getfield 47, 3)) fw_X6_47 rfl
theorem o101_67 : Okp RX6 cX6_readEnd 5 (some .int) "readEnd" false 67 (sLI 4 69) := ok_iload (by decide +kernel : decode cX6_readEnd 67 = .ok (.iload 4, 2))
theorem o101_69 : Okp RX6 cX6_readEnd 5 (some .int) "readEnd" false 69 (sLI 2 70) := ok_iload_n (by decide +kernel : decode cX6_readEnd 69 = .ok (.iload_n 2, 1)) rfl
theorem o101_70 : Okp RX6 cX6_readEnd 5 (some .int) "readEnd" false 70 (sIS 71) := ok_iastore (by decide +kernel : decode cX6_readEnd 70 = .ok (.iastore, 1))
theorem o101_71 : Okp RX6 cX6_readEnd 5 (some .int) "readEnd" false 71 (sGo 140) := ok_goto (by decide +kernel : decode cX6_readEnd 71 = .ok (.goto 69, 3)) (by decide)
theorem o101_74 : Okp RX6 cX6_readEnd 5 (some .int) "readEnd" false 74 (sLR 0 75) := ok_aload_n (by decide +kernel : decode cX6_readEnd 74 = .ok (.aload_n 0, 1)) rfl
theorem o101_75 : Okp RX6 cX6_readEnd 5 (some .int) "readEnd" false 75 (sGR 7 7 78) := ok_getR (by decide +kernel : decode cX6_readEnd 75 = .ok (.getfield 41, 3)) fw_X6_41 rfl
theorem o101_78 : Okp RX6 cX6_readEnd 5 (some .int) "readEnd" false 78 (sLI 4 80) := ok_iload (by decide +kernel : decode cX6_readEnd 78 = .ok (.iload 4, 2))
theorem o101_80 : Okp RX6 cX6_readEnd 5 (some .int) "readEnd" false 80 (sIA 81) := ok_iaload (by decide +kernel : decode cX6_readEnd 80 = .ok (.iaload, 1))
theorem o101_81 : Okp RX6 cX6_readEnd 5 (some .int) "readEnd" false 81 (sK 2 82) := ok_iconst (by decide +kernel : decode cX6_readEnd 81 = .ok (.iconst 2, 1)) (by decide)
theorem o101_82 : Okp RX6 cX6_readEnd 5 (some .int) "readEnd" false 82 (sI2 4 131 85) := ok_icmp_gt (by decide +kernel : decode cX6_readEnd 82 = .ok (.if_icmp .gt 49, 3)) (by decide)
theorem o101_85 : Okp RX6 cX6_readEnd 5 (some .int) "readEnd" false 85 (sLI 2 86) := ok_iload_n (by decide +kernel : decode cX6_readEnd 85 = .ok (.iload_n 2, 1)) rfl
theorem o101_86 : Okp RX6 cX6_readEnd 5 (some .int) "readEnd" false 86 (sCS false 210 1 89) := ok_cs (by decide +kernel : decode cX6_readEnd 86 = .ok (.invokestatic 119, 3)) mw_X6_119 wt_X11_sideOfEnd (by decide) rfl
theorem o101_89 : Okp RX6 cX6_readEnd 5 (some .int) "readEnd" false 89 (sLR 0 90) := ok_aload_n (by decide +kernel : decode cX6_readEnd 89 = .ok (.aload_n 0, 1)) rfl
theorem o101_90 : Okp RX6 cX6_readEnd 5 (some .int) "readEnd" false 90 (sGR 7 9 93) := ok_getR (by decide +kernel : decode cX6_readEnd 90 = .ok (.getfield 47, 3)) fw_X6_47 rfl
theorem o101_93 : Okp RX6 cX6_readEnd 5 (some .int) "readEnd" false 93 (sLI 4 95) := ok_iload (by decide +kernel : decode cX6_readEnd 93 = .ok (.iload 4, 2))
theorem o101_95 : Okp RX6 cX6_readEnd 5 (some .int) "readEnd" false 95 (sIA 96) := ok_iaload (by decide +kernel : decode cX6_readEnd 95 = .ok (.iaload, 1))
theorem o101_96 : Okp RX6 cX6_readEnd 5 (some .int) "readEnd" false 96 (sCS false 210 1 99) := ok_cs (by decide +kernel : decode cX6_readEnd 96 = .ok (.invokestatic 119, 3)) mw_X6_119 wt_X11_sideOfEnd (by decide) rfl
theorem o101_99 : Okp RX6 cX6_readEnd 5 (some .int) "readEnd" false 99 (sI2 0 131 102) := ok_icmp_eq (by decide +kernel : decode cX6_readEnd 99 = .ok (.if_icmp .eq 32, 3)) (by decide)
theorem o101_102 : Okp RX6 cX6_readEnd 5 (some .int) "readEnd" false 102 (sLR 0 103) := ok_aload_n (by decide +kernel : decode cX6_readEnd 102 = .ok (.aload_n 0, 1)) rfl
theorem o101_103 : Okp RX6 cX6_readEnd 5 (some .int) "readEnd" false 103 (sLR 1 104) := ok_aload_n (by decide +kernel : decode cX6_readEnd 103 = .ok (.aload_n 1, 1)) rfl
theorem o101_104 : Okp RX6 cX6_readEnd 5 (some .int) "readEnd" false 104 (sLI 2 105) := ok_iload_n (by decide +kernel : decode cX6_readEnd 104 = .ok (.iload_n 2, 1)) rfl
theorem o101_105 : Okp RX6 cX6_readEnd 5 (some .int) "readEnd" false 105 (sCS false 208 1 108) := ok_cs (by decide +kernel : decode cX6_readEnd 105 = .ok (.invokestatic 122, 3)) mw_X6_122 wt_X11_namedBy (by decide) rfl
theorem o101_108 : Okp RX6 cX6_readEnd 5 (some .int) "readEnd" false 108 (sLR 0 109) := ok_aload_n (by decide +kernel : decode cX6_readEnd 108 = .ok (.aload_n 0, 1)) rfl
theorem o101_109 : Okp RX6 cX6_readEnd 5 (some .int) "readEnd" false 109 (sGR 7 8 112) := ok_getR (by decide +kernel : decode cX6_readEnd 109 = .ok (.getfield 44, 3)) fw_X6_44 rfl
theorem o101_112 : Okp RX6 cX6_readEnd 5 (some .int) "readEnd" false 112 (sLI 4 114) := ok_iload (by decide +kernel : decode cX6_readEnd 112 = .ok (.iload 4, 2))
theorem o101_114 : Okp RX6 cX6_readEnd 5 (some .int) "readEnd" false 114 (sRA 115) := ok_aaload (by decide +kernel : decode cX6_readEnd 114 = .ok (.aaload, 1))
theorem o101_115 : Okp RX6 cX6_readEnd 5 (some .int) "readEnd" false 115 (sLR 0 116) := ok_aload_n (by decide +kernel : decode cX6_readEnd 115 = .ok (.aload_n 0, 1)) rfl
theorem o101_116 : Okp RX6 cX6_readEnd 5 (some .int) "readEnd" false 116 (sGR 7 9 119) := ok_getR (by decide +kernel : decode cX6_readEnd 116 = .ok (.getfield 47, 3)) fw_X6_47 rfl
theorem o101_119 : Okp RX6 cX6_readEnd 5 (some .int) "readEnd" false 119 (sLI 4 121) := ok_iload (by decide +kernel : decode cX6_readEnd 119 = .ok (.iload 4, 2))
theorem o101_121 : Okp RX6 cX6_readEnd 5 (some .int) "readEnd" false 121 (sIA 122) := ok_iaload (by decide +kernel : decode cX6_readEnd 121 = .ok (.iaload, 1))
theorem o101_122 : Okp RX6 cX6_readEnd 5 (some .int) "readEnd" false 122 (sCS false 208 1 125) := ok_cs (by decide +kernel : decode cX6_readEnd 122 = .ok (.invokestatic 122, 3)) mw_X6_122 wt_X11_namedBy (by decide) rfl
theorem o101_125 : Okp RX6 cX6_readEnd 5 (some .int) "readEnd" false 125 (sCV false 102 5 7 128) := ok_cv (by decide +kernel : decode cX6_readEnd 125 = .ok (.invokevirtual 125, 3)) mw_X6_125 rfl (by decide) wm_X6_areAlike wse_X6_areAlike (by decide) rfl
theorem o101_128 : Okp RX6 cX6_readEnd 5 (some .int) "readEnd" false 128 (sI1 1 140 131) := ok_if_ne (by decide +kernel : decode cX6_readEnd 128 = .ok (.ifCond .ne 12, 3)) (by decide)
theorem o101_131 : Okp RX6 cX6_readEnd 5 (some .int) "readEnd" false 131 (sLR 0 132) := ok_aload_n (by decide +kernel : decode cX6_readEnd 131 = .ok (.aload_n 0, 1)) rfl
theorem o101_132 : Okp RX6 cX6_readEnd 5 (some .int) "readEnd" false 132 (sGR 7 0 135) := ok_getR (by decide +kernel : decode cX6_readEnd 132 = .ok (.getfield 12, 3)) fw_X6_12 rfl
theorem o101_135 : Okp RX6 cX6_readEnd 5 (some .int) "readEnd" false 135 (sK 5 136) := ok_iconst (by decide +kernel : decode cX6_readEnd 135 = .ok (.iconst 5, 1)) (by decide)
theorem o101_136 : Okp RX6 cX6_readEnd 5 (some .int) "readEnd" false 136 (sLI 3 137) := ok_iload_n (by decide +kernel : decode cX6_readEnd 136 = .ok (.iload_n 3, 1)) rfl
theorem o101_137 : Okp RX6 cX6_readEnd 5 (some .int) "readEnd" false 137 (sCV false 13 3 2 140) := ok_cv (by decide +kernel : decode cX6_readEnd 137 = .ok (.invokevirtual 78, 3)) mw_X6_78 rfl (by decide) wm_X1_fail wse_X1_fail (by decide) rfl
theorem o101_140 : Okp RX6 cX6_readEnd 5 (some .int) "readEnd" false 140 (sLI 4 142) := ok_iload (by decide +kernel : decode cX6_readEnd 140 = .ok (.iload 4, 2))
theorem o101_142 : Okp RX6 cX6_readEnd 5 (some .int) "readEnd" false 142 sRI := ok_iret rfl (by decide +kernel : decode cX6_readEnd 142 = .ok (.ireturn, 1))
theorem oc101_0 : ∀ pc, Mnp (c101_0 pc) ∧ Okp RX6 cX6_readEnd 5 (some .int) "readEnd" false pc (c101_0 pc) := by
  intro pc
  unfold c101_0
  split
  · exact ⟨mn_sLR, o101_0⟩
  · exact ⟨mn_sGR, o101_1⟩
  · exact ⟨mn_sGI, o101_4⟩
  · exact ⟨mn_sSI, o101_7⟩
  · exact ⟨mn_sLR, o101_8⟩
  · exact ⟨mn_sGR, o101_9⟩
  · exact ⟨mn_sK, o101_12⟩
  · exact ⟨mn_sK, o101_13⟩
  · exact ⟨mn_sCV, o101_15⟩
  · exact ⟨mn_sSI, o101_18⟩
  · exact ⟨mn_sLR, o101_20⟩
  · exact ⟨mn_sGR, o101_21⟩
  · exact ⟨mn_sX, ok_X⟩
theorem oc101_1 : ∀ pc, Mnp (c101_1 pc) ∧ Okp RX6 cX6_readEnd 5 (some .int) "readEnd" false pc (c101_1 pc) := by
  intro pc
  unfold c101_1
  split
  · exact ⟨mn_sCV, o101_24⟩
  · exact ⟨mn_sI1, o101_27⟩
  · exact ⟨mn_sLI, o101_30⟩
  · exact ⟨mn_sRI, o101_32⟩
  · exact ⟨mn_sLR, o101_33⟩
  · exact ⟨mn_sGR, o101_34⟩
  · exact ⟨mn_sLI, o101_37⟩
  · exact ⟨mn_sDup2, o101_39⟩
  · exact ⟨mn_sIA, o101_40⟩
  · exact ⟨mn_sK, o101_41⟩
  · exact ⟨mn_sB2, o101_42⟩
  · exact ⟨mn_sIS, o101_43⟩
  · exact ⟨mn_sLR, o101_44⟩
  · exact ⟨mn_sGR, o101_45⟩
  · exact ⟨mn_sX, ok_X⟩
theorem oc101_2 : ∀ pc, Mnp (c101_2 pc) ∧ Okp RX6 cX6_readEnd 5 (some .int) "readEnd" false pc (c101_2 pc) := by
  intro pc
  unfold c101_2
  split
  · exact ⟨mn_sLI, o101_48⟩
  · exact ⟨mn_sIA, o101_50⟩
  · exact ⟨mn_sK, o101_51⟩
  · exact ⟨mn_sI2, o101_52⟩
  · exact ⟨mn_sLR, o101_55⟩
  · exact ⟨mn_sGR, o101_56⟩
  · exact ⟨mn_sLI, o101_59⟩
  · exact ⟨mn_sLR, o101_61⟩
  · exact ⟨mn_sRS, o101_62⟩
  · exact ⟨mn_sLR, o101_63⟩
  · exact ⟨mn_sGR, o101_64⟩
  · exact ⟨mn_sLI, o101_67⟩
  · exact ⟨mn_sLI, o101_69⟩
  · exact ⟨mn_sIS, o101_70⟩
  · exact ⟨mn_sGo, o101_71⟩
  · exact ⟨mn_sX, ok_X⟩
theorem oc101_3 : ∀ pc, Mnp (c101_3 pc) ∧ Okp RX6 cX6_readEnd 5 (some .int) "readEnd" false pc (c101_3 pc) := by
  intro pc
  unfold c101_3
  split
  · exact ⟨mn_sLR, o101_74⟩
  · exact ⟨mn_sGR, o101_75⟩
  · exact ⟨mn_sLI, o101_78⟩
  · exact ⟨mn_sIA, o101_80⟩
  · exact ⟨mn_sK, o101_81⟩
  · exact ⟨mn_sI2, o101_82⟩
  · exact ⟨mn_sLI, o101_85⟩
  · exact ⟨mn_sCS, o101_86⟩
  · exact ⟨mn_sLR, o101_89⟩
  · exact ⟨mn_sGR, o101_90⟩
  · exact ⟨mn_sLI, o101_93⟩
  · exact ⟨mn_sIA, o101_95⟩
  · exact ⟨mn_sX, ok_X⟩
theorem oc101_4 : ∀ pc, Mnp (c101_4 pc) ∧ Okp RX6 cX6_readEnd 5 (some .int) "readEnd" false pc (c101_4 pc) := by
  intro pc
  unfold c101_4
  split
  · exact ⟨mn_sCS, o101_96⟩
  · exact ⟨mn_sI2, o101_99⟩
  · exact ⟨mn_sLR, o101_102⟩
  · exact ⟨mn_sLR, o101_103⟩
  · exact ⟨mn_sLI, o101_104⟩
  · exact ⟨mn_sCS, o101_105⟩
  · exact ⟨mn_sLR, o101_108⟩
  · exact ⟨mn_sGR, o101_109⟩
  · exact ⟨mn_sLI, o101_112⟩
  · exact ⟨mn_sRA, o101_114⟩
  · exact ⟨mn_sLR, o101_115⟩
  · exact ⟨mn_sGR, o101_116⟩
  · exact ⟨mn_sLI, o101_119⟩
  · exact ⟨mn_sX, ok_X⟩
theorem oc101_5 : ∀ pc, Mnp (c101_5 pc) ∧ Okp RX6 cX6_readEnd 5 (some .int) "readEnd" false pc (c101_5 pc) := by
  intro pc
  unfold c101_5
  split
  · exact ⟨mn_sIA, o101_121⟩
  · exact ⟨mn_sCS, o101_122⟩
  · exact ⟨mn_sCV, o101_125⟩
  · exact ⟨mn_sI1, o101_128⟩
  · exact ⟨mn_sLR, o101_131⟩
  · exact ⟨mn_sGR, o101_132⟩
  · exact ⟨mn_sK, o101_135⟩
  · exact ⟨mn_sLI, o101_136⟩
  · exact ⟨mn_sCV, o101_137⟩
  · exact ⟨mn_sLI, o101_140⟩
  · exact ⟨mn_sRI, o101_142⟩
  · exact ⟨mn_sX, ok_X⟩
theorem oc101 : ∀ pc, Mnp (c101 pc) ∧ Okp RX6 cX6_readEnd 5 (some .int) "readEnd" false pc (c101 pc) := by
  intro pc
  unfold c101
  split
  · exact oc101_0 pc
  · exact oc101_1 pc
  · exact oc101_2 pc
  · exact oc101_3 pc
  · exact oc101_4 pc
  · exact oc101_5 pc
  · exact ⟨mn_sX, ok_X⟩
theorem o102_0 : Okp RX6 cX6_areAlike 8 (some .boolean) "areAlike" false 0 (sLR 1 1) := ok_aload_n (by decide +kernel : decode cX6_areAlike 0 = .ok (.aload_n 1, 1)) rfl
theorem o102_1 : Okp RX6 cX6_areAlike 8 (some .boolean) "areAlike" false 1 (sNl 8 4) := ok_ifnull (by decide +kernel : decode cX6_areAlike 1 = .ok (.ifnull 7, 3)) (by decide)
theorem o102_4 : Okp RX6 cX6_areAlike 8 (some .boolean) "areAlike" false 4 (sLR 3 5) := ok_aload_n (by decide +kernel : decode cX6_areAlike 4 = .ok (.aload_n 3, 1)) rfl
theorem o102_5 : Okp RX6 cX6_areAlike 8 (some .boolean) "areAlike" false 5 (sNl 8 10) := ok_ifnonnull (by decide +kernel : decode cX6_areAlike 5 = .ok (.ifnonnull 5, 3)) (by decide)
theorem o102_8 : Okp RX6 cX6_areAlike 8 (some .boolean) "areAlike" false 8 (sK 0 9) := ok_iconst (by decide +kernel : decode cX6_areAlike 8 = .ok (.iconst 0, 1)) (by decide)
theorem o102_9 : Okp RX6 cX6_areAlike 8 (some .boolean) "areAlike" false 9 sRZ := ok_zret rfl (by decide +kernel : decode cX6_areAlike 9 = .ok (.ireturn, 1))
theorem o102_10 : Okp RX6 cX6_areAlike 8 (some .boolean) "areAlike" false 10 (sLR 0 11) := ok_aload_n (by decide +kernel : decode cX6_areAlike 10 = .ok (.aload_n 0, 1)) rfl
theorem o102_11 : Okp RX6 cX6_areAlike 8 (some .boolean) "areAlike" false 11 (sK 0 12) := ok_iconst (by decide +kernel : decode cX6_areAlike 11 = .ok (.iconst 0, 1)) (by decide)
theorem o102_12 : Okp RX6 cX6_areAlike 8 (some .boolean) "areAlike" false 12 (sPI 7 11 15) := ok_putI (by decide +kernel : decode cX6_areAlike 12 = .ok (.putfield 53, 3)) fw_X6_53 ⟨⟨tyX6_ok, nmX6⟩, Or.inl rfl, rfl⟩ rfl
theorem o102_15 : Okp RX6 cX6_areAlike 8 (some .boolean) "areAlike" false 15 (sLR 0 16) := ok_aload_n (by decide +kernel : decode cX6_areAlike 15 = .ok (.aload_n 0, 1)) rfl
theorem o102_16 : Okp RX6 cX6_areAlike 8 (some .boolean) "areAlike" false 16 (sLI 2 17) := ok_iload_n (by decide +kernel : decode cX6_areAlike 16 = .ok (.iload_n 2, 1)) rfl
theorem o102_17 : Okp RX6 cX6_areAlike 8 (some .boolean) "areAlike" false 17 (sLI 4 19) := ok_iload (by decide +kernel : decode cX6_areAlike 17 = .ok (.iload 4, 2))
theorem o102_19 : Okp RX6 cX6_areAlike 8 (some .boolean) "areAlike" false 19 (sCV false 103 3 7 22) := ok_cv (by decide +kernel : decode cX6_areAlike 19 = .ok (.invokevirtual 129, 3)) mw_X6_129 rfl (by decide) wm_X6_addPair wse_X6_addPair (by decide) rfl
theorem o102_22 : Okp RX6 cX6_areAlike 8 (some .boolean) "areAlike" false 22 (sK 0 23) := ok_iconst (by decide +kernel : decode cX6_areAlike 22 = .ok (.iconst 0, 1)) (by decide)
theorem o102_23 : Okp RX6 cX6_areAlike 8 (some .boolean) "areAlike" false 23 (sSI 5 25) := ok_istore (by decide +kernel : decode cX6_areAlike 23 = .ok (.istore 5, 2)) (by decide) (by decide)
theorem o102_25 : Okp RX6 cX6_areAlike 8 (some .boolean) "areAlike" false 25 (sLI 5 27) := ok_iload (by decide +kernel : decode cX6_areAlike 25 = .ok (.iload 5, 2))
theorem o102_27 : Okp RX6 cX6_areAlike 8 (some .boolean) "areAlike" false 27 (sLR 0 28) := ok_aload_n (by decide +kernel : decode cX6_areAlike 27 = .ok (.aload_n 0, 1)) rfl
theorem o102_28 : Okp RX6 cX6_areAlike 8 (some .boolean) "areAlike" false 28 (sGI 7 11 31) := ok_getI (by decide +kernel : decode cX6_areAlike 28 = .ok (.getfield 53, 3)) fw_X6_53 rfl
theorem o102_31 : Okp RX6 cX6_areAlike 8 (some .boolean) "areAlike" false 31 (sI2 3 95 34) := ok_icmp_ge (by decide +kernel : decode cX6_areAlike 31 = .ok (.if_icmp .ge 64, 3)) (by decide)
theorem o102_34 : Okp RX6 cX6_areAlike 8 (some .boolean) "areAlike" false 34 (sLI 5 36) := ok_iload (by decide +kernel : decode cX6_areAlike 34 = .ok (.iload 5, 2))
theorem o102_36 : Okp RX6 cX6_areAlike 8 (some .boolean) "areAlike" false 36 (sLR 0 37) := ok_aload_n (by decide +kernel : decode cX6_areAlike 36 = .ok (.aload_n 0, 1)) rfl
theorem o102_37 : Okp RX6 cX6_areAlike 8 (some .boolean) "areAlike" false 37 (sGR 7 10 40) := ok_getR (by decide +kernel : decode cX6_areAlike 37 = .ok (.getfield 50, 3)) fw_X6_50 rfl
theorem o102_40 : Okp RX6 cX6_areAlike 8 (some .boolean) "areAlike" false 40 (sLen 41) := ok_alen (by decide +kernel : decode cX6_areAlike 40 = .ok (.arraylength, 1))
theorem o102_41 : Okp RX6 cX6_areAlike 8 (some .boolean) "areAlike" false 41 (sI2 3 95 44) := ok_icmp_ge (by decide +kernel : decode cX6_areAlike 41 = .ok (.if_icmp .ge 54, 3)) (by decide)
theorem o102_44 : Okp RX6 cX6_areAlike 8 (some .boolean) "areAlike" false 44 (sLR 0 45) := ok_aload_n (by decide +kernel : decode cX6_areAlike 44 = .ok (.aload_n 0, 1)) rfl
theorem o102_45 : Okp RX6 cX6_areAlike 8 (some .boolean) "areAlike" false 45 (sGR 7 10 48) := ok_getR (by decide +kernel : decode cX6_areAlike 45 = .ok (.getfield 50, 3)) fw_X6_50 rfl
theorem o102_48 : Okp RX6 cX6_areAlike 8 (some .boolean) "areAlike" false 48 (sLI 5 50) := ok_iload (by decide +kernel : decode cX6_areAlike 48 = .ok (.iload 5, 2))
theorem o102_50 : Okp RX6 cX6_areAlike 8 (some .boolean) "areAlike" false 50 (sIA 51) := ok_iaload (by decide +kernel : decode cX6_areAlike 50 = .ok (.iaload, 1))
theorem o102_51 : Okp RX6 cX6_areAlike 8 (some .boolean) "areAlike" false 51 (sK 4 52) := ok_iconst (by decide +kernel : decode cX6_areAlike 51 = .ok (.iconst 4, 1)) (by decide)
theorem o102_52 : Okp RX6 cX6_areAlike 8 (some .boolean) "areAlike" false 52 (sD2 fDiv 53) := ok_idiv (by decide +kernel : decode cX6_areAlike 52 = .ok (.idiv, 1))
theorem o102_53 : Okp RX6 cX6_areAlike 8 (some .boolean) "areAlike" false 53 (sSI 6 55) := ok_istore (by decide +kernel : decode cX6_areAlike 53 = .ok (.istore 6, 2)) (by decide) (by decide)
theorem o102_55 : Okp RX6 cX6_areAlike 8 (some .boolean) "areAlike" false 55 (sLR 0 56) := ok_aload_n (by decide +kernel : decode cX6_areAlike 55 = .ok (.aload_n 0, 1)) rfl
theorem o102_56 : Okp RX6 cX6_areAlike 8 (some .boolean) "areAlike" false 56 (sGR 7 10 59) := ok_getR (by decide +kernel : decode cX6_areAlike 56 = .ok (.getfield 50, 3)) fw_X6_50 rfl
theorem o102_59 : Okp RX6 cX6_areAlike 8 (some .boolean) "areAlike" false 59 (sLI 5 61) := ok_iload (by decide +kernel : decode cX6_areAlike 59 = .ok (.iload 5, 2))
theorem o102_61 : Okp RX6 cX6_areAlike 8 (some .boolean) "areAlike" false 61 (sIA 62) := ok_iaload (by decide +kernel : decode cX6_areAlike 61 = .ok (.iaload, 1))
theorem o102_62 : Okp RX6 cX6_areAlike 8 (some .boolean) "areAlike" false 62 (sK 4 63) := ok_iconst (by decide +kernel : decode cX6_areAlike 62 = .ok (.iconst 4, 1)) (by decide)
theorem o102_63 : Okp RX6 cX6_areAlike 8 (some .boolean) "areAlike" false 63 (sD2 fRem 64) := ok_irem (by decide +kernel : decode cX6_areAlike 63 = .ok (.irem, 1))
theorem o102_64 : Okp RX6 cX6_areAlike 8 (some .boolean) "areAlike" false 64 (sSI 7 66) := ok_istore (by decide +kernel : decode cX6_areAlike 64 = .ok (.istore 7, 2)) (by decide) (by decide)
theorem o102_66 : Okp RX6 cX6_areAlike 8 (some .boolean) "areAlike" false 66 (sLR 0 67) := ok_aload_n (by decide +kernel : decode cX6_areAlike 66 = .ok (.aload_n 0, 1)) rfl
theorem o102_67 : Okp RX6 cX6_areAlike 8 (some .boolean) "areAlike" false 67 (sLR 1 68) := ok_aload_n (by decide +kernel : decode cX6_areAlike 67 = .ok (.aload_n 1, 1)) rfl
theorem o102_68 : Okp RX6 cX6_areAlike 8 (some .boolean) "areAlike" false 68 (sLR 1 69) := ok_aload_n (by decide +kernel : decode cX6_areAlike 68 = .ok (.aload_n 1, 1)) rfl
theorem o102_69 : Okp RX6 cX6_areAlike 8 (some .boolean) "areAlike" false 69 (sLI 6 71) := ok_iload (by decide +kernel : decode cX6_areAlike 69 = .ok (.iload 6, 2))
theorem o102_71 : Okp RX6 cX6_areAlike 8 (some .boolean) "areAlike" false 71 (sCV false 148 2 10 74) := ok_cv (by decide +kernel : decode cX6_areAlike 71 = .ok (.invokevirtual 132, 3)) mw_X6_132 rfl (by decide) wm_X9_contractAt wse_X9_contractAt (by decide) rfl
theorem o102_74 : Okp RX6 cX6_areAlike 8 (some .boolean) "areAlike" false 74 (sLR 3 75) := ok_aload_n (by decide +kernel : decode cX6_areAlike 74 = .ok (.aload_n 3, 1)) rfl
theorem o102_75 : Okp RX6 cX6_areAlike 8 (some .boolean) "areAlike" false 75 (sLR 3 76) := ok_aload_n (by decide +kernel : decode cX6_areAlike 75 = .ok (.aload_n 3, 1)) rfl
theorem o102_76 : Okp RX6 cX6_areAlike 8 (some .boolean) "areAlike" false 76 (sLI 7 78) := ok_iload (by decide +kernel : decode cX6_areAlike 76 = .ok (.iload 7, 2))
theorem o102_78 : Okp RX6 cX6_areAlike 8 (some .boolean) "areAlike" false 78 (sCV false 148 2 10 81) := ok_cv (by decide +kernel : decode cX6_areAlike 78 = .ok (.invokevirtual 132, 3)) mw_X6_132 rfl (by decide) wm_X9_contractAt wse_X9_contractAt (by decide) rfl
theorem o102_81 : Okp RX6 cX6_areAlike 8 (some .boolean) "areAlike" false 81 (sCV false 104 5 7 84) := ok_cv (by decide +kernel : decode cX6_areAlike 81 = .ok (.invokevirtual 136, 3)) mw_X6_136 rfl (by decide) wm_X6_isPairAlike wse_X6_isPairAlike (by decide) rfl
theorem o102_84 : Okp RX6 cX6_areAlike 8 (some .boolean) "areAlike" false 84 (sI1 1 89 87) := ok_if_ne (by decide +kernel : decode cX6_areAlike 84 = .ok (.ifCond .ne 5, 3)) (by decide)
theorem o102_87 : Okp RX6 cX6_areAlike 8 (some .boolean) "areAlike" false 87 (sK 0 88) := ok_iconst (by decide +kernel : decode cX6_areAlike 87 = .ok (.iconst 0, 1)) (by decide)
theorem o102_88 : Okp RX6 cX6_areAlike 8 (some .boolean) "areAlike" false 88 sRZ := ok_zret rfl (by decide +kernel : decode cX6_areAlike 88 = .ok (.ireturn, 1))
theorem o102_89 : Okp RX6 cX6_areAlike 8 (some .boolean) "areAlike" false 89 (sInc 5 1 92) := ok_iinc (by decide +kernel : decode cX6_areAlike 89 = .ok (.iinc 5 1, 3)) (by decide) (by decide)
theorem o102_92 : Okp RX6 cX6_areAlike 8 (some .boolean) "areAlike" false 92 (sGo 25) := ok_goto (by decide +kernel : decode cX6_areAlike 92 = .ok (.goto (-67), 3)) (by decide)
theorem o102_95 : Okp RX6 cX6_areAlike 8 (some .boolean) "areAlike" false 95 (sK 1 96) := ok_iconst (by decide +kernel : decode cX6_areAlike 95 = .ok (.iconst 1, 1)) (by decide)
theorem o102_96 : Okp RX6 cX6_areAlike 8 (some .boolean) "areAlike" false 96 sRZ := ok_zret rfl (by decide +kernel : decode cX6_areAlike 96 = .ok (.ireturn, 1))
theorem oc102_0 : ∀ pc, Mnp (c102_0 pc) ∧ Okp RX6 cX6_areAlike 8 (some .boolean) "areAlike" false pc (c102_0 pc) := by
  intro pc
  unfold c102_0
  split
  · exact ⟨mn_sLR, o102_0⟩
  · exact ⟨mn_sNl, o102_1⟩
  · exact ⟨mn_sLR, o102_4⟩
  · exact ⟨mn_sNl, o102_5⟩
  · exact ⟨mn_sK, o102_8⟩
  · exact ⟨mn_sRZ, o102_9⟩
  · exact ⟨mn_sLR, o102_10⟩
  · exact ⟨mn_sK, o102_11⟩
  · exact ⟨mn_sPI, o102_12⟩
  · exact ⟨mn_sLR, o102_15⟩
  · exact ⟨mn_sLI, o102_16⟩
  · exact ⟨mn_sLI, o102_17⟩
  · exact ⟨mn_sCV, o102_19⟩
  · exact ⟨mn_sK, o102_22⟩
  · exact ⟨mn_sSI, o102_23⟩
  · exact ⟨mn_sX, ok_X⟩
theorem oc102_1 : ∀ pc, Mnp (c102_1 pc) ∧ Okp RX6 cX6_areAlike 8 (some .boolean) "areAlike" false pc (c102_1 pc) := by
  intro pc
  unfold c102_1
  split
  · exact ⟨mn_sLI, o102_25⟩
  · exact ⟨mn_sLR, o102_27⟩
  · exact ⟨mn_sGI, o102_28⟩
  · exact ⟨mn_sI2, o102_31⟩
  · exact ⟨mn_sLI, o102_34⟩
  · exact ⟨mn_sLR, o102_36⟩
  · exact ⟨mn_sGR, o102_37⟩
  · exact ⟨mn_sLen, o102_40⟩
  · exact ⟨mn_sI2, o102_41⟩
  · exact ⟨mn_sLR, o102_44⟩
  · exact ⟨mn_sGR, o102_45⟩
  · exact ⟨mn_sX, ok_X⟩
theorem oc102_2 : ∀ pc, Mnp (c102_2 pc) ∧ Okp RX6 cX6_areAlike 8 (some .boolean) "areAlike" false pc (c102_2 pc) := by
  intro pc
  unfold c102_2
  split
  · exact ⟨mn_sLI, o102_48⟩
  · exact ⟨mn_sIA, o102_50⟩
  · exact ⟨mn_sK, o102_51⟩
  · exact ⟨mn_sD2, o102_52⟩
  · exact ⟨mn_sSI, o102_53⟩
  · exact ⟨mn_sLR, o102_55⟩
  · exact ⟨mn_sGR, o102_56⟩
  · exact ⟨mn_sLI, o102_59⟩
  · exact ⟨mn_sIA, o102_61⟩
  · exact ⟨mn_sK, o102_62⟩
  · exact ⟨mn_sD2, o102_63⟩
  · exact ⟨mn_sSI, o102_64⟩
  · exact ⟨mn_sLR, o102_66⟩
  · exact ⟨mn_sLR, o102_67⟩
  · exact ⟨mn_sLR, o102_68⟩
  · exact ⟨mn_sLI, o102_69⟩
  · exact ⟨mn_sCV, o102_71⟩
  · exact ⟨mn_sX, ok_X⟩
theorem oc102_3 : ∀ pc, Mnp (c102_3 pc) ∧ Okp RX6 cX6_areAlike 8 (some .boolean) "areAlike" false pc (c102_3 pc) := by
  intro pc
  unfold c102_3
  split
  · exact ⟨mn_sLR, o102_74⟩
  · exact ⟨mn_sLR, o102_75⟩
  · exact ⟨mn_sLI, o102_76⟩
  · exact ⟨mn_sCV, o102_78⟩
  · exact ⟨mn_sCV, o102_81⟩
  · exact ⟨mn_sI1, o102_84⟩
  · exact ⟨mn_sK, o102_87⟩
  · exact ⟨mn_sRZ, o102_88⟩
  · exact ⟨mn_sInc, o102_89⟩
  · exact ⟨mn_sGo, o102_92⟩
  · exact ⟨mn_sK, o102_95⟩
  · exact ⟨mn_sX, ok_X⟩
theorem oc102_4 : ∀ pc, Mnp (c102_4 pc) ∧ Okp RX6 cX6_areAlike 8 (some .boolean) "areAlike" false pc (c102_4 pc) := by
  intro pc
  unfold c102_4
  split
  · exact ⟨mn_sRZ, o102_96⟩
  · exact ⟨mn_sX, ok_X⟩
theorem oc102 : ∀ pc, Mnp (c102 pc) ∧ Okp RX6 cX6_areAlike 8 (some .boolean) "areAlike" false pc (c102 pc) := by
  intro pc
  unfold c102
  split
  · exact oc102_0 pc
  · exact oc102_1 pc
  · exact oc102_2 pc
  · exact oc102_3 pc
  · exact oc102_4 pc
  · exact ⟨mn_sX, ok_X⟩
theorem o103_0 : Okp RX6 cX6_addPair 5 none "addPair" false 0 (sLI 1 1) := ok_iload_n (by decide +kernel : decode cX6_addPair 0 = .ok (.iload_n 1, 1)) rfl
theorem o103_1 : Okp RX6 cX6_addPair 5 none "addPair" false 1 (sK 4 2) := ok_iconst (by decide +kernel : decode cX6_addPair 1 = .ok (.iconst 4, 1)) (by decide)
theorem o103_2 : Okp RX6 cX6_addPair 5 none "addPair" false 2 (sB2 fMul 3) := ok_imul (by decide +kernel : decode cX6_addPair 2 = .ok (.imul, 1))
theorem o103_3 : Okp RX6 cX6_addPair 5 none "addPair" false 3 (sLI 2 4) := ok_iload_n (by decide +kernel : decode cX6_addPair 3 = .ok (.iload_n 2, 1)) rfl
theorem o103_4 : Okp RX6 cX6_addPair 5 none "addPair" false 4 (sB2 fAdd 5) := ok_iadd (by decide +kernel : decode cX6_addPair 4 = .ok (.iadd, 1))
theorem o103_5 : Okp RX6 cX6_addPair 5 none "addPair" false 5 (sSI 3 6) := ok_istore_n (by decide +kernel : decode cX6_addPair 5 = .ok (.istore_n 3, 1)) rfl (by decide) (by decide)
theorem o103_6 : Okp RX6 cX6_addPair 5 none "addPair" false 6 (sK 0 7) := ok_iconst (by decide +kernel : decode cX6_addPair 6 = .ok (.iconst 0, 1)) (by decide)
theorem o103_7 : Okp RX6 cX6_addPair 5 none "addPair" false 7 (sSI 4 9) := ok_istore (by decide +kernel : decode cX6_addPair 7 = .ok (.istore 4, 2)) (by decide) (by decide)
theorem o103_9 : Okp RX6 cX6_addPair 5 none "addPair" false 9 (sLI 4 11) := ok_iload (by decide +kernel : decode cX6_addPair 9 = .ok (.iload 4, 2))
theorem o103_11 : Okp RX6 cX6_addPair 5 none "addPair" false 11 (sLR 0 12) := ok_aload_n (by decide +kernel : decode cX6_addPair 11 = .ok (.aload_n 0, 1)) rfl
theorem o103_12 : Okp RX6 cX6_addPair 5 none "addPair" false 12 (sGI 7 11 15) := ok_getI (by decide +kernel : decode cX6_addPair 12 = .ok (.getfield 53, 3)) fw_X6_53 rfl
theorem o103_15 : Okp RX6 cX6_addPair 5 none "addPair" false 15 (sI2 3 46 18) := ok_icmp_ge (by decide +kernel : decode cX6_addPair 15 = .ok (.if_icmp .ge 31, 3)) (by decide)
theorem o103_18 : Okp RX6 cX6_addPair 5 none "addPair" false 18 (sLI 4 20) := ok_iload (by decide +kernel : decode cX6_addPair 18 = .ok (.iload 4, 2))
theorem o103_20 : Okp RX6 cX6_addPair 5 none "addPair" false 20 (sLR 0 21) := ok_aload_n (by decide +kernel : decode cX6_addPair 20 = .ok (.aload_n 0, 1)) rfl
theorem o103_21 : Okp RX6 cX6_addPair 5 none "addPair" false 21 (sGR 7 10 24) := ok_getR (by decide +kernel : decode cX6_addPair 21 = .ok (.getfield 50, 3)) fw_X6_50 rfl
theorem o103_24 : Okp RX6 cX6_addPair 5 none "addPair" false 24 (sLen 25) := ok_alen (by decide +kernel : decode cX6_addPair 24 = .ok (.arraylength, 1))
theorem o103_25 : Okp RX6 cX6_addPair 5 none "addPair" false 25 (sI2 3 46 28) := ok_icmp_ge (by decide +kernel : decode cX6_addPair 25 = .ok (.if_icmp .ge 21, 3)) (by decide)
theorem o103_28 : Okp RX6 cX6_addPair 5 none "addPair" false 28 (sLR 0 29) := ok_aload_n (by decide +kernel : decode cX6_addPair 28 = .ok (.aload_n 0, 1)) rfl
theorem o103_29 : Okp RX6 cX6_addPair 5 none "addPair" false 29 (sGR 7 10 32) := ok_getR (by decide +kernel : decode cX6_addPair 29 = .ok (.getfield 50, 3)) fw_X6_50 rfl
theorem o103_32 : Okp RX6 cX6_addPair 5 none "addPair" false 32 (sLI 4 34) := ok_iload (by decide +kernel : decode cX6_addPair 32 = .ok (.iload 4, 2))
theorem o103_34 : Okp RX6 cX6_addPair 5 none "addPair" false 34 (sIA 35) := ok_iaload (by decide +kernel : decode cX6_addPair 34 = .ok (.iaload, 1))
theorem o103_35 : Okp RX6 cX6_addPair 5 none "addPair" false 35 (sLI 3 36) := ok_iload_n (by decide +kernel : decode cX6_addPair 35 = .ok (.iload_n 3, 1)) rfl
theorem o103_36 : Okp RX6 cX6_addPair 5 none "addPair" false 36 (sI2 1 40 39) := ok_icmp_ne (by decide +kernel : decode cX6_addPair 36 = .ok (.if_icmp .ne 4, 3)) (by decide)
theorem o103_39 : Okp RX6 cX6_addPair 5 none "addPair" false 39 sRV := ok_vret rfl (by decide +kernel : decode cX6_addPair 39 = .ok (.return_, 1))
theorem o103_40 : Okp RX6 cX6_addPair 5 none "addPair" false 40 (sInc 4 1 43) := ok_iinc (by decide +kernel : decode cX6_addPair 40 = .ok (.iinc 4 1, 3)) (by decide) (by decide)
theorem o103_43 : Okp RX6 cX6_addPair 5 none "addPair" false 43 (sGo 9) := ok_goto (by decide +kernel : decode cX6_addPair 43 = .ok (.goto (-34), 3)) (by decide)
theorem o103_46 : Okp RX6 cX6_addPair 5 none "addPair" false 46 (sLR 0 47) := ok_aload_n (by decide +kernel : decode cX6_addPair 46 = .ok (.aload_n 0, 1)) rfl
theorem o103_47 : Okp RX6 cX6_addPair 5 none "addPair" false 47 (sGI 7 11 50) := ok_getI (by decide +kernel : decode cX6_addPair 47 = .ok (.getfield 53, 3)) fw_X6_53 rfl
theorem o103_50 : Okp RX6 cX6_addPair 5 none "addPair" false 50 (sLR 0 51) := ok_aload_n (by decide +kernel : decode cX6_addPair 50 = .ok (.aload_n 0, 1)) rfl
theorem o103_51 : Okp RX6 cX6_addPair 5 none "addPair" false 51 (sGR 7 10 54) := ok_getR (by decide +kernel : decode cX6_addPair 51 = .ok (.getfield 50, 3)) fw_X6_50 rfl
theorem o103_54 : Okp RX6 cX6_addPair 5 none "addPair" false 54 (sLen 55) := ok_alen (by decide +kernel : decode cX6_addPair 54 = .ok (.arraylength, 1))
theorem o103_55 : Okp RX6 cX6_addPair 5 none "addPair" false 55 (sI2 3 78 58) := ok_icmp_ge (by decide +kernel : decode cX6_addPair 55 = .ok (.if_icmp .ge 23, 3)) (by decide)
theorem o103_58 : Okp RX6 cX6_addPair 5 none "addPair" false 58 (sLR 0 59) := ok_aload_n (by decide +kernel : decode cX6_addPair 58 = .ok (.aload_n 0, 1)) rfl
theorem o103_59 : Okp RX6 cX6_addPair 5 none "addPair" false 59 (sGR 7 10 62) := ok_getR (by decide +kernel : decode cX6_addPair 59 = .ok (.getfield 50, 3)) fw_X6_50 rfl
theorem o103_62 : Okp RX6 cX6_addPair 5 none "addPair" false 62 (sLR 0 63) := ok_aload_n (by decide +kernel : decode cX6_addPair 62 = .ok (.aload_n 0, 1)) rfl
theorem o103_63 : Okp RX6 cX6_addPair 5 none "addPair" false 63 (sGI 7 11 66) := ok_getI (by decide +kernel : decode cX6_addPair 63 = .ok (.getfield 53, 3)) fw_X6_53 rfl
theorem o103_66 : Okp RX6 cX6_addPair 5 none "addPair" false 66 (sLI 3 67) := ok_iload_n (by decide +kernel : decode cX6_addPair 66 = .ok (.iload_n 3, 1)) rfl
theorem o103_67 : Okp RX6 cX6_addPair 5 none "addPair" false 67 (sIS 68) := ok_iastore (by decide +kernel : decode cX6_addPair 67 = .ok (.iastore, 1))
theorem o103_68 : Okp RX6 cX6_addPair 5 none "addPair" false 68 (sLR 0 69) := ok_aload_n (by decide +kernel : decode cX6_addPair 68 = .ok (.aload_n 0, 1)) rfl
theorem o103_69 : Okp RX6 cX6_addPair 5 none "addPair" false 69 (sDup 70) := ok_dup (by decide +kernel : decode cX6_addPair 69 = .ok (.dup, 1))
theorem o103_70 : Okp RX6 cX6_addPair 5 none "addPair" false 70 (sGI 7 11 73) := ok_getI (by decide +kernel : decode cX6_addPair 70 = .ok (.getfield 53, 3)) fw_X6_53 rfl
theorem o103_73 : Okp RX6 cX6_addPair 5 none "addPair" false 73 (sK 1 74) := ok_iconst (by decide +kernel : decode cX6_addPair 73 = .ok (.iconst 1, 1)) (by decide)
theorem o103_74 : Okp RX6 cX6_addPair 5 none "addPair" false 74 (sB2 fAdd 75) := ok_iadd (by decide +kernel : decode cX6_addPair 74 = .ok (.iadd, 1))
theorem o103_75 : Okp RX6 cX6_addPair 5 none "addPair" false 75 (sPI 7 11 78) := ok_putI (by decide +kernel : decode cX6_addPair 75 = .ok (.putfield 53, 3)) fw_X6_53 ⟨⟨tyX6_ok, nmX6⟩, Or.inl rfl, rfl⟩ rfl
theorem o103_78 : Okp RX6 cX6_addPair 5 none "addPair" false 78 sRV := ok_vret rfl (by decide +kernel : decode cX6_addPair 78 = .ok (.return_, 1))
theorem oc103_0 : ∀ pc, Mnp (c103_0 pc) ∧ Okp RX6 cX6_addPair 5 none "addPair" false pc (c103_0 pc) := by
  intro pc
  unfold c103_0
  split
  · exact ⟨mn_sLI, o103_0⟩
  · exact ⟨mn_sK, o103_1⟩
  · exact ⟨mn_sB2, o103_2⟩
  · exact ⟨mn_sLI, o103_3⟩
  · exact ⟨mn_sB2, o103_4⟩
  · exact ⟨mn_sSI, o103_5⟩
  · exact ⟨mn_sK, o103_6⟩
  · exact ⟨mn_sSI, o103_7⟩
  · exact ⟨mn_sLI, o103_9⟩
  · exact ⟨mn_sLR, o103_11⟩
  · exact ⟨mn_sGI, o103_12⟩
  · exact ⟨mn_sI2, o103_15⟩
  · exact ⟨mn_sLI, o103_18⟩
  · exact ⟨mn_sLR, o103_20⟩
  · exact ⟨mn_sGR, o103_21⟩
  · exact ⟨mn_sX, ok_X⟩
theorem oc103_1 : ∀ pc, Mnp (c103_1 pc) ∧ Okp RX6 cX6_addPair 5 none "addPair" false pc (c103_1 pc) := by
  intro pc
  unfold c103_1
  split
  · exact ⟨mn_sLen, o103_24⟩
  · exact ⟨mn_sI2, o103_25⟩
  · exact ⟨mn_sLR, o103_28⟩
  · exact ⟨mn_sGR, o103_29⟩
  · exact ⟨mn_sLI, o103_32⟩
  · exact ⟨mn_sIA, o103_34⟩
  · exact ⟨mn_sLI, o103_35⟩
  · exact ⟨mn_sI2, o103_36⟩
  · exact ⟨mn_sRV, o103_39⟩
  · exact ⟨mn_sInc, o103_40⟩
  · exact ⟨mn_sGo, o103_43⟩
  · exact ⟨mn_sLR, o103_46⟩
  · exact ⟨mn_sGI, o103_47⟩
  · exact ⟨mn_sX, ok_X⟩
theorem oc103_2 : ∀ pc, Mnp (c103_2 pc) ∧ Okp RX6 cX6_addPair 5 none "addPair" false pc (c103_2 pc) := by
  intro pc
  unfold c103_2
  split
  · exact ⟨mn_sLR, o103_50⟩
  · exact ⟨mn_sGR, o103_51⟩
  · exact ⟨mn_sLen, o103_54⟩
  · exact ⟨mn_sI2, o103_55⟩
  · exact ⟨mn_sLR, o103_58⟩
  · exact ⟨mn_sGR, o103_59⟩
  · exact ⟨mn_sLR, o103_62⟩
  · exact ⟨mn_sGI, o103_63⟩
  · exact ⟨mn_sLI, o103_66⟩
  · exact ⟨mn_sIS, o103_67⟩
  · exact ⟨mn_sLR, o103_68⟩
  · exact ⟨mn_sDup, o103_69⟩
  · exact ⟨mn_sGI, o103_70⟩
  · exact ⟨mn_sX, ok_X⟩
theorem oc103_3 : ∀ pc, Mnp (c103_3 pc) ∧ Okp RX6 cX6_addPair 5 none "addPair" false pc (c103_3 pc) := by
  intro pc
  unfold c103_3
  split
  · exact ⟨mn_sK, o103_73⟩
  · exact ⟨mn_sB2, o103_74⟩
  · exact ⟨mn_sPI, o103_75⟩
  · exact ⟨mn_sRV, o103_78⟩
  · exact ⟨mn_sX, ok_X⟩
theorem oc103 : ∀ pc, Mnp (c103 pc) ∧ Okp RX6 cX6_addPair 5 none "addPair" false pc (c103 pc) := by
  intro pc
  unfold c103
  split
  · exact oc103_0 pc
  · exact oc103_1 pc
  · exact oc103_2 pc
  · exact oc103_3 pc
  · exact ⟨mn_sX, ok_X⟩
theorem o104_0 : Okp RX6 cX6_isPairAlike 7 (some .boolean) "isPairAlike" false 0 (sLR 2 1) := ok_aload_n (by decide +kernel : decode cX6_isPairAlike 0 = .ok (.aload_n 2, 1)) rfl
theorem o104_1 : Okp RX6 cX6_isPairAlike 7 (some .boolean) "isPairAlike" false 1 (sNl 21 4) := ok_ifnull (by decide +kernel : decode cX6_isPairAlike 1 = .ok (.ifnull 20, 3)) (by decide)
theorem o104_4 : Okp RX6 cX6_isPairAlike 7 (some .boolean) "isPairAlike" false 4 (sLR 4 6) := ok_aload (by decide +kernel : decode cX6_isPairAlike 4 = .ok (.aload 4, 2))
theorem o104_6 : Okp RX6 cX6_isPairAlike 7 (some .boolean) "isPairAlike" false 6 (sNl 21 9) := ok_ifnull (by decide +kernel : decode cX6_isPairAlike 6 = .ok (.ifnull 15, 3)) (by decide)
theorem o104_9 : Okp RX6 cX6_isPairAlike 7 (some .boolean) "isPairAlike" false 9 (sLR 2 10) := ok_aload_n (by decide +kernel : decode cX6_isPairAlike 9 = .ok (.aload_n 2, 1)) rfl
theorem o104_10 : Okp RX6 cX6_isPairAlike 7 (some .boolean) "isPairAlike" false 10 (sGI 3 0 13) := ok_getI (by decide +kernel : decode cX6_isPairAlike 10 = .ok (.getfield 140, 3)) fw_X6_140 rfl
theorem o104_13 : Okp RX6 cX6_isPairAlike 7 (some .boolean) "isPairAlike" false 13 (sLR 4 15) := ok_aload (by decide +kernel : decode cX6_isPairAlike 13 = .ok (.aload 4, 2))
theorem o104_15 : Okp RX6 cX6_isPairAlike 7 (some .boolean) "isPairAlike" false 15 (sGI 3 0 18) := ok_getI (by decide +kernel : decode cX6_isPairAlike 15 = .ok (.getfield 140, 3)) fw_X6_140 rfl
theorem o104_18 : Okp RX6 cX6_isPairAlike 7 (some .boolean) "isPairAlike" false 18 (sI2 0 23 21) := ok_icmp_eq (by decide +kernel : decode cX6_isPairAlike 18 = .ok (.if_icmp .eq 5, 3)) (by decide)
theorem o104_21 : Okp RX6 cX6_isPairAlike 7 (some .boolean) "isPairAlike" false 21 (sK 0 22) := ok_iconst (by decide +kernel : decode cX6_isPairAlike 21 = .ok (.iconst 0, 1)) (by decide)
theorem o104_22 : Okp RX6 cX6_isPairAlike 7 (some .boolean) "isPairAlike" false 22 sRZ := ok_zret rfl (by decide +kernel : decode cX6_isPairAlike 22 = .ok (.ireturn, 1))
theorem o104_23 : Okp RX6 cX6_isPairAlike 7 (some .boolean) "isPairAlike" false 23 (sK 0 24) := ok_iconst (by decide +kernel : decode cX6_isPairAlike 23 = .ok (.iconst 0, 1)) (by decide)
theorem o104_24 : Okp RX6 cX6_isPairAlike 7 (some .boolean) "isPairAlike" false 24 (sSI 5 26) := ok_istore (by decide +kernel : decode cX6_isPairAlike 24 = .ok (.istore 5, 2)) (by decide) (by decide)
theorem o104_26 : Okp RX6 cX6_isPairAlike 7 (some .boolean) "isPairAlike" false 26 (sLI 5 28) := ok_iload (by decide +kernel : decode cX6_isPairAlike 26 = .ok (.iload 5, 2))
theorem o104_28 : Okp RX6 cX6_isPairAlike 7 (some .boolean) "isPairAlike" false 28 (sLR 2 29) := ok_aload_n (by decide +kernel : decode cX6_isPairAlike 28 = .ok (.aload_n 2, 1)) rfl
theorem o104_29 : Okp RX6 cX6_isPairAlike 7 (some .boolean) "isPairAlike" false 29 (sGI 3 0 32) := ok_getI (by decide +kernel : decode cX6_isPairAlike 29 = .ok (.getfield 140, 3)) fw_X6_140 rfl
theorem o104_32 : Okp RX6 cX6_isPairAlike 7 (some .boolean) "isPairAlike" false 32 (sI2 3 143 35) := ok_icmp_ge (by decide +kernel : decode cX6_isPairAlike 32 = .ok (.if_icmp .ge 111, 3)) (by decide)
theorem o104_35 : Okp RX6 cX6_isPairAlike 7 (some .boolean) "isPairAlike" false 35 (sLR 2 36) := ok_aload_n (by decide +kernel : decode cX6_isPairAlike 35 = .ok (.aload_n 2, 1)) rfl
theorem o104_36 : Okp RX6 cX6_isPairAlike 7 (some .boolean) "isPairAlike" false 36 (sLI 5 38) := ok_iload (by decide +kernel : decode cX6_isPairAlike 36 = .ok (.iload 5, 2))
theorem o104_38 : Okp RX6 cX6_isPairAlike 7 (some .boolean) "isPairAlike" false 38 (sCV false 20 2 3 41) := ok_cv (by decide +kernel : decode cX6_isPairAlike 38 = .ok (.invokevirtual 145, 3)) mw_X6_145 rfl (by decide) wm_X2_turnAt wse_X2_turnAt (by decide) rfl
theorem o104_41 : Okp RX6 cX6_isPairAlike 7 (some .boolean) "isPairAlike" false 41 (sLR 4 43) := ok_aload (by decide +kernel : decode cX6_isPairAlike 41 = .ok (.aload 4, 2))
theorem o104_43 : Okp RX6 cX6_isPairAlike 7 (some .boolean) "isPairAlike" false 43 (sLI 5 45) := ok_iload (by decide +kernel : decode cX6_isPairAlike 43 = .ok (.iload 5, 2))
theorem o104_45 : Okp RX6 cX6_isPairAlike 7 (some .boolean) "isPairAlike" false 45 (sCV false 20 2 3 48) := ok_cv (by decide +kernel : decode cX6_isPairAlike 45 = .ok (.invokevirtual 145, 3)) mw_X6_145 rfl (by decide) wm_X2_turnAt wse_X2_turnAt (by decide) rfl
theorem o104_48 : Okp RX6 cX6_isPairAlike 7 (some .boolean) "isPairAlike" false 48 (sI2 1 67 51) := ok_icmp_ne (by decide +kernel : decode cX6_isPairAlike 48 = .ok (.if_icmp .ne 19, 3)) (by decide)
theorem o104_51 : Okp RX6 cX6_isPairAlike 7 (some .boolean) "isPairAlike" false 51 (sLR 2 52) := ok_aload_n (by decide +kernel : decode cX6_isPairAlike 51 = .ok (.aload_n 2, 1)) rfl
theorem o104_52 : Okp RX6 cX6_isPairAlike 7 (some .boolean) "isPairAlike" false 52 (sLI 5 54) := ok_iload (by decide +kernel : decode cX6_isPairAlike 52 = .ok (.iload 5, 2))
theorem o104_54 : Okp RX6 cX6_isPairAlike 7 (some .boolean) "isPairAlike" false 54 (sCV false 21 2 3 57) := ok_cv (by decide +kernel : decode cX6_isPairAlike 54 = .ok (.invokevirtual 148, 3)) mw_X6_148 rfl (by decide) wm_X2_countAt wse_X2_countAt (by decide) rfl
theorem o104_57 : Okp RX6 cX6_isPairAlike 7 (some .boolean) "isPairAlike" false 57 (sLR 4 59) := ok_aload (by decide +kernel : decode cX6_isPairAlike 57 = .ok (.aload 4, 2))
theorem o104_59 : Okp RX6 cX6_isPairAlike 7 (some .boolean) "isPairAlike" false 59 (sLI 5 61) := ok_iload (by decide +kernel : decode cX6_isPairAlike 59 = .ok (.iload 5, 2))
theorem o104_61 : Okp RX6 cX6_isPairAlike 7 (some .boolean) "isPairAlike" false 61 (sCV false 21 2 3 64) := ok_cv (by decide +kernel : decode cX6_isPairAlike 61 = .ok (.invokevirtual 148, 3)) mw_X6_148 rfl (by decide) wm_X2_countAt wse_X2_countAt (by decide) rfl
theorem o104_64 : Okp RX6 cX6_isPairAlike 7 (some .boolean) "isPairAlike" false 64 (sI2 0 69 67) := ok_icmp_eq (by decide +kernel : decode cX6_isPairAlike 64 = .ok (.if_icmp .eq 5, 3)) (by decide)
theorem o104_67 : Okp RX6 cX6_isPairAlike 7 (some .boolean) "isPairAlike" false 67 (sK 0 68) := ok_iconst (by decide +kernel : decode cX6_isPairAlike 67 = .ok (.iconst 0, 1)) (by decide)
theorem o104_68 : Okp RX6 cX6_isPairAlike 7 (some .boolean) "isPairAlike" false 68 sRZ := ok_zret rfl (by decide +kernel : decode cX6_isPairAlike 68 = .ok (.ireturn, 1))
theorem o104_69 : Okp RX6 cX6_isPairAlike 7 (some .boolean) "isPairAlike" false 69 (sK 0 70) := ok_iconst (by decide +kernel : decode cX6_isPairAlike 69 = .ok (.iconst 0, 1)) (by decide)
theorem o104_70 : Okp RX6 cX6_isPairAlike 7 (some .boolean) "isPairAlike" false 70 (sSI 6 72) := ok_istore (by decide +kernel : decode cX6_isPairAlike 70 = .ok (.istore 6, 2)) (by decide) (by decide)
theorem o104_72 : Okp RX6 cX6_isPairAlike 7 (some .boolean) "isPairAlike" false 72 (sLI 6 74) := ok_iload (by decide +kernel : decode cX6_isPairAlike 72 = .ok (.iload 6, 2))
theorem o104_74 : Okp RX6 cX6_isPairAlike 7 (some .boolean) "isPairAlike" false 74 (sLR 2 75) := ok_aload_n (by decide +kernel : decode cX6_isPairAlike 74 = .ok (.aload_n 2, 1)) rfl
theorem o104_75 : Okp RX6 cX6_isPairAlike 7 (some .boolean) "isPairAlike" false 75 (sLI 5 77) := ok_iload (by decide +kernel : decode cX6_isPairAlike 75 = .ok (.iload 5, 2))
theorem o104_77 : Okp RX6 cX6_isPairAlike 7 (some .boolean) "isPairAlike" false 77 (sCV false 21 2 3 80) := ok_cv (by decide +kernel : decode cX6_isPairAlike 77 = .ok (.invokevirtual 148, 3)) mw_X6_148 rfl (by decide) wm_X2_countAt wse_X2_countAt (by decide) rfl
theorem o104_80 : Okp RX6 cX6_isPairAlike 7 (some .boolean) "isPairAlike" false 80 (sI2 3 137 83) := ok_icmp_ge (by decide +kernel : decode cX6_isPairAlike 80 = .ok (.if_icmp .ge 57, 3)) (by decide)
theorem o104_83 : Okp RX6 cX6_isPairAlike 7 (some .boolean) "isPairAlike" false 83 (sLR 2 84) := ok_aload_n (by decide +kernel : decode cX6_isPairAlike 83 = .ok (.aload_n 2, 1)) rfl
theorem o104_84 : Okp RX6 cX6_isPairAlike 7 (some .boolean) "isPairAlike" false 84 (sLI 5 86) := ok_iload (by decide +kernel : decode cX6_isPairAlike 84 = .ok (.iload 5, 2))
theorem o104_86 : Okp RX6 cX6_isPairAlike 7 (some .boolean) "isPairAlike" false 86 (sLI 6 88) := ok_iload (by decide +kernel : decode cX6_isPairAlike 86 = .ok (.iload 6, 2))
theorem o104_88 : Okp RX6 cX6_isPairAlike 7 (some .boolean) "isPairAlike" false 88 (sCV false 25 3 3 91) := ok_cv (by decide +kernel : decode cX6_isPairAlike 88 = .ok (.invokevirtual 151, 3)) mw_X6_151 rfl (by decide) wm_X2_nextOf wse_X2_nextOf (by decide) rfl
theorem o104_91 : Okp RX6 cX6_isPairAlike 7 (some .boolean) "isPairAlike" false 91 (sLR 4 93) := ok_aload (by decide +kernel : decode cX6_isPairAlike 91 = .ok (.aload 4, 2))
theorem o104_93 : Okp RX6 cX6_isPairAlike 7 (some .boolean) "isPairAlike" false 93 (sLI 5 95) := ok_iload (by decide +kernel : decode cX6_isPairAlike 93 = .ok (.iload 5, 2))
theorem o104_95 : Okp RX6 cX6_isPairAlike 7 (some .boolean) "isPairAlike" false 95 (sLI 6 97) := ok_iload (by decide +kernel : decode cX6_isPairAlike 95 = .ok (.iload 6, 2))
theorem o104_97 : Okp RX6 cX6_isPairAlike 7 (some .boolean) "isPairAlike" false 97 (sCV false 25 3 3 100) := ok_cv (by decide +kernel : decode cX6_isPairAlike 97 = .ok (.invokevirtual 151, 3)) mw_X6_151 rfl (by decide) wm_X2_nextOf wse_X2_nextOf (by decide) rfl
theorem o104_100 : Okp RX6 cX6_isPairAlike 7 (some .boolean) "isPairAlike" false 100 (sI2 1 129 103) := ok_icmp_ne (by decide +kernel : decode cX6_isPairAlike 100 = .ok (.if_icmp .ne 29, 3)) (by decide)
theorem o104_103 : Okp RX6 cX6_isPairAlike 7 (some .boolean) "isPairAlike" false 103 (sLR 0 104) := ok_aload_n (by decide +kernel : decode cX6_isPairAlike 103 = .ok (.aload_n 0, 1)) rfl
theorem o104_104 : Okp RX6 cX6_isPairAlike 7 (some .boolean) "isPairAlike" false 104 (sLR 1 105) := ok_aload_n (by decide +kernel : decode cX6_isPairAlike 104 = .ok (.aload_n 1, 1)) rfl
theorem o104_105 : Okp RX6 cX6_isPairAlike 7 (some .boolean) "isPairAlike" false 105 (sLR 2 106) := ok_aload_n (by decide +kernel : decode cX6_isPairAlike 105 = .ok (.aload_n 2, 1)) rfl
theorem o104_106 : Okp RX6 cX6_isPairAlike 7 (some .boolean) "isPairAlike" false 106 (sLI 5 108) := ok_iload (by decide +kernel : decode cX6_isPairAlike 106 = .ok (.iload 5, 2))
theorem o104_108 : Okp RX6 cX6_isPairAlike 7 (some .boolean) "isPairAlike" false 108 (sLI 6 110) := ok_iload (by decide +kernel : decode cX6_isPairAlike 108 = .ok (.iload 6, 2))
theorem o104_110 : Okp RX6 cX6_isPairAlike 7 (some .boolean) "isPairAlike" false 110 (sCV false 24 3 3 113) := ok_cv (by decide +kernel : decode cX6_isPairAlike 110 = .ok (.invokevirtual 154, 3)) mw_X6_154 rfl (by decide) wm_X2_loadOf wse_X2_loadOf (by decide) rfl
theorem o104_113 : Okp RX6 cX6_isPairAlike 7 (some .boolean) "isPairAlike" false 113 (sLR 3 114) := ok_aload_n (by decide +kernel : decode cX6_isPairAlike 113 = .ok (.aload_n 3, 1)) rfl
theorem o104_114 : Okp RX6 cX6_isPairAlike 7 (some .boolean) "isPairAlike" false 114 (sLR 4 116) := ok_aload (by decide +kernel : decode cX6_isPairAlike 114 = .ok (.aload 4, 2))
theorem o104_116 : Okp RX6 cX6_isPairAlike 7 (some .boolean) "isPairAlike" false 116 (sLI 5 118) := ok_iload (by decide +kernel : decode cX6_isPairAlike 116 = .ok (.iload 5, 2))
theorem o104_118 : Okp RX6 cX6_isPairAlike 7 (some .boolean) "isPairAlike" false 118 (sLI 6 120) := ok_iload (by decide +kernel : decode cX6_isPairAlike 118 = .ok (.iload 6, 2))
theorem o104_120 : Okp RX6 cX6_isPairAlike 7 (some .boolean) "isPairAlike" false 120 (sCV false 24 3 3 123) := ok_cv (by decide +kernel : decode cX6_isPairAlike 120 = .ok (.invokevirtual 154, 3)) mw_X6_154 rfl (by decide) wm_X2_loadOf wse_X2_loadOf (by decide) rfl
theorem o104_123 : Okp RX6 cX6_isPairAlike 7 (some .boolean) "isPairAlike" false 123 (sCV false 105 5 7 126) := ok_cv (by decide +kernel : decode cX6_isPairAlike 123 = .ok (.invokevirtual 157, 3)) mw_X6_157 rfl (by decide) wm_X6_isLoadAlike wse_X6_isLoadAlike (by decide) rfl
theorem o104_126 : Okp RX6 cX6_isPairAlike 7 (some .boolean) "isPairAlike" false 126 (sI1 1 131 129) := ok_if_ne (by decide +kernel : decode cX6_isPairAlike 126 = .ok (.ifCond .ne 5, 3)) (by decide)
theorem o104_129 : Okp RX6 cX6_isPairAlike 7 (some .boolean) "isPairAlike" false 129 (sK 0 130) := ok_iconst (by decide +kernel : decode cX6_isPairAlike 129 = .ok (.iconst 0, 1)) (by decide)
theorem o104_130 : Okp RX6 cX6_isPairAlike 7 (some .boolean) "isPairAlike" false 130 sRZ := ok_zret rfl (by decide +kernel : decode cX6_isPairAlike 130 = .ok (.ireturn, 1))
theorem o104_131 : Okp RX6 cX6_isPairAlike 7 (some .boolean) "isPairAlike" false 131 (sInc 6 1 134) := ok_iinc (by decide +kernel : decode cX6_isPairAlike 131 = .ok (.iinc 6 1, 3)) (by decide) (by decide)
theorem o104_134 : Okp RX6 cX6_isPairAlike 7 (some .boolean) "isPairAlike" false 134 (sGo 72) := ok_goto (by decide +kernel : decode cX6_isPairAlike 134 = .ok (.goto (-62), 3)) (by decide)
theorem o104_137 : Okp RX6 cX6_isPairAlike 7 (some .boolean) "isPairAlike" false 137 (sInc 5 1 140) := ok_iinc (by decide +kernel : decode cX6_isPairAlike 137 = .ok (.iinc 5 1, 3)) (by decide) (by decide)
theorem o104_140 : Okp RX6 cX6_isPairAlike 7 (some .boolean) "isPairAlike" false 140 (sGo 26) := ok_goto (by decide +kernel : decode cX6_isPairAlike 140 = .ok (.goto (-114), 3)) (by decide)
theorem o104_143 : Okp RX6 cX6_isPairAlike 7 (some .boolean) "isPairAlike" false 143 (sK 1 144) := ok_iconst (by decide +kernel : decode cX6_isPairAlike 143 = .ok (.iconst 1, 1)) (by decide)
theorem o104_144 : Okp RX6 cX6_isPairAlike 7 (some .boolean) "isPairAlike" false 144 sRZ := ok_zret rfl (by decide +kernel : decode cX6_isPairAlike 144 = .ok (.ireturn, 1))
theorem oc104_0 : ∀ pc, Mnp (c104_0 pc) ∧ Okp RX6 cX6_isPairAlike 7 (some .boolean) "isPairAlike" false pc (c104_0 pc) := by
  intro pc
  unfold c104_0
  split
  · exact ⟨mn_sLR, o104_0⟩
  · exact ⟨mn_sNl, o104_1⟩
  · exact ⟨mn_sLR, o104_4⟩
  · exact ⟨mn_sNl, o104_6⟩
  · exact ⟨mn_sLR, o104_9⟩
  · exact ⟨mn_sGI, o104_10⟩
  · exact ⟨mn_sLR, o104_13⟩
  · exact ⟨mn_sGI, o104_15⟩
  · exact ⟨mn_sI2, o104_18⟩
  · exact ⟨mn_sK, o104_21⟩
  · exact ⟨mn_sRZ, o104_22⟩
  · exact ⟨mn_sK, o104_23⟩
  · exact ⟨mn_sX, ok_X⟩
theorem oc104_1 : ∀ pc, Mnp (c104_1 pc) ∧ Okp RX6 cX6_isPairAlike 7 (some .boolean) "isPairAlike" false pc (c104_1 pc) := by
  intro pc
  unfold c104_1
  split
  · exact ⟨mn_sSI, o104_24⟩
  · exact ⟨mn_sLI, o104_26⟩
  · exact ⟨mn_sLR, o104_28⟩
  · exact ⟨mn_sGI, o104_29⟩
  · exact ⟨mn_sI2, o104_32⟩
  · exact ⟨mn_sLR, o104_35⟩
  · exact ⟨mn_sLI, o104_36⟩
  · exact ⟨mn_sCV, o104_38⟩
  · exact ⟨mn_sLR, o104_41⟩
  · exact ⟨mn_sLI, o104_43⟩
  · exact ⟨mn_sCV, o104_45⟩
  · exact ⟨mn_sX, ok_X⟩
theorem oc104_2 : ∀ pc, Mnp (c104_2 pc) ∧ Okp RX6 cX6_isPairAlike 7 (some .boolean) "isPairAlike" false pc (c104_2 pc) := by
  intro pc
  unfold c104_2
  split
  · exact ⟨mn_sI2, o104_48⟩
  · exact ⟨mn_sLR, o104_51⟩
  · exact ⟨mn_sLI, o104_52⟩
  · exact ⟨mn_sCV, o104_54⟩
  · exact ⟨mn_sLR, o104_57⟩
  · exact ⟨mn_sLI, o104_59⟩
  · exact ⟨mn_sCV, o104_61⟩
  · exact ⟨mn_sI2, o104_64⟩
  · exact ⟨mn_sK, o104_67⟩
  · exact ⟨mn_sRZ, o104_68⟩
  · exact ⟨mn_sK, o104_69⟩
  · exact ⟨mn_sSI, o104_70⟩
  · exact ⟨mn_sX, ok_X⟩
theorem oc104_3 : ∀ pc, Mnp (c104_3 pc) ∧ Okp RX6 cX6_isPairAlike 7 (some .boolean) "isPairAlike" false pc (c104_3 pc) := by
  intro pc
  unfold c104_3
  split
  · exact ⟨mn_sLI, o104_72⟩
  · exact ⟨mn_sLR, o104_74⟩
  · exact ⟨mn_sLI, o104_75⟩
  · exact ⟨mn_sCV, o104_77⟩
  · exact ⟨mn_sI2, o104_80⟩
  · exact ⟨mn_sLR, o104_83⟩
  · exact ⟨mn_sLI, o104_84⟩
  · exact ⟨mn_sLI, o104_86⟩
  · exact ⟨mn_sCV, o104_88⟩
  · exact ⟨mn_sLR, o104_91⟩
  · exact ⟨mn_sLI, o104_93⟩
  · exact ⟨mn_sLI, o104_95⟩
  · exact ⟨mn_sX, ok_X⟩
theorem oc104_4 : ∀ pc, Mnp (c104_4 pc) ∧ Okp RX6 cX6_isPairAlike 7 (some .boolean) "isPairAlike" false pc (c104_4 pc) := by
  intro pc
  unfold c104_4
  split
  · exact ⟨mn_sCV, o104_97⟩
  · exact ⟨mn_sI2, o104_100⟩
  · exact ⟨mn_sLR, o104_103⟩
  · exact ⟨mn_sLR, o104_104⟩
  · exact ⟨mn_sLR, o104_105⟩
  · exact ⟨mn_sLI, o104_106⟩
  · exact ⟨mn_sLI, o104_108⟩
  · exact ⟨mn_sCV, o104_110⟩
  · exact ⟨mn_sLR, o104_113⟩
  · exact ⟨mn_sLR, o104_114⟩
  · exact ⟨mn_sLI, o104_116⟩
  · exact ⟨mn_sLI, o104_118⟩
  · exact ⟨mn_sX, ok_X⟩
theorem oc104_5 : ∀ pc, Mnp (c104_5 pc) ∧ Okp RX6 cX6_isPairAlike 7 (some .boolean) "isPairAlike" false pc (c104_5 pc) := by
  intro pc
  unfold c104_5
  split
  · exact ⟨mn_sCV, o104_120⟩
  · exact ⟨mn_sCV, o104_123⟩
  · exact ⟨mn_sI1, o104_126⟩
  · exact ⟨mn_sK, o104_129⟩
  · exact ⟨mn_sRZ, o104_130⟩
  · exact ⟨mn_sInc, o104_131⟩
  · exact ⟨mn_sGo, o104_134⟩
  · exact ⟨mn_sInc, o104_137⟩
  · exact ⟨mn_sGo, o104_140⟩
  · exact ⟨mn_sK, o104_143⟩
  · exact ⟨mn_sX, ok_X⟩
theorem oc104_6 : ∀ pc, Mnp (c104_6 pc) ∧ Okp RX6 cX6_isPairAlike 7 (some .boolean) "isPairAlike" false pc (c104_6 pc) := by
  intro pc
  unfold c104_6
  split
  · exact ⟨mn_sRZ, o104_144⟩
  · exact ⟨mn_sX, ok_X⟩
theorem oc104 : ∀ pc, Mnp (c104 pc) ∧ Okp RX6 cX6_isPairAlike 7 (some .boolean) "isPairAlike" false pc (c104 pc) := by
  intro pc
  unfold c104
  split
  · exact oc104_0 pc
  · exact oc104_1 pc
  · exact oc104_2 pc
  · exact oc104_3 pc
  · exact oc104_4 pc
  · exact oc104_5 pc
  · exact oc104_6 pc
  · exact ⟨mn_sX, ok_X⟩
