theorem o306_0 : Okp RX12 cX12_canGo 4 (some .boolean) "canGo" false 0 (sLR 0 1) := ok_aload_n (by decide +kernel : decode cX12_canGo 0 = .ok (.aload_n 0, 1)) rfl
theorem o306_1 : Okp RX12 cX12_canGo 4 (some .boolean) "canGo" false 1 (sLI 1 2) := ok_iload_n (by decide +kernel : decode cX12_canGo 1 = .ok (.iload_n 1, 1)) rfl
theorem o306_2 : Okp RX12 cX12_canGo 4 (some .boolean) "canGo" false 2 (sCV false 303 2 13 5) := ok_cv (by decide +kernel : decode cX12_canGo 2 = .ok (.invokevirtual 519, 3)) mw_X12_519 rfl (by decide) wm_X12_op wse_X12_op (by decide) rfl
theorem o306_5 : Okp RX12 cX12_canGo 4 (some .boolean) "canGo" false 5 (sSI 2 6) := ok_istore_n (by decide +kernel : decode cX12_canGo 5 = .ok (.istore_n 2, 1)) rfl (by decide) (by decide)
theorem o306_6 : Okp RX12 cX12_canGo 4 (some .boolean) "canGo" false 6 (sLI 2 7) := ok_iload_n (by decide +kernel : decode cX12_canGo 6 = .ok (.iload_n 2, 1)) rfl
theorem o306_7 : Okp RX12 cX12_canGo 4 (some .boolean) "canGo" false 7 (sK 38 9) := ok_bipush (by decide +kernel : decode cX12_canGo 7 = .ok (.bipush 38, 2)) (by decide)
theorem o306_9 : Okp RX12 cX12_canGo 4 (some .boolean) "canGo" false 9 (sI2 1 48 12) := ok_icmp_ne (by decide +kernel : decode cX12_canGo 9 = .ok (.if_icmp .ne 39, 3)) (by decide)
theorem o306_12 : Okp RX12 cX12_canGo 4 (some .boolean) "canGo" false 12 (sLR 0 13) := ok_aload_n (by decide +kernel : decode cX12_canGo 12 = .ok (.aload_n 0, 1)) rfl
theorem o306_13 : Okp RX12 cX12_canGo 4 (some .boolean) "canGo" false 13 (sGR 13 84 16) := ok_getR (by decide +kernel : decode cX12_canGo 13 = .ok (.getfield 212, 3)) fw_X12_212 rfl
theorem o306_16 : Okp RX12 cX12_canGo 4 (some .boolean) "canGo" false 16 (sLR 0 17) := ok_aload_n (by decide +kernel : decode cX12_canGo 16 = .ok (.aload_n 0, 1)) rfl
theorem o306_17 : Okp RX12 cX12_canGo 4 (some .boolean) "canGo" false 17 (sGR 13 68 20) := ok_getR (by decide +kernel : decode cX12_canGo 17 = .ok (.getfield 164, 3)) fw_X12_164 rfl
theorem o306_20 : Okp RX12 cX12_canGo 4 (some .boolean) "canGo" false 20 (sLR 0 21) := ok_aload_n (by decide +kernel : decode cX12_canGo 20 = .ok (.aload_n 0, 1)) rfl
theorem o306_21 : Okp RX12 cX12_canGo 4 (some .boolean) "canGo" false 21 (sLI 1 22) := ok_iload_n (by decide +kernel : decode cX12_canGo 21 = .ok (.iload_n 1, 1)) rfl
theorem o306_22 : Okp RX12 cX12_canGo 4 (some .boolean) "canGo" false 22 (sLR 0 23) := ok_aload_n (by decide +kernel : decode cX12_canGo 22 = .ok (.aload_n 0, 1)) rfl
theorem o306_23 : Okp RX12 cX12_canGo 4 (some .boolean) "canGo" false 23 (sGR 13 67 26) := ok_getR (by decide +kernel : decode cX12_canGo 23 = .ok (.getfield 161, 3)) fw_X12_161 rfl
theorem o306_26 : Okp RX12 cX12_canGo 4 (some .boolean) "canGo" false 26 (sLR 0 27) := ok_aload_n (by decide +kernel : decode cX12_canGo 26 = .ok (.aload_n 0, 1)) rfl
theorem o306_27 : Okp RX12 cX12_canGo 4 (some .boolean) "canGo" false 27 (sLI 1 28) := ok_iload_n (by decide +kernel : decode cX12_canGo 27 = .ok (.iload_n 1, 1)) rfl
theorem o306_28 : Okp RX12 cX12_canGo 4 (some .boolean) "canGo" false 28 (sCV true 282 2 13 31) := ok_cv (by decide +kernel : decode cX12_canGo 28 = .ok (.invokevirtual 487, 3)) mw_X12_487 rfl (by decide) wm_X12_act wse_X12_act (by decide) rfl
theorem o306_31 : Okp RX12 cX12_canGo 4 (some .boolean) "canGo" false 31 (sIA 32) := ok_iaload (by decide +kernel : decode cX12_canGo 31 = .ok (.iaload, 1))
theorem o306_32 : Okp RX12 cX12_canGo 4 (some .boolean) "canGo" false 32 (sK 1 33) := ok_iconst (by decide +kernel : decode cX12_canGo 32 = .ok (.iconst 1, 1)) (by decide)
theorem o306_33 : Okp RX12 cX12_canGo 4 (some .boolean) "canGo" false 33 (sB2 fSub 34) := ok_isub (by decide +kernel : decode cX12_canGo 33 = .ok (.isub, 1))
theorem o306_34 : Okp RX12 cX12_canGo 4 (some .boolean) "canGo" false 34 (sCV false 284 3 13 37) := ok_cv (by decide +kernel : decode cX12_canGo 34 = .ok (.invokevirtual 490, 3)) mw_X12_490 rfl (by decide) wm_X12_stack wse_X12_stack (by decide) rfl
theorem o306_37 : Okp RX12 cX12_canGo 4 (some .boolean) "canGo" false 37 (sIA 38) := ok_iaload (by decide +kernel : decode cX12_canGo 37 = .ok (.iaload, 1))
theorem o306_38 : Okp RX12 cX12_canGo 4 (some .boolean) "canGo" false 38 (sIA 39) := ok_iaload (by decide +kernel : decode cX12_canGo 38 = .ok (.iaload, 1))
theorem o306_39 : Okp RX12 cX12_canGo 4 (some .boolean) "canGo" false 39 (sI1 5 46 42) := ok_if_le (by decide +kernel : decode cX12_canGo 39 = .ok (.ifCond .le 7, 3)) (by decide)
theorem o306_42 : Okp RX12 cX12_canGo 4 (some .boolean) "canGo" false 42 (sK 1 43) := ok_iconst (by decide +kernel : decode cX12_canGo 42 = .ok (.iconst 1, 1)) (by decide)
theorem o306_43 : Okp RX12 cX12_canGo 4 (some .boolean) "canGo" false 43 (sGo 47) := ok_goto (by decide +kernel : decode cX12_canGo 43 = .ok (.goto 4, 3)) (by decide)
theorem o306_46 : Okp RX12 cX12_canGo 4 (some .boolean) "canGo" false 46 (sK 0 47) := ok_iconst (by decide +kernel : decode cX12_canGo 46 = .ok (.iconst 0, 1)) (by decide)
theorem o306_47 : Okp RX12 cX12_canGo 4 (some .boolean) "canGo" false 47 sRZ := ok_zret rfl (by decide +kernel : decode cX12_canGo 47 = .ok (.ireturn, 1))
theorem o306_48 : Okp RX12 cX12_canGo 4 (some .boolean) "canGo" false 48 (sLI 2 49) := ok_iload_n (by decide +kernel : decode cX12_canGo 48 = .ok (.iload_n 2, 1)) rfl
theorem o306_49 : Okp RX12 cX12_canGo 4 (some .boolean) "canGo" false 49 (sK 37 51) := ok_bipush (by decide +kernel : decode cX12_canGo 49 = .ok (.bipush 37, 2)) (by decide)
theorem o306_51 : Okp RX12 cX12_canGo 4 (some .boolean) "canGo" false 51 (sI2 0 56 54) := ok_icmp_eq (by decide +kernel : decode cX12_canGo 51 = .ok (.if_icmp .eq 5, 3)) (by decide)
theorem o306_54 : Okp RX12 cX12_canGo 4 (some .boolean) "canGo" false 54 (sK 1 55) := ok_iconst (by decide +kernel : decode cX12_canGo 54 = .ok (.iconst 1, 1)) (by decide)
theorem o306_55 : Okp RX12 cX12_canGo 4 (some .boolean) "canGo" false 55 sRZ := ok_zret rfl (by decide +kernel : decode cX12_canGo 55 = .ok (.ireturn, 1))
theorem o306_56 : Okp RX12 cX12_canGo 4 (some .boolean) "canGo" false 56 (sLR 0 57) := ok_aload_n (by decide +kernel : decode cX12_canGo 56 = .ok (.aload_n 0, 1)) rfl
theorem o306_57 : Okp RX12 cX12_canGo 4 (some .boolean) "canGo" false 57 (sGR 13 68 60) := ok_getR (by decide +kernel : decode cX12_canGo 57 = .ok (.getfield 164, 3)) fw_X12_164 rfl
theorem o306_60 : Okp RX12 cX12_canGo 4 (some .boolean) "canGo" false 60 (sLR 0 61) := ok_aload_n (by decide +kernel : decode cX12_canGo 60 = .ok (.aload_n 0, 1)) rfl
theorem o306_61 : Okp RX12 cX12_canGo 4 (some .boolean) "canGo" false 61 (sLI 1 62) := ok_iload_n (by decide +kernel : decode cX12_canGo 61 = .ok (.iload_n 1, 1)) rfl
theorem o306_62 : Okp RX12 cX12_canGo 4 (some .boolean) "canGo" false 62 (sLR 0 63) := ok_aload_n (by decide +kernel : decode cX12_canGo 62 = .ok (.aload_n 0, 1)) rfl
theorem o306_63 : Okp RX12 cX12_canGo 4 (some .boolean) "canGo" false 63 (sGR 13 67 66) := ok_getR (by decide +kernel : decode cX12_canGo 63 = .ok (.getfield 161, 3)) fw_X12_161 rfl
theorem o306_66 : Okp RX12 cX12_canGo 4 (some .boolean) "canGo" false 66 (sLR 0 67) := ok_aload_n (by decide +kernel : decode cX12_canGo 66 = .ok (.aload_n 0, 1)) rfl
theorem o306_67 : Okp RX12 cX12_canGo 4 (some .boolean) "canGo" false 67 (sLI 1 68) := ok_iload_n (by decide +kernel : decode cX12_canGo 67 = .ok (.iload_n 1, 1)) rfl
theorem o306_68 : Okp RX12 cX12_canGo 4 (some .boolean) "canGo" false 68 (sCV false 282 2 13 71) := ok_cv (by decide +kernel : decode cX12_canGo 68 = .ok (.invokevirtual 487, 3)) mw_X12_487 rfl (by decide) wm_X12_act wse_X12_act (by decide) rfl
theorem o306_71 : Okp RX12 cX12_canGo 4 (some .boolean) "canGo" false 71 (sIA 72) := ok_iaload (by decide +kernel : decode cX12_canGo 71 = .ok (.iaload, 1))
theorem o306_72 : Okp RX12 cX12_canGo 4 (some .boolean) "canGo" false 72 (sK 1 73) := ok_iconst (by decide +kernel : decode cX12_canGo 72 = .ok (.iconst 1, 1)) (by decide)
theorem o306_73 : Okp RX12 cX12_canGo 4 (some .boolean) "canGo" false 73 (sB2 fSub 74) := ok_isub (by decide +kernel : decode cX12_canGo 73 = .ok (.isub, 1))
theorem o306_74 : Okp RX12 cX12_canGo 4 (some .boolean) "canGo" false 74 (sLR 0 75) := ok_aload_n (by decide +kernel : decode cX12_canGo 74 = .ok (.aload_n 0, 1)) rfl
theorem o306_75 : Okp RX12 cX12_canGo 4 (some .boolean) "canGo" false 75 (sLI 1 76) := ok_iload_n (by decide +kernel : decode cX12_canGo 75 = .ok (.iload_n 1, 1)) rfl
theorem o306_76 : Okp RX12 cX12_canGo 4 (some .boolean) "canGo" false 76 (sLR 0 77) := ok_aload_n (by decide +kernel : decode cX12_canGo 76 = .ok (.aload_n 0, 1)) rfl
theorem o306_77 : Okp RX12 cX12_canGo 4 (some .boolean) "canGo" false 77 (sLI 1 78) := ok_iload_n (by decide +kernel : decode cX12_canGo 77 = .ok (.iload_n 1, 1)) rfl
theorem o306_78 : Okp RX12 cX12_canGo 4 (some .boolean) "canGo" false 78 (sK 1 79) := ok_iconst (by decide +kernel : decode cX12_canGo 78 = .ok (.iconst 1, 1)) (by decide)
theorem o306_79 : Okp RX12 cX12_canGo 4 (some .boolean) "canGo" false 79 (sCV true 304 3 13 82) := ok_cv (by decide +kernel : decode cX12_canGo 79 = .ok (.invokevirtual 528, 3)) mw_X12_528 rfl (by decide) wm_X12_part_ wse_X12_part_ (by decide) rfl
theorem o306_82 : Okp RX12 cX12_canGo 4 (some .boolean) "canGo" false 82 (sCV false 305 3 13 85) := ok_cv (by decide +kernel : decode cX12_canGo 82 = .ok (.invokevirtual 530, 3)) mw_X12_530 rfl (by decide) wm_X12_depthOfEnd wse_X12_depthOfEnd (by decide) rfl
theorem o306_85 : Okp RX12 cX12_canGo 4 (some .boolean) "canGo" false 85 (sB2 fSub 86) := ok_isub (by decide +kernel : decode cX12_canGo 85 = .ok (.isub, 1))
theorem o306_86 : Okp RX12 cX12_canGo 4 (some .boolean) "canGo" false 86 (sCV false 284 3 13 89) := ok_cv (by decide +kernel : decode cX12_canGo 86 = .ok (.invokevirtual 490, 3)) mw_X12_490 rfl (by decide) wm_X12_stack wse_X12_stack (by decide) rfl
theorem o306_89 : Okp RX12 cX12_canGo 4 (some .boolean) "canGo" false 89 (sIA 90) := ok_iaload (by decide +kernel : decode cX12_canGo 89 = .ok (.iaload, 1))
theorem o306_90 : Okp RX12 cX12_canGo 4 (some .boolean) "canGo" false 90 (sSI 3 91) := ok_istore_n (by decide +kernel : decode cX12_canGo 90 = .ok (.istore_n 3, 1)) rfl (by decide) (by decide)
theorem o306_91 : Okp RX12 cX12_canGo 4 (some .boolean) "canGo" false 91 (sLR 0 92) := ok_aload_n (by decide +kernel : decode cX12_canGo 91 = .ok (.aload_n 0, 1)) rfl
theorem o306_92 : Okp RX12 cX12_canGo 4 (some .boolean) "canGo" false 92 (sGR 13 82 95) := ok_getR (by decide +kernel : decode cX12_canGo 92 = .ok (.getfield 206, 3)) fw_X12_206 rfl
theorem o306_95 : Okp RX12 cX12_canGo 4 (some .boolean) "canGo" false 95 (sLI 3 96) := ok_iload_n (by decide +kernel : decode cX12_canGo 95 = .ok (.iload_n 3, 1)) rfl
theorem o306_96 : Okp RX12 cX12_canGo 4 (some .boolean) "canGo" false 96 (sK 1 97) := ok_iconst (by decide +kernel : decode cX12_canGo 96 = .ok (.iconst 1, 1)) (by decide)
theorem o306_97 : Okp RX12 cX12_canGo 4 (some .boolean) "canGo" false 97 (sB2 fXor 98) := ok_ixor (by decide +kernel : decode cX12_canGo 97 = .ok (.ixor, 1))
theorem o306_98 : Okp RX12 cX12_canGo 4 (some .boolean) "canGo" false 98 (sIA 99) := ok_iaload (by decide +kernel : decode cX12_canGo 98 = .ok (.iaload, 1))
theorem o306_99 : Okp RX12 cX12_canGo 4 (some .boolean) "canGo" false 99 (sK (-1) 100) := ok_iconst (by decide +kernel : decode cX12_canGo 99 = .ok (.iconst (-1), 1)) (by decide)
theorem o306_100 : Okp RX12 cX12_canGo 4 (some .boolean) "canGo" false 100 (sI2 0 115 103) := ok_icmp_eq (by decide +kernel : decode cX12_canGo 100 = .ok (.if_icmp .eq 15, 3)) (by decide)
theorem o306_103 : Okp RX12 cX12_canGo 4 (some .boolean) "canGo" false 103 (sLR 0 104) := ok_aload_n (by decide +kernel : decode cX12_canGo 103 = .ok (.aload_n 0, 1)) rfl
theorem o306_104 : Okp RX12 cX12_canGo 4 (some .boolean) "canGo" false 104 (sGR 13 84 107) := ok_getR (by decide +kernel : decode cX12_canGo 104 = .ok (.getfield 212, 3)) fw_X12_212 rfl
theorem o306_107 : Okp RX12 cX12_canGo 4 (some .boolean) "canGo" false 107 (sLI 3 108) := ok_iload_n (by decide +kernel : decode cX12_canGo 107 = .ok (.iload_n 3, 1)) rfl
theorem o306_108 : Okp RX12 cX12_canGo 4 (some .boolean) "canGo" false 108 (sK 1 109) := ok_iconst (by decide +kernel : decode cX12_canGo 108 = .ok (.iconst 1, 1)) (by decide)
theorem o306_109 : Okp RX12 cX12_canGo 4 (some .boolean) "canGo" false 109 (sB2 fXor 110) := ok_ixor (by decide +kernel : decode cX12_canGo 109 = .ok (.ixor, 1))
theorem o306_110 : Okp RX12 cX12_canGo 4 (some .boolean) "canGo" false 110 (sIA 111) := ok_iaload (by decide +kernel : decode cX12_canGo 110 = .ok (.iaload, 1))
theorem o306_111 : Okp RX12 cX12_canGo 4 (some .boolean) "canGo" false 111 (sK 4 112) := ok_iconst (by decide +kernel : decode cX12_canGo 111 = .ok (.iconst 4, 1)) (by decide)
theorem o306_112 : Okp RX12 cX12_canGo 4 (some .boolean) "canGo" false 112 (sI2 3 119 115) := ok_icmp_ge (by decide +kernel : decode cX12_canGo 112 = .ok (.if_icmp .ge 7, 3)) (by decide)
theorem o306_115 : Okp RX12 cX12_canGo 4 (some .boolean) "canGo" false 115 (sK 1 116) := ok_iconst (by decide +kernel : decode cX12_canGo 115 = .ok (.iconst 1, 1)) (by decide)
theorem o306_116 : Okp RX12 cX12_canGo 4 (some .boolean) "canGo" false 116 (sGo 120) := ok_goto (by decide +kernel : decode cX12_canGo 116 = .ok (.goto 4, 3)) (by decide)
theorem o306_119 : Okp RX12 cX12_canGo 4 (some .boolean) "canGo" false 119 (sK 0 120) := ok_iconst (by decide +kernel : decode cX12_canGo 119 = .ok (.iconst 0, 1)) (by decide)
theorem o306_120 : Okp RX12 cX12_canGo 4 (some .boolean) "canGo" false 120 sRZ := ok_zret rfl (by decide +kernel : decode cX12_canGo 120 = .ok (.ireturn, 1))
theorem oc306_0 : ∀ pc, Mnp (c306_0 pc) ∧ Okp RX12 cX12_canGo 4 (some .boolean) "canGo" false pc (c306_0 pc) := by
  intro pc
  unfold c306_0
  split
  · exact ⟨mn_sLR, o306_0⟩
  · exact ⟨mn_sLI, o306_1⟩
  · exact ⟨mn_sCV, o306_2⟩
  · exact ⟨mn_sSI, o306_5⟩
  · exact ⟨mn_sLI, o306_6⟩
  · exact ⟨mn_sK, o306_7⟩
  · exact ⟨mn_sI2, o306_9⟩
  · exact ⟨mn_sLR, o306_12⟩
  · exact ⟨mn_sGR, o306_13⟩
  · exact ⟨mn_sLR, o306_16⟩
  · exact ⟨mn_sGR, o306_17⟩
  · exact ⟨mn_sLR, o306_20⟩
  · exact ⟨mn_sLI, o306_21⟩
  · exact ⟨mn_sLR, o306_22⟩
  · exact ⟨mn_sGR, o306_23⟩
  · exact ⟨mn_sX, ok_X⟩
theorem oc306_1 : ∀ pc, Mnp (c306_1 pc) ∧ Okp RX12 cX12_canGo 4 (some .boolean) "canGo" false pc (c306_1 pc) := by
  intro pc
  unfold c306_1
  split
  · exact ⟨mn_sLR, o306_26⟩
  · exact ⟨mn_sLI, o306_27⟩
  · exact ⟨mn_sCV, o306_28⟩
  · exact ⟨mn_sIA, o306_31⟩
  · exact ⟨mn_sK, o306_32⟩
  · exact ⟨mn_sB2, o306_33⟩
  · exact ⟨mn_sCV, o306_34⟩
  · exact ⟨mn_sIA, o306_37⟩
  · exact ⟨mn_sIA, o306_38⟩
  · exact ⟨mn_sI1, o306_39⟩
  · exact ⟨mn_sK, o306_42⟩
  · exact ⟨mn_sGo, o306_43⟩
  · exact ⟨mn_sK, o306_46⟩
  · exact ⟨mn_sRZ, o306_47⟩
  · exact ⟨mn_sX, ok_X⟩
theorem oc306_2 : ∀ pc, Mnp (c306_2 pc) ∧ Okp RX12 cX12_canGo 4 (some .boolean) "canGo" false pc (c306_2 pc) := by
  intro pc
  unfold c306_2
  split
  · exact ⟨mn_sLI, o306_48⟩
  · exact ⟨mn_sK, o306_49⟩
  · exact ⟨mn_sI2, o306_51⟩
  · exact ⟨mn_sK, o306_54⟩
  · exact ⟨mn_sRZ, o306_55⟩
  · exact ⟨mn_sLR, o306_56⟩
  · exact ⟨mn_sGR, o306_57⟩
  · exact ⟨mn_sLR, o306_60⟩
  · exact ⟨mn_sLI, o306_61⟩
  · exact ⟨mn_sLR, o306_62⟩
  · exact ⟨mn_sGR, o306_63⟩
  · exact ⟨mn_sLR, o306_66⟩
  · exact ⟨mn_sLI, o306_67⟩
  · exact ⟨mn_sCV, o306_68⟩
  · exact ⟨mn_sIA, o306_71⟩
  · exact ⟨mn_sX, ok_X⟩
theorem oc306_3 : ∀ pc, Mnp (c306_3 pc) ∧ Okp RX12 cX12_canGo 4 (some .boolean) "canGo" false pc (c306_3 pc) := by
  intro pc
  unfold c306_3
  split
  · exact ⟨mn_sK, o306_72⟩
  · exact ⟨mn_sB2, o306_73⟩
  · exact ⟨mn_sLR, o306_74⟩
  · exact ⟨mn_sLI, o306_75⟩
  · exact ⟨mn_sLR, o306_76⟩
  · exact ⟨mn_sLI, o306_77⟩
  · exact ⟨mn_sK, o306_78⟩
  · exact ⟨mn_sCV, o306_79⟩
  · exact ⟨mn_sCV, o306_82⟩
  · exact ⟨mn_sB2, o306_85⟩
  · exact ⟨mn_sCV, o306_86⟩
  · exact ⟨mn_sIA, o306_89⟩
  · exact ⟨mn_sSI, o306_90⟩
  · exact ⟨mn_sLR, o306_91⟩
  · exact ⟨mn_sGR, o306_92⟩
  · exact ⟨mn_sLI, o306_95⟩
  · exact ⟨mn_sX, ok_X⟩
theorem oc306_4 : ∀ pc, Mnp (c306_4 pc) ∧ Okp RX12 cX12_canGo 4 (some .boolean) "canGo" false pc (c306_4 pc) := by
  intro pc
  unfold c306_4
  split
  · exact ⟨mn_sK, o306_96⟩
  · exact ⟨mn_sB2, o306_97⟩
  · exact ⟨mn_sIA, o306_98⟩
  · exact ⟨mn_sK, o306_99⟩
  · exact ⟨mn_sI2, o306_100⟩
  · exact ⟨mn_sLR, o306_103⟩
  · exact ⟨mn_sGR, o306_104⟩
  · exact ⟨mn_sLI, o306_107⟩
  · exact ⟨mn_sK, o306_108⟩
  · exact ⟨mn_sB2, o306_109⟩
  · exact ⟨mn_sIA, o306_110⟩
  · exact ⟨mn_sK, o306_111⟩
  · exact ⟨mn_sI2, o306_112⟩
  · exact ⟨mn_sK, o306_115⟩
  · exact ⟨mn_sGo, o306_116⟩
  · exact ⟨mn_sK, o306_119⟩
  · exact ⟨mn_sX, ok_X⟩
theorem oc306_5 : ∀ pc, Mnp (c306_5 pc) ∧ Okp RX12 cX12_canGo 4 (some .boolean) "canGo" false pc (c306_5 pc) := by
  intro pc
  unfold c306_5
  split
  · exact ⟨mn_sRZ, o306_120⟩
  · exact ⟨mn_sX, ok_X⟩
theorem oc306 : ∀ pc, Mnp (c306 pc) ∧ Okp RX12 cX12_canGo 4 (some .boolean) "canGo" false pc (c306 pc) := by
  intro pc
  unfold c306
  split
  · exact oc306_0 pc
  · exact oc306_1 pc
  · exact oc306_2 pc
  · exact oc306_3 pc
  · exact oc306_4 pc
  · exact oc306_5 pc
  · exact ⟨mn_sX, ok_X⟩
theorem o307_0 : Okp RX12 cX12_trap 3 none "trap" false 0 (sLR 0 1) := ok_aload_n (by decide +kernel : decode cX12_trap 0 = .ok (.aload_n 0, 1)) rfl
theorem o307_1 : Okp RX12 cX12_trap 3 none "trap" false 1 (sGR 13 60 4) := ok_getR (by decide +kernel : decode cX12_trap 1 = .ok (.getfield 140, 3)) fw_X12_140 rfl
theorem o307_4 : Okp RX12 cX12_trap 3 none "trap" false 4 (sLI 1 5) := ok_iload_n (by decide +kernel : decode cX12_trap 4 = .ok (.iload_n 1, 1)) rfl
theorem o307_5 : Okp RX12 cX12_trap 3 none "trap" false 5 (sLI 2 6) := ok_iload_n (by decide +kernel : decode cX12_trap 5 = .ok (.iload_n 2, 1)) rfl
theorem o307_6 : Okp RX12 cX12_trap 3 none "trap" false 6 (sIS 7) := ok_iastore (by decide +kernel : decode cX12_trap 6 = .ok (.iastore, 1))
theorem o307_7 : Okp RX12 cX12_trap 3 none "trap" false 7 (sLR 0 8) := ok_aload_n (by decide +kernel : decode cX12_trap 7 = .ok (.aload_n 0, 1)) rfl
theorem o307_8 : Okp RX12 cX12_trap 3 none "trap" false 8 (sLI 1 9) := ok_iload_n (by decide +kernel : decode cX12_trap 8 = .ok (.iload_n 1, 1)) rfl
theorem o307_9 : Okp RX12 cX12_trap 3 none "trap" false 9 (sK 5 10) := ok_iconst (by decide +kernel : decode cX12_trap 9 = .ok (.iconst 5, 1)) (by decide)
theorem o307_10 : Okp RX12 cX12_trap 3 none "trap" false 10 (sCV false 298 3 13 13) := ok_cv (by decide +kernel : decode cX12_trap 10 = .ok (.invokevirtual 533, 3)) mw_X12_533 rfl (by decide) wm_X12_over wse_X12_over (by decide) rfl
theorem o307_13 : Okp RX12 cX12_trap 3 none "trap" false 13 sRV := ok_vret rfl (by decide +kernel : decode cX12_trap 13 = .ok (.return_, 1))
theorem oc307 : ∀ pc, Mnp (c307 pc) ∧ Okp RX12 cX12_trap 3 none "trap" false pc (c307 pc) := by
  intro pc
  unfold c307
  split
  · exact ⟨mn_sLR, o307_0⟩
  · exact ⟨mn_sGR, o307_1⟩
  · exact ⟨mn_sLI, o307_4⟩
  · exact ⟨mn_sLI, o307_5⟩
  · exact ⟨mn_sIS, o307_6⟩
  · exact ⟨mn_sLR, o307_7⟩
  · exact ⟨mn_sLI, o307_8⟩
  · exact ⟨mn_sK, o307_9⟩
  · exact ⟨mn_sCV, o307_10⟩
  · exact ⟨mn_sRV, o307_13⟩
  · exact ⟨mn_sX, ok_X⟩
theorem o308_0 : Okp RX12 cX12_goTo 3 none "goTo" false 0 (sLR 0 1) := ok_aload_n (by decide +kernel : decode cX12_goTo 0 = .ok (.aload_n 0, 1)) rfl
theorem o308_1 : Okp RX12 cX12_goTo 3 none "goTo" false 1 (sGR 13 66 4) := ok_getR (by decide +kernel : decode cX12_goTo 1 = .ok (.getfield 158, 3)) fw_X12_158 rfl
theorem o308_4 : Okp RX12 cX12_goTo 3 none "goTo" false 4 (sLR 0 5) := ok_aload_n (by decide +kernel : decode cX12_goTo 4 = .ok (.aload_n 0, 1)) rfl
theorem o308_5 : Okp RX12 cX12_goTo 3 none "goTo" false 5 (sLI 1 6) := ok_iload_n (by decide +kernel : decode cX12_goTo 5 = .ok (.iload_n 1, 1)) rfl
theorem o308_6 : Okp RX12 cX12_goTo 3 none "goTo" false 6 (sCV false 282 2 13 9) := ok_cv (by decide +kernel : decode cX12_goTo 6 = .ok (.invokevirtual 487, 3)) mw_X12_487 rfl (by decide) wm_X12_act wse_X12_act (by decide) rfl
theorem o308_9 : Okp RX12 cX12_goTo 3 none "goTo" false 9 (sLI 2 10) := ok_iload_n (by decide +kernel : decode cX12_goTo 9 = .ok (.iload_n 2, 1)) rfl
theorem o308_10 : Okp RX12 cX12_goTo 3 none "goTo" false 10 (sIS 11) := ok_iastore (by decide +kernel : decode cX12_goTo 10 = .ok (.iastore, 1))
theorem o308_11 : Okp RX12 cX12_goTo 3 none "goTo" false 11 sRV := ok_vret rfl (by decide +kernel : decode cX12_goTo 11 = .ok (.return_, 1))
theorem oc308 : ∀ pc, Mnp (c308 pc) ∧ Okp RX12 cX12_goTo 3 none "goTo" false pc (c308 pc) := by
  intro pc
  unfold c308
  split
  · exact ⟨mn_sLR, o308_0⟩
  · exact ⟨mn_sGR, o308_1⟩
  · exact ⟨mn_sLR, o308_4⟩
  · exact ⟨mn_sLI, o308_5⟩
  · exact ⟨mn_sCV, o308_6⟩
  · exact ⟨mn_sLI, o308_9⟩
  · exact ⟨mn_sIS, o308_10⟩
  · exact ⟨mn_sRV, o308_11⟩
  · exact ⟨mn_sX, ok_X⟩
theorem o309_0 : Okp RX12 cX12_act1 6 none "act1" false 0 (sLR 0 1) := ok_aload_n (by decide +kernel : decode cX12_act1 0 = .ok (.aload_n 0, 1)) rfl
theorem o309_1 : Okp RX12 cX12_act1 6 none "act1" false 1 (sGR 13 61 4) := ok_getR (by decide +kernel : decode cX12_act1 1 = .ok (.getfield 143, 3)) fw_X12_143 rfl
theorem o309_4 : Okp RX12 cX12_act1 6 none "act1" false 4 (sLI 1 5) := ok_iload_n (by decide +kernel : decode cX12_act1 4 = .ok (.iload_n 1, 1)) rfl
theorem o309_5 : Okp RX12 cX12_act1 6 none "act1" false 5 (sIA 6) := ok_iaload (by decide +kernel : decode cX12_act1 5 = .ok (.iaload, 1))
theorem o309_6 : Okp RX12 cX12_act1 6 none "act1" false 6 (sSI 2 7) := ok_istore_n (by decide +kernel : decode cX12_act1 6 = .ok (.istore_n 2, 1)) rfl (by decide) (by decide)
theorem o309_7 : Okp RX12 cX12_act1 6 none "act1" false 7 (sLR 0 8) := ok_aload_n (by decide +kernel : decode cX12_act1 7 = .ok (.aload_n 0, 1)) rfl
theorem o309_8 : Okp RX12 cX12_act1 6 none "act1" false 8 (sLI 1 9) := ok_iload_n (by decide +kernel : decode cX12_act1 8 = .ok (.iload_n 1, 1)) rfl
theorem o309_9 : Okp RX12 cX12_act1 6 none "act1" false 9 (sCV false 302 2 13 12) := ok_cv (by decide +kernel : decode cX12_act1 9 = .ok (.invokevirtual 525, 3)) mw_X12_525 rfl (by decide) wm_X12_codePlace wse_X12_codePlace (by decide) rfl
theorem o309_12 : Okp RX12 cX12_act1 6 none "act1" false 12 (sSI 3 13) := ok_istore_n (by decide +kernel : decode cX12_act1 12 = .ok (.istore_n 3, 1)) rfl (by decide) (by decide)
theorem o309_13 : Okp RX12 cX12_act1 6 none "act1" false 13 (sLR 0 14) := ok_aload_n (by decide +kernel : decode cX12_act1 13 = .ok (.aload_n 0, 1)) rfl
theorem o309_14 : Okp RX12 cX12_act1 6 none "act1" false 14 (sLI 2 15) := ok_iload_n (by decide +kernel : decode cX12_act1 14 = .ok (.iload_n 2, 1)) rfl
theorem o309_15 : Okp RX12 cX12_act1 6 none "act1" false 15 (sLI 3 16) := ok_iload_n (by decide +kernel : decode cX12_act1 15 = .ok (.iload_n 3, 1)) rfl
theorem o309_16 : Okp RX12 cX12_act1 6 none "act1" false 16 (sCV false 220 3 13 19) := ok_cv (by decide +kernel : decode cX12_act1 16 = .ok (.invokevirtual 246, 3)) mw_X12_246 rfl (by decide) wm_X12_byteAt wse_X12_byteAt (by decide) rfl
theorem o309_19 : Okp RX12 cX12_act1 6 none "act1" false 19 (sSI 4 21) := ok_istore (by decide +kernel : decode cX12_act1 19 = .ok (.istore 4, 2)) (by decide) (by decide)
theorem o309_21 : Okp RX12 cX12_act1 6 none "act1" false 21 (sLR 0 22) := ok_aload_n (by decide +kernel : decode cX12_act1 21 = .ok (.aload_n 0, 1)) rfl
theorem o309_22 : Okp RX12 cX12_act1 6 none "act1" false 22 (sLI 2 23) := ok_iload_n (by decide +kernel : decode cX12_act1 22 = .ok (.iload_n 2, 1)) rfl
theorem o309_23 : Okp RX12 cX12_act1 6 none "act1" false 23 (sLI 3 24) := ok_iload_n (by decide +kernel : decode cX12_act1 23 = .ok (.iload_n 3, 1)) rfl
theorem o309_24 : Okp RX12 cX12_act1 6 none "act1" false 24 (sK 1 25) := ok_iconst (by decide +kernel : decode cX12_act1 24 = .ok (.iconst 1, 1)) (by decide)
theorem o309_25 : Okp RX12 cX12_act1 6 none "act1" false 25 (sB2 fAdd 26) := ok_iadd (by decide +kernel : decode cX12_act1 25 = .ok (.iadd, 1))
theorem o309_26 : Okp RX12 cX12_act1 6 none "act1" false 26 (sCV false 220 3 13 29) := ok_cv (by decide +kernel : decode cX12_act1 26 = .ok (.invokevirtual 246, 3)) mw_X12_246 rfl (by decide) wm_X12_byteAt wse_X12_byteAt (by decide) rfl
theorem o309_29 : Okp RX12 cX12_act1 6 none "act1" false 29 (sSI 5 31) := ok_istore (by decide +kernel : decode cX12_act1 29 = .ok (.istore 5, 2)) (by decide) (by decide)
theorem o309_31 : Okp RX12 cX12_act1 6 none "act1" false 31 (sLR 0 32) := ok_aload_n (by decide +kernel : decode cX12_act1 31 = .ok (.aload_n 0, 1)) rfl
theorem o309_32 : Okp RX12 cX12_act1 6 none "act1" false 32 (sLI 1 33) := ok_iload_n (by decide +kernel : decode cX12_act1 32 = .ok (.iload_n 1, 1)) rfl
theorem o309_33 : Okp RX12 cX12_act1 6 none "act1" false 33 (sLR 0 34) := ok_aload_n (by decide +kernel : decode cX12_act1 33 = .ok (.aload_n 0, 1)) rfl
theorem o309_34 : Okp RX12 cX12_act1 6 none "act1" false 34 (sGR 13 66 37) := ok_getR (by decide +kernel : decode cX12_act1 34 = .ok (.getfield 158, 3)) fw_X12_158 rfl
theorem o309_37 : Okp RX12 cX12_act1 6 none "act1" false 37 (sLR 0 38) := ok_aload_n (by decide +kernel : decode cX12_act1 37 = .ok (.aload_n 0, 1)) rfl
theorem o309_38 : Okp RX12 cX12_act1 6 none "act1" false 38 (sLI 1 39) := ok_iload_n (by decide +kernel : decode cX12_act1 38 = .ok (.iload_n 1, 1)) rfl
theorem o309_39 : Okp RX12 cX12_act1 6 none "act1" false 39 (sCV false 282 2 13 42) := ok_cv (by decide +kernel : decode cX12_act1 39 = .ok (.invokevirtual 487, 3)) mw_X12_487 rfl (by decide) wm_X12_act wse_X12_act (by decide) rfl
theorem o309_42 : Okp RX12 cX12_act1 6 none "act1" false 42 (sIA 43) := ok_iaload (by decide +kernel : decode cX12_act1 42 = .ok (.iaload, 1))
theorem o309_43 : Okp RX12 cX12_act1 6 none "act1" false 43 (sLR 0 44) := ok_aload_n (by decide +kernel : decode cX12_act1 43 = .ok (.aload_n 0, 1)) rfl
theorem o309_44 : Okp RX12 cX12_act1 6 none "act1" false 44 (sLI 2 45) := ok_iload_n (by decide +kernel : decode cX12_act1 44 = .ok (.iload_n 2, 1)) rfl
theorem o309_45 : Okp RX12 cX12_act1 6 none "act1" false 45 (sLI 3 46) := ok_iload_n (by decide +kernel : decode cX12_act1 45 = .ok (.iload_n 3, 1)) rfl
theorem o309_46 : Okp RX12 cX12_act1 6 none "act1" false 46 (sCV false 240 3 13 49) := ok_cv (by decide +kernel : decode cX12_act1 46 = .ok (.invokevirtual 302, 3)) mw_X12_302 rfl (by decide) wm_X12_length wse_X12_length (by decide) rfl
theorem o309_49 : Okp RX12 cX12_act1 6 none "act1" false 49 (sB2 fAdd 50) := ok_iadd (by decide +kernel : decode cX12_act1 49 = .ok (.iadd, 1))
theorem o309_50 : Okp RX12 cX12_act1 6 none "act1" false 50 (sCV false 308 3 13 53) := ok_cv (by decide +kernel : decode cX12_act1 50 = .ok (.invokevirtual 536, 3)) mw_X12_536 rfl (by decide) wm_X12_goTo wse_X12_goTo (by decide) rfl
theorem o309_53 : Okp RX12 cX12_act1 6 none "act1" false 53 (sLI 4 55) := ok_iload (by decide +kernel : decode cX12_act1 53 = .ok (.iload 4, 2))
theorem o309_55 : Okp RX12 cX12_act1 6 none "act1" false 55 (sK 20 57) := ok_bipush (by decide +kernel : decode cX12_act1 55 = .ok (.bipush 20, 2)) (by decide)
theorem o309_57 : Okp RX12 cX12_act1 6 none "act1" false 57 (sI2 3 73 60) := ok_icmp_ge (by decide +kernel : decode cX12_act1 57 = .ok (.if_icmp .ge 16, 3)) (by decide)
theorem o309_60 : Okp RX12 cX12_act1 6 none "act1" false 60 (sLR 0 61) := ok_aload_n (by decide +kernel : decode cX12_act1 60 = .ok (.aload_n 0, 1)) rfl
theorem o309_61 : Okp RX12 cX12_act1 6 none "act1" false 61 (sLI 1 62) := ok_iload_n (by decide +kernel : decode cX12_act1 61 = .ok (.iload_n 1, 1)) rfl
theorem o309_62 : Okp RX12 cX12_act1 6 none "act1" false 62 (sLI 4 64) := ok_iload (by decide +kernel : decode cX12_act1 62 = .ok (.iload 4, 2))
theorem o309_64 : Okp RX12 cX12_act1 6 none "act1" false 64 (sLI 5 66) := ok_iload (by decide +kernel : decode cX12_act1 64 = .ok (.iload 5, 2))
theorem o309_66 : Okp RX12 cX12_act1 6 none "act1" false 66 (sLI 3 67) := ok_iload_n (by decide +kernel : decode cX12_act1 66 = .ok (.iload_n 3, 1)) rfl
theorem o309_67 : Okp RX12 cX12_act1 6 none "act1" false 67 (sCV false 310 5 13 70) := ok_cv (by decide +kernel : decode cX12_act1 67 = .ok (.invokevirtual 539, 3)) mw_X12_539 rfl (by decide) wm_X12_plainly wse_X12_plainly (by decide) rfl
theorem o309_70 : Okp RX12 cX12_act1 6 none "act1" false 70 (sGo 102) := ok_goto (by decide +kernel : decode cX12_act1 70 = .ok (.goto 32, 3)) (by decide)
theorem o309_73 : Okp RX12 cX12_act1 6 none "act1" false 73 (sLI 4 75) := ok_iload (by decide +kernel : decode cX12_act1 73 = .ok (.iload 4, 2))
theorem o309_75 : Okp RX12 cX12_act1 6 none "act1" false 75 (sK 32 77) := ok_bipush (by decide +kernel : decode cX12_act1 75 = .ok (.bipush 32, 2)) (by decide)
theorem o309_77 : Okp RX12 cX12_act1 6 none "act1" false 77 (sI2 3 92 80) := ok_icmp_ge (by decide +kernel : decode cX12_act1 77 = .ok (.if_icmp .ge 15, 3)) (by decide)
theorem o309_80 : Okp RX12 cX12_act1 6 none "act1" false 80 (sLR 0 81) := ok_aload_n (by decide +kernel : decode cX12_act1 80 = .ok (.aload_n 0, 1)) rfl
theorem o309_81 : Okp RX12 cX12_act1 6 none "act1" false 81 (sLI 1 82) := ok_iload_n (by decide +kernel : decode cX12_act1 81 = .ok (.iload_n 1, 1)) rfl
theorem o309_82 : Okp RX12 cX12_act1 6 none "act1" false 82 (sLI 4 84) := ok_iload (by decide +kernel : decode cX12_act1 82 = .ok (.iload 4, 2))
theorem o309_84 : Okp RX12 cX12_act1 6 none "act1" false 84 (sLI 5 86) := ok_iload (by decide +kernel : decode cX12_act1 84 = .ok (.iload 5, 2))
theorem o309_86 : Okp RX12 cX12_act1 6 none "act1" false 86 (sCV false 312 4 13 89) := ok_cv (by decide +kernel : decode cX12_act1 86 = .ok (.invokevirtual 542, 3)) mw_X12_542 rfl (by decide) wm_X12_withHeap wse_X12_withHeap (by decide) rfl
theorem o309_89 : Okp RX12 cX12_act1 6 none "act1" false 89 (sGo 102) := ok_goto (by decide +kernel : decode cX12_act1 89 = .ok (.goto 13, 3)) (by decide)
theorem o309_92 : Okp RX12 cX12_act1 6 none "act1" false 92 (sLR 0 93) := ok_aload_n (by decide +kernel : decode cX12_act1 92 = .ok (.aload_n 0, 1)) rfl
theorem o309_93 : Okp RX12 cX12_act1 6 none "act1" false 93 (sLI 1 94) := ok_iload_n (by decide +kernel : decode cX12_act1 93 = .ok (.iload_n 1, 1)) rfl
theorem o309_94 : Okp RX12 cX12_act1 6 none "act1" false 94 (sLI 4 96) := ok_iload (by decide +kernel : decode cX12_act1 94 = .ok (.iload 4, 2))
theorem o309_96 : Okp RX12 cX12_act1 6 none "act1" false 96 (sLI 5 98) := ok_iload (by decide +kernel : decode cX12_act1 96 = .ok (.iload 5, 2))
theorem o309_98 : Okp RX12 cX12_act1 6 none "act1" false 98 (sLI 3 99) := ok_iload_n (by decide +kernel : decode cX12_act1 98 = .ok (.iload_n 3, 1)) rfl
theorem o309_99 : Okp RX12 cX12_act1 6 none "act1" false 99 (sCV false 316 5 13 102) := ok_cv (by decide +kernel : decode cX12_act1 99 = .ok (.invokevirtual 545, 3)) mw_X12_545 rfl (by decide) wm_X12_linearly wse_X12_linearly (by decide) rfl
theorem o309_102 : Okp RX12 cX12_act1 6 none "act1" false 102 sRV := ok_vret rfl (by decide +kernel : decode cX12_act1 102 = .ok (.return_, 1))
theorem oc309_0 : ∀ pc, Mnp (c309_0 pc) ∧ Okp RX12 cX12_act1 6 none "act1" false pc (c309_0 pc) := by
  intro pc
  unfold c309_0
  split
  · exact ⟨mn_sLR, o309_0⟩
  · exact ⟨mn_sGR, o309_1⟩
  · exact ⟨mn_sLI, o309_4⟩
  · exact ⟨mn_sIA, o309_5⟩
  · exact ⟨mn_sSI, o309_6⟩
  · exact ⟨mn_sLR, o309_7⟩
  · exact ⟨mn_sLI, o309_8⟩
  · exact ⟨mn_sCV, o309_9⟩
  · exact ⟨mn_sSI, o309_12⟩
  · exact ⟨mn_sLR, o309_13⟩
  · exact ⟨mn_sLI, o309_14⟩
  · exact ⟨mn_sLI, o309_15⟩
  · exact ⟨mn_sCV, o309_16⟩
  · exact ⟨mn_sSI, o309_19⟩
  · exact ⟨mn_sLR, o309_21⟩
  · exact ⟨mn_sLI, o309_22⟩
  · exact ⟨mn_sLI, o309_23⟩
  · exact ⟨mn_sX, ok_X⟩
theorem oc309_1 : ∀ pc, Mnp (c309_1 pc) ∧ Okp RX12 cX12_act1 6 none "act1" false pc (c309_1 pc) := by
  intro pc
  unfold c309_1
  split
  · exact ⟨mn_sK, o309_24⟩
  · exact ⟨mn_sB2, o309_25⟩
  · exact ⟨mn_sCV, o309_26⟩
  · exact ⟨mn_sSI, o309_29⟩
  · exact ⟨mn_sLR, o309_31⟩
  · exact ⟨mn_sLI, o309_32⟩
  · exact ⟨mn_sLR, o309_33⟩
  · exact ⟨mn_sGR, o309_34⟩
  · exact ⟨mn_sLR, o309_37⟩
  · exact ⟨mn_sLI, o309_38⟩
  · exact ⟨mn_sCV, o309_39⟩
  · exact ⟨mn_sIA, o309_42⟩
  · exact ⟨mn_sLR, o309_43⟩
  · exact ⟨mn_sLI, o309_44⟩
  · exact ⟨mn_sLI, o309_45⟩
  · exact ⟨mn_sCV, o309_46⟩
  · exact ⟨mn_sX, ok_X⟩
theorem oc309_2 : ∀ pc, Mnp (c309_2 pc) ∧ Okp RX12 cX12_act1 6 none "act1" false pc (c309_2 pc) := by
  intro pc
  unfold c309_2
  split
  · exact ⟨mn_sB2, o309_49⟩
  · exact ⟨mn_sCV, o309_50⟩
  · exact ⟨mn_sLI, o309_53⟩
  · exact ⟨mn_sK, o309_55⟩
  · exact ⟨mn_sI2, o309_57⟩
  · exact ⟨mn_sLR, o309_60⟩
  · exact ⟨mn_sLI, o309_61⟩
  · exact ⟨mn_sLI, o309_62⟩
  · exact ⟨mn_sLI, o309_64⟩
  · exact ⟨mn_sLI, o309_66⟩
  · exact ⟨mn_sCV, o309_67⟩
  · exact ⟨mn_sGo, o309_70⟩
  · exact ⟨mn_sX, ok_X⟩
theorem oc309_3 : ∀ pc, Mnp (c309_3 pc) ∧ Okp RX12 cX12_act1 6 none "act1" false pc (c309_3 pc) := by
  intro pc
  unfold c309_3
  split
  · exact ⟨mn_sLI, o309_73⟩
  · exact ⟨mn_sK, o309_75⟩
  · exact ⟨mn_sI2, o309_77⟩
  · exact ⟨mn_sLR, o309_80⟩
  · exact ⟨mn_sLI, o309_81⟩
  · exact ⟨mn_sLI, o309_82⟩
  · exact ⟨mn_sLI, o309_84⟩
  · exact ⟨mn_sCV, o309_86⟩
  · exact ⟨mn_sGo, o309_89⟩
  · exact ⟨mn_sLR, o309_92⟩
  · exact ⟨mn_sLI, o309_93⟩
  · exact ⟨mn_sLI, o309_94⟩
  · exact ⟨mn_sX, ok_X⟩
theorem oc309_4 : ∀ pc, Mnp (c309_4 pc) ∧ Okp RX12 cX12_act1 6 none "act1" false pc (c309_4 pc) := by
  intro pc
  unfold c309_4
  split
  · exact ⟨mn_sLI, o309_96⟩
  · exact ⟨mn_sLI, o309_98⟩
  · exact ⟨mn_sCV, o309_99⟩
  · exact ⟨mn_sRV, o309_102⟩
  · exact ⟨mn_sX, ok_X⟩
theorem oc309 : ∀ pc, Mnp (c309 pc) ∧ Okp RX12 cX12_act1 6 none "act1" false pc (c309 pc) := by
  intro pc
  unfold c309
  split
  · exact oc309_0 pc
  · exact oc309_1 pc
  · exact oc309_2 pc
  · exact oc309_3 pc
  · exact oc309_4 pc
  · exact ⟨mn_sX, ok_X⟩
theorem o310_0 : Okp RX12 cX12_plainly 9 none "plainly" false 0 (sLI 2 1) := ok_iload_n (by decide +kernel : decode cX12_plainly 0 = .ok (.iload_n 2, 1)) rfl
theorem o310_1 : Okp RX12 cX12_plainly 9 none "plainly" false 1 (sSw [(0, 96), (1, 148), (2, 158), (3, 222), (4, 260), (5, 270), (6, 311), (7, 409), (8, 409), (9, 409), (10, 409), (11, 409), (12, 409), (13, 409), (14, 409), (15, 409), (16, 409), (17, 409), (18, 409), (19, 387)] 409) := ok_tsw (by decide +kernel : decode cX12_plainly 1 = .ok (.tableswitch 408 0 19 #[95, 147, 157, 221, 259, 269, 310, 408, 408, 408, 408, 408, 408, 408, 408, 408, 408, 408, 408, 386], 95)) (by decide) (by decide) (by decide)
theorem o310_96 : Okp RX12 cX12_plainly 9 none "plainly" false 96 (sK 0 97) := ok_iconst (by decide +kernel : decode cX12_plainly 96 = .ok (.iconst 0, 1)) (by decide)
theorem o310_97 : Okp RX12 cX12_plainly 9 none "plainly" false 97 (sSI 5 99) := ok_istore (by decide +kernel : decode cX12_plainly 97 = .ok (.istore 5, 2)) (by decide) (by decide)
theorem o310_99 : Okp RX12 cX12_plainly 9 none "plainly" false 99 (sK 1 100) := ok_iconst (by decide +kernel : decode cX12_plainly 99 = .ok (.iconst 1, 1)) (by decide)
theorem o310_100 : Okp RX12 cX12_plainly 9 none "plainly" false 100 (sSI 7 102) := ok_istore (by decide +kernel : decode cX12_plainly 100 = .ok (.istore 7, 2)) (by decide) (by decide)
theorem o310_102 : Okp RX12 cX12_plainly 9 none "plainly" false 102 (sLI 7 104) := ok_iload (by decide +kernel : decode cX12_plainly 102 = .ok (.iload 7, 2))
theorem o310_104 : Okp RX12 cX12_plainly 9 none "plainly" false 104 (sK 5 105) := ok_iconst (by decide +kernel : decode cX12_plainly 104 = .ok (.iconst 5, 1)) (by decide)
theorem o310_105 : Okp RX12 cX12_plainly 9 none "plainly" false 105 (sI2 3 137 108) := ok_icmp_ge (by decide +kernel : decode cX12_plainly 105 = .ok (.if_icmp .ge 32, 3)) (by decide)
theorem o310_108 : Okp RX12 cX12_plainly 9 none "plainly" false 108 (sLI 5 110) := ok_iload (by decide +kernel : decode cX12_plainly 108 = .ok (.iload 5, 2))
theorem o310_110 : Okp RX12 cX12_plainly 9 none "plainly" false 110 (sK 8 112) := ok_bipush (by decide +kernel : decode cX12_plainly 110 = .ok (.bipush 8, 2)) (by decide)
theorem o310_112 : Okp RX12 cX12_plainly 9 none "plainly" false 112 (sB2 fShl 113) := ok_ishl (by decide +kernel : decode cX12_plainly 112 = .ok (.ishl, 1))
theorem o310_113 : Okp RX12 cX12_plainly 9 none "plainly" false 113 (sLR 0 114) := ok_aload_n (by decide +kernel : decode cX12_plainly 113 = .ok (.aload_n 0, 1)) rfl
theorem o310_114 : Okp RX12 cX12_plainly 9 none "plainly" false 114 (sLR 0 115) := ok_aload_n (by decide +kernel : decode cX12_plainly 114 = .ok (.aload_n 0, 1)) rfl
theorem o310_115 : Okp RX12 cX12_plainly 9 none "plainly" false 115 (sGR 13 61 118) := ok_getR (by decide +kernel : decode cX12_plainly 115 = .ok (.getfield 143, 3)) fw_X12_143 rfl
theorem o310_118 : Okp RX12 cX12_plainly 9 none "plainly" false 118 (sLI 1 119) := ok_iload_n (by decide +kernel : decode cX12_plainly 118 = .ok (.iload_n 1, 1)) rfl
theorem o310_119 : Okp RX12 cX12_plainly 9 none "plainly" false 119 (sIA 120) := ok_iaload (by decide +kernel : decode cX12_plainly 119 = .ok (.iaload, 1))
theorem o310_120 : Okp RX12 cX12_plainly 9 none "plainly" false 120 (sLI 4 122) := ok_iload (by decide +kernel : decode cX12_plainly 120 = .ok (.iload 4, 2))
theorem o310_122 : Okp RX12 cX12_plainly 9 none "plainly" false 122 (sLI 7 124) := ok_iload (by decide +kernel : decode cX12_plainly 122 = .ok (.iload 7, 2))
theorem o310_124 : Okp RX12 cX12_plainly 9 none "plainly" false 124 (sB2 fAdd 125) := ok_iadd (by decide +kernel : decode cX12_plainly 124 = .ok (.iadd, 1))
theorem o310_125 : Okp RX12 cX12_plainly 9 none "plainly" false 125 (sCV false 220 3 13 128) := ok_cv (by decide +kernel : decode cX12_plainly 125 = .ok (.invokevirtual 246, 3)) mw_X12_246 rfl (by decide) wm_X12_byteAt wse_X12_byteAt (by decide) rfl
theorem o310_128 : Okp RX12 cX12_plainly 9 none "plainly" false 128 (sB2 fOr 129) := ok_ior (by decide +kernel : decode cX12_plainly 128 = .ok (.ior, 1))
theorem o310_129 : Okp RX12 cX12_plainly 9 none "plainly" false 129 (sSI 5 131) := ok_istore (by decide +kernel : decode cX12_plainly 129 = .ok (.istore 5, 2)) (by decide) (by decide)
theorem o310_131 : Okp RX12 cX12_plainly 9 none "plainly" false 131 (sInc 7 1 134) := ok_iinc (by decide +kernel : decode cX12_plainly 131 = .ok (.iinc 7 1, 3)) (by decide) (by decide)
theorem o310_134 : Okp RX12 cX12_plainly 9 none "plainly" false 134 (sGo 102) := ok_goto (by decide +kernel : decode cX12_plainly 134 = .ok (.goto (-32), 3)) (by decide)
theorem o310_137 : Okp RX12 cX12_plainly 9 none "plainly" false 137 (sLR 0 138) := ok_aload_n (by decide +kernel : decode cX12_plainly 137 = .ok (.aload_n 0, 1)) rfl
theorem o310_138 : Okp RX12 cX12_plainly 9 none "plainly" false 138 (sLI 1 139) := ok_iload_n (by decide +kernel : decode cX12_plainly 138 = .ok (.iload_n 1, 1)) rfl
theorem o310_139 : Okp RX12 cX12_plainly 9 none "plainly" false 139 (sLI 5 141) := ok_iload (by decide +kernel : decode cX12_plainly 139 = .ok (.iload 5, 2))
theorem o310_141 : Okp RX12 cX12_plainly 9 none "plainly" false 141 (sK 0 142) := ok_iconst (by decide +kernel : decode cX12_plainly 141 = .ok (.iconst 0, 1)) (by decide)
theorem o310_142 : Okp RX12 cX12_plainly 9 none "plainly" false 142 (sCV false 286 4 13 145) := ok_cv (by decide +kernel : decode cX12_plainly 142 = .ok (.invokevirtual 548, 3)) mw_X12_548 rfl (by decide) wm_X12_push_ wse_X12_push_ (by decide) rfl
theorem o310_145 : Okp RX12 cX12_plainly 9 none "plainly" false 145 (sGo 463) := ok_goto (by decide +kernel : decode cX12_plainly 145 = .ok (.goto 318, 3)) (by decide)
theorem o310_148 : Okp RX12 cX12_plainly 9 none "plainly" false 148 (sLR 0 149) := ok_aload_n (by decide +kernel : decode cX12_plainly 148 = .ok (.aload_n 0, 1)) rfl
theorem o310_149 : Okp RX12 cX12_plainly 9 none "plainly" false 149 (sLI 1 150) := ok_iload_n (by decide +kernel : decode cX12_plainly 149 = .ok (.iload_n 1, 1)) rfl
theorem o310_150 : Okp RX12 cX12_plainly 9 none "plainly" false 150 (sK 0 151) := ok_iconst (by decide +kernel : decode cX12_plainly 150 = .ok (.iconst 0, 1)) (by decide)
theorem o310_151 : Okp RX12 cX12_plainly 9 none "plainly" false 151 (sK 1 152) := ok_iconst (by decide +kernel : decode cX12_plainly 151 = .ok (.iconst 1, 1)) (by decide)
theorem o310_152 : Okp RX12 cX12_plainly 9 none "plainly" false 152 (sCV false 286 4 13 155) := ok_cv (by decide +kernel : decode cX12_plainly 152 = .ok (.invokevirtual 548, 3)) mw_X12_548 rfl (by decide) wm_X12_push_ wse_X12_push_ (by decide) rfl
theorem o310_155 : Okp RX12 cX12_plainly 9 none "plainly" false 155 (sGo 463) := ok_goto (by decide +kernel : decode cX12_plainly 155 = .ok (.goto 308, 3)) (by decide)
theorem o310_158 : Okp RX12 cX12_plainly 9 none "plainly" false 158 (sK 26 160) := ok_bipush (by decide +kernel : decode cX12_plainly 158 = .ok (.bipush 26, 2)) (by decide)
theorem o310_160 : Okp RX12 cX12_plainly 9 none "plainly" false 160 (sLR 0 161) := ok_aload_n (by decide +kernel : decode cX12_plainly 160 = .ok (.aload_n 0, 1)) rfl
theorem o310_161 : Okp RX12 cX12_plainly 9 none "plainly" false 161 (sLI 1 162) := ok_iload_n (by decide +kernel : decode cX12_plainly 161 = .ok (.iload_n 1, 1)) rfl
theorem o310_162 : Okp RX12 cX12_plainly 9 none "plainly" false 162 (sCV false 282 2 13 165) := ok_cv (by decide +kernel : decode cX12_plainly 162 = .ok (.invokevirtual 487, 3)) mw_X12_487 rfl (by decide) wm_X12_act wse_X12_act (by decide) rfl
theorem o310_165 : Okp RX12 cX12_plainly 9 none "plainly" false 165 (sB2 fMul 166) := ok_imul (by decide +kernel : decode cX12_plainly 165 = .ok (.imul, 1))
theorem o310_166 : Okp RX12 cX12_plainly 9 none "plainly" false 166 (sLI 3 167) := ok_iload_n (by decide +kernel : decode cX12_plainly 166 = .ok (.iload_n 3, 1)) rfl
theorem o310_167 : Okp RX12 cX12_plainly 9 none "plainly" false 167 (sB2 fAdd 168) := ok_iadd (by decide +kernel : decode cX12_plainly 167 = .ok (.iadd, 1))
theorem o310_168 : Okp RX12 cX12_plainly 9 none "plainly" false 168 (sSI 5 170) := ok_istore (by decide +kernel : decode cX12_plainly 168 = .ok (.istore 5, 2)) (by decide) (by decide)
theorem o310_170 : Okp RX12 cX12_plainly 9 none "plainly" false 170 (sLR 0 171) := ok_aload_n (by decide +kernel : decode cX12_plainly 170 = .ok (.aload_n 0, 1)) rfl
theorem o310_171 : Okp RX12 cX12_plainly 9 none "plainly" false 171 (sLI 1 172) := ok_iload_n (by decide +kernel : decode cX12_plainly 171 = .ok (.iload_n 1, 1)) rfl
theorem o310_172 : Okp RX12 cX12_plainly 9 none "plainly" false 172 (sLR 0 173) := ok_aload_n (by decide +kernel : decode cX12_plainly 172 = .ok (.aload_n 0, 1)) rfl
theorem o310_173 : Okp RX12 cX12_plainly 9 none "plainly" false 173 (sGR 13 68 176) := ok_getR (by decide +kernel : decode cX12_plainly 173 = .ok (.getfield 164, 3)) fw_X12_164 rfl
theorem o310_176 : Okp RX12 cX12_plainly 9 none "plainly" false 176 (sLI 5 178) := ok_iload (by decide +kernel : decode cX12_plainly 176 = .ok (.iload 5, 2))
theorem o310_178 : Okp RX12 cX12_plainly 9 none "plainly" false 178 (sIA 179) := ok_iaload (by decide +kernel : decode cX12_plainly 178 = .ok (.iaload, 1))
theorem o310_179 : Okp RX12 cX12_plainly 9 none "plainly" false 179 (sLR 0 180) := ok_aload_n (by decide +kernel : decode cX12_plainly 179 = .ok (.aload_n 0, 1)) rfl
theorem o310_180 : Okp RX12 cX12_plainly 9 none "plainly" false 180 (sGR 13 69 183) := ok_getR (by decide +kernel : decode cX12_plainly 180 = .ok (.getfield 167, 3)) fw_X12_167 rfl
theorem o310_183 : Okp RX12 cX12_plainly 9 none "plainly" false 183 (sLI 5 185) := ok_iload (by decide +kernel : decode cX12_plainly 183 = .ok (.iload 5, 2))
theorem o310_185 : Okp RX12 cX12_plainly 9 none "plainly" false 185 (sIA 186) := ok_iaload (by decide +kernel : decode cX12_plainly 185 = .ok (.iaload, 1))
theorem o310_186 : Okp RX12 cX12_plainly 9 none "plainly" false 186 (sCV false 286 4 13 189) := ok_cv (by decide +kernel : decode cX12_plainly 186 = .ok (.invokevirtual 548, 3)) mw_X12_548 rfl (by decide) wm_X12_push_ wse_X12_push_ (by decide) rfl
theorem o310_189 : Okp RX12 cX12_plainly 9 none "plainly" false 189 (sLR 0 190) := ok_aload_n (by decide +kernel : decode cX12_plainly 189 = .ok (.aload_n 0, 1)) rfl
theorem o310_190 : Okp RX12 cX12_plainly 9 none "plainly" false 190 (sGR 13 69 193) := ok_getR (by decide +kernel : decode cX12_plainly 190 = .ok (.getfield 167, 3)) fw_X12_167 rfl
theorem o310_193 : Okp RX12 cX12_plainly 9 none "plainly" false 193 (sLI 5 195) := ok_iload (by decide +kernel : decode cX12_plainly 193 = .ok (.iload 5, 2))
theorem o310_195 : Okp RX12 cX12_plainly 9 none "plainly" false 195 (sIA 196) := ok_iaload (by decide +kernel : decode cX12_plainly 195 = .ok (.iaload, 1))
theorem o310_196 : Okp RX12 cX12_plainly 9 none "plainly" false 196 (sK 2 197) := ok_iconst (by decide +kernel : decode cX12_plainly 196 = .ok (.iconst 2, 1)) (by decide)
theorem o310_197 : Okp RX12 cX12_plainly 9 none "plainly" false 197 (sI2 0 211 200) := ok_icmp_eq (by decide +kernel : decode cX12_plainly 197 = .ok (.if_icmp .eq 14, 3)) (by decide)
theorem o310_200 : Okp RX12 cX12_plainly 9 none "plainly" false 200 (sLR 0 201) := ok_aload_n (by decide +kernel : decode cX12_plainly 200 = .ok (.aload_n 0, 1)) rfl
theorem o310_201 : Okp RX12 cX12_plainly 9 none "plainly" false 201 (sGR 13 69 204) := ok_getR (by decide +kernel : decode cX12_plainly 201 = .ok (.getfield 167, 3)) fw_X12_167 rfl
theorem o310_204 : Okp RX12 cX12_plainly 9 none "plainly" false 204 (sLI 5 206) := ok_iload (by decide +kernel : decode cX12_plainly 204 = .ok (.iload 5, 2))
theorem o310_206 : Okp RX12 cX12_plainly 9 none "plainly" false 206 (sIA 207) := ok_iaload (by decide +kernel : decode cX12_plainly 206 = .ok (.iaload, 1))
theorem o310_207 : Okp RX12 cX12_plainly 9 none "plainly" false 207 (sK 3 208) := ok_iconst (by decide +kernel : decode cX12_plainly 207 = .ok (.iconst 3, 1)) (by decide)
theorem o310_208 : Okp RX12 cX12_plainly 9 none "plainly" false 208 (sI2 1 463 211) := ok_icmp_ne (by decide +kernel : decode cX12_plainly 208 = .ok (.if_icmp .ne 255, 3)) (by decide)
theorem o310_211 : Okp RX12 cX12_plainly 9 none "plainly" false 211 (sLR 0 212) := ok_aload_n (by decide +kernel : decode cX12_plainly 211 = .ok (.aload_n 0, 1)) rfl
theorem o310_212 : Okp RX12 cX12_plainly 9 none "plainly" false 212 (sLI 5 214) := ok_iload (by decide +kernel : decode cX12_plainly 212 = .ok (.iload 5, 2))
theorem o310_214 : Okp RX12 cX12_plainly 9 none "plainly" false 214 (sK 0 215) := ok_iconst (by decide +kernel : decode cX12_plainly 214 = .ok (.iconst 0, 1)) (by decide)
theorem o310_215 : Okp RX12 cX12_plainly 9 none "plainly" false 215 (sK 4 216) := ok_iconst (by decide +kernel : decode cX12_plainly 215 = .ok (.iconst 4, 1)) (by decide)
theorem o310_216 : Okp RX12 cX12_plainly 9 none "plainly" false 216 (sCV false 285 4 13 219) := ok_cv (by decide +kernel : decode cX12_plainly 216 = .ok (.invokevirtual 481, 3)) mw_X12_481 rfl (by decide) wm_X12_set wse_X12_set (by decide) rfl
theorem o310_219 : Okp RX12 cX12_plainly 9 none "plainly" false 219 (sGo 463) := ok_goto (by decide +kernel : decode cX12_plainly 219 = .ok (.goto 244, 3)) (by decide)
theorem o310_222 : Okp RX12 cX12_plainly 9 none "plainly" false 222 (sLR 0 223) := ok_aload_n (by decide +kernel : decode cX12_plainly 222 = .ok (.aload_n 0, 1)) rfl
theorem o310_223 : Okp RX12 cX12_plainly 9 none "plainly" false 223 (sLI 1 224) := ok_iload_n (by decide +kernel : decode cX12_plainly 223 = .ok (.iload_n 1, 1)) rfl
theorem o310_224 : Okp RX12 cX12_plainly 9 none "plainly" false 224 (sCV false 287 2 13 227) := ok_cv (by decide +kernel : decode cX12_plainly 224 = .ok (.invokevirtual 493, 3)) mw_X12_493 rfl (by decide) wm_X12_pop_ wse_X12_pop_ (by decide) rfl
theorem o310_227 : Okp RX12 cX12_plainly 9 none "plainly" false 227 (sSI 5 229) := ok_istore (by decide +kernel : decode cX12_plainly 227 = .ok (.istore 5, 2)) (by decide) (by decide)
theorem o310_229 : Okp RX12 cX12_plainly 9 none "plainly" false 229 (sLR 0 230) := ok_aload_n (by decide +kernel : decode cX12_plainly 229 = .ok (.aload_n 0, 1)) rfl
theorem o310_230 : Okp RX12 cX12_plainly 9 none "plainly" false 230 (sK 26 232) := ok_bipush (by decide +kernel : decode cX12_plainly 230 = .ok (.bipush 26, 2)) (by decide)
theorem o310_232 : Okp RX12 cX12_plainly 9 none "plainly" false 232 (sLR 0 233) := ok_aload_n (by decide +kernel : decode cX12_plainly 232 = .ok (.aload_n 0, 1)) rfl
theorem o310_233 : Okp RX12 cX12_plainly 9 none "plainly" false 233 (sLI 1 234) := ok_iload_n (by decide +kernel : decode cX12_plainly 233 = .ok (.iload_n 1, 1)) rfl
theorem o310_234 : Okp RX12 cX12_plainly 9 none "plainly" false 234 (sCV false 282 2 13 237) := ok_cv (by decide +kernel : decode cX12_plainly 234 = .ok (.invokevirtual 487, 3)) mw_X12_487 rfl (by decide) wm_X12_act wse_X12_act (by decide) rfl
theorem o310_237 : Okp RX12 cX12_plainly 9 none "plainly" false 237 (sB2 fMul 238) := ok_imul (by decide +kernel : decode cX12_plainly 237 = .ok (.imul, 1))
theorem o310_238 : Okp RX12 cX12_plainly 9 none "plainly" false 238 (sLI 3 239) := ok_iload_n (by decide +kernel : decode cX12_plainly 238 = .ok (.iload_n 3, 1)) rfl
theorem o310_239 : Okp RX12 cX12_plainly 9 none "plainly" false 239 (sB2 fAdd 240) := ok_iadd (by decide +kernel : decode cX12_plainly 239 = .ok (.iadd, 1))
theorem o310_240 : Okp RX12 cX12_plainly 9 none "plainly" false 240 (sLR 0 241) := ok_aload_n (by decide +kernel : decode cX12_plainly 240 = .ok (.aload_n 0, 1)) rfl
theorem o310_241 : Okp RX12 cX12_plainly 9 none "plainly" false 241 (sGR 13 68 244) := ok_getR (by decide +kernel : decode cX12_plainly 241 = .ok (.getfield 164, 3)) fw_X12_164 rfl
theorem o310_244 : Okp RX12 cX12_plainly 9 none "plainly" false 244 (sLI 5 246) := ok_iload (by decide +kernel : decode cX12_plainly 244 = .ok (.iload 5, 2))
theorem o310_246 : Okp RX12 cX12_plainly 9 none "plainly" false 246 (sIA 247) := ok_iaload (by decide +kernel : decode cX12_plainly 246 = .ok (.iaload, 1))
theorem o310_247 : Okp RX12 cX12_plainly 9 none "plainly" false 247 (sLR 0 248) := ok_aload_n (by decide +kernel : decode cX12_plainly 247 = .ok (.aload_n 0, 1)) rfl
theorem o310_248 : Okp RX12 cX12_plainly 9 none "plainly" false 248 (sGR 13 69 251) := ok_getR (by decide +kernel : decode cX12_plainly 248 = .ok (.getfield 167, 3)) fw_X12_167 rfl
theorem o310_251 : Okp RX12 cX12_plainly 9 none "plainly" false 251 (sLI 5 253) := ok_iload (by decide +kernel : decode cX12_plainly 251 = .ok (.iload 5, 2))
theorem o310_253 : Okp RX12 cX12_plainly 9 none "plainly" false 253 (sIA 254) := ok_iaload (by decide +kernel : decode cX12_plainly 253 = .ok (.iaload, 1))
theorem o310_254 : Okp RX12 cX12_plainly 9 none "plainly" false 254 (sCV false 285 4 13 257) := ok_cv (by decide +kernel : decode cX12_plainly 254 = .ok (.invokevirtual 481, 3)) mw_X12_481 rfl (by decide) wm_X12_set wse_X12_set (by decide) rfl
theorem o310_257 : Okp RX12 cX12_plainly 9 none "plainly" false 257 (sGo 463) := ok_goto (by decide +kernel : decode cX12_plainly 257 = .ok (.goto 206, 3)) (by decide)
theorem o310_260 : Okp RX12 cX12_plainly 9 none "plainly" false 260 (sLR 0 261) := ok_aload_n (by decide +kernel : decode cX12_plainly 260 = .ok (.aload_n 0, 1)) rfl
theorem o310_261 : Okp RX12 cX12_plainly 9 none "plainly" false 261 (sLI 1 262) := ok_iload_n (by decide +kernel : decode cX12_plainly 261 = .ok (.iload_n 1, 1)) rfl
theorem o310_262 : Okp RX12 cX12_plainly 9 none "plainly" false 262 (sCV false 287 2 13 265) := ok_cv (by decide +kernel : decode cX12_plainly 262 = .ok (.invokevirtual 493, 3)) mw_X12_493 rfl (by decide) wm_X12_pop_ wse_X12_pop_ (by decide) rfl
theorem o310_265 : Okp RX12 cX12_plainly 9 none "plainly" false 265 (sSI 5 267) := ok_istore (by decide +kernel : decode cX12_plainly 265 = .ok (.istore 5, 2)) (by decide) (by decide)
theorem o310_267 : Okp RX12 cX12_plainly 9 none "plainly" false 267 (sGo 463) := ok_goto (by decide +kernel : decode cX12_plainly 267 = .ok (.goto 196, 3)) (by decide)
theorem o310_270 : Okp RX12 cX12_plainly 9 none "plainly" false 270 (sLR 0 271) := ok_aload_n (by decide +kernel : decode cX12_plainly 270 = .ok (.aload_n 0, 1)) rfl
theorem o310_271 : Okp RX12 cX12_plainly 9 none "plainly" false 271 (sLI 1 272) := ok_iload_n (by decide +kernel : decode cX12_plainly 271 = .ok (.iload_n 1, 1)) rfl
theorem o310_272 : Okp RX12 cX12_plainly 9 none "plainly" false 272 (sLR 0 273) := ok_aload_n (by decide +kernel : decode cX12_plainly 272 = .ok (.aload_n 0, 1)) rfl
theorem o310_273 : Okp RX12 cX12_plainly 9 none "plainly" false 273 (sGR 13 67 276) := ok_getR (by decide +kernel : decode cX12_plainly 273 = .ok (.getfield 161, 3)) fw_X12_161 rfl
theorem o310_276 : Okp RX12 cX12_plainly 9 none "plainly" false 276 (sLR 0 277) := ok_aload_n (by decide +kernel : decode cX12_plainly 276 = .ok (.aload_n 0, 1)) rfl
theorem o310_277 : Okp RX12 cX12_plainly 9 none "plainly" false 277 (sLI 1 278) := ok_iload_n (by decide +kernel : decode cX12_plainly 277 = .ok (.iload_n 1, 1)) rfl
theorem o310_278 : Okp RX12 cX12_plainly 9 none "plainly" false 278 (sCV false 282 2 13 281) := ok_cv (by decide +kernel : decode cX12_plainly 278 = .ok (.invokevirtual 487, 3)) mw_X12_487 rfl (by decide) wm_X12_act wse_X12_act (by decide) rfl
theorem o310_281 : Okp RX12 cX12_plainly 9 none "plainly" false 281 (sIA 282) := ok_iaload (by decide +kernel : decode cX12_plainly 281 = .ok (.iaload, 1))
theorem o310_282 : Okp RX12 cX12_plainly 9 none "plainly" false 282 (sK 1 283) := ok_iconst (by decide +kernel : decode cX12_plainly 282 = .ok (.iconst 1, 1)) (by decide)
theorem o310_283 : Okp RX12 cX12_plainly 9 none "plainly" false 283 (sB2 fSub 284) := ok_isub (by decide +kernel : decode cX12_plainly 283 = .ok (.isub, 1))
theorem o310_284 : Okp RX12 cX12_plainly 9 none "plainly" false 284 (sCV false 284 3 13 287) := ok_cv (by decide +kernel : decode cX12_plainly 284 = .ok (.invokevirtual 490, 3)) mw_X12_490 rfl (by decide) wm_X12_stack wse_X12_stack (by decide) rfl
theorem o310_287 : Okp RX12 cX12_plainly 9 none "plainly" false 287 (sSI 5 289) := ok_istore (by decide +kernel : decode cX12_plainly 287 = .ok (.istore 5, 2)) (by decide) (by decide)
theorem o310_289 : Okp RX12 cX12_plainly 9 none "plainly" false 289 (sLR 0 290) := ok_aload_n (by decide +kernel : decode cX12_plainly 289 = .ok (.aload_n 0, 1)) rfl
theorem o310_290 : Okp RX12 cX12_plainly 9 none "plainly" false 290 (sLI 1 291) := ok_iload_n (by decide +kernel : decode cX12_plainly 290 = .ok (.iload_n 1, 1)) rfl
theorem o310_291 : Okp RX12 cX12_plainly 9 none "plainly" false 291 (sLR 0 292) := ok_aload_n (by decide +kernel : decode cX12_plainly 291 = .ok (.aload_n 0, 1)) rfl
theorem o310_292 : Okp RX12 cX12_plainly 9 none "plainly" false 292 (sGR 13 68 295) := ok_getR (by decide +kernel : decode cX12_plainly 292 = .ok (.getfield 164, 3)) fw_X12_164 rfl
theorem o310_295 : Okp RX12 cX12_plainly 9 none "plainly" false 295 (sLI 5 297) := ok_iload (by decide +kernel : decode cX12_plainly 295 = .ok (.iload 5, 2))
theorem o310_297 : Okp RX12 cX12_plainly 9 none "plainly" false 297 (sIA 298) := ok_iaload (by decide +kernel : decode cX12_plainly 297 = .ok (.iaload, 1))
theorem o310_298 : Okp RX12 cX12_plainly 9 none "plainly" false 298 (sLR 0 299) := ok_aload_n (by decide +kernel : decode cX12_plainly 298 = .ok (.aload_n 0, 1)) rfl
theorem o310_299 : Okp RX12 cX12_plainly 9 none "plainly" false 299 (sGR 13 69 302) := ok_getR (by decide +kernel : decode cX12_plainly 299 = .ok (.getfield 167, 3)) fw_X12_167 rfl
theorem o310_302 : Okp RX12 cX12_plainly 9 none "plainly" false 302 (sLI 5 304) := ok_iload (by decide +kernel : decode cX12_plainly 302 = .ok (.iload 5, 2))
theorem o310_304 : Okp RX12 cX12_plainly 9 none "plainly" false 304 (sIA 305) := ok_iaload (by decide +kernel : decode cX12_plainly 304 = .ok (.iaload, 1))
theorem o310_305 : Okp RX12 cX12_plainly 9 none "plainly" false 305 (sCV false 286 4 13 308) := ok_cv (by decide +kernel : decode cX12_plainly 305 = .ok (.invokevirtual 548, 3)) mw_X12_548 rfl (by decide) wm_X12_push_ wse_X12_push_ (by decide) rfl
theorem o310_308 : Okp RX12 cX12_plainly 9 none "plainly" false 308 (sGo 463) := ok_goto (by decide +kernel : decode cX12_plainly 308 = .ok (.goto 155, 3)) (by decide)
theorem o310_311 : Okp RX12 cX12_plainly 9 none "plainly" false 311 (sLR 0 312) := ok_aload_n (by decide +kernel : decode cX12_plainly 311 = .ok (.aload_n 0, 1)) rfl
theorem o310_312 : Okp RX12 cX12_plainly 9 none "plainly" false 312 (sLI 1 313) := ok_iload_n (by decide +kernel : decode cX12_plainly 312 = .ok (.iload_n 1, 1)) rfl
theorem o310_313 : Okp RX12 cX12_plainly 9 none "plainly" false 313 (sLR 0 314) := ok_aload_n (by decide +kernel : decode cX12_plainly 313 = .ok (.aload_n 0, 1)) rfl
theorem o310_314 : Okp RX12 cX12_plainly 9 none "plainly" false 314 (sGR 13 67 317) := ok_getR (by decide +kernel : decode cX12_plainly 314 = .ok (.getfield 161, 3)) fw_X12_161 rfl
theorem o310_317 : Okp RX12 cX12_plainly 9 none "plainly" false 317 (sLR 0 318) := ok_aload_n (by decide +kernel : decode cX12_plainly 317 = .ok (.aload_n 0, 1)) rfl
theorem o310_318 : Okp RX12 cX12_plainly 9 none "plainly" false 318 (sLI 1 319) := ok_iload_n (by decide +kernel : decode cX12_plainly 318 = .ok (.iload_n 1, 1)) rfl
theorem o310_319 : Okp RX12 cX12_plainly 9 none "plainly" false 319 (sCV false 282 2 13 322) := ok_cv (by decide +kernel : decode cX12_plainly 319 = .ok (.invokevirtual 487, 3)) mw_X12_487 rfl (by decide) wm_X12_act wse_X12_act (by decide) rfl
theorem o310_322 : Okp RX12 cX12_plainly 9 none "plainly" false 322 (sIA 323) := ok_iaload (by decide +kernel : decode cX12_plainly 322 = .ok (.iaload, 1))
theorem o310_323 : Okp RX12 cX12_plainly 9 none "plainly" false 323 (sK 1 324) := ok_iconst (by decide +kernel : decode cX12_plainly 323 = .ok (.iconst 1, 1)) (by decide)
theorem o310_324 : Okp RX12 cX12_plainly 9 none "plainly" false 324 (sB2 fSub 325) := ok_isub (by decide +kernel : decode cX12_plainly 324 = .ok (.isub, 1))
theorem o310_325 : Okp RX12 cX12_plainly 9 none "plainly" false 325 (sCV false 284 3 13 328) := ok_cv (by decide +kernel : decode cX12_plainly 325 = .ok (.invokevirtual 490, 3)) mw_X12_490 rfl (by decide) wm_X12_stack wse_X12_stack (by decide) rfl
theorem o310_328 : Okp RX12 cX12_plainly 9 none "plainly" false 328 (sSI 5 330) := ok_istore (by decide +kernel : decode cX12_plainly 328 = .ok (.istore 5, 2)) (by decide) (by decide)
theorem o310_330 : Okp RX12 cX12_plainly 9 none "plainly" false 330 (sLR 0 331) := ok_aload_n (by decide +kernel : decode cX12_plainly 330 = .ok (.aload_n 0, 1)) rfl
theorem o310_331 : Okp RX12 cX12_plainly 9 none "plainly" false 331 (sGR 13 68 334) := ok_getR (by decide +kernel : decode cX12_plainly 331 = .ok (.getfield 164, 3)) fw_X12_164 rfl
theorem o310_334 : Okp RX12 cX12_plainly 9 none "plainly" false 334 (sLI 5 336) := ok_iload (by decide +kernel : decode cX12_plainly 334 = .ok (.iload 5, 2))
theorem o310_336 : Okp RX12 cX12_plainly 9 none "plainly" false 336 (sIA 337) := ok_iaload (by decide +kernel : decode cX12_plainly 336 = .ok (.iaload, 1))
theorem o310_337 : Okp RX12 cX12_plainly 9 none "plainly" false 337 (sSI 7 339) := ok_istore (by decide +kernel : decode cX12_plainly 337 = .ok (.istore 7, 2)) (by decide) (by decide)
theorem o310_339 : Okp RX12 cX12_plainly 9 none "plainly" false 339 (sLR 0 340) := ok_aload_n (by decide +kernel : decode cX12_plainly 339 = .ok (.aload_n 0, 1)) rfl
theorem o310_340 : Okp RX12 cX12_plainly 9 none "plainly" false 340 (sGR 13 69 343) := ok_getR (by decide +kernel : decode cX12_plainly 340 = .ok (.getfield 167, 3)) fw_X12_167 rfl
theorem o310_343 : Okp RX12 cX12_plainly 9 none "plainly" false 343 (sLI 5 345) := ok_iload (by decide +kernel : decode cX12_plainly 343 = .ok (.iload 5, 2))
theorem o310_345 : Okp RX12 cX12_plainly 9 none "plainly" false 345 (sIA 346) := ok_iaload (by decide +kernel : decode cX12_plainly 345 = .ok (.iaload, 1))
theorem o310_346 : Okp RX12 cX12_plainly 9 none "plainly" false 346 (sSI 8 348) := ok_istore (by decide +kernel : decode cX12_plainly 346 = .ok (.istore 8, 2)) (by decide) (by decide)
theorem o310_348 : Okp RX12 cX12_plainly 9 none "plainly" false 348 (sLR 0 349) := ok_aload_n (by decide +kernel : decode cX12_plainly 348 = .ok (.aload_n 0, 1)) rfl
theorem o310_349 : Okp RX12 cX12_plainly 9 none "plainly" false 349 (sLI 5 351) := ok_iload (by decide +kernel : decode cX12_plainly 349 = .ok (.iload 5, 2))
theorem o310_351 : Okp RX12 cX12_plainly 9 none "plainly" false 351 (sLR 0 352) := ok_aload_n (by decide +kernel : decode cX12_plainly 351 = .ok (.aload_n 0, 1)) rfl
theorem o310_352 : Okp RX12 cX12_plainly 9 none "plainly" false 352 (sGR 13 68 355) := ok_getR (by decide +kernel : decode cX12_plainly 352 = .ok (.getfield 164, 3)) fw_X12_164 rfl
theorem o310_355 : Okp RX12 cX12_plainly 9 none "plainly" false 355 (sLI 5 357) := ok_iload (by decide +kernel : decode cX12_plainly 355 = .ok (.iload 5, 2))
theorem o310_357 : Okp RX12 cX12_plainly 9 none "plainly" false 357 (sK 1 358) := ok_iconst (by decide +kernel : decode cX12_plainly 357 = .ok (.iconst 1, 1)) (by decide)
theorem o310_358 : Okp RX12 cX12_plainly 9 none "plainly" false 358 (sB2 fSub 359) := ok_isub (by decide +kernel : decode cX12_plainly 358 = .ok (.isub, 1))
theorem o310_359 : Okp RX12 cX12_plainly 9 none "plainly" false 359 (sIA 360) := ok_iaload (by decide +kernel : decode cX12_plainly 359 = .ok (.iaload, 1))
theorem o310_360 : Okp RX12 cX12_plainly 9 none "plainly" false 360 (sLR 0 361) := ok_aload_n (by decide +kernel : decode cX12_plainly 360 = .ok (.aload_n 0, 1)) rfl
theorem o310_361 : Okp RX12 cX12_plainly 9 none "plainly" false 361 (sGR 13 69 364) := ok_getR (by decide +kernel : decode cX12_plainly 361 = .ok (.getfield 167, 3)) fw_X12_167 rfl
theorem o310_364 : Okp RX12 cX12_plainly 9 none "plainly" false 364 (sLI 5 366) := ok_iload (by decide +kernel : decode cX12_plainly 364 = .ok (.iload 5, 2))
theorem o310_366 : Okp RX12 cX12_plainly 9 none "plainly" false 366 (sK 1 367) := ok_iconst (by decide +kernel : decode cX12_plainly 366 = .ok (.iconst 1, 1)) (by decide)
theorem o310_367 : Okp RX12 cX12_plainly 9 none "plainly" false 367 (sB2 fSub 368) := ok_isub (by decide +kernel : decode cX12_plainly 367 = .ok (.isub, 1))
theorem o310_368 : Okp RX12 cX12_plainly 9 none "plainly" false 368 (sIA 369) := ok_iaload (by decide +kernel : decode cX12_plainly 368 = .ok (.iaload, 1))
theorem o310_369 : Okp RX12 cX12_plainly 9 none "plainly" false 369 (sCV false 285 4 13 372) := ok_cv (by decide +kernel : decode cX12_plainly 369 = .ok (.invokevirtual 481, 3)) mw_X12_481 rfl (by decide) wm_X12_set wse_X12_set (by decide) rfl
theorem o310_372 : Okp RX12 cX12_plainly 9 none "plainly" false 372 (sLR 0 373) := ok_aload_n (by decide +kernel : decode cX12_plainly 372 = .ok (.aload_n 0, 1)) rfl
theorem o310_373 : Okp RX12 cX12_plainly 9 none "plainly" false 373 (sLI 5 375) := ok_iload (by decide +kernel : decode cX12_plainly 373 = .ok (.iload 5, 2))
theorem o310_375 : Okp RX12 cX12_plainly 9 none "plainly" false 375 (sK 1 376) := ok_iconst (by decide +kernel : decode cX12_plainly 375 = .ok (.iconst 1, 1)) (by decide)
theorem o310_376 : Okp RX12 cX12_plainly 9 none "plainly" false 376 (sB2 fSub 377) := ok_isub (by decide +kernel : decode cX12_plainly 376 = .ok (.isub, 1))
theorem o310_377 : Okp RX12 cX12_plainly 9 none "plainly" false 377 (sLI 7 379) := ok_iload (by decide +kernel : decode cX12_plainly 377 = .ok (.iload 7, 2))
theorem o310_379 : Okp RX12 cX12_plainly 9 none "plainly" false 379 (sLI 8 381) := ok_iload (by decide +kernel : decode cX12_plainly 379 = .ok (.iload 8, 2))
theorem o310_381 : Okp RX12 cX12_plainly 9 none "plainly" false 381 (sCV false 285 4 13 384) := ok_cv (by decide +kernel : decode cX12_plainly 381 = .ok (.invokevirtual 481, 3)) mw_X12_481 rfl (by decide) wm_X12_set wse_X12_set (by decide) rfl
theorem o310_384 : Okp RX12 cX12_plainly 9 none "plainly" false 384 (sGo 463) := ok_goto (by decide +kernel : decode cX12_plainly 384 = .ok (.goto 79, 3)) (by decide)
theorem o310_387 : Okp RX12 cX12_plainly 9 none "plainly" false 387 (sLR 0 388) := ok_aload_n (by decide +kernel : decode cX12_plainly 387 = .ok (.aload_n 0, 1)) rfl
theorem o310_388 : Okp RX12 cX12_plainly 9 none "plainly" false 388 (sLI 1 389) := ok_iload_n (by decide +kernel : decode cX12_plainly 388 = .ok (.iload_n 1, 1)) rfl
theorem o310_389 : Okp RX12 cX12_plainly 9 none "plainly" false 389 (sLR 0 390) := ok_aload_n (by decide +kernel : decode cX12_plainly 389 = .ok (.aload_n 0, 1)) rfl
theorem o310_390 : Okp RX12 cX12_plainly 9 none "plainly" false 390 (sLI 1 391) := ok_iload_n (by decide +kernel : decode cX12_plainly 390 = .ok (.iload_n 1, 1)) rfl
theorem o310_391 : Okp RX12 cX12_plainly 9 none "plainly" false 391 (sCV false 288 2 13 394) := ok_cv (by decide +kernel : decode cX12_plainly 391 = .ok (.invokevirtual 550, 3)) mw_X12_550 rfl (by decide) wm_X12_popValue wse_X12_popValue (by decide) rfl
theorem o310_394 : Okp RX12 cX12_plainly 9 none "plainly" false 394 (sI1 1 401 397) := ok_if_ne (by decide +kernel : decode cX12_plainly 394 = .ok (.ifCond .ne 7, 3)) (by decide)
theorem o310_397 : Okp RX12 cX12_plainly 9 none "plainly" false 397 (sK 1 398) := ok_iconst (by decide +kernel : decode cX12_plainly 397 = .ok (.iconst 1, 1)) (by decide)
theorem o310_398 : Okp RX12 cX12_plainly 9 none "plainly" false 398 (sGo 402) := ok_goto (by decide +kernel : decode cX12_plainly 398 = .ok (.goto 4, 3)) (by decide)
theorem o310_401 : Okp RX12 cX12_plainly 9 none "plainly" false 401 (sK 0 402) := ok_iconst (by decide +kernel : decode cX12_plainly 401 = .ok (.iconst 0, 1)) (by decide)
theorem o310_402 : Okp RX12 cX12_plainly 9 none "plainly" false 402 (sK 0 403) := ok_iconst (by decide +kernel : decode cX12_plainly 402 = .ok (.iconst 0, 1)) (by decide)
theorem o310_403 : Okp RX12 cX12_plainly 9 none "plainly" false 403 (sCV false 286 4 13 406) := ok_cv (by decide +kernel : decode cX12_plainly 403 = .ok (.invokevirtual 548, 3)) mw_X12_548 rfl (by decide) wm_X12_push_ wse_X12_push_ (by decide) rfl
theorem o310_406 : Okp RX12 cX12_plainly 9 none "plainly" false 406 (sGo 463) := ok_goto (by decide +kernel : decode cX12_plainly 406 = .ok (.goto 57, 3)) (by decide)
theorem o310_409 : Okp RX12 cX12_plainly 9 none "plainly" false 409 (sLR 0 410) := ok_aload_n (by decide +kernel : decode cX12_plainly 409 = .ok (.aload_n 0, 1)) rfl
theorem o310_410 : Okp RX12 cX12_plainly 9 none "plainly" false 410 (sLI 1 411) := ok_iload_n (by decide +kernel : decode cX12_plainly 410 = .ok (.iload_n 1, 1)) rfl
theorem o310_411 : Okp RX12 cX12_plainly 9 none "plainly" false 411 (sCV false 288 2 13 414) := ok_cv (by decide +kernel : decode cX12_plainly 411 = .ok (.invokevirtual 550, 3)) mw_X12_550 rfl (by decide) wm_X12_popValue wse_X12_popValue (by decide) rfl
theorem o310_414 : Okp RX12 cX12_plainly 9 none "plainly" false 414 (sSI 6 416) := ok_istore (by decide +kernel : decode cX12_plainly 414 = .ok (.istore 6, 2)) (by decide) (by decide)
theorem o310_416 : Okp RX12 cX12_plainly 9 none "plainly" false 416 (sLR 0 417) := ok_aload_n (by decide +kernel : decode cX12_plainly 416 = .ok (.aload_n 0, 1)) rfl
theorem o310_417 : Okp RX12 cX12_plainly 9 none "plainly" false 417 (sLI 1 418) := ok_iload_n (by decide +kernel : decode cX12_plainly 417 = .ok (.iload_n 1, 1)) rfl
theorem o310_418 : Okp RX12 cX12_plainly 9 none "plainly" false 418 (sCV false 288 2 13 421) := ok_cv (by decide +kernel : decode cX12_plainly 418 = .ok (.invokevirtual 550, 3)) mw_X12_550 rfl (by decide) wm_X12_popValue wse_X12_popValue (by decide) rfl
theorem o310_421 : Okp RX12 cX12_plainly 9 none "plainly" false 421 (sSI 5 423) := ok_istore (by decide +kernel : decode cX12_plainly 421 = .ok (.istore 5, 2)) (by decide) (by decide)
theorem o310_423 : Okp RX12 cX12_plainly 9 none "plainly" false 423 (sLI 2 424) := ok_iload_n (by decide +kernel : decode cX12_plainly 423 = .ok (.iload_n 2, 1)) rfl
theorem o310_424 : Okp RX12 cX12_plainly 9 none "plainly" false 424 (sK 10 426) := ok_bipush (by decide +kernel : decode cX12_plainly 424 = .ok (.bipush 10, 2)) (by decide)
theorem o310_426 : Okp RX12 cX12_plainly 9 none "plainly" false 426 (sI2 0 435 429) := ok_icmp_eq (by decide +kernel : decode cX12_plainly 426 = .ok (.if_icmp .eq 9, 3)) (by decide)
theorem o310_429 : Okp RX12 cX12_plainly 9 none "plainly" false 429 (sLI 2 430) := ok_iload_n (by decide +kernel : decode cX12_plainly 429 = .ok (.iload_n 2, 1)) rfl
theorem o310_430 : Okp RX12 cX12_plainly 9 none "plainly" false 430 (sK 11 432) := ok_bipush (by decide +kernel : decode cX12_plainly 430 = .ok (.bipush 11, 2)) (by decide)
theorem o310_432 : Okp RX12 cX12_plainly 9 none "plainly" false 432 (sI2 1 449 435) := ok_icmp_ne (by decide +kernel : decode cX12_plainly 432 = .ok (.if_icmp .ne 17, 3)) (by decide)
theorem o310_435 : Okp RX12 cX12_plainly 9 none "plainly" false 435 (sLI 6 437) := ok_iload (by decide +kernel : decode cX12_plainly 435 = .ok (.iload 6, 2))
theorem o310_437 : Okp RX12 cX12_plainly 9 none "plainly" false 437 (sI1 1 449 440) := ok_if_ne (by decide +kernel : decode cX12_plainly 437 = .ok (.ifCond .ne 12, 3)) (by decide)
theorem o310_440 : Okp RX12 cX12_plainly 9 none "plainly" false 440 (sLR 0 441) := ok_aload_n (by decide +kernel : decode cX12_plainly 440 = .ok (.aload_n 0, 1)) rfl
theorem o310_441 : Okp RX12 cX12_plainly 9 none "plainly" false 441 (sLI 1 442) := ok_iload_n (by decide +kernel : decode cX12_plainly 441 = .ok (.iload_n 1, 1)) rfl
theorem o310_442 : Okp RX12 cX12_plainly 9 none "plainly" false 442 (sK 3 443) := ok_iconst (by decide +kernel : decode cX12_plainly 442 = .ok (.iconst 3, 1)) (by decide)
theorem o310_443 : Okp RX12 cX12_plainly 9 none "plainly" false 443 (sCV false 307 3 13 446) := ok_cv (by decide +kernel : decode cX12_plainly 443 = .ok (.invokevirtual 553, 3)) mw_X12_553 rfl (by decide) wm_X12_trap wse_X12_trap (by decide) rfl
theorem o310_446 : Okp RX12 cX12_plainly 9 none "plainly" false 446 (sGo 463) := ok_goto (by decide +kernel : decode cX12_plainly 446 = .ok (.goto 17, 3)) (by decide)
theorem o310_449 : Okp RX12 cX12_plainly 9 none "plainly" false 449 (sLR 0 450) := ok_aload_n (by decide +kernel : decode cX12_plainly 449 = .ok (.aload_n 0, 1)) rfl
theorem o310_450 : Okp RX12 cX12_plainly 9 none "plainly" false 450 (sLI 1 451) := ok_iload_n (by decide +kernel : decode cX12_plainly 450 = .ok (.iload_n 1, 1)) rfl
theorem o310_451 : Okp RX12 cX12_plainly 9 none "plainly" false 451 (sLI 2 452) := ok_iload_n (by decide +kernel : decode cX12_plainly 451 = .ok (.iload_n 2, 1)) rfl
theorem o310_452 : Okp RX12 cX12_plainly 9 none "plainly" false 452 (sLI 5 454) := ok_iload (by decide +kernel : decode cX12_plainly 452 = .ok (.iload 5, 2))
theorem o310_454 : Okp RX12 cX12_plainly 9 none "plainly" false 454 (sLI 6 456) := ok_iload (by decide +kernel : decode cX12_plainly 454 = .ok (.iload 6, 2))
theorem o310_456 : Okp RX12 cX12_plainly 9 none "plainly" false 456 (sCS false 311 3 459) := ok_cs (by decide +kernel : decode cX12_plainly 456 = .ok (.invokestatic 555, 3)) mw_X12_555 wt_X12_reckon (by decide) rfl
theorem o310_459 : Okp RX12 cX12_plainly 9 none "plainly" false 459 (sK 0 460) := ok_iconst (by decide +kernel : decode cX12_plainly 459 = .ok (.iconst 0, 1)) (by decide)
theorem o310_460 : Okp RX12 cX12_plainly 9 none "plainly" false 460 (sCV false 286 4 13 463) := ok_cv (by decide +kernel : decode cX12_plainly 460 = .ok (.invokevirtual 548, 3)) mw_X12_548 rfl (by decide) wm_X12_push_ wse_X12_push_ (by decide) rfl
theorem o310_463 : Okp RX12 cX12_plainly 9 none "plainly" false 463 sRV := ok_vret rfl (by decide +kernel : decode cX12_plainly 463 = .ok (.return_, 1))
theorem oc310_0 : ∀ pc, Mnp (c310_0 pc) ∧ Okp RX12 cX12_plainly 9 none "plainly" false pc (c310_0 pc) := by
  intro pc
  unfold c310_0
  split
  · exact ⟨mn_sLI, o310_0⟩
  · exact ⟨mn_sSw, o310_1⟩
  · exact ⟨mn_sX, ok_X⟩
theorem oc310_4 : ∀ pc, Mnp (c310_4 pc) ∧ Okp RX12 cX12_plainly 9 none "plainly" false pc (c310_4 pc) := by
  intro pc
  unfold c310_4
  split
  · exact ⟨mn_sK, o310_96⟩
  · exact ⟨mn_sSI, o310_97⟩
  · exact ⟨mn_sK, o310_99⟩
  · exact ⟨mn_sSI, o310_100⟩
  · exact ⟨mn_sLI, o310_102⟩
  · exact ⟨mn_sK, o310_104⟩
  · exact ⟨mn_sI2, o310_105⟩
  · exact ⟨mn_sLI, o310_108⟩
  · exact ⟨mn_sK, o310_110⟩
  · exact ⟨mn_sB2, o310_112⟩
  · exact ⟨mn_sLR, o310_113⟩
  · exact ⟨mn_sLR, o310_114⟩
  · exact ⟨mn_sGR, o310_115⟩
  · exact ⟨mn_sLI, o310_118⟩
  · exact ⟨mn_sIA, o310_119⟩
  · exact ⟨mn_sX, ok_X⟩
theorem oc310_5 : ∀ pc, Mnp (c310_5 pc) ∧ Okp RX12 cX12_plainly 9 none "plainly" false pc (c310_5 pc) := by
  intro pc
  unfold c310_5
  split
  · exact ⟨mn_sLI, o310_120⟩
  · exact ⟨mn_sLI, o310_122⟩
  · exact ⟨mn_sB2, o310_124⟩
  · exact ⟨mn_sCV, o310_125⟩
  · exact ⟨mn_sB2, o310_128⟩
  · exact ⟨mn_sSI, o310_129⟩
  · exact ⟨mn_sInc, o310_131⟩
  · exact ⟨mn_sGo, o310_134⟩
  · exact ⟨mn_sLR, o310_137⟩
  · exact ⟨mn_sLI, o310_138⟩
  · exact ⟨mn_sLI, o310_139⟩
  · exact ⟨mn_sK, o310_141⟩
  · exact ⟨mn_sCV, o310_142⟩
  · exact ⟨mn_sX, ok_X⟩
theorem oc310_6 : ∀ pc, Mnp (c310_6 pc) ∧ Okp RX12 cX12_plainly 9 none "plainly" false pc (c310_6 pc) := by
  intro pc
  unfold c310_6
  split
  · exact ⟨mn_sGo, o310_145⟩
  · exact ⟨mn_sLR, o310_148⟩
  · exact ⟨mn_sLI, o310_149⟩
  · exact ⟨mn_sK, o310_150⟩
  · exact ⟨mn_sK, o310_151⟩
  · exact ⟨mn_sCV, o310_152⟩
  · exact ⟨mn_sGo, o310_155⟩
  · exact ⟨mn_sK, o310_158⟩
  · exact ⟨mn_sLR, o310_160⟩
  · exact ⟨mn_sLI, o310_161⟩
  · exact ⟨mn_sCV, o310_162⟩
  · exact ⟨mn_sB2, o310_165⟩
  · exact ⟨mn_sLI, o310_166⟩
  · exact ⟨mn_sB2, o310_167⟩
  · exact ⟨mn_sX, ok_X⟩
theorem oc310_7 : ∀ pc, Mnp (c310_7 pc) ∧ Okp RX12 cX12_plainly 9 none "plainly" false pc (c310_7 pc) := by
  intro pc
  unfold c310_7
  split
  · exact ⟨mn_sSI, o310_168⟩
  · exact ⟨mn_sLR, o310_170⟩
  · exact ⟨mn_sLI, o310_171⟩
  · exact ⟨mn_sLR, o310_172⟩
  · exact ⟨mn_sGR, o310_173⟩
  · exact ⟨mn_sLI, o310_176⟩
  · exact ⟨mn_sIA, o310_178⟩
  · exact ⟨mn_sLR, o310_179⟩
  · exact ⟨mn_sGR, o310_180⟩
  · exact ⟨mn_sLI, o310_183⟩
  · exact ⟨mn_sIA, o310_185⟩
  · exact ⟨mn_sCV, o310_186⟩
  · exact ⟨mn_sLR, o310_189⟩
  · exact ⟨mn_sGR, o310_190⟩
  · exact ⟨mn_sX, ok_X⟩
theorem oc310_8 : ∀ pc, Mnp (c310_8 pc) ∧ Okp RX12 cX12_plainly 9 none "plainly" false pc (c310_8 pc) := by
  intro pc
  unfold c310_8
  split
  · exact ⟨mn_sLI, o310_193⟩
  · exact ⟨mn_sIA, o310_195⟩
  · exact ⟨mn_sK, o310_196⟩
  · exact ⟨mn_sI2, o310_197⟩
  · exact ⟨mn_sLR, o310_200⟩
  · exact ⟨mn_sGR, o310_201⟩
  · exact ⟨mn_sLI, o310_204⟩
  · exact ⟨mn_sIA, o310_206⟩
  · exact ⟨mn_sK, o310_207⟩
  · exact ⟨mn_sI2, o310_208⟩
  · exact ⟨mn_sLR, o310_211⟩
  · exact ⟨mn_sLI, o310_212⟩
  · exact ⟨mn_sK, o310_214⟩
  · exact ⟨mn_sK, o310_215⟩
  · exact ⟨mn_sX, ok_X⟩
theorem oc310_9 : ∀ pc, Mnp (c310_9 pc) ∧ Okp RX12 cX12_plainly 9 none "plainly" false pc (c310_9 pc) := by
  intro pc
  unfold c310_9
  split
  · exact ⟨mn_sCV, o310_216⟩
  · exact ⟨mn_sGo, o310_219⟩
  · exact ⟨mn_sLR, o310_222⟩
  · exact ⟨mn_sLI, o310_223⟩
  · exact ⟨mn_sCV, o310_224⟩
  · exact ⟨mn_sSI, o310_227⟩
  · exact ⟨mn_sLR, o310_229⟩
  · exact ⟨mn_sK, o310_230⟩
  · exact ⟨mn_sLR, o310_232⟩
  · exact ⟨mn_sLI, o310_233⟩
  · exact ⟨mn_sCV, o310_234⟩
  · exact ⟨mn_sB2, o310_237⟩
  · exact ⟨mn_sLI, o310_238⟩
  · exact ⟨mn_sB2, o310_239⟩
  · exact ⟨mn_sX, ok_X⟩
theorem oc310_10 : ∀ pc, Mnp (c310_10 pc) ∧ Okp RX12 cX12_plainly 9 none "plainly" false pc (c310_10 pc) := by
  intro pc
  unfold c310_10
  split
  · exact ⟨mn_sLR, o310_240⟩
  · exact ⟨mn_sGR, o310_241⟩
  · exact ⟨mn_sLI, o310_244⟩
  · exact ⟨mn_sIA, o310_246⟩
  · exact ⟨mn_sLR, o310_247⟩
  · exact ⟨mn_sGR, o310_248⟩
  · exact ⟨mn_sLI, o310_251⟩
  · exact ⟨mn_sIA, o310_253⟩
  · exact ⟨mn_sCV, o310_254⟩
  · exact ⟨mn_sGo, o310_257⟩
  · exact ⟨mn_sLR, o310_260⟩
  · exact ⟨mn_sLI, o310_261⟩
  · exact ⟨mn_sCV, o310_262⟩
  · exact ⟨mn_sX, ok_X⟩
theorem oc310_11 : ∀ pc, Mnp (c310_11 pc) ∧ Okp RX12 cX12_plainly 9 none "plainly" false pc (c310_11 pc) := by
  intro pc
  unfold c310_11
  split
  · exact ⟨mn_sSI, o310_265⟩
  · exact ⟨mn_sGo, o310_267⟩
  · exact ⟨mn_sLR, o310_270⟩
  · exact ⟨mn_sLI, o310_271⟩
  · exact ⟨mn_sLR, o310_272⟩
  · exact ⟨mn_sGR, o310_273⟩
  · exact ⟨mn_sLR, o310_276⟩
  · exact ⟨mn_sLI, o310_277⟩
  · exact ⟨mn_sCV, o310_278⟩
  · exact ⟨mn_sIA, o310_281⟩
  · exact ⟨mn_sK, o310_282⟩
  · exact ⟨mn_sB2, o310_283⟩
  · exact ⟨mn_sCV, o310_284⟩
  · exact ⟨mn_sSI, o310_287⟩
  · exact ⟨mn_sX, ok_X⟩
theorem oc310_12 : ∀ pc, Mnp (c310_12 pc) ∧ Okp RX12 cX12_plainly 9 none "plainly" false pc (c310_12 pc) := by
  intro pc
  unfold c310_12
  split
  · exact ⟨mn_sLR, o310_289⟩
  · exact ⟨mn_sLI, o310_290⟩
  · exact ⟨mn_sLR, o310_291⟩
  · exact ⟨mn_sGR, o310_292⟩
  · exact ⟨mn_sLI, o310_295⟩
  · exact ⟨mn_sIA, o310_297⟩
  · exact ⟨mn_sLR, o310_298⟩
  · exact ⟨mn_sGR, o310_299⟩
  · exact ⟨mn_sLI, o310_302⟩
  · exact ⟨mn_sIA, o310_304⟩
  · exact ⟨mn_sCV, o310_305⟩
  · exact ⟨mn_sGo, o310_308⟩
  · exact ⟨mn_sLR, o310_311⟩
  · exact ⟨mn_sX, ok_X⟩
theorem oc310_13 : ∀ pc, Mnp (c310_13 pc) ∧ Okp RX12 cX12_plainly 9 none "plainly" false pc (c310_13 pc) := by
  intro pc
  unfold c310_13
  split
  · exact ⟨mn_sLI, o310_312⟩
  · exact ⟨mn_sLR, o310_313⟩
  · exact ⟨mn_sGR, o310_314⟩
  · exact ⟨mn_sLR, o310_317⟩
  · exact ⟨mn_sLI, o310_318⟩
  · exact ⟨mn_sCV, o310_319⟩
  · exact ⟨mn_sIA, o310_322⟩
  · exact ⟨mn_sK, o310_323⟩
  · exact ⟨mn_sB2, o310_324⟩
  · exact ⟨mn_sCV, o310_325⟩
  · exact ⟨mn_sSI, o310_328⟩
  · exact ⟨mn_sLR, o310_330⟩
  · exact ⟨mn_sGR, o310_331⟩
  · exact ⟨mn_sLI, o310_334⟩
  · exact ⟨mn_sX, ok_X⟩
theorem oc310_14 : ∀ pc, Mnp (c310_14 pc) ∧ Okp RX12 cX12_plainly 9 none "plainly" false pc (c310_14 pc) := by
  intro pc
  unfold c310_14
  split
  · exact ⟨mn_sIA, o310_336⟩
  · exact ⟨mn_sSI, o310_337⟩
  · exact ⟨mn_sLR, o310_339⟩
  · exact ⟨mn_sGR, o310_340⟩
  · exact ⟨mn_sLI, o310_343⟩
  · exact ⟨mn_sIA, o310_345⟩
  · exact ⟨mn_sSI, o310_346⟩
  · exact ⟨mn_sLR, o310_348⟩
  · exact ⟨mn_sLI, o310_349⟩
  · exact ⟨mn_sLR, o310_351⟩
  · exact ⟨mn_sGR, o310_352⟩
  · exact ⟨mn_sLI, o310_355⟩
  · exact ⟨mn_sK, o310_357⟩
  · exact ⟨mn_sB2, o310_358⟩
  · exact ⟨mn_sIA, o310_359⟩
  · exact ⟨mn_sX, ok_X⟩
theorem oc310_15 : ∀ pc, Mnp (c310_15 pc) ∧ Okp RX12 cX12_plainly 9 none "plainly" false pc (c310_15 pc) := by
  intro pc
  unfold c310_15
  split
  · exact ⟨mn_sLR, o310_360⟩
  · exact ⟨mn_sGR, o310_361⟩
  · exact ⟨mn_sLI, o310_364⟩
  · exact ⟨mn_sK, o310_366⟩
  · exact ⟨mn_sB2, o310_367⟩
  · exact ⟨mn_sIA, o310_368⟩
  · exact ⟨mn_sCV, o310_369⟩
  · exact ⟨mn_sLR, o310_372⟩
  · exact ⟨mn_sLI, o310_373⟩
  · exact ⟨mn_sK, o310_375⟩
  · exact ⟨mn_sB2, o310_376⟩
  · exact ⟨mn_sLI, o310_377⟩
  · exact ⟨mn_sLI, o310_379⟩
  · exact ⟨mn_sCV, o310_381⟩
  · exact ⟨mn_sX, ok_X⟩
theorem oc310_16 : ∀ pc, Mnp (c310_16 pc) ∧ Okp RX12 cX12_plainly 9 none "plainly" false pc (c310_16 pc) := by
  intro pc
  unfold c310_16
  split
  · exact ⟨mn_sGo, o310_384⟩
  · exact ⟨mn_sLR, o310_387⟩
  · exact ⟨mn_sLI, o310_388⟩
  · exact ⟨mn_sLR, o310_389⟩
  · exact ⟨mn_sLI, o310_390⟩
  · exact ⟨mn_sCV, o310_391⟩
  · exact ⟨mn_sI1, o310_394⟩
  · exact ⟨mn_sK, o310_397⟩
  · exact ⟨mn_sGo, o310_398⟩
  · exact ⟨mn_sK, o310_401⟩
  · exact ⟨mn_sK, o310_402⟩
  · exact ⟨mn_sCV, o310_403⟩
  · exact ⟨mn_sGo, o310_406⟩
  · exact ⟨mn_sX, ok_X⟩
theorem oc310_17 : ∀ pc, Mnp (c310_17 pc) ∧ Okp RX12 cX12_plainly 9 none "plainly" false pc (c310_17 pc) := by
  intro pc
  unfold c310_17
  split
  · exact ⟨mn_sLR, o310_409⟩
  · exact ⟨mn_sLI, o310_410⟩
  · exact ⟨mn_sCV, o310_411⟩
  · exact ⟨mn_sSI, o310_414⟩
  · exact ⟨mn_sLR, o310_416⟩
  · exact ⟨mn_sLI, o310_417⟩
  · exact ⟨mn_sCV, o310_418⟩
  · exact ⟨mn_sSI, o310_421⟩
  · exact ⟨mn_sLI, o310_423⟩
  · exact ⟨mn_sK, o310_424⟩
  · exact ⟨mn_sI2, o310_426⟩
  · exact ⟨mn_sLI, o310_429⟩
  · exact ⟨mn_sK, o310_430⟩
  · exact ⟨mn_sX, ok_X⟩
theorem oc310_18 : ∀ pc, Mnp (c310_18 pc) ∧ Okp RX12 cX12_plainly 9 none "plainly" false pc (c310_18 pc) := by
  intro pc
  unfold c310_18
  split
  · exact ⟨mn_sI2, o310_432⟩
  · exact ⟨mn_sLI, o310_435⟩
  · exact ⟨mn_sI1, o310_437⟩
  · exact ⟨mn_sLR, o310_440⟩
  · exact ⟨mn_sLI, o310_441⟩
  · exact ⟨mn_sK, o310_442⟩
  · exact ⟨mn_sCV, o310_443⟩
  · exact ⟨mn_sGo, o310_446⟩
  · exact ⟨mn_sLR, o310_449⟩
  · exact ⟨mn_sLI, o310_450⟩
  · exact ⟨mn_sLI, o310_451⟩
  · exact ⟨mn_sLI, o310_452⟩
  · exact ⟨mn_sLI, o310_454⟩
  · exact ⟨mn_sX, ok_X⟩
theorem oc310_19 : ∀ pc, Mnp (c310_19 pc) ∧ Okp RX12 cX12_plainly 9 none "plainly" false pc (c310_19 pc) := by
  intro pc
  unfold c310_19
  split
  · exact ⟨mn_sCS, o310_456⟩
  · exact ⟨mn_sK, o310_459⟩
  · exact ⟨mn_sCV, o310_460⟩
  · exact ⟨mn_sRV, o310_463⟩
  · exact ⟨mn_sX, ok_X⟩
theorem oc310 : ∀ pc, Mnp (c310 pc) ∧ Okp RX12 cX12_plainly 9 none "plainly" false pc (c310 pc) := by
  intro pc
  unfold c310
  split
  · exact oc310_0 pc
  · exact oc310_4 pc
  · exact oc310_5 pc
  · exact oc310_6 pc
  · exact oc310_7 pc
  · exact oc310_8 pc
  · exact oc310_9 pc
  · exact oc310_10 pc
  · exact oc310_11 pc
  · exact oc310_12 pc
  · exact oc310_13 pc
  · exact oc310_14 pc
  · exact oc310_15 pc
  · exact oc310_16 pc
  · exact oc310_17 pc
  · exact oc310_18 pc
  · exact oc310_19 pc
  · exact ⟨mn_sX, ok_X⟩
theorem o311_0 : Okp RX12 cX12_reckon 3 (some .int) "reckon" false 0 (sLI 0 1) := ok_iload_n (by decide +kernel : decode cX12_reckon 0 = .ok (.iload_n 0, 1)) rfl
theorem o311_1 : Okp RX12 cX12_reckon 3 (some .int) "reckon" false 1 (sSw [(7, 60), (8, 64), (9, 68), (10, 72), (11, 76), (12, 80), (13, 84), (14, 88), (15, 92), (16, 99), (17, 106)] 117) := ok_tsw (by decide +kernel : decode cX12_reckon 1 = .ok (.tableswitch 116 7 17 #[59, 63, 67, 71, 75, 79, 83, 87, 91, 98, 105], 59)) (by decide) (by decide) (by decide)
theorem o311_60 : Okp RX12 cX12_reckon 3 (some .int) "reckon" false 60 (sLI 1 61) := ok_iload_n (by decide +kernel : decode cX12_reckon 60 = .ok (.iload_n 1, 1)) rfl
theorem o311_61 : Okp RX12 cX12_reckon 3 (some .int) "reckon" false 61 (sLI 2 62) := ok_iload_n (by decide +kernel : decode cX12_reckon 61 = .ok (.iload_n 2, 1)) rfl
theorem o311_62 : Okp RX12 cX12_reckon 3 (some .int) "reckon" false 62 (sB2 fAdd 63) := ok_iadd (by decide +kernel : decode cX12_reckon 62 = .ok (.iadd, 1))
theorem o311_63 : Okp RX12 cX12_reckon 3 (some .int) "reckon" false 63 sRI := ok_iret rfl (by decide +kernel : decode cX12_reckon 63 = .ok (.ireturn, 1))
theorem o311_64 : Okp RX12 cX12_reckon 3 (some .int) "reckon" false 64 (sLI 1 65) := ok_iload_n (by decide +kernel : decode cX12_reckon 64 = .ok (.iload_n 1, 1)) rfl
theorem o311_65 : Okp RX12 cX12_reckon 3 (some .int) "reckon" false 65 (sLI 2 66) := ok_iload_n (by decide +kernel : decode cX12_reckon 65 = .ok (.iload_n 2, 1)) rfl
theorem o311_66 : Okp RX12 cX12_reckon 3 (some .int) "reckon" false 66 (sB2 fSub 67) := ok_isub (by decide +kernel : decode cX12_reckon 66 = .ok (.isub, 1))
theorem o311_67 : Okp RX12 cX12_reckon 3 (some .int) "reckon" false 67 sRI := ok_iret rfl (by decide +kernel : decode cX12_reckon 67 = .ok (.ireturn, 1))
theorem o311_68 : Okp RX12 cX12_reckon 3 (some .int) "reckon" false 68 (sLI 1 69) := ok_iload_n (by decide +kernel : decode cX12_reckon 68 = .ok (.iload_n 1, 1)) rfl
theorem o311_69 : Okp RX12 cX12_reckon 3 (some .int) "reckon" false 69 (sLI 2 70) := ok_iload_n (by decide +kernel : decode cX12_reckon 69 = .ok (.iload_n 2, 1)) rfl
theorem o311_70 : Okp RX12 cX12_reckon 3 (some .int) "reckon" false 70 (sB2 fMul 71) := ok_imul (by decide +kernel : decode cX12_reckon 70 = .ok (.imul, 1))
theorem o311_71 : Okp RX12 cX12_reckon 3 (some .int) "reckon" false 71 sRI := ok_iret rfl (by decide +kernel : decode cX12_reckon 71 = .ok (.ireturn, 1))
theorem o311_72 : Okp RX12 cX12_reckon 3 (some .int) "reckon" false 72 (sLI 1 73) := ok_iload_n (by decide +kernel : decode cX12_reckon 72 = .ok (.iload_n 1, 1)) rfl
theorem o311_73 : Okp RX12 cX12_reckon 3 (some .int) "reckon" false 73 (sLI 2 74) := ok_iload_n (by decide +kernel : decode cX12_reckon 73 = .ok (.iload_n 2, 1)) rfl
theorem o311_74 : Okp RX12 cX12_reckon 3 (some .int) "reckon" false 74 (sD2 fDiv 75) := ok_idiv (by decide +kernel : decode cX12_reckon 74 = .ok (.idiv, 1))
theorem o311_75 : Okp RX12 cX12_reckon 3 (some .int) "reckon" false 75 sRI := ok_iret rfl (by decide +kernel : decode cX12_reckon 75 = .ok (.ireturn, 1))
theorem o311_76 : Okp RX12 cX12_reckon 3 (some .int) "reckon" false 76 (sLI 1 77) := ok_iload_n (by decide +kernel : decode cX12_reckon 76 = .ok (.iload_n 1, 1)) rfl
theorem o311_77 : Okp RX12 cX12_reckon 3 (some .int) "reckon" false 77 (sLI 2 78) := ok_iload_n (by decide +kernel : decode cX12_reckon 77 = .ok (.iload_n 2, 1)) rfl
theorem o311_78 : Okp RX12 cX12_reckon 3 (some .int) "reckon" false 78 (sD2 fRem 79) := ok_irem (by decide +kernel : decode cX12_reckon 78 = .ok (.irem, 1))
theorem o311_79 : Okp RX12 cX12_reckon 3 (some .int) "reckon" false 79 sRI := ok_iret rfl (by decide +kernel : decode cX12_reckon 79 = .ok (.ireturn, 1))
theorem o311_80 : Okp RX12 cX12_reckon 3 (some .int) "reckon" false 80 (sLI 1 81) := ok_iload_n (by decide +kernel : decode cX12_reckon 80 = .ok (.iload_n 1, 1)) rfl
theorem o311_81 : Okp RX12 cX12_reckon 3 (some .int) "reckon" false 81 (sLI 2 82) := ok_iload_n (by decide +kernel : decode cX12_reckon 81 = .ok (.iload_n 2, 1)) rfl
theorem o311_82 : Okp RX12 cX12_reckon 3 (some .int) "reckon" false 82 (sB2 fAnd 83) := ok_iand (by decide +kernel : decode cX12_reckon 82 = .ok (.iand, 1))
theorem o311_83 : Okp RX12 cX12_reckon 3 (some .int) "reckon" false 83 sRI := ok_iret rfl (by decide +kernel : decode cX12_reckon 83 = .ok (.ireturn, 1))
theorem o311_84 : Okp RX12 cX12_reckon 3 (some .int) "reckon" false 84 (sLI 1 85) := ok_iload_n (by decide +kernel : decode cX12_reckon 84 = .ok (.iload_n 1, 1)) rfl
theorem o311_85 : Okp RX12 cX12_reckon 3 (some .int) "reckon" false 85 (sLI 2 86) := ok_iload_n (by decide +kernel : decode cX12_reckon 85 = .ok (.iload_n 2, 1)) rfl
theorem o311_86 : Okp RX12 cX12_reckon 3 (some .int) "reckon" false 86 (sB2 fOr 87) := ok_ior (by decide +kernel : decode cX12_reckon 86 = .ok (.ior, 1))
theorem o311_87 : Okp RX12 cX12_reckon 3 (some .int) "reckon" false 87 sRI := ok_iret rfl (by decide +kernel : decode cX12_reckon 87 = .ok (.ireturn, 1))
theorem o311_88 : Okp RX12 cX12_reckon 3 (some .int) "reckon" false 88 (sLI 1 89) := ok_iload_n (by decide +kernel : decode cX12_reckon 88 = .ok (.iload_n 1, 1)) rfl
theorem o311_89 : Okp RX12 cX12_reckon 3 (some .int) "reckon" false 89 (sLI 2 90) := ok_iload_n (by decide +kernel : decode cX12_reckon 89 = .ok (.iload_n 2, 1)) rfl
theorem o311_90 : Okp RX12 cX12_reckon 3 (some .int) "reckon" false 90 (sB2 fXor 91) := ok_ixor (by decide +kernel : decode cX12_reckon 90 = .ok (.ixor, 1))
theorem o311_91 : Okp RX12 cX12_reckon 3 (some .int) "reckon" false 91 sRI := ok_iret rfl (by decide +kernel : decode cX12_reckon 91 = .ok (.ireturn, 1))
theorem o311_92 : Okp RX12 cX12_reckon 3 (some .int) "reckon" false 92 (sLI 1 93) := ok_iload_n (by decide +kernel : decode cX12_reckon 92 = .ok (.iload_n 1, 1)) rfl
theorem o311_93 : Okp RX12 cX12_reckon 3 (some .int) "reckon" false 93 (sLI 2 94) := ok_iload_n (by decide +kernel : decode cX12_reckon 93 = .ok (.iload_n 2, 1)) rfl
theorem o311_94 : Okp RX12 cX12_reckon 3 (some .int) "reckon" false 94 (sK 31 96) := ok_bipush (by decide +kernel : decode cX12_reckon 94 = .ok (.bipush 31, 2)) (by decide)
theorem o311_96 : Okp RX12 cX12_reckon 3 (some .int) "reckon" false 96 (sB2 fAnd 97) := ok_iand (by decide +kernel : decode cX12_reckon 96 = .ok (.iand, 1))
theorem o311_97 : Okp RX12 cX12_reckon 3 (some .int) "reckon" false 97 (sB2 fShl 98) := ok_ishl (by decide +kernel : decode cX12_reckon 97 = .ok (.ishl, 1))
theorem o311_98 : Okp RX12 cX12_reckon 3 (some .int) "reckon" false 98 sRI := ok_iret rfl (by decide +kernel : decode cX12_reckon 98 = .ok (.ireturn, 1))
theorem o311_99 : Okp RX12 cX12_reckon 3 (some .int) "reckon" false 99 (sLI 1 100) := ok_iload_n (by decide +kernel : decode cX12_reckon 99 = .ok (.iload_n 1, 1)) rfl
theorem o311_100 : Okp RX12 cX12_reckon 3 (some .int) "reckon" false 100 (sLI 2 101) := ok_iload_n (by decide +kernel : decode cX12_reckon 100 = .ok (.iload_n 2, 1)) rfl
theorem o311_101 : Okp RX12 cX12_reckon 3 (some .int) "reckon" false 101 (sK 31 103) := ok_bipush (by decide +kernel : decode cX12_reckon 101 = .ok (.bipush 31, 2)) (by decide)
theorem o311_103 : Okp RX12 cX12_reckon 3 (some .int) "reckon" false 103 (sB2 fAnd 104) := ok_iand (by decide +kernel : decode cX12_reckon 103 = .ok (.iand, 1))
theorem o311_104 : Okp RX12 cX12_reckon 3 (some .int) "reckon" false 104 (sB2 fShr 105) := ok_ishr (by decide +kernel : decode cX12_reckon 104 = .ok (.ishr, 1))
theorem o311_105 : Okp RX12 cX12_reckon 3 (some .int) "reckon" false 105 sRI := ok_iret rfl (by decide +kernel : decode cX12_reckon 105 = .ok (.ireturn, 1))
theorem o311_106 : Okp RX12 cX12_reckon 3 (some .int) "reckon" false 106 (sLI 1 107) := ok_iload_n (by decide +kernel : decode cX12_reckon 106 = .ok (.iload_n 1, 1)) rfl
theorem o311_107 : Okp RX12 cX12_reckon 3 (some .int) "reckon" false 107 (sLI 2 108) := ok_iload_n (by decide +kernel : decode cX12_reckon 107 = .ok (.iload_n 2, 1)) rfl
theorem o311_108 : Okp RX12 cX12_reckon 3 (some .int) "reckon" false 108 (sI2 3 115 111) := ok_icmp_ge (by decide +kernel : decode cX12_reckon 108 = .ok (.if_icmp .ge 7, 3)) (by decide)
theorem o311_111 : Okp RX12 cX12_reckon 3 (some .int) "reckon" false 111 (sK 1 112) := ok_iconst (by decide +kernel : decode cX12_reckon 111 = .ok (.iconst 1, 1)) (by decide)
theorem o311_112 : Okp RX12 cX12_reckon 3 (some .int) "reckon" false 112 (sGo 116) := ok_goto (by decide +kernel : decode cX12_reckon 112 = .ok (.goto 4, 3)) (by decide)
theorem o311_115 : Okp RX12 cX12_reckon 3 (some .int) "reckon" false 115 (sK 0 116) := ok_iconst (by decide +kernel : decode cX12_reckon 115 = .ok (.iconst 0, 1)) (by decide)
theorem o311_116 : Okp RX12 cX12_reckon 3 (some .int) "reckon" false 116 sRI := ok_iret rfl (by decide +kernel : decode cX12_reckon 116 = .ok (.ireturn, 1))
theorem o311_117 : Okp RX12 cX12_reckon 3 (some .int) "reckon" false 117 (sLI 1 118) := ok_iload_n (by decide +kernel : decode cX12_reckon 117 = .ok (.iload_n 1, 1)) rfl
theorem o311_118 : Okp RX12 cX12_reckon 3 (some .int) "reckon" false 118 (sLI 2 119) := ok_iload_n (by decide +kernel : decode cX12_reckon 118 = .ok (.iload_n 2, 1)) rfl
theorem o311_119 : Okp RX12 cX12_reckon 3 (some .int) "reckon" false 119 (sI2 1 126 122) := ok_icmp_ne (by decide +kernel : decode cX12_reckon 119 = .ok (.if_icmp .ne 7, 3)) (by decide)
theorem o311_122 : Okp RX12 cX12_reckon 3 (some .int) "reckon" false 122 (sK 1 123) := ok_iconst (by decide +kernel : decode cX12_reckon 122 = .ok (.iconst 1, 1)) (by decide)
theorem o311_123 : Okp RX12 cX12_reckon 3 (some .int) "reckon" false 123 (sGo 127) := ok_goto (by decide +kernel : decode cX12_reckon 123 = .ok (.goto 4, 3)) (by decide)
theorem o311_126 : Okp RX12 cX12_reckon 3 (some .int) "reckon" false 126 (sK 0 127) := ok_iconst (by decide +kernel : decode cX12_reckon 126 = .ok (.iconst 0, 1)) (by decide)
theorem o311_127 : Okp RX12 cX12_reckon 3 (some .int) "reckon" false 127 sRI := ok_iret rfl (by decide +kernel : decode cX12_reckon 127 = .ok (.ireturn, 1))
theorem oc311_0 : ∀ pc, Mnp (c311_0 pc) ∧ Okp RX12 cX12_reckon 3 (some .int) "reckon" false pc (c311_0 pc) := by
  intro pc
  unfold c311_0
  split
  · exact ⟨mn_sLI, o311_0⟩
  · exact ⟨mn_sSw, o311_1⟩
  · exact ⟨mn_sX, ok_X⟩
theorem oc311_2 : ∀ pc, Mnp (c311_2 pc) ∧ Okp RX12 cX12_reckon 3 (some .int) "reckon" false pc (c311_2 pc) := by
  intro pc
  unfold c311_2
  split
  · exact ⟨mn_sLI, o311_60⟩
  · exact ⟨mn_sLI, o311_61⟩
  · exact ⟨mn_sB2, o311_62⟩
  · exact ⟨mn_sRI, o311_63⟩
  · exact ⟨mn_sLI, o311_64⟩
  · exact ⟨mn_sLI, o311_65⟩
  · exact ⟨mn_sB2, o311_66⟩
  · exact ⟨mn_sRI, o311_67⟩
  · exact ⟨mn_sLI, o311_68⟩
  · exact ⟨mn_sLI, o311_69⟩
  · exact ⟨mn_sB2, o311_70⟩
  · exact ⟨mn_sRI, o311_71⟩
  · exact ⟨mn_sX, ok_X⟩
theorem oc311_3 : ∀ pc, Mnp (c311_3 pc) ∧ Okp RX12 cX12_reckon 3 (some .int) "reckon" false pc (c311_3 pc) := by
  intro pc
  unfold c311_3
  split
  · exact ⟨mn_sLI, o311_72⟩
  · exact ⟨mn_sLI, o311_73⟩
  · exact ⟨mn_sD2, o311_74⟩
  · exact ⟨mn_sRI, o311_75⟩
  · exact ⟨mn_sLI, o311_76⟩
  · exact ⟨mn_sLI, o311_77⟩
  · exact ⟨mn_sD2, o311_78⟩
  · exact ⟨mn_sRI, o311_79⟩
  · exact ⟨mn_sLI, o311_80⟩
  · exact ⟨mn_sLI, o311_81⟩
  · exact ⟨mn_sB2, o311_82⟩
  · exact ⟨mn_sRI, o311_83⟩
  · exact ⟨mn_sLI, o311_84⟩
  · exact ⟨mn_sLI, o311_85⟩
  · exact ⟨mn_sB2, o311_86⟩
  · exact ⟨mn_sRI, o311_87⟩
  · exact ⟨mn_sLI, o311_88⟩
  · exact ⟨mn_sLI, o311_89⟩
  · exact ⟨mn_sB2, o311_90⟩
  · exact ⟨mn_sRI, o311_91⟩
  · exact ⟨mn_sLI, o311_92⟩
  · exact ⟨mn_sLI, o311_93⟩
  · exact ⟨mn_sK, o311_94⟩
  · exact ⟨mn_sX, ok_X⟩
theorem oc311_4 : ∀ pc, Mnp (c311_4 pc) ∧ Okp RX12 cX12_reckon 3 (some .int) "reckon" false pc (c311_4 pc) := by
  intro pc
  unfold c311_4
  split
  · exact ⟨mn_sB2, o311_96⟩
  · exact ⟨mn_sB2, o311_97⟩
  · exact ⟨mn_sRI, o311_98⟩
  · exact ⟨mn_sLI, o311_99⟩
  · exact ⟨mn_sLI, o311_100⟩
  · exact ⟨mn_sK, o311_101⟩
  · exact ⟨mn_sB2, o311_103⟩
  · exact ⟨mn_sB2, o311_104⟩
  · exact ⟨mn_sRI, o311_105⟩
  · exact ⟨mn_sLI, o311_106⟩
  · exact ⟨mn_sLI, o311_107⟩
  · exact ⟨mn_sI2, o311_108⟩
  · exact ⟨mn_sK, o311_111⟩
  · exact ⟨mn_sGo, o311_112⟩
  · exact ⟨mn_sK, o311_115⟩
  · exact ⟨mn_sRI, o311_116⟩
  · exact ⟨mn_sLI, o311_117⟩
  · exact ⟨mn_sLI, o311_118⟩
  · exact ⟨mn_sI2, o311_119⟩
  · exact ⟨mn_sX, ok_X⟩
theorem oc311_5 : ∀ pc, Mnp (c311_5 pc) ∧ Okp RX12 cX12_reckon 3 (some .int) "reckon" false pc (c311_5 pc) := by
  intro pc
  unfold c311_5
  split
  · exact ⟨mn_sK, o311_122⟩
  · exact ⟨mn_sGo, o311_123⟩
  · exact ⟨mn_sK, o311_126⟩
  · exact ⟨mn_sRI, o311_127⟩
  · exact ⟨mn_sX, ok_X⟩
theorem oc311 : ∀ pc, Mnp (c311 pc) ∧ Okp RX12 cX12_reckon 3 (some .int) "reckon" false pc (c311 pc) := by
  intro pc
  unfold c311
  split
  · exact oc311_0 pc
  · exact oc311_2 pc
  · exact oc311_3 pc
  · exact oc311_4 pc
  · exact oc311_5 pc
  · exact ⟨mn_sX, ok_X⟩
theorem o312_0 : Okp RX12 cX12_withHeap 8 none "withHeap" false 0 (sLR 0 1) := ok_aload_n (by decide +kernel : decode cX12_withHeap 0 = .ok (.aload_n 0, 1)) rfl
theorem o312_1 : Okp RX12 cX12_withHeap 8 none "withHeap" false 1 (sGR 13 61 4) := ok_getR (by decide +kernel : decode cX12_withHeap 1 = .ok (.getfield 143, 3)) fw_X12_143 rfl
theorem o312_4 : Okp RX12 cX12_withHeap 8 none "withHeap" false 4 (sLI 1 5) := ok_iload_n (by decide +kernel : decode cX12_withHeap 4 = .ok (.iload_n 1, 1)) rfl
theorem o312_5 : Okp RX12 cX12_withHeap 8 none "withHeap" false 5 (sIA 6) := ok_iaload (by decide +kernel : decode cX12_withHeap 5 = .ok (.iaload, 1))
theorem o312_6 : Okp RX12 cX12_withHeap 8 none "withHeap" false 6 (sSI 4 8) := ok_istore (by decide +kernel : decode cX12_withHeap 6 = .ok (.istore 4, 2)) (by decide) (by decide)
theorem o312_8 : Okp RX12 cX12_withHeap 8 none "withHeap" false 8 (sLI 2 9) := ok_iload_n (by decide +kernel : decode cX12_withHeap 8 = .ok (.iload_n 2, 1)) rfl
theorem o312_9 : Okp RX12 cX12_withHeap 8 none "withHeap" false 9 (sSw [(20, 68), (21, 77), (22, 94), (23, 205), (24, 260), (25, 306), (26, 306), (27, 377), (28, 422), (29, 484), (30, 536)] 545) := ok_tsw (by decide +kernel : decode cX12_withHeap 9 = .ok (.tableswitch 536 20 30 #[59, 68, 85, 196, 251, 297, 297, 368, 413, 475, 527], 59)) (by decide) (by decide) (by decide)
theorem o312_68 : Okp RX12 cX12_withHeap 8 none "withHeap" false 68 (sLR 0 69) := ok_aload_n (by decide +kernel : decode cX12_withHeap 68 = .ok (.aload_n 0, 1)) rfl
theorem o312_69 : Okp RX12 cX12_withHeap 8 none "withHeap" false 69 (sLI 1 70) := ok_iload_n (by decide +kernel : decode cX12_withHeap 69 = .ok (.iload_n 1, 1)) rfl
theorem o312_70 : Okp RX12 cX12_withHeap 8 none "withHeap" false 70 (sLI 3 71) := ok_iload_n (by decide +kernel : decode cX12_withHeap 70 = .ok (.iload_n 3, 1)) rfl
theorem o312_71 : Okp RX12 cX12_withHeap 8 none "withHeap" false 71 (sCV false 308 3 13 74) := ok_cv (by decide +kernel : decode cX12_withHeap 71 = .ok (.invokevirtual 536, 3)) mw_X12_536 rfl (by decide) wm_X12_goTo wse_X12_goTo (by decide) rfl
theorem o312_74 : Okp RX12 cX12_withHeap 8 none "withHeap" false 74 (sGo 550) := ok_goto (by decide +kernel : decode cX12_withHeap 74 = .ok (.goto 476, 3)) (by decide)
theorem o312_77 : Okp RX12 cX12_withHeap 8 none "withHeap" false 77 (sLR 0 78) := ok_aload_n (by decide +kernel : decode cX12_withHeap 77 = .ok (.aload_n 0, 1)) rfl
theorem o312_78 : Okp RX12 cX12_withHeap 8 none "withHeap" false 78 (sLI 1 79) := ok_iload_n (by decide +kernel : decode cX12_withHeap 78 = .ok (.iload_n 1, 1)) rfl
theorem o312_79 : Okp RX12 cX12_withHeap 8 none "withHeap" false 79 (sCV false 288 2 13 82) := ok_cv (by decide +kernel : decode cX12_withHeap 79 = .ok (.invokevirtual 550, 3)) mw_X12_550 rfl (by decide) wm_X12_popValue wse_X12_popValue (by decide) rfl
theorem o312_82 : Okp RX12 cX12_withHeap 8 none "withHeap" false 82 (sI1 1 550 85) := ok_if_ne (by decide +kernel : decode cX12_withHeap 82 = .ok (.ifCond .ne 468, 3)) (by decide)
theorem o312_85 : Okp RX12 cX12_withHeap 8 none "withHeap" false 85 (sLR 0 86) := ok_aload_n (by decide +kernel : decode cX12_withHeap 85 = .ok (.aload_n 0, 1)) rfl
theorem o312_86 : Okp RX12 cX12_withHeap 8 none "withHeap" false 86 (sLI 1 87) := ok_iload_n (by decide +kernel : decode cX12_withHeap 86 = .ok (.iload_n 1, 1)) rfl
theorem o312_87 : Okp RX12 cX12_withHeap 8 none "withHeap" false 87 (sLI 3 88) := ok_iload_n (by decide +kernel : decode cX12_withHeap 87 = .ok (.iload_n 3, 1)) rfl
theorem o312_88 : Okp RX12 cX12_withHeap 8 none "withHeap" false 88 (sCV false 308 3 13 91) := ok_cv (by decide +kernel : decode cX12_withHeap 88 = .ok (.invokevirtual 536, 3)) mw_X12_536 rfl (by decide) wm_X12_goTo wse_X12_goTo (by decide) rfl
theorem o312_91 : Okp RX12 cX12_withHeap 8 none "withHeap" false 91 (sGo 550) := ok_goto (by decide +kernel : decode cX12_withHeap 91 = .ok (.goto 459, 3)) (by decide)
theorem o312_94 : Okp RX12 cX12_withHeap 8 none "withHeap" false 94 (sLR 0 95) := ok_aload_n (by decide +kernel : decode cX12_withHeap 94 = .ok (.aload_n 0, 1)) rfl
theorem o312_95 : Okp RX12 cX12_withHeap 8 none "withHeap" false 95 (sLI 1 96) := ok_iload_n (by decide +kernel : decode cX12_withHeap 95 = .ok (.iload_n 1, 1)) rfl
theorem o312_96 : Okp RX12 cX12_withHeap 8 none "withHeap" false 96 (sLR 0 97) := ok_aload_n (by decide +kernel : decode cX12_withHeap 96 = .ok (.aload_n 0, 1)) rfl
theorem o312_97 : Okp RX12 cX12_withHeap 8 none "withHeap" false 97 (sGR 13 9 100) := ok_getR (by decide +kernel : decode cX12_withHeap 97 = .ok (.getfield 33, 3)) fw_X12_33 rfl
theorem o312_100 : Okp RX12 cX12_withHeap 8 none "withHeap" false 100 (sK 8 102) := ok_bipush (by decide +kernel : decode cX12_withHeap 100 = .ok (.bipush 8, 2)) (by decide)
theorem o312_102 : Okp RX12 cX12_withHeap 8 none "withHeap" false 102 (sLI 4 104) := ok_iload (by decide +kernel : decode cX12_withHeap 102 = .ok (.iload 4, 2))
theorem o312_104 : Okp RX12 cX12_withHeap 8 none "withHeap" false 104 (sB2 fMul 105) := ok_imul (by decide +kernel : decode cX12_withHeap 104 = .ok (.imul, 1))
theorem o312_105 : Okp RX12 cX12_withHeap 8 none "withHeap" false 105 (sLI 3 106) := ok_iload_n (by decide +kernel : decode cX12_withHeap 105 = .ok (.iload_n 3, 1)) rfl
theorem o312_106 : Okp RX12 cX12_withHeap 8 none "withHeap" false 106 (sB2 fAdd 107) := ok_iadd (by decide +kernel : decode cX12_withHeap 106 = .ok (.iadd, 1))
theorem o312_107 : Okp RX12 cX12_withHeap 8 none "withHeap" false 107 (sIA 108) := ok_iaload (by decide +kernel : decode cX12_withHeap 107 = .ok (.iaload, 1))
theorem o312_108 : Okp RX12 cX12_withHeap 8 none "withHeap" false 108 (sI2L 109) := ok_i2l (by decide +kernel : decode cX12_withHeap 108 = .ok (.i2l, 1))
theorem o312_109 : Okp RX12 cX12_withHeap 8 none "withHeap" false 109 (sK 0 110) := ok_iconst (by decide +kernel : decode cX12_withHeap 109 = .ok (.iconst 0, 1)) (by decide)
theorem o312_110 : Okp RX12 cX12_withHeap 8 none "withHeap" false 110 (sCL 291 13 113) := ok_cl rfl (by decide +kernel : decode cX12_withHeap 110 = .ok (.invokevirtual 558, 3)) mw_X12_558 rfl (by decide) wm_X12_make wse_X12_make rfl
theorem o312_113 : Okp RX12 cX12_withHeap 8 none "withHeap" false 113 (sSI 5 115) := ok_istore (by decide +kernel : decode cX12_withHeap 113 = .ok (.istore 5, 2)) (by decide) (by decide)
theorem o312_115 : Okp RX12 cX12_withHeap 8 none "withHeap" false 115 (sLI 5 117) := ok_iload (by decide +kernel : decode cX12_withHeap 115 = .ok (.iload 5, 2))
theorem o312_117 : Okp RX12 cX12_withHeap 8 none "withHeap" false 117 (sI1 1 129 120) := ok_if_ne (by decide +kernel : decode cX12_withHeap 117 = .ok (.ifCond .ne 12, 3)) (by decide)
theorem o312_120 : Okp RX12 cX12_withHeap 8 none "withHeap" false 120 (sLR 0 121) := ok_aload_n (by decide +kernel : decode cX12_withHeap 120 = .ok (.aload_n 0, 1)) rfl
theorem o312_121 : Okp RX12 cX12_withHeap 8 none "withHeap" false 121 (sLI 1 122) := ok_iload_n (by decide +kernel : decode cX12_withHeap 121 = .ok (.iload_n 1, 1)) rfl
theorem o312_122 : Okp RX12 cX12_withHeap 8 none "withHeap" false 122 (sK 5 123) := ok_iconst (by decide +kernel : decode cX12_withHeap 122 = .ok (.iconst 5, 1)) (by decide)
theorem o312_123 : Okp RX12 cX12_withHeap 8 none "withHeap" false 123 (sCV false 307 3 13 126) := ok_cv (by decide +kernel : decode cX12_withHeap 123 = .ok (.invokevirtual 553, 3)) mw_X12_553 rfl (by decide) wm_X12_trap wse_X12_trap (by decide) rfl
theorem o312_126 : Okp RX12 cX12_withHeap 8 none "withHeap" false 126 (sGo 550) := ok_goto (by decide +kernel : decode cX12_withHeap 126 = .ok (.goto 424, 3)) (by decide)
theorem o312_129 : Okp RX12 cX12_withHeap 8 none "withHeap" false 129 (sK 0 130) := ok_iconst (by decide +kernel : decode cX12_withHeap 129 = .ok (.iconst 0, 1)) (by decide)
theorem o312_130 : Okp RX12 cX12_withHeap 8 none "withHeap" false 130 (sSI 7 132) := ok_istore (by decide +kernel : decode cX12_withHeap 130 = .ok (.istore 7, 2)) (by decide) (by decide)
theorem o312_132 : Okp RX12 cX12_withHeap 8 none "withHeap" false 132 (sLI 7 134) := ok_iload (by decide +kernel : decode cX12_withHeap 132 = .ok (.iload 7, 2))
theorem o312_134 : Okp RX12 cX12_withHeap 8 none "withHeap" false 134 (sLR 0 135) := ok_aload_n (by decide +kernel : decode cX12_withHeap 134 = .ok (.aload_n 0, 1)) rfl
theorem o312_135 : Okp RX12 cX12_withHeap 8 none "withHeap" false 135 (sGR 13 9 138) := ok_getR (by decide +kernel : decode cX12_withHeap 135 = .ok (.getfield 33, 3)) fw_X12_33 rfl
theorem o312_138 : Okp RX12 cX12_withHeap 8 none "withHeap" false 138 (sK 8 140) := ok_bipush (by decide +kernel : decode cX12_withHeap 138 = .ok (.bipush 8, 2)) (by decide)
theorem o312_140 : Okp RX12 cX12_withHeap 8 none "withHeap" false 140 (sLI 4 142) := ok_iload (by decide +kernel : decode cX12_withHeap 140 = .ok (.iload 4, 2))
theorem o312_142 : Okp RX12 cX12_withHeap 8 none "withHeap" false 142 (sB2 fMul 143) := ok_imul (by decide +kernel : decode cX12_withHeap 142 = .ok (.imul, 1))
theorem o312_143 : Okp RX12 cX12_withHeap 8 none "withHeap" false 143 (sLI 3 144) := ok_iload_n (by decide +kernel : decode cX12_withHeap 143 = .ok (.iload_n 3, 1)) rfl
theorem o312_144 : Okp RX12 cX12_withHeap 8 none "withHeap" false 144 (sB2 fAdd 145) := ok_iadd (by decide +kernel : decode cX12_withHeap 144 = .ok (.iadd, 1))
theorem o312_145 : Okp RX12 cX12_withHeap 8 none "withHeap" false 145 (sIA 146) := ok_iaload (by decide +kernel : decode cX12_withHeap 145 = .ok (.iaload, 1))
theorem o312_146 : Okp RX12 cX12_withHeap 8 none "withHeap" false 146 (sI2 3 194 149) := ok_icmp_ge (by decide +kernel : decode cX12_withHeap 146 = .ok (.if_icmp .ge 48, 3)) (by decide)
theorem o312_149 : Okp RX12 cX12_withHeap 8 none "withHeap" false 149 (sLR 0 150) := ok_aload_n (by decide +kernel : decode cX12_withHeap 149 = .ok (.aload_n 0, 1)) rfl
theorem o312_150 : Okp RX12 cX12_withHeap 8 none "withHeap" false 150 (sGR 13 10 153) := ok_getR (by decide +kernel : decode cX12_withHeap 150 = .ok (.getfield 36, 3)) fw_X12_36 rfl
theorem o312_153 : Okp RX12 cX12_withHeap 8 none "withHeap" false 153 (sK 48 155) := ok_bipush (by decide +kernel : decode cX12_withHeap 153 = .ok (.bipush 48, 2)) (by decide)
theorem o312_155 : Okp RX12 cX12_withHeap 8 none "withHeap" false 155 (sLI 4 157) := ok_iload (by decide +kernel : decode cX12_withHeap 155 = .ok (.iload 4, 2))
theorem o312_157 : Okp RX12 cX12_withHeap 8 none "withHeap" false 157 (sB2 fMul 158) := ok_imul (by decide +kernel : decode cX12_withHeap 157 = .ok (.imul, 1))
theorem o312_158 : Okp RX12 cX12_withHeap 8 none "withHeap" false 158 (sK 6 160) := ok_bipush (by decide +kernel : decode cX12_withHeap 158 = .ok (.bipush 6, 2)) (by decide)
theorem o312_160 : Okp RX12 cX12_withHeap 8 none "withHeap" false 160 (sLI 3 161) := ok_iload_n (by decide +kernel : decode cX12_withHeap 160 = .ok (.iload_n 3, 1)) rfl
theorem o312_161 : Okp RX12 cX12_withHeap 8 none "withHeap" false 161 (sB2 fMul 162) := ok_imul (by decide +kernel : decode cX12_withHeap 161 = .ok (.imul, 1))
theorem o312_162 : Okp RX12 cX12_withHeap 8 none "withHeap" false 162 (sB2 fAdd 163) := ok_iadd (by decide +kernel : decode cX12_withHeap 162 = .ok (.iadd, 1))
theorem o312_163 : Okp RX12 cX12_withHeap 8 none "withHeap" false 163 (sLI 7 165) := ok_iload (by decide +kernel : decode cX12_withHeap 163 = .ok (.iload 7, 2))
theorem o312_165 : Okp RX12 cX12_withHeap 8 none "withHeap" false 165 (sB2 fAdd 166) := ok_iadd (by decide +kernel : decode cX12_withHeap 165 = .ok (.iadd, 1))
theorem o312_166 : Okp RX12 cX12_withHeap 8 none "withHeap" false 166 (sIA 167) := ok_iaload (by decide +kernel : decode cX12_withHeap 166 = .ok (.iaload, 1))
theorem o312_167 : Okp RX12 cX12_withHeap 8 none "withHeap" false 167 (sCS false 229 1 170) := ok_cs (by decide +kernel : decode cX12_withHeap 167 = .ok (.invokestatic 336, 3)) mw_X12_336 wt_X12_isHeap (by decide) rfl
theorem o312_170 : Okp RX12 cX12_withHeap 8 none "withHeap" false 170 (sI1 0 188 173) := ok_if_eq (by decide +kernel : decode cX12_withHeap 170 = .ok (.ifCond .eq 18, 3)) (by decide)
theorem o312_173 : Okp RX12 cX12_withHeap 8 none "withHeap" false 173 (sLR 0 174) := ok_aload_n (by decide +kernel : decode cX12_withHeap 173 = .ok (.aload_n 0, 1)) rfl
theorem o312_174 : Okp RX12 cX12_withHeap 8 none "withHeap" false 174 (sGR 13 74 177) := ok_getR (by decide +kernel : decode cX12_withHeap 174 = .ok (.getfield 182, 3)) fw_X12_182 rfl
theorem o312_177 : Okp RX12 cX12_withHeap 8 none "withHeap" false 177 (sLR 0 178) := ok_aload_n (by decide +kernel : decode cX12_withHeap 177 = .ok (.aload_n 0, 1)) rfl
theorem o312_178 : Okp RX12 cX12_withHeap 8 none "withHeap" false 178 (sLI 1 179) := ok_iload_n (by decide +kernel : decode cX12_withHeap 178 = .ok (.iload_n 1, 1)) rfl
theorem o312_179 : Okp RX12 cX12_withHeap 8 none "withHeap" false 179 (sLI 5 181) := ok_iload (by decide +kernel : decode cX12_withHeap 179 = .ok (.iload 5, 2))
theorem o312_181 : Okp RX12 cX12_withHeap 8 none "withHeap" false 181 (sLI 7 183) := ok_iload (by decide +kernel : decode cX12_withHeap 181 = .ok (.iload 7, 2))
theorem o312_183 : Okp RX12 cX12_withHeap 8 none "withHeap" false 183 (sCV false 292 4 13 186) := ok_cv (by decide +kernel : decode cX12_withHeap 183 = .ok (.invokevirtual 562, 3)) mw_X12_562 rfl (by decide) wm_X12_cell wse_X12_cell (by decide) rfl
theorem o312_186 : Okp RX12 cX12_withHeap 8 none "withHeap" false 186 (sK 1 187) := ok_iconst (by decide +kernel : decode cX12_withHeap 186 = .ok (.iconst 1, 1)) (by decide)
theorem o312_187 : Okp RX12 cX12_withHeap 8 none "withHeap" false 187 (sIS 188) := ok_iastore (by decide +kernel : decode cX12_withHeap 187 = .ok (.iastore, 1))
theorem o312_188 : Okp RX12 cX12_withHeap 8 none "withHeap" false 188 (sInc 7 1 191) := ok_iinc (by decide +kernel : decode cX12_withHeap 188 = .ok (.iinc 7 1, 3)) (by decide) (by decide)
theorem o312_191 : Okp RX12 cX12_withHeap 8 none "withHeap" false 191 (sGo 132) := ok_goto (by decide +kernel : decode cX12_withHeap 191 = .ok (.goto (-59), 3)) (by decide)
theorem o312_194 : Okp RX12 cX12_withHeap 8 none "withHeap" false 194 (sLR 0 195) := ok_aload_n (by decide +kernel : decode cX12_withHeap 194 = .ok (.aload_n 0, 1)) rfl
theorem o312_195 : Okp RX12 cX12_withHeap 8 none "withHeap" false 195 (sLI 1 196) := ok_iload_n (by decide +kernel : decode cX12_withHeap 195 = .ok (.iload_n 1, 1)) rfl
theorem o312_196 : Okp RX12 cX12_withHeap 8 none "withHeap" false 196 (sLI 5 198) := ok_iload (by decide +kernel : decode cX12_withHeap 196 = .ok (.iload 5, 2))
theorem o312_198 : Okp RX12 cX12_withHeap 8 none "withHeap" false 198 (sK 1 199) := ok_iconst (by decide +kernel : decode cX12_withHeap 198 = .ok (.iconst 1, 1)) (by decide)
theorem o312_199 : Okp RX12 cX12_withHeap 8 none "withHeap" false 199 (sCV false 286 4 13 202) := ok_cv (by decide +kernel : decode cX12_withHeap 199 = .ok (.invokevirtual 548, 3)) mw_X12_548 rfl (by decide) wm_X12_push_ wse_X12_push_ (by decide) rfl
theorem o312_202 : Okp RX12 cX12_withHeap 8 none "withHeap" false 202 (sGo 550) := ok_goto (by decide +kernel : decode cX12_withHeap 202 = .ok (.goto 348, 3)) (by decide)
theorem o312_205 : Okp RX12 cX12_withHeap 8 none "withHeap" false 205 (sLR 0 206) := ok_aload_n (by decide +kernel : decode cX12_withHeap 205 = .ok (.aload_n 0, 1)) rfl
theorem o312_206 : Okp RX12 cX12_withHeap 8 none "withHeap" false 206 (sLI 1 207) := ok_iload_n (by decide +kernel : decode cX12_withHeap 206 = .ok (.iload_n 1, 1)) rfl
theorem o312_207 : Okp RX12 cX12_withHeap 8 none "withHeap" false 207 (sCV false 288 2 13 210) := ok_cv (by decide +kernel : decode cX12_withHeap 207 = .ok (.invokevirtual 550, 3)) mw_X12_550 rfl (by decide) wm_X12_popValue wse_X12_popValue (by decide) rfl
theorem o312_210 : Okp RX12 cX12_withHeap 8 none "withHeap" false 210 (sSI 5 212) := ok_istore (by decide +kernel : decode cX12_withHeap 210 = .ok (.istore 5, 2)) (by decide) (by decide)
theorem o312_212 : Okp RX12 cX12_withHeap 8 none "withHeap" false 212 (sLI 5 214) := ok_iload (by decide +kernel : decode cX12_withHeap 212 = .ok (.iload 5, 2))
theorem o312_214 : Okp RX12 cX12_withHeap 8 none "withHeap" false 214 (sI1 1 226 217) := ok_if_ne (by decide +kernel : decode cX12_withHeap 214 = .ok (.ifCond .ne 12, 3)) (by decide)
theorem o312_217 : Okp RX12 cX12_withHeap 8 none "withHeap" false 217 (sLR 0 218) := ok_aload_n (by decide +kernel : decode cX12_withHeap 217 = .ok (.aload_n 0, 1)) rfl
theorem o312_218 : Okp RX12 cX12_withHeap 8 none "withHeap" false 218 (sLI 1 219) := ok_iload_n (by decide +kernel : decode cX12_withHeap 218 = .ok (.iload_n 1, 1)) rfl
theorem o312_219 : Okp RX12 cX12_withHeap 8 none "withHeap" false 219 (sK 1 220) := ok_iconst (by decide +kernel : decode cX12_withHeap 219 = .ok (.iconst 1, 1)) (by decide)
theorem o312_220 : Okp RX12 cX12_withHeap 8 none "withHeap" false 220 (sCV false 307 3 13 223) := ok_cv (by decide +kernel : decode cX12_withHeap 220 = .ok (.invokevirtual 553, 3)) mw_X12_553 rfl (by decide) wm_X12_trap wse_X12_trap (by decide) rfl
theorem o312_223 : Okp RX12 cX12_withHeap 8 none "withHeap" false 223 (sGo 550) := ok_goto (by decide +kernel : decode cX12_withHeap 223 = .ok (.goto 327, 3)) (by decide)
theorem o312_226 : Okp RX12 cX12_withHeap 8 none "withHeap" false 226 (sLR 0 227) := ok_aload_n (by decide +kernel : decode cX12_withHeap 226 = .ok (.aload_n 0, 1)) rfl
theorem o312_227 : Okp RX12 cX12_withHeap 8 none "withHeap" false 227 (sLI 1 228) := ok_iload_n (by decide +kernel : decode cX12_withHeap 227 = .ok (.iload_n 1, 1)) rfl
theorem o312_228 : Okp RX12 cX12_withHeap 8 none "withHeap" false 228 (sLR 0 229) := ok_aload_n (by decide +kernel : decode cX12_withHeap 228 = .ok (.aload_n 0, 1)) rfl
theorem o312_229 : Okp RX12 cX12_withHeap 8 none "withHeap" false 229 (sGR 13 73 232) := ok_getR (by decide +kernel : decode cX12_withHeap 229 = .ok (.getfield 179, 3)) fw_X12_179 rfl
theorem o312_232 : Okp RX12 cX12_withHeap 8 none "withHeap" false 232 (sLR 0 233) := ok_aload_n (by decide +kernel : decode cX12_withHeap 232 = .ok (.aload_n 0, 1)) rfl
theorem o312_233 : Okp RX12 cX12_withHeap 8 none "withHeap" false 233 (sLI 1 234) := ok_iload_n (by decide +kernel : decode cX12_withHeap 233 = .ok (.iload_n 1, 1)) rfl
theorem o312_234 : Okp RX12 cX12_withHeap 8 none "withHeap" false 234 (sLI 5 236) := ok_iload (by decide +kernel : decode cX12_withHeap 234 = .ok (.iload 5, 2))
theorem o312_236 : Okp RX12 cX12_withHeap 8 none "withHeap" false 236 (sLI 3 237) := ok_iload_n (by decide +kernel : decode cX12_withHeap 236 = .ok (.iload_n 3, 1)) rfl
theorem o312_237 : Okp RX12 cX12_withHeap 8 none "withHeap" false 237 (sCV false 292 4 13 240) := ok_cv (by decide +kernel : decode cX12_withHeap 237 = .ok (.invokevirtual 562, 3)) mw_X12_562 rfl (by decide) wm_X12_cell wse_X12_cell (by decide) rfl
theorem o312_240 : Okp RX12 cX12_withHeap 8 none "withHeap" false 240 (sIA 241) := ok_iaload (by decide +kernel : decode cX12_withHeap 240 = .ok (.iaload, 1))
theorem o312_241 : Okp RX12 cX12_withHeap 8 none "withHeap" false 241 (sLR 0 242) := ok_aload_n (by decide +kernel : decode cX12_withHeap 241 = .ok (.aload_n 0, 1)) rfl
theorem o312_242 : Okp RX12 cX12_withHeap 8 none "withHeap" false 242 (sGR 13 74 245) := ok_getR (by decide +kernel : decode cX12_withHeap 242 = .ok (.getfield 182, 3)) fw_X12_182 rfl
theorem o312_245 : Okp RX12 cX12_withHeap 8 none "withHeap" false 245 (sLR 0 246) := ok_aload_n (by decide +kernel : decode cX12_withHeap 245 = .ok (.aload_n 0, 1)) rfl
theorem o312_246 : Okp RX12 cX12_withHeap 8 none "withHeap" false 246 (sLI 1 247) := ok_iload_n (by decide +kernel : decode cX12_withHeap 246 = .ok (.iload_n 1, 1)) rfl
theorem o312_247 : Okp RX12 cX12_withHeap 8 none "withHeap" false 247 (sLI 5 249) := ok_iload (by decide +kernel : decode cX12_withHeap 247 = .ok (.iload 5, 2))
theorem o312_249 : Okp RX12 cX12_withHeap 8 none "withHeap" false 249 (sLI 3 250) := ok_iload_n (by decide +kernel : decode cX12_withHeap 249 = .ok (.iload_n 3, 1)) rfl
theorem o312_250 : Okp RX12 cX12_withHeap 8 none "withHeap" false 250 (sCV false 292 4 13 253) := ok_cv (by decide +kernel : decode cX12_withHeap 250 = .ok (.invokevirtual 562, 3)) mw_X12_562 rfl (by decide) wm_X12_cell wse_X12_cell (by decide) rfl
theorem o312_253 : Okp RX12 cX12_withHeap 8 none "withHeap" false 253 (sIA 254) := ok_iaload (by decide +kernel : decode cX12_withHeap 253 = .ok (.iaload, 1))
theorem o312_254 : Okp RX12 cX12_withHeap 8 none "withHeap" false 254 (sCV false 286 4 13 257) := ok_cv (by decide +kernel : decode cX12_withHeap 254 = .ok (.invokevirtual 548, 3)) mw_X12_548 rfl (by decide) wm_X12_push_ wse_X12_push_ (by decide) rfl
theorem o312_257 : Okp RX12 cX12_withHeap 8 none "withHeap" false 257 (sGo 550) := ok_goto (by decide +kernel : decode cX12_withHeap 257 = .ok (.goto 293, 3)) (by decide)
theorem o312_260 : Okp RX12 cX12_withHeap 8 none "withHeap" false 260 (sLR 0 261) := ok_aload_n (by decide +kernel : decode cX12_withHeap 260 = .ok (.aload_n 0, 1)) rfl
theorem o312_261 : Okp RX12 cX12_withHeap 8 none "withHeap" false 261 (sLI 1 262) := ok_iload_n (by decide +kernel : decode cX12_withHeap 261 = .ok (.iload_n 1, 1)) rfl
theorem o312_262 : Okp RX12 cX12_withHeap 8 none "withHeap" false 262 (sCV false 288 2 13 265) := ok_cv (by decide +kernel : decode cX12_withHeap 262 = .ok (.invokevirtual 550, 3)) mw_X12_550 rfl (by decide) wm_X12_popValue wse_X12_popValue (by decide) rfl
theorem o312_265 : Okp RX12 cX12_withHeap 8 none "withHeap" false 265 (sSI 6 267) := ok_istore (by decide +kernel : decode cX12_withHeap 265 = .ok (.istore 6, 2)) (by decide) (by decide)
theorem o312_267 : Okp RX12 cX12_withHeap 8 none "withHeap" false 267 (sLR 0 268) := ok_aload_n (by decide +kernel : decode cX12_withHeap 267 = .ok (.aload_n 0, 1)) rfl
theorem o312_268 : Okp RX12 cX12_withHeap 8 none "withHeap" false 268 (sLI 1 269) := ok_iload_n (by decide +kernel : decode cX12_withHeap 268 = .ok (.iload_n 1, 1)) rfl
theorem o312_269 : Okp RX12 cX12_withHeap 8 none "withHeap" false 269 (sCV false 288 2 13 272) := ok_cv (by decide +kernel : decode cX12_withHeap 269 = .ok (.invokevirtual 550, 3)) mw_X12_550 rfl (by decide) wm_X12_popValue wse_X12_popValue (by decide) rfl
theorem o312_272 : Okp RX12 cX12_withHeap 8 none "withHeap" false 272 (sSI 5 274) := ok_istore (by decide +kernel : decode cX12_withHeap 272 = .ok (.istore 5, 2)) (by decide) (by decide)
theorem o312_274 : Okp RX12 cX12_withHeap 8 none "withHeap" false 274 (sLI 5 276) := ok_iload (by decide +kernel : decode cX12_withHeap 274 = .ok (.iload 5, 2))
theorem o312_276 : Okp RX12 cX12_withHeap 8 none "withHeap" false 276 (sI1 1 288 279) := ok_if_ne (by decide +kernel : decode cX12_withHeap 276 = .ok (.ifCond .ne 12, 3)) (by decide)
theorem o312_279 : Okp RX12 cX12_withHeap 8 none "withHeap" false 279 (sLR 0 280) := ok_aload_n (by decide +kernel : decode cX12_withHeap 279 = .ok (.aload_n 0, 1)) rfl
theorem o312_280 : Okp RX12 cX12_withHeap 8 none "withHeap" false 280 (sLI 1 281) := ok_iload_n (by decide +kernel : decode cX12_withHeap 280 = .ok (.iload_n 1, 1)) rfl
theorem o312_281 : Okp RX12 cX12_withHeap 8 none "withHeap" false 281 (sK 1 282) := ok_iconst (by decide +kernel : decode cX12_withHeap 281 = .ok (.iconst 1, 1)) (by decide)
theorem o312_282 : Okp RX12 cX12_withHeap 8 none "withHeap" false 282 (sCV false 307 3 13 285) := ok_cv (by decide +kernel : decode cX12_withHeap 282 = .ok (.invokevirtual 553, 3)) mw_X12_553 rfl (by decide) wm_X12_trap wse_X12_trap (by decide) rfl
theorem o312_285 : Okp RX12 cX12_withHeap 8 none "withHeap" false 285 (sGo 550) := ok_goto (by decide +kernel : decode cX12_withHeap 285 = .ok (.goto 265, 3)) (by decide)
theorem o312_288 : Okp RX12 cX12_withHeap 8 none "withHeap" false 288 (sLR 0 289) := ok_aload_n (by decide +kernel : decode cX12_withHeap 288 = .ok (.aload_n 0, 1)) rfl
theorem o312_289 : Okp RX12 cX12_withHeap 8 none "withHeap" false 289 (sGR 13 73 292) := ok_getR (by decide +kernel : decode cX12_withHeap 289 = .ok (.getfield 179, 3)) fw_X12_179 rfl
theorem o312_292 : Okp RX12 cX12_withHeap 8 none "withHeap" false 292 (sLR 0 293) := ok_aload_n (by decide +kernel : decode cX12_withHeap 292 = .ok (.aload_n 0, 1)) rfl
theorem o312_293 : Okp RX12 cX12_withHeap 8 none "withHeap" false 293 (sLI 1 294) := ok_iload_n (by decide +kernel : decode cX12_withHeap 293 = .ok (.iload_n 1, 1)) rfl
theorem o312_294 : Okp RX12 cX12_withHeap 8 none "withHeap" false 294 (sLI 5 296) := ok_iload (by decide +kernel : decode cX12_withHeap 294 = .ok (.iload 5, 2))
theorem o312_296 : Okp RX12 cX12_withHeap 8 none "withHeap" false 296 (sLI 3 297) := ok_iload_n (by decide +kernel : decode cX12_withHeap 296 = .ok (.iload_n 3, 1)) rfl
theorem o312_297 : Okp RX12 cX12_withHeap 8 none "withHeap" false 297 (sCV false 292 4 13 300) := ok_cv (by decide +kernel : decode cX12_withHeap 297 = .ok (.invokevirtual 562, 3)) mw_X12_562 rfl (by decide) wm_X12_cell wse_X12_cell (by decide) rfl
theorem o312_300 : Okp RX12 cX12_withHeap 8 none "withHeap" false 300 (sLI 6 302) := ok_iload (by decide +kernel : decode cX12_withHeap 300 = .ok (.iload 6, 2))
theorem o312_302 : Okp RX12 cX12_withHeap 8 none "withHeap" false 302 (sIS 303) := ok_iastore (by decide +kernel : decode cX12_withHeap 302 = .ok (.iastore, 1))
theorem o312_303 : Okp RX12 cX12_withHeap 8 none "withHeap" false 303 (sGo 550) := ok_goto (by decide +kernel : decode cX12_withHeap 303 = .ok (.goto 247, 3)) (by decide)
theorem o312_306 : Okp RX12 cX12_withHeap 8 none "withHeap" false 306 (sLR 0 307) := ok_aload_n (by decide +kernel : decode cX12_withHeap 306 = .ok (.aload_n 0, 1)) rfl
theorem o312_307 : Okp RX12 cX12_withHeap 8 none "withHeap" false 307 (sLI 1 308) := ok_iload_n (by decide +kernel : decode cX12_withHeap 307 = .ok (.iload_n 1, 1)) rfl
theorem o312_308 : Okp RX12 cX12_withHeap 8 none "withHeap" false 308 (sCV false 288 2 13 311) := ok_cv (by decide +kernel : decode cX12_withHeap 308 = .ok (.invokevirtual 550, 3)) mw_X12_550 rfl (by decide) wm_X12_popValue wse_X12_popValue (by decide) rfl
theorem o312_311 : Okp RX12 cX12_withHeap 8 none "withHeap" false 311 (sSI 6 313) := ok_istore (by decide +kernel : decode cX12_withHeap 311 = .ok (.istore 6, 2)) (by decide) (by decide)
theorem o312_313 : Okp RX12 cX12_withHeap 8 none "withHeap" false 313 (sLI 6 315) := ok_iload (by decide +kernel : decode cX12_withHeap 313 = .ok (.iload 6, 2))
theorem o312_315 : Okp RX12 cX12_withHeap 8 none "withHeap" false 315 (sI1 3 322 318) := ok_if_ge (by decide +kernel : decode cX12_withHeap 315 = .ok (.ifCond .ge 7, 3)) (by decide)
theorem o312_318 : Okp RX12 cX12_withHeap 8 none "withHeap" false 318 (sK 0 319) := ok_iconst (by decide +kernel : decode cX12_withHeap 318 = .ok (.iconst 0, 1)) (by decide)
theorem o312_319 : Okp RX12 cX12_withHeap 8 none "withHeap" false 319 (sGo 341) := ok_goto (by decide +kernel : decode cX12_withHeap 319 = .ok (.goto 22, 3)) (by decide)
theorem o312_322 : Okp RX12 cX12_withHeap 8 none "withHeap" false 322 (sLR 0 323) := ok_aload_n (by decide +kernel : decode cX12_withHeap 322 = .ok (.aload_n 0, 1)) rfl
theorem o312_323 : Okp RX12 cX12_withHeap 8 none "withHeap" false 323 (sLI 1 324) := ok_iload_n (by decide +kernel : decode cX12_withHeap 323 = .ok (.iload_n 1, 1)) rfl
theorem o312_324 : Okp RX12 cX12_withHeap 8 none "withHeap" false 324 (sLI 6 326) := ok_iload (by decide +kernel : decode cX12_withHeap 324 = .ok (.iload 6, 2))
theorem o312_326 : Okp RX12 cX12_withHeap 8 none "withHeap" false 326 (sI2L 327) := ok_i2l (by decide +kernel : decode cX12_withHeap 326 = .ok (.i2l, 1))
theorem o312_327 : Okp RX12 cX12_withHeap 8 none "withHeap" false 327 (sLI 2 328) := ok_iload_n (by decide +kernel : decode cX12_withHeap 327 = .ok (.iload_n 2, 1)) rfl
theorem o312_328 : Okp RX12 cX12_withHeap 8 none "withHeap" false 328 (sK 25 330) := ok_bipush (by decide +kernel : decode cX12_withHeap 328 = .ok (.bipush 25, 2)) (by decide)
theorem o312_330 : Okp RX12 cX12_withHeap 8 none "withHeap" false 330 (sI2 1 337 333) := ok_icmp_ne (by decide +kernel : decode cX12_withHeap 330 = .ok (.if_icmp .ne 7, 3)) (by decide)
theorem o312_333 : Okp RX12 cX12_withHeap 8 none "withHeap" false 333 (sK 0 334) := ok_iconst (by decide +kernel : decode cX12_withHeap 333 = .ok (.iconst 0, 1)) (by decide)
theorem o312_334 : Okp RX12 cX12_withHeap 8 none "withHeap" false 334 (sGo 338) := ok_goto (by decide +kernel : decode cX12_withHeap 334 = .ok (.goto 4, 3)) (by decide)
theorem o312_337 : Okp RX12 cX12_withHeap 8 none "withHeap" false 337 (sK 1 338) := ok_iconst (by decide +kernel : decode cX12_withHeap 337 = .ok (.iconst 1, 1)) (by decide)
theorem o312_338 : Okp RX12 cX12_withHeap 8 none "withHeap" false 338 (sCL 291 13 341) := ok_cl rfl (by decide +kernel : decode cX12_withHeap 338 = .ok (.invokevirtual 558, 3)) mw_X12_558 rfl (by decide) wm_X12_make wse_X12_make rfl
theorem o312_341 : Okp RX12 cX12_withHeap 8 none "withHeap" false 341 (sSI 5 343) := ok_istore (by decide +kernel : decode cX12_withHeap 341 = .ok (.istore 5, 2)) (by decide) (by decide)
theorem o312_343 : Okp RX12 cX12_withHeap 8 none "withHeap" false 343 (sLI 5 345) := ok_iload (by decide +kernel : decode cX12_withHeap 343 = .ok (.iload 5, 2))
theorem o312_345 : Okp RX12 cX12_withHeap 8 none "withHeap" false 345 (sI1 1 366 348) := ok_if_ne (by decide +kernel : decode cX12_withHeap 345 = .ok (.ifCond .ne 21, 3)) (by decide)
theorem o312_348 : Okp RX12 cX12_withHeap 8 none "withHeap" false 348 (sLR 0 349) := ok_aload_n (by decide +kernel : decode cX12_withHeap 348 = .ok (.aload_n 0, 1)) rfl
theorem o312_349 : Okp RX12 cX12_withHeap 8 none "withHeap" false 349 (sLI 1 350) := ok_iload_n (by decide +kernel : decode cX12_withHeap 349 = .ok (.iload_n 1, 1)) rfl
theorem o312_350 : Okp RX12 cX12_withHeap 8 none "withHeap" false 350 (sLI 6 352) := ok_iload (by decide +kernel : decode cX12_withHeap 350 = .ok (.iload 6, 2))
theorem o312_352 : Okp RX12 cX12_withHeap 8 none "withHeap" false 352 (sI1 3 359 355) := ok_if_ge (by decide +kernel : decode cX12_withHeap 352 = .ok (.ifCond .ge 7, 3)) (by decide)
theorem o312_355 : Okp RX12 cX12_withHeap 8 none "withHeap" false 355 (sK 4 356) := ok_iconst (by decide +kernel : decode cX12_withHeap 355 = .ok (.iconst 4, 1)) (by decide)
theorem o312_356 : Okp RX12 cX12_withHeap 8 none "withHeap" false 356 (sGo 360) := ok_goto (by decide +kernel : decode cX12_withHeap 356 = .ok (.goto 4, 3)) (by decide)
theorem o312_359 : Okp RX12 cX12_withHeap 8 none "withHeap" false 359 (sK 5 360) := ok_iconst (by decide +kernel : decode cX12_withHeap 359 = .ok (.iconst 5, 1)) (by decide)
theorem o312_360 : Okp RX12 cX12_withHeap 8 none "withHeap" false 360 (sCV false 307 3 13 363) := ok_cv (by decide +kernel : decode cX12_withHeap 360 = .ok (.invokevirtual 553, 3)) mw_X12_553 rfl (by decide) wm_X12_trap wse_X12_trap (by decide) rfl
theorem o312_363 : Okp RX12 cX12_withHeap 8 none "withHeap" false 363 (sGo 550) := ok_goto (by decide +kernel : decode cX12_withHeap 363 = .ok (.goto 187, 3)) (by decide)
theorem o312_366 : Okp RX12 cX12_withHeap 8 none "withHeap" false 366 (sLR 0 367) := ok_aload_n (by decide +kernel : decode cX12_withHeap 366 = .ok (.aload_n 0, 1)) rfl
theorem o312_367 : Okp RX12 cX12_withHeap 8 none "withHeap" false 367 (sLI 1 368) := ok_iload_n (by decide +kernel : decode cX12_withHeap 367 = .ok (.iload_n 1, 1)) rfl
theorem o312_368 : Okp RX12 cX12_withHeap 8 none "withHeap" false 368 (sLI 5 370) := ok_iload (by decide +kernel : decode cX12_withHeap 368 = .ok (.iload 5, 2))
theorem o312_370 : Okp RX12 cX12_withHeap 8 none "withHeap" false 370 (sK 1 371) := ok_iconst (by decide +kernel : decode cX12_withHeap 370 = .ok (.iconst 1, 1)) (by decide)
theorem o312_371 : Okp RX12 cX12_withHeap 8 none "withHeap" false 371 (sCV false 286 4 13 374) := ok_cv (by decide +kernel : decode cX12_withHeap 371 = .ok (.invokevirtual 548, 3)) mw_X12_548 rfl (by decide) wm_X12_push_ wse_X12_push_ (by decide) rfl
theorem o312_374 : Okp RX12 cX12_withHeap 8 none "withHeap" false 374 (sGo 550) := ok_goto (by decide +kernel : decode cX12_withHeap 374 = .ok (.goto 176, 3)) (by decide)
theorem o312_377 : Okp RX12 cX12_withHeap 8 none "withHeap" false 377 (sLR 0 378) := ok_aload_n (by decide +kernel : decode cX12_withHeap 377 = .ok (.aload_n 0, 1)) rfl
theorem o312_378 : Okp RX12 cX12_withHeap 8 none "withHeap" false 378 (sLI 1 379) := ok_iload_n (by decide +kernel : decode cX12_withHeap 378 = .ok (.iload_n 1, 1)) rfl
theorem o312_379 : Okp RX12 cX12_withHeap 8 none "withHeap" false 379 (sCV false 288 2 13 382) := ok_cv (by decide +kernel : decode cX12_withHeap 379 = .ok (.invokevirtual 550, 3)) mw_X12_550 rfl (by decide) wm_X12_popValue wse_X12_popValue (by decide) rfl
theorem o312_382 : Okp RX12 cX12_withHeap 8 none "withHeap" false 382 (sSI 5 384) := ok_istore (by decide +kernel : decode cX12_withHeap 382 = .ok (.istore 5, 2)) (by decide) (by decide)
theorem o312_384 : Okp RX12 cX12_withHeap 8 none "withHeap" false 384 (sLI 5 386) := ok_iload (by decide +kernel : decode cX12_withHeap 384 = .ok (.iload 5, 2))
theorem o312_386 : Okp RX12 cX12_withHeap 8 none "withHeap" false 386 (sI1 1 398 389) := ok_if_ne (by decide +kernel : decode cX12_withHeap 386 = .ok (.ifCond .ne 12, 3)) (by decide)
theorem o312_389 : Okp RX12 cX12_withHeap 8 none "withHeap" false 389 (sLR 0 390) := ok_aload_n (by decide +kernel : decode cX12_withHeap 389 = .ok (.aload_n 0, 1)) rfl
theorem o312_390 : Okp RX12 cX12_withHeap 8 none "withHeap" false 390 (sLI 1 391) := ok_iload_n (by decide +kernel : decode cX12_withHeap 390 = .ok (.iload_n 1, 1)) rfl
theorem o312_391 : Okp RX12 cX12_withHeap 8 none "withHeap" false 391 (sK 1 392) := ok_iconst (by decide +kernel : decode cX12_withHeap 391 = .ok (.iconst 1, 1)) (by decide)
theorem o312_392 : Okp RX12 cX12_withHeap 8 none "withHeap" false 392 (sCV false 307 3 13 395) := ok_cv (by decide +kernel : decode cX12_withHeap 392 = .ok (.invokevirtual 553, 3)) mw_X12_553 rfl (by decide) wm_X12_trap wse_X12_trap (by decide) rfl
theorem o312_395 : Okp RX12 cX12_withHeap 8 none "withHeap" false 395 (sGo 550) := ok_goto (by decide +kernel : decode cX12_withHeap 395 = .ok (.goto 155, 3)) (by decide)
theorem o312_398 : Okp RX12 cX12_withHeap 8 none "withHeap" false 398 (sLR 0 399) := ok_aload_n (by decide +kernel : decode cX12_withHeap 398 = .ok (.aload_n 0, 1)) rfl
theorem o312_399 : Okp RX12 cX12_withHeap 8 none "withHeap" false 399 (sLI 1 400) := ok_iload_n (by decide +kernel : decode cX12_withHeap 399 = .ok (.iload_n 1, 1)) rfl
theorem o312_400 : Okp RX12 cX12_withHeap 8 none "withHeap" false 400 (sLR 0 401) := ok_aload_n (by decide +kernel : decode cX12_withHeap 400 = .ok (.aload_n 0, 1)) rfl
theorem o312_401 : Okp RX12 cX12_withHeap 8 none "withHeap" false 401 (sGR 13 70 404) := ok_getR (by decide +kernel : decode cX12_withHeap 401 = .ok (.getfield 170, 3)) fw_X12_170 rfl
theorem o312_404 : Okp RX12 cX12_withHeap 8 none "withHeap" false 404 (sK 1025 407) := ok_sipush (by decide +kernel : decode cX12_withHeap 404 = .ok (.sipush 1025, 3)) (by decide)
theorem o312_407 : Okp RX12 cX12_withHeap 8 none "withHeap" false 407 (sLI 1 408) := ok_iload_n (by decide +kernel : decode cX12_withHeap 407 = .ok (.iload_n 1, 1)) rfl
theorem o312_408 : Okp RX12 cX12_withHeap 8 none "withHeap" false 408 (sB2 fMul 409) := ok_imul (by decide +kernel : decode cX12_withHeap 408 = .ok (.imul, 1))
theorem o312_409 : Okp RX12 cX12_withHeap 8 none "withHeap" false 409 (sLI 5 411) := ok_iload (by decide +kernel : decode cX12_withHeap 409 = .ok (.iload 5, 2))
theorem o312_411 : Okp RX12 cX12_withHeap 8 none "withHeap" false 411 (sB2 fAdd 412) := ok_iadd (by decide +kernel : decode cX12_withHeap 411 = .ok (.iadd, 1))
theorem o312_412 : Okp RX12 cX12_withHeap 8 none "withHeap" false 412 (sIA 413) := ok_iaload (by decide +kernel : decode cX12_withHeap 412 = .ok (.iaload, 1))
theorem o312_413 : Okp RX12 cX12_withHeap 8 none "withHeap" false 413 (sK 1 414) := ok_iconst (by decide +kernel : decode cX12_withHeap 413 = .ok (.iconst 1, 1)) (by decide)
theorem o312_414 : Okp RX12 cX12_withHeap 8 none "withHeap" false 414 (sB2 fSub 415) := ok_isub (by decide +kernel : decode cX12_withHeap 414 = .ok (.isub, 1))
theorem o312_415 : Okp RX12 cX12_withHeap 8 none "withHeap" false 415 (sK 0 416) := ok_iconst (by decide +kernel : decode cX12_withHeap 415 = .ok (.iconst 0, 1)) (by decide)
theorem o312_416 : Okp RX12 cX12_withHeap 8 none "withHeap" false 416 (sCV false 286 4 13 419) := ok_cv (by decide +kernel : decode cX12_withHeap 416 = .ok (.invokevirtual 548, 3)) mw_X12_548 rfl (by decide) wm_X12_push_ wse_X12_push_ (by decide) rfl
theorem o312_419 : Okp RX12 cX12_withHeap 8 none "withHeap" false 419 (sGo 550) := ok_goto (by decide +kernel : decode cX12_withHeap 419 = .ok (.goto 131, 3)) (by decide)
theorem o312_422 : Okp RX12 cX12_withHeap 8 none "withHeap" false 422 (sLR 0 423) := ok_aload_n (by decide +kernel : decode cX12_withHeap 422 = .ok (.aload_n 0, 1)) rfl
theorem o312_423 : Okp RX12 cX12_withHeap 8 none "withHeap" false 423 (sLI 1 424) := ok_iload_n (by decide +kernel : decode cX12_withHeap 423 = .ok (.iload_n 1, 1)) rfl
theorem o312_424 : Okp RX12 cX12_withHeap 8 none "withHeap" false 424 (sCV false 288 2 13 427) := ok_cv (by decide +kernel : decode cX12_withHeap 424 = .ok (.invokevirtual 550, 3)) mw_X12_550 rfl (by decide) wm_X12_popValue wse_X12_popValue (by decide) rfl
theorem o312_427 : Okp RX12 cX12_withHeap 8 none "withHeap" false 427 (sSI 6 429) := ok_istore (by decide +kernel : decode cX12_withHeap 427 = .ok (.istore 6, 2)) (by decide) (by decide)
theorem o312_429 : Okp RX12 cX12_withHeap 8 none "withHeap" false 429 (sLR 0 430) := ok_aload_n (by decide +kernel : decode cX12_withHeap 429 = .ok (.aload_n 0, 1)) rfl
theorem o312_430 : Okp RX12 cX12_withHeap 8 none "withHeap" false 430 (sLI 1 431) := ok_iload_n (by decide +kernel : decode cX12_withHeap 430 = .ok (.iload_n 1, 1)) rfl
theorem o312_431 : Okp RX12 cX12_withHeap 8 none "withHeap" false 431 (sCV false 288 2 13 434) := ok_cv (by decide +kernel : decode cX12_withHeap 431 = .ok (.invokevirtual 550, 3)) mw_X12_550 rfl (by decide) wm_X12_popValue wse_X12_popValue (by decide) rfl
theorem o312_434 : Okp RX12 cX12_withHeap 8 none "withHeap" false 434 (sSI 5 436) := ok_istore (by decide +kernel : decode cX12_withHeap 434 = .ok (.istore 5, 2)) (by decide) (by decide)
theorem o312_436 : Okp RX12 cX12_withHeap 8 none "withHeap" false 436 (sLR 0 437) := ok_aload_n (by decide +kernel : decode cX12_withHeap 436 = .ok (.aload_n 0, 1)) rfl
theorem o312_437 : Okp RX12 cX12_withHeap 8 none "withHeap" false 437 (sLI 1 438) := ok_iload_n (by decide +kernel : decode cX12_withHeap 437 = .ok (.iload_n 1, 1)) rfl
theorem o312_438 : Okp RX12 cX12_withHeap 8 none "withHeap" false 438 (sLI 5 440) := ok_iload (by decide +kernel : decode cX12_withHeap 438 = .ok (.iload 5, 2))
theorem o312_440 : Okp RX12 cX12_withHeap 8 none "withHeap" false 440 (sLI 6 442) := ok_iload (by decide +kernel : decode cX12_withHeap 440 = .ok (.iload 6, 2))
theorem o312_442 : Okp RX12 cX12_withHeap 8 none "withHeap" false 442 (sCV false 313 4 13 445) := ok_cv (by decide +kernel : decode cX12_withHeap 442 = .ok (.invokevirtual 565, 3)) mw_X12_565 rfl (by decide) wm_X12_isAt wse_X12_isAt (by decide) rfl
theorem o312_445 : Okp RX12 cX12_withHeap 8 none "withHeap" false 445 (sI1 0 550 448) := ok_if_eq (by decide +kernel : decode cX12_withHeap 445 = .ok (.ifCond .eq 105, 3)) (by decide)
theorem o312_448 : Okp RX12 cX12_withHeap 8 none "withHeap" false 448 (sLR 0 449) := ok_aload_n (by decide +kernel : decode cX12_withHeap 448 = .ok (.aload_n 0, 1)) rfl
theorem o312_449 : Okp RX12 cX12_withHeap 8 none "withHeap" false 449 (sLI 1 450) := ok_iload_n (by decide +kernel : decode cX12_withHeap 449 = .ok (.iload_n 1, 1)) rfl
theorem o312_450 : Okp RX12 cX12_withHeap 8 none "withHeap" false 450 (sLR 0 451) := ok_aload_n (by decide +kernel : decode cX12_withHeap 450 = .ok (.aload_n 0, 1)) rfl
theorem o312_451 : Okp RX12 cX12_withHeap 8 none "withHeap" false 451 (sGR 13 73 454) := ok_getR (by decide +kernel : decode cX12_withHeap 451 = .ok (.getfield 179, 3)) fw_X12_179 rfl
theorem o312_454 : Okp RX12 cX12_withHeap 8 none "withHeap" false 454 (sLR 0 455) := ok_aload_n (by decide +kernel : decode cX12_withHeap 454 = .ok (.aload_n 0, 1)) rfl
theorem o312_455 : Okp RX12 cX12_withHeap 8 none "withHeap" false 455 (sLI 1 456) := ok_iload_n (by decide +kernel : decode cX12_withHeap 455 = .ok (.iload_n 1, 1)) rfl
theorem o312_456 : Okp RX12 cX12_withHeap 8 none "withHeap" false 456 (sLI 5 458) := ok_iload (by decide +kernel : decode cX12_withHeap 456 = .ok (.iload 5, 2))
theorem o312_458 : Okp RX12 cX12_withHeap 8 none "withHeap" false 458 (sLI 6 460) := ok_iload (by decide +kernel : decode cX12_withHeap 458 = .ok (.iload 6, 2))
theorem o312_460 : Okp RX12 cX12_withHeap 8 none "withHeap" false 460 (sCV false 292 4 13 463) := ok_cv (by decide +kernel : decode cX12_withHeap 460 = .ok (.invokevirtual 562, 3)) mw_X12_562 rfl (by decide) wm_X12_cell wse_X12_cell (by decide) rfl
theorem o312_463 : Okp RX12 cX12_withHeap 8 none "withHeap" false 463 (sIA 464) := ok_iaload (by decide +kernel : decode cX12_withHeap 463 = .ok (.iaload, 1))
theorem o312_464 : Okp RX12 cX12_withHeap 8 none "withHeap" false 464 (sLR 0 465) := ok_aload_n (by decide +kernel : decode cX12_withHeap 464 = .ok (.aload_n 0, 1)) rfl
theorem o312_465 : Okp RX12 cX12_withHeap 8 none "withHeap" false 465 (sGR 13 74 468) := ok_getR (by decide +kernel : decode cX12_withHeap 465 = .ok (.getfield 182, 3)) fw_X12_182 rfl
theorem o312_468 : Okp RX12 cX12_withHeap 8 none "withHeap" false 468 (sLR 0 469) := ok_aload_n (by decide +kernel : decode cX12_withHeap 468 = .ok (.aload_n 0, 1)) rfl
theorem o312_469 : Okp RX12 cX12_withHeap 8 none "withHeap" false 469 (sLI 1 470) := ok_iload_n (by decide +kernel : decode cX12_withHeap 469 = .ok (.iload_n 1, 1)) rfl
theorem o312_470 : Okp RX12 cX12_withHeap 8 none "withHeap" false 470 (sLI 5 472) := ok_iload (by decide +kernel : decode cX12_withHeap 470 = .ok (.iload 5, 2))
theorem o312_472 : Okp RX12 cX12_withHeap 8 none "withHeap" false 472 (sLI 6 474) := ok_iload (by decide +kernel : decode cX12_withHeap 472 = .ok (.iload 6, 2))
theorem o312_474 : Okp RX12 cX12_withHeap 8 none "withHeap" false 474 (sCV false 292 4 13 477) := ok_cv (by decide +kernel : decode cX12_withHeap 474 = .ok (.invokevirtual 562, 3)) mw_X12_562 rfl (by decide) wm_X12_cell wse_X12_cell (by decide) rfl
theorem o312_477 : Okp RX12 cX12_withHeap 8 none "withHeap" false 477 (sIA 478) := ok_iaload (by decide +kernel : decode cX12_withHeap 477 = .ok (.iaload, 1))
theorem o312_478 : Okp RX12 cX12_withHeap 8 none "withHeap" false 478 (sCV false 286 4 13 481) := ok_cv (by decide +kernel : decode cX12_withHeap 478 = .ok (.invokevirtual 548, 3)) mw_X12_548 rfl (by decide) wm_X12_push_ wse_X12_push_ (by decide) rfl
theorem o312_481 : Okp RX12 cX12_withHeap 8 none "withHeap" false 481 (sGo 550) := ok_goto (by decide +kernel : decode cX12_withHeap 481 = .ok (.goto 69, 3)) (by decide)
theorem o312_484 : Okp RX12 cX12_withHeap 8 none "withHeap" false 484 (sLR 0 485) := ok_aload_n (by decide +kernel : decode cX12_withHeap 484 = .ok (.aload_n 0, 1)) rfl
theorem o312_485 : Okp RX12 cX12_withHeap 8 none "withHeap" false 485 (sLI 1 486) := ok_iload_n (by decide +kernel : decode cX12_withHeap 485 = .ok (.iload_n 1, 1)) rfl
theorem o312_486 : Okp RX12 cX12_withHeap 8 none "withHeap" false 486 (sCV false 288 2 13 489) := ok_cv (by decide +kernel : decode cX12_withHeap 486 = .ok (.invokevirtual 550, 3)) mw_X12_550 rfl (by decide) wm_X12_popValue wse_X12_popValue (by decide) rfl
theorem o312_489 : Okp RX12 cX12_withHeap 8 none "withHeap" false 489 (sSI 7 491) := ok_istore (by decide +kernel : decode cX12_withHeap 489 = .ok (.istore 7, 2)) (by decide) (by decide)
theorem o312_491 : Okp RX12 cX12_withHeap 8 none "withHeap" false 491 (sLR 0 492) := ok_aload_n (by decide +kernel : decode cX12_withHeap 491 = .ok (.aload_n 0, 1)) rfl
theorem o312_492 : Okp RX12 cX12_withHeap 8 none "withHeap" false 492 (sLI 1 493) := ok_iload_n (by decide +kernel : decode cX12_withHeap 492 = .ok (.iload_n 1, 1)) rfl
theorem o312_493 : Okp RX12 cX12_withHeap 8 none "withHeap" false 493 (sCV false 288 2 13 496) := ok_cv (by decide +kernel : decode cX12_withHeap 493 = .ok (.invokevirtual 550, 3)) mw_X12_550 rfl (by decide) wm_X12_popValue wse_X12_popValue (by decide) rfl
theorem o312_496 : Okp RX12 cX12_withHeap 8 none "withHeap" false 496 (sSI 6 498) := ok_istore (by decide +kernel : decode cX12_withHeap 496 = .ok (.istore 6, 2)) (by decide) (by decide)
theorem o312_498 : Okp RX12 cX12_withHeap 8 none "withHeap" false 498 (sLR 0 499) := ok_aload_n (by decide +kernel : decode cX12_withHeap 498 = .ok (.aload_n 0, 1)) rfl
theorem o312_499 : Okp RX12 cX12_withHeap 8 none "withHeap" false 499 (sLI 1 500) := ok_iload_n (by decide +kernel : decode cX12_withHeap 499 = .ok (.iload_n 1, 1)) rfl
theorem o312_500 : Okp RX12 cX12_withHeap 8 none "withHeap" false 500 (sCV false 288 2 13 503) := ok_cv (by decide +kernel : decode cX12_withHeap 500 = .ok (.invokevirtual 550, 3)) mw_X12_550 rfl (by decide) wm_X12_popValue wse_X12_popValue (by decide) rfl
theorem o312_503 : Okp RX12 cX12_withHeap 8 none "withHeap" false 503 (sSI 5 505) := ok_istore (by decide +kernel : decode cX12_withHeap 503 = .ok (.istore 5, 2)) (by decide) (by decide)
theorem o312_505 : Okp RX12 cX12_withHeap 8 none "withHeap" false 505 (sLR 0 506) := ok_aload_n (by decide +kernel : decode cX12_withHeap 505 = .ok (.aload_n 0, 1)) rfl
theorem o312_506 : Okp RX12 cX12_withHeap 8 none "withHeap" false 506 (sLI 1 507) := ok_iload_n (by decide +kernel : decode cX12_withHeap 506 = .ok (.iload_n 1, 1)) rfl
theorem o312_507 : Okp RX12 cX12_withHeap 8 none "withHeap" false 507 (sLI 5 509) := ok_iload (by decide +kernel : decode cX12_withHeap 507 = .ok (.iload 5, 2))
theorem o312_509 : Okp RX12 cX12_withHeap 8 none "withHeap" false 509 (sLI 6 511) := ok_iload (by decide +kernel : decode cX12_withHeap 509 = .ok (.iload 6, 2))
theorem o312_511 : Okp RX12 cX12_withHeap 8 none "withHeap" false 511 (sCV false 313 4 13 514) := ok_cv (by decide +kernel : decode cX12_withHeap 511 = .ok (.invokevirtual 565, 3)) mw_X12_565 rfl (by decide) wm_X12_isAt wse_X12_isAt (by decide) rfl
theorem o312_514 : Okp RX12 cX12_withHeap 8 none "withHeap" false 514 (sI1 0 550 517) := ok_if_eq (by decide +kernel : decode cX12_withHeap 514 = .ok (.ifCond .eq 36, 3)) (by decide)
theorem o312_517 : Okp RX12 cX12_withHeap 8 none "withHeap" false 517 (sLR 0 518) := ok_aload_n (by decide +kernel : decode cX12_withHeap 517 = .ok (.aload_n 0, 1)) rfl
theorem o312_518 : Okp RX12 cX12_withHeap 8 none "withHeap" false 518 (sGR 13 73 521) := ok_getR (by decide +kernel : decode cX12_withHeap 518 = .ok (.getfield 179, 3)) fw_X12_179 rfl
theorem o312_521 : Okp RX12 cX12_withHeap 8 none "withHeap" false 521 (sLR 0 522) := ok_aload_n (by decide +kernel : decode cX12_withHeap 521 = .ok (.aload_n 0, 1)) rfl
theorem o312_522 : Okp RX12 cX12_withHeap 8 none "withHeap" false 522 (sLI 1 523) := ok_iload_n (by decide +kernel : decode cX12_withHeap 522 = .ok (.iload_n 1, 1)) rfl
theorem o312_523 : Okp RX12 cX12_withHeap 8 none "withHeap" false 523 (sLI 5 525) := ok_iload (by decide +kernel : decode cX12_withHeap 523 = .ok (.iload 5, 2))
theorem o312_525 : Okp RX12 cX12_withHeap 8 none "withHeap" false 525 (sLI 6 527) := ok_iload (by decide +kernel : decode cX12_withHeap 525 = .ok (.iload 6, 2))
theorem o312_527 : Okp RX12 cX12_withHeap 8 none "withHeap" false 527 (sCV false 292 4 13 530) := ok_cv (by decide +kernel : decode cX12_withHeap 527 = .ok (.invokevirtual 562, 3)) mw_X12_562 rfl (by decide) wm_X12_cell wse_X12_cell (by decide) rfl
theorem o312_530 : Okp RX12 cX12_withHeap 8 none "withHeap" false 530 (sLI 7 532) := ok_iload (by decide +kernel : decode cX12_withHeap 530 = .ok (.iload 7, 2))
theorem o312_532 : Okp RX12 cX12_withHeap 8 none "withHeap" false 532 (sIS 533) := ok_iastore (by decide +kernel : decode cX12_withHeap 532 = .ok (.iastore, 1))
theorem o312_533 : Okp RX12 cX12_withHeap 8 none "withHeap" false 533 (sGo 550) := ok_goto (by decide +kernel : decode cX12_withHeap 533 = .ok (.goto 17, 3)) (by decide)
theorem o312_536 : Okp RX12 cX12_withHeap 8 none "withHeap" false 536 (sLR 0 537) := ok_aload_n (by decide +kernel : decode cX12_withHeap 536 = .ok (.aload_n 0, 1)) rfl
theorem o312_537 : Okp RX12 cX12_withHeap 8 none "withHeap" false 537 (sLI 1 538) := ok_iload_n (by decide +kernel : decode cX12_withHeap 537 = .ok (.iload_n 1, 1)) rfl
theorem o312_538 : Okp RX12 cX12_withHeap 8 none "withHeap" false 538 (sLI 3 539) := ok_iload_n (by decide +kernel : decode cX12_withHeap 538 = .ok (.iload_n 3, 1)) rfl
theorem o312_539 : Okp RX12 cX12_withHeap 8 none "withHeap" false 539 (sCV false 314 3 13 542) := ok_cv (by decide +kernel : decode cX12_withHeap 539 = .ok (.invokevirtual 568, 3)) mw_X12_568 rfl (by decide) wm_X12_call wse_X12_call (by decide) rfl
theorem o312_542 : Okp RX12 cX12_withHeap 8 none "withHeap" false 542 (sGo 550) := ok_goto (by decide +kernel : decode cX12_withHeap 542 = .ok (.goto 8, 3)) (by decide)
theorem o312_545 : Okp RX12 cX12_withHeap 8 none "withHeap" false 545 (sLR 0 546) := ok_aload_n (by decide +kernel : decode cX12_withHeap 545 = .ok (.aload_n 0, 1)) rfl
theorem o312_546 : Okp RX12 cX12_withHeap 8 none "withHeap" false 546 (sLI 1 547) := ok_iload_n (by decide +kernel : decode cX12_withHeap 546 = .ok (.iload_n 1, 1)) rfl
theorem o312_547 : Okp RX12 cX12_withHeap 8 none "withHeap" false 547 (sCV false 315 2 13 550) := ok_cv (by decide +kernel : decode cX12_withHeap 547 = .ok (.invokevirtual 571, 3)) mw_X12_571 rfl (by decide) wm_X12_back wse_X12_back (by decide) rfl
theorem o312_550 : Okp RX12 cX12_withHeap 8 none "withHeap" false 550 sRV := ok_vret rfl (by decide +kernel : decode cX12_withHeap 550 = .ok (.return_, 1))
theorem oc312_0 : ∀ pc, Mnp (c312_0 pc) ∧ Okp RX12 cX12_withHeap 8 none "withHeap" false pc (c312_0 pc) := by
  intro pc
  unfold c312_0
  split
  · exact ⟨mn_sLR, o312_0⟩
  · exact ⟨mn_sGR, o312_1⟩
  · exact ⟨mn_sLI, o312_4⟩
  · exact ⟨mn_sIA, o312_5⟩
  · exact ⟨mn_sSI, o312_6⟩
  · exact ⟨mn_sLI, o312_8⟩
  · exact ⟨mn_sSw, o312_9⟩
  · exact ⟨mn_sX, ok_X⟩
theorem oc312_2 : ∀ pc, Mnp (c312_2 pc) ∧ Okp RX12 cX12_withHeap 8 none "withHeap" false pc (c312_2 pc) := by
  intro pc
  unfold c312_2
  split
  · exact ⟨mn_sLR, o312_68⟩
  · exact ⟨mn_sLI, o312_69⟩
  · exact ⟨mn_sLI, o312_70⟩
  · exact ⟨mn_sCV, o312_71⟩
  · exact ⟨mn_sX, ok_X⟩
theorem oc312_3 : ∀ pc, Mnp (c312_3 pc) ∧ Okp RX12 cX12_withHeap 8 none "withHeap" false pc (c312_3 pc) := by
  intro pc
  unfold c312_3
  split
  · exact ⟨mn_sGo, o312_74⟩
  · exact ⟨mn_sLR, o312_77⟩
  · exact ⟨mn_sLI, o312_78⟩
  · exact ⟨mn_sCV, o312_79⟩
  · exact ⟨mn_sI1, o312_82⟩
  · exact ⟨mn_sLR, o312_85⟩
  · exact ⟨mn_sLI, o312_86⟩
  · exact ⟨mn_sLI, o312_87⟩
  · exact ⟨mn_sCV, o312_88⟩
  · exact ⟨mn_sGo, o312_91⟩
  · exact ⟨mn_sLR, o312_94⟩
  · exact ⟨mn_sLI, o312_95⟩
  · exact ⟨mn_sX, ok_X⟩
theorem oc312_4 : ∀ pc, Mnp (c312_4 pc) ∧ Okp RX12 cX12_withHeap 8 none "withHeap" false pc (c312_4 pc) := by
  intro pc
  unfold c312_4
  split
  · exact ⟨mn_sLR, o312_96⟩
  · exact ⟨mn_sGR, o312_97⟩
  · exact ⟨mn_sK, o312_100⟩
  · exact ⟨mn_sLI, o312_102⟩
  · exact ⟨mn_sB2, o312_104⟩
  · exact ⟨mn_sLI, o312_105⟩
  · exact ⟨mn_sB2, o312_106⟩
  · exact ⟨mn_sIA, o312_107⟩
  · exact ⟨mn_sI2L, o312_108⟩
  · exact ⟨mn_sK, o312_109⟩
  · exact ⟨mn_sCL, o312_110⟩
  · exact ⟨mn_sSI, o312_113⟩
  · exact ⟨mn_sLI, o312_115⟩
  · exact ⟨mn_sI1, o312_117⟩
  · exact ⟨mn_sX, ok_X⟩
theorem oc312_5 : ∀ pc, Mnp (c312_5 pc) ∧ Okp RX12 cX12_withHeap 8 none "withHeap" false pc (c312_5 pc) := by
  intro pc
  unfold c312_5
  split
  · exact ⟨mn_sLR, o312_120⟩
  · exact ⟨mn_sLI, o312_121⟩
  · exact ⟨mn_sK, o312_122⟩
  · exact ⟨mn_sCV, o312_123⟩
  · exact ⟨mn_sGo, o312_126⟩
  · exact ⟨mn_sK, o312_129⟩
  · exact ⟨mn_sSI, o312_130⟩
  · exact ⟨mn_sLI, o312_132⟩
  · exact ⟨mn_sLR, o312_134⟩
  · exact ⟨mn_sGR, o312_135⟩
  · exact ⟨mn_sK, o312_138⟩
  · exact ⟨mn_sLI, o312_140⟩
  · exact ⟨mn_sB2, o312_142⟩
  · exact ⟨mn_sLI, o312_143⟩
  · exact ⟨mn_sX, ok_X⟩
theorem oc312_6 : ∀ pc, Mnp (c312_6 pc) ∧ Okp RX12 cX12_withHeap 8 none "withHeap" false pc (c312_6 pc) := by
  intro pc
  unfold c312_6
  split
  · exact ⟨mn_sB2, o312_144⟩
  · exact ⟨mn_sIA, o312_145⟩
  · exact ⟨mn_sI2, o312_146⟩
  · exact ⟨mn_sLR, o312_149⟩
  · exact ⟨mn_sGR, o312_150⟩
  · exact ⟨mn_sK, o312_153⟩
  · exact ⟨mn_sLI, o312_155⟩
  · exact ⟨mn_sB2, o312_157⟩
  · exact ⟨mn_sK, o312_158⟩
  · exact ⟨mn_sLI, o312_160⟩
  · exact ⟨mn_sB2, o312_161⟩
  · exact ⟨mn_sB2, o312_162⟩
  · exact ⟨mn_sLI, o312_163⟩
  · exact ⟨mn_sB2, o312_165⟩
  · exact ⟨mn_sIA, o312_166⟩
  · exact ⟨mn_sCS, o312_167⟩
  · exact ⟨mn_sX, ok_X⟩
theorem oc312_7 : ∀ pc, Mnp (c312_7 pc) ∧ Okp RX12 cX12_withHeap 8 none "withHeap" false pc (c312_7 pc) := by
  intro pc
  unfold c312_7
  split
  · exact ⟨mn_sI1, o312_170⟩
  · exact ⟨mn_sLR, o312_173⟩
  · exact ⟨mn_sGR, o312_174⟩
  · exact ⟨mn_sLR, o312_177⟩
  · exact ⟨mn_sLI, o312_178⟩
  · exact ⟨mn_sLI, o312_179⟩
  · exact ⟨mn_sLI, o312_181⟩
  · exact ⟨mn_sCV, o312_183⟩
  · exact ⟨mn_sK, o312_186⟩
  · exact ⟨mn_sIS, o312_187⟩
  · exact ⟨mn_sInc, o312_188⟩
  · exact ⟨mn_sGo, o312_191⟩
  · exact ⟨mn_sX, ok_X⟩
theorem oc312_8 : ∀ pc, Mnp (c312_8 pc) ∧ Okp RX12 cX12_withHeap 8 none "withHeap" false pc (c312_8 pc) := by
  intro pc
  unfold c312_8
  split
  · exact ⟨mn_sLR, o312_194⟩
  · exact ⟨mn_sLI, o312_195⟩
  · exact ⟨mn_sLI, o312_196⟩
  · exact ⟨mn_sK, o312_198⟩
  · exact ⟨mn_sCV, o312_199⟩
  · exact ⟨mn_sGo, o312_202⟩
  · exact ⟨mn_sLR, o312_205⟩
  · exact ⟨mn_sLI, o312_206⟩
  · exact ⟨mn_sCV, o312_207⟩
  · exact ⟨mn_sSI, o312_210⟩
  · exact ⟨mn_sLI, o312_212⟩
  · exact ⟨mn_sI1, o312_214⟩
  · exact ⟨mn_sX, ok_X⟩
theorem oc312_9 : ∀ pc, Mnp (c312_9 pc) ∧ Okp RX12 cX12_withHeap 8 none "withHeap" false pc (c312_9 pc) := by
  intro pc
  unfold c312_9
  split
  · exact ⟨mn_sLR, o312_217⟩
  · exact ⟨mn_sLI, o312_218⟩
  · exact ⟨mn_sK, o312_219⟩
  · exact ⟨mn_sCV, o312_220⟩
  · exact ⟨mn_sGo, o312_223⟩
  · exact ⟨mn_sLR, o312_226⟩
  · exact ⟨mn_sLI, o312_227⟩
  · exact ⟨mn_sLR, o312_228⟩
  · exact ⟨mn_sGR, o312_229⟩
  · exact ⟨mn_sLR, o312_232⟩
  · exact ⟨mn_sLI, o312_233⟩
  · exact ⟨mn_sLI, o312_234⟩
  · exact ⟨mn_sLI, o312_236⟩
  · exact ⟨mn_sCV, o312_237⟩
  · exact ⟨mn_sX, ok_X⟩
theorem oc312_10 : ∀ pc, Mnp (c312_10 pc) ∧ Okp RX12 cX12_withHeap 8 none "withHeap" false pc (c312_10 pc) := by
  intro pc
  unfold c312_10
  split
  · exact ⟨mn_sIA, o312_240⟩
  · exact ⟨mn_sLR, o312_241⟩
  · exact ⟨mn_sGR, o312_242⟩
  · exact ⟨mn_sLR, o312_245⟩
  · exact ⟨mn_sLI, o312_246⟩
  · exact ⟨mn_sLI, o312_247⟩
  · exact ⟨mn_sLI, o312_249⟩
  · exact ⟨mn_sCV, o312_250⟩
  · exact ⟨mn_sIA, o312_253⟩
  · exact ⟨mn_sCV, o312_254⟩
  · exact ⟨mn_sGo, o312_257⟩
  · exact ⟨mn_sLR, o312_260⟩
  · exact ⟨mn_sLI, o312_261⟩
  · exact ⟨mn_sCV, o312_262⟩
  · exact ⟨mn_sX, ok_X⟩
theorem oc312_11 : ∀ pc, Mnp (c312_11 pc) ∧ Okp RX12 cX12_withHeap 8 none "withHeap" false pc (c312_11 pc) := by
  intro pc
  unfold c312_11
  split
  · exact ⟨mn_sSI, o312_265⟩
  · exact ⟨mn_sLR, o312_267⟩
  · exact ⟨mn_sLI, o312_268⟩
  · exact ⟨mn_sCV, o312_269⟩
  · exact ⟨mn_sSI, o312_272⟩
  · exact ⟨mn_sLI, o312_274⟩
  · exact ⟨mn_sI1, o312_276⟩
  · exact ⟨mn_sLR, o312_279⟩
  · exact ⟨mn_sLI, o312_280⟩
  · exact ⟨mn_sK, o312_281⟩
  · exact ⟨mn_sCV, o312_282⟩
  · exact ⟨mn_sGo, o312_285⟩
  · exact ⟨mn_sX, ok_X⟩
theorem oc312_12 : ∀ pc, Mnp (c312_12 pc) ∧ Okp RX12 cX12_withHeap 8 none "withHeap" false pc (c312_12 pc) := by
  intro pc
  unfold c312_12
  split
  · exact ⟨mn_sLR, o312_288⟩
  · exact ⟨mn_sGR, o312_289⟩
  · exact ⟨mn_sLR, o312_292⟩
  · exact ⟨mn_sLI, o312_293⟩
  · exact ⟨mn_sLI, o312_294⟩
  · exact ⟨mn_sLI, o312_296⟩
  · exact ⟨mn_sCV, o312_297⟩
  · exact ⟨mn_sLI, o312_300⟩
  · exact ⟨mn_sIS, o312_302⟩
  · exact ⟨mn_sGo, o312_303⟩
  · exact ⟨mn_sLR, o312_306⟩
  · exact ⟨mn_sLI, o312_307⟩
  · exact ⟨mn_sCV, o312_308⟩
  · exact ⟨mn_sSI, o312_311⟩
  · exact ⟨mn_sX, ok_X⟩
theorem oc312_13 : ∀ pc, Mnp (c312_13 pc) ∧ Okp RX12 cX12_withHeap 8 none "withHeap" false pc (c312_13 pc) := by
  intro pc
  unfold c312_13
  split
  · exact ⟨mn_sLI, o312_313⟩
  · exact ⟨mn_sI1, o312_315⟩
  · exact ⟨mn_sK, o312_318⟩
  · exact ⟨mn_sGo, o312_319⟩
  · exact ⟨mn_sLR, o312_322⟩
  · exact ⟨mn_sLI, o312_323⟩
  · exact ⟨mn_sLI, o312_324⟩
  · exact ⟨mn_sI2L, o312_326⟩
  · exact ⟨mn_sLI, o312_327⟩
  · exact ⟨mn_sK, o312_328⟩
  · exact ⟨mn_sI2, o312_330⟩
  · exact ⟨mn_sK, o312_333⟩
  · exact ⟨mn_sGo, o312_334⟩
  · exact ⟨mn_sX, ok_X⟩
theorem oc312_14 : ∀ pc, Mnp (c312_14 pc) ∧ Okp RX12 cX12_withHeap 8 none "withHeap" false pc (c312_14 pc) := by
  intro pc
  unfold c312_14
  split
  · exact ⟨mn_sK, o312_337⟩
  · exact ⟨mn_sCL, o312_338⟩
  · exact ⟨mn_sSI, o312_341⟩
  · exact ⟨mn_sLI, o312_343⟩
  · exact ⟨mn_sI1, o312_345⟩
  · exact ⟨mn_sLR, o312_348⟩
  · exact ⟨mn_sLI, o312_349⟩
  · exact ⟨mn_sLI, o312_350⟩
  · exact ⟨mn_sI1, o312_352⟩
  · exact ⟨mn_sK, o312_355⟩
  · exact ⟨mn_sGo, o312_356⟩
  · exact ⟨mn_sK, o312_359⟩
  · exact ⟨mn_sX, ok_X⟩
theorem oc312_15 : ∀ pc, Mnp (c312_15 pc) ∧ Okp RX12 cX12_withHeap 8 none "withHeap" false pc (c312_15 pc) := by
  intro pc
  unfold c312_15
  split
  · exact ⟨mn_sCV, o312_360⟩
  · exact ⟨mn_sGo, o312_363⟩
  · exact ⟨mn_sLR, o312_366⟩
  · exact ⟨mn_sLI, o312_367⟩
  · exact ⟨mn_sLI, o312_368⟩
  · exact ⟨mn_sK, o312_370⟩
  · exact ⟨mn_sCV, o312_371⟩
  · exact ⟨mn_sGo, o312_374⟩
  · exact ⟨mn_sLR, o312_377⟩
  · exact ⟨mn_sLI, o312_378⟩
  · exact ⟨mn_sCV, o312_379⟩
  · exact ⟨mn_sSI, o312_382⟩
  · exact ⟨mn_sX, ok_X⟩
theorem oc312_16 : ∀ pc, Mnp (c312_16 pc) ∧ Okp RX12 cX12_withHeap 8 none "withHeap" false pc (c312_16 pc) := by
  intro pc
  unfold c312_16
  split
  · exact ⟨mn_sLI, o312_384⟩
  · exact ⟨mn_sI1, o312_386⟩
  · exact ⟨mn_sLR, o312_389⟩
  · exact ⟨mn_sLI, o312_390⟩
  · exact ⟨mn_sK, o312_391⟩
  · exact ⟨mn_sCV, o312_392⟩
  · exact ⟨mn_sGo, o312_395⟩
  · exact ⟨mn_sLR, o312_398⟩
  · exact ⟨mn_sLI, o312_399⟩
  · exact ⟨mn_sLR, o312_400⟩
  · exact ⟨mn_sGR, o312_401⟩
  · exact ⟨mn_sK, o312_404⟩
  · exact ⟨mn_sLI, o312_407⟩
  · exact ⟨mn_sX, ok_X⟩
theorem oc312_17 : ∀ pc, Mnp (c312_17 pc) ∧ Okp RX12 cX12_withHeap 8 none "withHeap" false pc (c312_17 pc) := by
  intro pc
  unfold c312_17
  split
  · exact ⟨mn_sB2, o312_408⟩
  · exact ⟨mn_sLI, o312_409⟩
  · exact ⟨mn_sB2, o312_411⟩
  · exact ⟨mn_sIA, o312_412⟩
  · exact ⟨mn_sK, o312_413⟩
  · exact ⟨mn_sB2, o312_414⟩
  · exact ⟨mn_sK, o312_415⟩
  · exact ⟨mn_sCV, o312_416⟩
  · exact ⟨mn_sGo, o312_419⟩
  · exact ⟨mn_sLR, o312_422⟩
  · exact ⟨mn_sLI, o312_423⟩
  · exact ⟨mn_sCV, o312_424⟩
  · exact ⟨mn_sSI, o312_427⟩
  · exact ⟨mn_sLR, o312_429⟩
  · exact ⟨mn_sLI, o312_430⟩
  · exact ⟨mn_sCV, o312_431⟩
  · exact ⟨mn_sX, ok_X⟩
theorem oc312_18 : ∀ pc, Mnp (c312_18 pc) ∧ Okp RX12 cX12_withHeap 8 none "withHeap" false pc (c312_18 pc) := by
  intro pc
  unfold c312_18
  split
  · exact ⟨mn_sSI, o312_434⟩
  · exact ⟨mn_sLR, o312_436⟩
  · exact ⟨mn_sLI, o312_437⟩
  · exact ⟨mn_sLI, o312_438⟩
  · exact ⟨mn_sLI, o312_440⟩
  · exact ⟨mn_sCV, o312_442⟩
  · exact ⟨mn_sI1, o312_445⟩
  · exact ⟨mn_sLR, o312_448⟩
  · exact ⟨mn_sLI, o312_449⟩
  · exact ⟨mn_sLR, o312_450⟩
  · exact ⟨mn_sGR, o312_451⟩
  · exact ⟨mn_sLR, o312_454⟩
  · exact ⟨mn_sLI, o312_455⟩
  · exact ⟨mn_sX, ok_X⟩
theorem oc312_19 : ∀ pc, Mnp (c312_19 pc) ∧ Okp RX12 cX12_withHeap 8 none "withHeap" false pc (c312_19 pc) := by
  intro pc
  unfold c312_19
  split
  · exact ⟨mn_sLI, o312_456⟩
  · exact ⟨mn_sLI, o312_458⟩
  · exact ⟨mn_sCV, o312_460⟩
  · exact ⟨mn_sIA, o312_463⟩
  · exact ⟨mn_sLR, o312_464⟩
  · exact ⟨mn_sGR, o312_465⟩
  · exact ⟨mn_sLR, o312_468⟩
  · exact ⟨mn_sLI, o312_469⟩
  · exact ⟨mn_sLI, o312_470⟩
  · exact ⟨mn_sLI, o312_472⟩
  · exact ⟨mn_sCV, o312_474⟩
  · exact ⟨mn_sIA, o312_477⟩
  · exact ⟨mn_sCV, o312_478⟩
  · exact ⟨mn_sX, ok_X⟩
theorem oc312_20 : ∀ pc, Mnp (c312_20 pc) ∧ Okp RX12 cX12_withHeap 8 none "withHeap" false pc (c312_20 pc) := by
  intro pc
  unfold c312_20
  split
  · exact ⟨mn_sGo, o312_481⟩
  · exact ⟨mn_sLR, o312_484⟩
  · exact ⟨mn_sLI, o312_485⟩
  · exact ⟨mn_sCV, o312_486⟩
  · exact ⟨mn_sSI, o312_489⟩
  · exact ⟨mn_sLR, o312_491⟩
  · exact ⟨mn_sLI, o312_492⟩
  · exact ⟨mn_sCV, o312_493⟩
  · exact ⟨mn_sSI, o312_496⟩
  · exact ⟨mn_sLR, o312_498⟩
  · exact ⟨mn_sLI, o312_499⟩
  · exact ⟨mn_sCV, o312_500⟩
  · exact ⟨mn_sSI, o312_503⟩
  · exact ⟨mn_sX, ok_X⟩
theorem oc312_21 : ∀ pc, Mnp (c312_21 pc) ∧ Okp RX12 cX12_withHeap 8 none "withHeap" false pc (c312_21 pc) := by
  intro pc
  unfold c312_21
  split
  · exact ⟨mn_sLR, o312_505⟩
  · exact ⟨mn_sLI, o312_506⟩
  · exact ⟨mn_sLI, o312_507⟩
  · exact ⟨mn_sLI, o312_509⟩
  · exact ⟨mn_sCV, o312_511⟩
  · exact ⟨mn_sI1, o312_514⟩
  · exact ⟨mn_sLR, o312_517⟩
  · exact ⟨mn_sGR, o312_518⟩
  · exact ⟨mn_sLR, o312_521⟩
  · exact ⟨mn_sLI, o312_522⟩
  · exact ⟨mn_sLI, o312_523⟩
  · exact ⟨mn_sLI, o312_525⟩
  · exact ⟨mn_sCV, o312_527⟩
  · exact ⟨mn_sX, ok_X⟩
theorem oc312_22 : ∀ pc, Mnp (c312_22 pc) ∧ Okp RX12 cX12_withHeap 8 none "withHeap" false pc (c312_22 pc) := by
  intro pc
  unfold c312_22
  split
  · exact ⟨mn_sLI, o312_530⟩
  · exact ⟨mn_sIS, o312_532⟩
  · exact ⟨mn_sGo, o312_533⟩
  · exact ⟨mn_sLR, o312_536⟩
  · exact ⟨mn_sLI, o312_537⟩
  · exact ⟨mn_sLI, o312_538⟩
  · exact ⟨mn_sCV, o312_539⟩
  · exact ⟨mn_sGo, o312_542⟩
  · exact ⟨mn_sLR, o312_545⟩
  · exact ⟨mn_sLI, o312_546⟩
  · exact ⟨mn_sCV, o312_547⟩
  · exact ⟨mn_sRV, o312_550⟩
  · exact ⟨mn_sX, ok_X⟩
theorem oc312 : ∀ pc, Mnp (c312 pc) ∧ Okp RX12 cX12_withHeap 8 none "withHeap" false pc (c312 pc) := by
  intro pc
  unfold c312
  split
  · exact oc312_0 pc
  · exact oc312_2 pc
  · exact oc312_3 pc
  · exact oc312_4 pc
  · exact oc312_5 pc
  · exact oc312_6 pc
  · exact oc312_7 pc
  · exact oc312_8 pc
  · exact oc312_9 pc
  · exact oc312_10 pc
  · exact oc312_11 pc
  · exact oc312_12 pc
  · exact oc312_13 pc
  · exact oc312_14 pc
  · exact oc312_15 pc
  · exact oc312_16 pc
  · exact oc312_17 pc
  · exact oc312_18 pc
  · exact oc312_19 pc
  · exact oc312_20 pc
  · exact oc312_21 pc
  · exact oc312_22 pc
  · exact ⟨mn_sX, ok_X⟩
theorem o313_0 : Okp RX12 cX12_isAt 4 (some .boolean) "isAt" false 0 (sLI 2 1) := ok_iload_n (by decide +kernel : decode cX12_isAt 0 = .ok (.iload_n 2, 1)) rfl
theorem o313_1 : Okp RX12 cX12_isAt 4 (some .boolean) "isAt" false 1 (sI1 0 28 4) := ok_if_eq (by decide +kernel : decode cX12_isAt 1 = .ok (.ifCond .eq 27, 3)) (by decide)
theorem o313_4 : Okp RX12 cX12_isAt 4 (some .boolean) "isAt" false 4 (sLI 3 5) := ok_iload_n (by decide +kernel : decode cX12_isAt 4 = .ok (.iload_n 3, 1)) rfl
theorem o313_5 : Okp RX12 cX12_isAt 4 (some .boolean) "isAt" false 5 (sI1 2 28 8) := ok_if_lt (by decide +kernel : decode cX12_isAt 5 = .ok (.ifCond .lt 23, 3)) (by decide)
theorem o313_8 : Okp RX12 cX12_isAt 4 (some .boolean) "isAt" false 8 (sLI 3 9) := ok_iload_n (by decide +kernel : decode cX12_isAt 8 = .ok (.iload_n 3, 1)) rfl
theorem o313_9 : Okp RX12 cX12_isAt 4 (some .boolean) "isAt" false 9 (sLR 0 10) := ok_aload_n (by decide +kernel : decode cX12_isAt 9 = .ok (.aload_n 0, 1)) rfl
theorem o313_10 : Okp RX12 cX12_isAt 4 (some .boolean) "isAt" false 10 (sGR 13 70 13) := ok_getR (by decide +kernel : decode cX12_isAt 10 = .ok (.getfield 170, 3)) fw_X12_170 rfl
theorem o313_13 : Okp RX12 cX12_isAt 4 (some .boolean) "isAt" false 13 (sK 1025 16) := ok_sipush (by decide +kernel : decode cX12_isAt 13 = .ok (.sipush 1025, 3)) (by decide)
theorem o313_16 : Okp RX12 cX12_isAt 4 (some .boolean) "isAt" false 16 (sLI 1 17) := ok_iload_n (by decide +kernel : decode cX12_isAt 16 = .ok (.iload_n 1, 1)) rfl
theorem o313_17 : Okp RX12 cX12_isAt 4 (some .boolean) "isAt" false 17 (sB2 fMul 18) := ok_imul (by decide +kernel : decode cX12_isAt 17 = .ok (.imul, 1))
theorem o313_18 : Okp RX12 cX12_isAt 4 (some .boolean) "isAt" false 18 (sLI 2 19) := ok_iload_n (by decide +kernel : decode cX12_isAt 18 = .ok (.iload_n 2, 1)) rfl
theorem o313_19 : Okp RX12 cX12_isAt 4 (some .boolean) "isAt" false 19 (sB2 fAdd 20) := ok_iadd (by decide +kernel : decode cX12_isAt 19 = .ok (.iadd, 1))
theorem o313_20 : Okp RX12 cX12_isAt 4 (some .boolean) "isAt" false 20 (sIA 21) := ok_iaload (by decide +kernel : decode cX12_isAt 20 = .ok (.iaload, 1))
theorem o313_21 : Okp RX12 cX12_isAt 4 (some .boolean) "isAt" false 21 (sK 1 22) := ok_iconst (by decide +kernel : decode cX12_isAt 21 = .ok (.iconst 1, 1)) (by decide)
theorem o313_22 : Okp RX12 cX12_isAt 4 (some .boolean) "isAt" false 22 (sB2 fSub 23) := ok_isub (by decide +kernel : decode cX12_isAt 22 = .ok (.isub, 1))
theorem o313_23 : Okp RX12 cX12_isAt 4 (some .boolean) "isAt" false 23 (sI2 3 28 26) := ok_icmp_ge (by decide +kernel : decode cX12_isAt 23 = .ok (.if_icmp .ge 5, 3)) (by decide)
theorem o313_26 : Okp RX12 cX12_isAt 4 (some .boolean) "isAt" false 26 (sK 1 27) := ok_iconst (by decide +kernel : decode cX12_isAt 26 = .ok (.iconst 1, 1)) (by decide)
theorem o313_27 : Okp RX12 cX12_isAt 4 (some .boolean) "isAt" false 27 sRZ := ok_zret rfl (by decide +kernel : decode cX12_isAt 27 = .ok (.ireturn, 1))
theorem o313_28 : Okp RX12 cX12_isAt 4 (some .boolean) "isAt" false 28 (sLR 0 29) := ok_aload_n (by decide +kernel : decode cX12_isAt 28 = .ok (.aload_n 0, 1)) rfl
theorem o313_29 : Okp RX12 cX12_isAt 4 (some .boolean) "isAt" false 29 (sLI 1 30) := ok_iload_n (by decide +kernel : decode cX12_isAt 29 = .ok (.iload_n 1, 1)) rfl
theorem o313_30 : Okp RX12 cX12_isAt 4 (some .boolean) "isAt" false 30 (sLI 2 31) := ok_iload_n (by decide +kernel : decode cX12_isAt 30 = .ok (.iload_n 2, 1)) rfl
theorem o313_31 : Okp RX12 cX12_isAt 4 (some .boolean) "isAt" false 31 (sI1 1 38 34) := ok_if_ne (by decide +kernel : decode cX12_isAt 31 = .ok (.ifCond .ne 7, 3)) (by decide)
theorem o313_34 : Okp RX12 cX12_isAt 4 (some .boolean) "isAt" false 34 (sK 1 35) := ok_iconst (by decide +kernel : decode cX12_isAt 34 = .ok (.iconst 1, 1)) (by decide)
theorem o313_35 : Okp RX12 cX12_isAt 4 (some .boolean) "isAt" false 35 (sGo 39) := ok_goto (by decide +kernel : decode cX12_isAt 35 = .ok (.goto 4, 3)) (by decide)
theorem o313_38 : Okp RX12 cX12_isAt 4 (some .boolean) "isAt" false 38 (sK 2 39) := ok_iconst (by decide +kernel : decode cX12_isAt 38 = .ok (.iconst 2, 1)) (by decide)
theorem o313_39 : Okp RX12 cX12_isAt 4 (some .boolean) "isAt" false 39 (sCV false 307 3 13 42) := ok_cv (by decide +kernel : decode cX12_isAt 39 = .ok (.invokevirtual 553, 3)) mw_X12_553 rfl (by decide) wm_X12_trap wse_X12_trap (by decide) rfl
theorem o313_42 : Okp RX12 cX12_isAt 4 (some .boolean) "isAt" false 42 (sK 0 43) := ok_iconst (by decide +kernel : decode cX12_isAt 42 = .ok (.iconst 0, 1)) (by decide)
theorem o313_43 : Okp RX12 cX12_isAt 4 (some .boolean) "isAt" false 43 sRZ := ok_zret rfl (by decide +kernel : decode cX12_isAt 43 = .ok (.ireturn, 1))
theorem oc313_0 : ∀ pc, Mnp (c313_0 pc) ∧ Okp RX12 cX12_isAt 4 (some .boolean) "isAt" false pc (c313_0 pc) := by
  intro pc
  unfold c313_0
  split
  · exact ⟨mn_sLI, o313_0⟩
  · exact ⟨mn_sI1, o313_1⟩
  · exact ⟨mn_sLI, o313_4⟩
  · exact ⟨mn_sI1, o313_5⟩
  · exact ⟨mn_sLI, o313_8⟩
  · exact ⟨mn_sLR, o313_9⟩
  · exact ⟨mn_sGR, o313_10⟩
  · exact ⟨mn_sK, o313_13⟩
  · exact ⟨mn_sLI, o313_16⟩
  · exact ⟨mn_sB2, o313_17⟩
  · exact ⟨mn_sLI, o313_18⟩
  · exact ⟨mn_sB2, o313_19⟩
  · exact ⟨mn_sIA, o313_20⟩
  · exact ⟨mn_sK, o313_21⟩
  · exact ⟨mn_sB2, o313_22⟩
  · exact ⟨mn_sI2, o313_23⟩
  · exact ⟨mn_sX, ok_X⟩
theorem oc313_1 : ∀ pc, Mnp (c313_1 pc) ∧ Okp RX12 cX12_isAt 4 (some .boolean) "isAt" false pc (c313_1 pc) := by
  intro pc
  unfold c313_1
  split
  · exact ⟨mn_sK, o313_26⟩
  · exact ⟨mn_sRZ, o313_27⟩
  · exact ⟨mn_sLR, o313_28⟩
  · exact ⟨mn_sLI, o313_29⟩
  · exact ⟨mn_sLI, o313_30⟩
  · exact ⟨mn_sI1, o313_31⟩
  · exact ⟨mn_sK, o313_34⟩
  · exact ⟨mn_sGo, o313_35⟩
  · exact ⟨mn_sK, o313_38⟩
  · exact ⟨mn_sCV, o313_39⟩
  · exact ⟨mn_sK, o313_42⟩
  · exact ⟨mn_sRZ, o313_43⟩
  · exact ⟨mn_sX, ok_X⟩
theorem oc313 : ∀ pc, Mnp (c313 pc) ∧ Okp RX12 cX12_isAt 4 (some .boolean) "isAt" false pc (c313 pc) := by
  intro pc
  unfold c313
  split
  · exact oc313_0 pc
  · exact oc313_1 pc
  · exact ⟨mn_sX, ok_X⟩
theorem o314_0 : Okp RX12 cX12_call 6 none "call" false 0 (sLR 0 1) := ok_aload_n (by decide +kernel : decode cX12_call 0 = .ok (.aload_n 0, 1)) rfl
theorem o314_1 : Okp RX12 cX12_call 6 none "call" false 1 (sGR 13 64 4) := ok_getR (by decide +kernel : decode cX12_call 1 = .ok (.getfield 152, 3)) fw_X12_152 rfl
theorem o314_4 : Okp RX12 cX12_call 6 none "call" false 4 (sLI 1 5) := ok_iload_n (by decide +kernel : decode cX12_call 4 = .ok (.iload_n 1, 1)) rfl
theorem o314_5 : Okp RX12 cX12_call 6 none "call" false 5 (sIA 6) := ok_iaload (by decide +kernel : decode cX12_call 5 = .ok (.iaload, 1))
theorem o314_6 : Okp RX12 cX12_call 6 none "call" false 6 (sK 16 8) := ok_bipush (by decide +kernel : decode cX12_call 6 = .ok (.bipush 16, 2)) (by decide)
theorem o314_8 : Okp RX12 cX12_call 6 none "call" false 8 (sI2 1 19 11) := ok_icmp_ne (by decide +kernel : decode cX12_call 8 = .ok (.if_icmp .ne 11, 3)) (by decide)
theorem o314_11 : Okp RX12 cX12_call 6 none "call" false 11 (sLR 0 12) := ok_aload_n (by decide +kernel : decode cX12_call 11 = .ok (.aload_n 0, 1)) rfl
theorem o314_12 : Okp RX12 cX12_call 6 none "call" false 12 (sLI 1 13) := ok_iload_n (by decide +kernel : decode cX12_call 12 = .ok (.iload_n 1, 1)) rfl
theorem o314_13 : Okp RX12 cX12_call 6 none "call" false 13 (sK 9 15) := ok_bipush (by decide +kernel : decode cX12_call 13 = .ok (.bipush 9, 2)) (by decide)
theorem o314_15 : Okp RX12 cX12_call 6 none "call" false 15 (sCV false 307 3 13 18) := ok_cv (by decide +kernel : decode cX12_call 15 = .ok (.invokevirtual 553, 3)) mw_X12_553 rfl (by decide) wm_X12_trap wse_X12_trap (by decide) rfl
theorem o314_18 : Okp RX12 cX12_call 6 none "call" false 18 sRV := ok_vret rfl (by decide +kernel : decode cX12_call 18 = .ok (.return_, 1))
theorem o314_19 : Okp RX12 cX12_call 6 none "call" false 19 (sLR 0 20) := ok_aload_n (by decide +kernel : decode cX12_call 19 = .ok (.aload_n 0, 1)) rfl
theorem o314_20 : Okp RX12 cX12_call 6 none "call" false 20 (sGR 13 16 23) := ok_getR (by decide +kernel : decode cX12_call 20 = .ok (.getfield 54, 3)) fw_X12_54 rfl
theorem o314_23 : Okp RX12 cX12_call 6 none "call" false 23 (sK 10 25) := ok_bipush (by decide +kernel : decode cX12_call 23 = .ok (.bipush 10, 2)) (by decide)
theorem o314_25 : Okp RX12 cX12_call 6 none "call" false 25 (sLR 0 26) := ok_aload_n (by decide +kernel : decode cX12_call 25 = .ok (.aload_n 0, 1)) rfl
theorem o314_26 : Okp RX12 cX12_call 6 none "call" false 26 (sGR 13 61 29) := ok_getR (by decide +kernel : decode cX12_call 26 = .ok (.getfield 143, 3)) fw_X12_143 rfl
theorem o314_29 : Okp RX12 cX12_call 6 none "call" false 29 (sLI 1 30) := ok_iload_n (by decide +kernel : decode cX12_call 29 = .ok (.iload_n 1, 1)) rfl
theorem o314_30 : Okp RX12 cX12_call 6 none "call" false 30 (sIA 31) := ok_iaload (by decide +kernel : decode cX12_call 30 = .ok (.iaload, 1))
theorem o314_31 : Okp RX12 cX12_call 6 none "call" false 31 (sB2 fMul 32) := ok_imul (by decide +kernel : decode cX12_call 31 = .ok (.imul, 1))
theorem o314_32 : Okp RX12 cX12_call 6 none "call" false 32 (sLI 2 33) := ok_iload_n (by decide +kernel : decode cX12_call 32 = .ok (.iload_n 2, 1)) rfl
theorem o314_33 : Okp RX12 cX12_call 6 none "call" false 33 (sB2 fAdd 34) := ok_iadd (by decide +kernel : decode cX12_call 33 = .ok (.iadd, 1))
theorem o314_34 : Okp RX12 cX12_call 6 none "call" false 34 (sIA 35) := ok_iaload (by decide +kernel : decode cX12_call 34 = .ok (.iaload, 1))
theorem o314_35 : Okp RX12 cX12_call 6 none "call" false 35 (sSI 3 36) := ok_istore_n (by decide +kernel : decode cX12_call 35 = .ok (.istore_n 3, 1)) rfl (by decide) (by decide)
theorem o314_36 : Okp RX12 cX12_call 6 none "call" false 36 (sLR 0 37) := ok_aload_n (by decide +kernel : decode cX12_call 36 = .ok (.aload_n 0, 1)) rfl
theorem o314_37 : Okp RX12 cX12_call 6 none "call" false 37 (sGR 13 67 40) := ok_getR (by decide +kernel : decode cX12_call 37 = .ok (.getfield 161, 3)) fw_X12_161 rfl
theorem o314_40 : Okp RX12 cX12_call 6 none "call" false 40 (sLR 0 41) := ok_aload_n (by decide +kernel : decode cX12_call 40 = .ok (.aload_n 0, 1)) rfl
theorem o314_41 : Okp RX12 cX12_call 6 none "call" false 41 (sLI 1 42) := ok_iload_n (by decide +kernel : decode cX12_call 41 = .ok (.iload_n 1, 1)) rfl
theorem o314_42 : Okp RX12 cX12_call 6 none "call" false 42 (sCV false 282 2 13 45) := ok_cv (by decide +kernel : decode cX12_call 42 = .ok (.invokevirtual 487, 3)) mw_X12_487 rfl (by decide) wm_X12_act wse_X12_act (by decide) rfl
theorem o314_45 : Okp RX12 cX12_call 6 none "call" false 45 (sDup2 46) := ok_dup2 (by decide +kernel : decode cX12_call 45 = .ok (.dup2, 1))
theorem o314_46 : Okp RX12 cX12_call 6 none "call" false 46 (sIA 47) := ok_iaload (by decide +kernel : decode cX12_call 46 = .ok (.iaload, 1))
theorem o314_47 : Okp RX12 cX12_call 6 none "call" false 47 (sLI 3 48) := ok_iload_n (by decide +kernel : decode cX12_call 47 = .ok (.iload_n 3, 1)) rfl
theorem o314_48 : Okp RX12 cX12_call 6 none "call" false 48 (sB2 fSub 49) := ok_isub (by decide +kernel : decode cX12_call 48 = .ok (.isub, 1))
theorem o314_49 : Okp RX12 cX12_call 6 none "call" false 49 (sIS 50) := ok_iastore (by decide +kernel : decode cX12_call 49 = .ok (.iastore, 1))
theorem o314_50 : Okp RX12 cX12_call 6 none "call" false 50 (sLR 0 51) := ok_aload_n (by decide +kernel : decode cX12_call 50 = .ok (.aload_n 0, 1)) rfl
theorem o314_51 : Okp RX12 cX12_call 6 none "call" false 51 (sLI 1 52) := ok_iload_n (by decide +kernel : decode cX12_call 51 = .ok (.iload_n 1, 1)) rfl
theorem o314_52 : Okp RX12 cX12_call 6 none "call" false 52 (sLR 0 53) := ok_aload_n (by decide +kernel : decode cX12_call 52 = .ok (.aload_n 0, 1)) rfl
theorem o314_53 : Okp RX12 cX12_call 6 none "call" false 53 (sGR 13 67 56) := ok_getR (by decide +kernel : decode cX12_call 53 = .ok (.getfield 161, 3)) fw_X12_161 rfl
theorem o314_56 : Okp RX12 cX12_call 6 none "call" false 56 (sLR 0 57) := ok_aload_n (by decide +kernel : decode cX12_call 56 = .ok (.aload_n 0, 1)) rfl
theorem o314_57 : Okp RX12 cX12_call 6 none "call" false 57 (sLI 1 58) := ok_iload_n (by decide +kernel : decode cX12_call 57 = .ok (.iload_n 1, 1)) rfl
theorem o314_58 : Okp RX12 cX12_call 6 none "call" false 58 (sCV false 282 2 13 61) := ok_cv (by decide +kernel : decode cX12_call 58 = .ok (.invokevirtual 487, 3)) mw_X12_487 rfl (by decide) wm_X12_act wse_X12_act (by decide) rfl
theorem o314_61 : Okp RX12 cX12_call 6 none "call" false 61 (sIA 62) := ok_iaload (by decide +kernel : decode cX12_call 61 = .ok (.iaload, 1))
theorem o314_62 : Okp RX12 cX12_call 6 none "call" false 62 (sCV false 284 3 13 65) := ok_cv (by decide +kernel : decode cX12_call 62 = .ok (.invokevirtual 490, 3)) mw_X12_490 rfl (by decide) wm_X12_stack wse_X12_stack (by decide) rfl
theorem o314_65 : Okp RX12 cX12_call 6 none "call" false 65 (sSI 4 67) := ok_istore (by decide +kernel : decode cX12_call 65 = .ok (.istore 4, 2)) (by decide) (by decide)
theorem o314_67 : Okp RX12 cX12_call 6 none "call" false 67 (sLR 0 68) := ok_aload_n (by decide +kernel : decode cX12_call 67 = .ok (.aload_n 0, 1)) rfl
theorem o314_68 : Okp RX12 cX12_call 6 none "call" false 68 (sLI 1 69) := ok_iload_n (by decide +kernel : decode cX12_call 68 = .ok (.iload_n 1, 1)) rfl
theorem o314_69 : Okp RX12 cX12_call 6 none "call" false 69 (sLI 2 70) := ok_iload_n (by decide +kernel : decode cX12_call 69 = .ok (.iload_n 2, 1)) rfl
theorem o314_70 : Okp RX12 cX12_call 6 none "call" false 70 (sCV false 281 3 13 73) := ok_cv (by decide +kernel : decode cX12_call 70 = .ok (.invokevirtual 484, 3)) mw_X12_484 rfl (by decide) wm_X12_activate wse_X12_activate (by decide) rfl
theorem o314_73 : Okp RX12 cX12_call 6 none "call" false 73 (sK 0 74) := ok_iconst (by decide +kernel : decode cX12_call 73 = .ok (.iconst 0, 1)) (by decide)
theorem o314_74 : Okp RX12 cX12_call 6 none "call" false 74 (sSI 5 76) := ok_istore (by decide +kernel : decode cX12_call 74 = .ok (.istore 5, 2)) (by decide) (by decide)
theorem o314_76 : Okp RX12 cX12_call 6 none "call" false 76 (sLI 5 78) := ok_iload (by decide +kernel : decode cX12_call 76 = .ok (.iload 5, 2))
theorem o314_78 : Okp RX12 cX12_call 6 none "call" false 78 (sLI 3 79) := ok_iload_n (by decide +kernel : decode cX12_call 78 = .ok (.iload_n 3, 1)) rfl
theorem o314_79 : Okp RX12 cX12_call 6 none "call" false 79 (sI2 3 123 82) := ok_icmp_ge (by decide +kernel : decode cX12_call 79 = .ok (.if_icmp .ge 44, 3)) (by decide)
theorem o314_82 : Okp RX12 cX12_call 6 none "call" false 82 (sLR 0 83) := ok_aload_n (by decide +kernel : decode cX12_call 82 = .ok (.aload_n 0, 1)) rfl
theorem o314_83 : Okp RX12 cX12_call 6 none "call" false 83 (sK 26 85) := ok_bipush (by decide +kernel : decode cX12_call 83 = .ok (.bipush 26, 2)) (by decide)
theorem o314_85 : Okp RX12 cX12_call 6 none "call" false 85 (sLR 0 86) := ok_aload_n (by decide +kernel : decode cX12_call 85 = .ok (.aload_n 0, 1)) rfl
theorem o314_86 : Okp RX12 cX12_call 6 none "call" false 86 (sLI 1 87) := ok_iload_n (by decide +kernel : decode cX12_call 86 = .ok (.iload_n 1, 1)) rfl
theorem o314_87 : Okp RX12 cX12_call 6 none "call" false 87 (sCV false 282 2 13 90) := ok_cv (by decide +kernel : decode cX12_call 87 = .ok (.invokevirtual 487, 3)) mw_X12_487 rfl (by decide) wm_X12_act wse_X12_act (by decide) rfl
theorem o314_90 : Okp RX12 cX12_call 6 none "call" false 90 (sB2 fMul 91) := ok_imul (by decide +kernel : decode cX12_call 90 = .ok (.imul, 1))
theorem o314_91 : Okp RX12 cX12_call 6 none "call" false 91 (sLI 5 93) := ok_iload (by decide +kernel : decode cX12_call 91 = .ok (.iload 5, 2))
theorem o314_93 : Okp RX12 cX12_call 6 none "call" false 93 (sB2 fAdd 94) := ok_iadd (by decide +kernel : decode cX12_call 93 = .ok (.iadd, 1))
theorem o314_94 : Okp RX12 cX12_call 6 none "call" false 94 (sLR 0 95) := ok_aload_n (by decide +kernel : decode cX12_call 94 = .ok (.aload_n 0, 1)) rfl
theorem o314_95 : Okp RX12 cX12_call 6 none "call" false 95 (sGR 13 68 98) := ok_getR (by decide +kernel : decode cX12_call 95 = .ok (.getfield 164, 3)) fw_X12_164 rfl
theorem o314_98 : Okp RX12 cX12_call 6 none "call" false 98 (sLI 4 100) := ok_iload (by decide +kernel : decode cX12_call 98 = .ok (.iload 4, 2))
theorem o314_100 : Okp RX12 cX12_call 6 none "call" false 100 (sLI 5 102) := ok_iload (by decide +kernel : decode cX12_call 100 = .ok (.iload 5, 2))
theorem o314_102 : Okp RX12 cX12_call 6 none "call" false 102 (sB2 fAdd 103) := ok_iadd (by decide +kernel : decode cX12_call 102 = .ok (.iadd, 1))
theorem o314_103 : Okp RX12 cX12_call 6 none "call" false 103 (sIA 104) := ok_iaload (by decide +kernel : decode cX12_call 103 = .ok (.iaload, 1))
theorem o314_104 : Okp RX12 cX12_call 6 none "call" false 104 (sLR 0 105) := ok_aload_n (by decide +kernel : decode cX12_call 104 = .ok (.aload_n 0, 1)) rfl
theorem o314_105 : Okp RX12 cX12_call 6 none "call" false 105 (sGR 13 69 108) := ok_getR (by decide +kernel : decode cX12_call 105 = .ok (.getfield 167, 3)) fw_X12_167 rfl
theorem o314_108 : Okp RX12 cX12_call 6 none "call" false 108 (sLI 4 110) := ok_iload (by decide +kernel : decode cX12_call 108 = .ok (.iload 4, 2))
theorem o314_110 : Okp RX12 cX12_call 6 none "call" false 110 (sLI 5 112) := ok_iload (by decide +kernel : decode cX12_call 110 = .ok (.iload 5, 2))
theorem o314_112 : Okp RX12 cX12_call 6 none "call" false 112 (sB2 fAdd 113) := ok_iadd (by decide +kernel : decode cX12_call 112 = .ok (.iadd, 1))
theorem o314_113 : Okp RX12 cX12_call 6 none "call" false 113 (sIA 114) := ok_iaload (by decide +kernel : decode cX12_call 113 = .ok (.iaload, 1))
theorem o314_114 : Okp RX12 cX12_call 6 none "call" false 114 (sCV false 285 4 13 117) := ok_cv (by decide +kernel : decode cX12_call 114 = .ok (.invokevirtual 481, 3)) mw_X12_481 rfl (by decide) wm_X12_set wse_X12_set (by decide) rfl
theorem o314_117 : Okp RX12 cX12_call 6 none "call" false 117 (sInc 5 1 120) := ok_iinc (by decide +kernel : decode cX12_call 117 = .ok (.iinc 5 1, 3)) (by decide) (by decide)
theorem o314_120 : Okp RX12 cX12_call 6 none "call" false 120 (sGo 76) := ok_goto (by decide +kernel : decode cX12_call 120 = .ok (.goto (-44), 3)) (by decide)
theorem o314_123 : Okp RX12 cX12_call 6 none "call" false 123 sRV := ok_vret rfl (by decide +kernel : decode cX12_call 123 = .ok (.return_, 1))
theorem oc314_0 : ∀ pc, Mnp (c314_0 pc) ∧ Okp RX12 cX12_call 6 none "call" false pc (c314_0 pc) := by
  intro pc
  unfold c314_0
  split
  · exact ⟨mn_sLR, o314_0⟩
  · exact ⟨mn_sGR, o314_1⟩
  · exact ⟨mn_sLI, o314_4⟩
  · exact ⟨mn_sIA, o314_5⟩
  · exact ⟨mn_sK, o314_6⟩
  · exact ⟨mn_sI2, o314_8⟩
  · exact ⟨mn_sLR, o314_11⟩
  · exact ⟨mn_sLI, o314_12⟩
  · exact ⟨mn_sK, o314_13⟩
  · exact ⟨mn_sCV, o314_15⟩
  · exact ⟨mn_sRV, o314_18⟩
  · exact ⟨mn_sLR, o314_19⟩
  · exact ⟨mn_sGR, o314_20⟩
  · exact ⟨mn_sK, o314_23⟩
  · exact ⟨mn_sX, ok_X⟩
theorem oc314_1 : ∀ pc, Mnp (c314_1 pc) ∧ Okp RX12 cX12_call 6 none "call" false pc (c314_1 pc) := by
  intro pc
  unfold c314_1
  split
  · exact ⟨mn_sLR, o314_25⟩
  · exact ⟨mn_sGR, o314_26⟩
  · exact ⟨mn_sLI, o314_29⟩
  · exact ⟨mn_sIA, o314_30⟩
  · exact ⟨mn_sB2, o314_31⟩
  · exact ⟨mn_sLI, o314_32⟩
  · exact ⟨mn_sB2, o314_33⟩
  · exact ⟨mn_sIA, o314_34⟩
  · exact ⟨mn_sSI, o314_35⟩
  · exact ⟨mn_sLR, o314_36⟩
  · exact ⟨mn_sGR, o314_37⟩
  · exact ⟨mn_sLR, o314_40⟩
  · exact ⟨mn_sLI, o314_41⟩
  · exact ⟨mn_sCV, o314_42⟩
  · exact ⟨mn_sDup2, o314_45⟩
  · exact ⟨mn_sIA, o314_46⟩
  · exact ⟨mn_sLI, o314_47⟩
  · exact ⟨mn_sX, ok_X⟩
theorem oc314_2 : ∀ pc, Mnp (c314_2 pc) ∧ Okp RX12 cX12_call 6 none "call" false pc (c314_2 pc) := by
  intro pc
  unfold c314_2
  split
  · exact ⟨mn_sB2, o314_48⟩
  · exact ⟨mn_sIS, o314_49⟩
  · exact ⟨mn_sLR, o314_50⟩
  · exact ⟨mn_sLI, o314_51⟩
  · exact ⟨mn_sLR, o314_52⟩
  · exact ⟨mn_sGR, o314_53⟩
  · exact ⟨mn_sLR, o314_56⟩
  · exact ⟨mn_sLI, o314_57⟩
  · exact ⟨mn_sCV, o314_58⟩
  · exact ⟨mn_sIA, o314_61⟩
  · exact ⟨mn_sCV, o314_62⟩
  · exact ⟨mn_sSI, o314_65⟩
  · exact ⟨mn_sLR, o314_67⟩
  · exact ⟨mn_sLI, o314_68⟩
  · exact ⟨mn_sLI, o314_69⟩
  · exact ⟨mn_sCV, o314_70⟩
  · exact ⟨mn_sX, ok_X⟩
theorem oc314_3 : ∀ pc, Mnp (c314_3 pc) ∧ Okp RX12 cX12_call 6 none "call" false pc (c314_3 pc) := by
  intro pc
  unfold c314_3
  split
  · exact ⟨mn_sK, o314_73⟩
  · exact ⟨mn_sSI, o314_74⟩
  · exact ⟨mn_sLI, o314_76⟩
  · exact ⟨mn_sLI, o314_78⟩
  · exact ⟨mn_sI2, o314_79⟩
  · exact ⟨mn_sLR, o314_82⟩
  · exact ⟨mn_sK, o314_83⟩
  · exact ⟨mn_sLR, o314_85⟩
  · exact ⟨mn_sLI, o314_86⟩
  · exact ⟨mn_sCV, o314_87⟩
  · exact ⟨mn_sB2, o314_90⟩
  · exact ⟨mn_sLI, o314_91⟩
  · exact ⟨mn_sB2, o314_93⟩
  · exact ⟨mn_sLR, o314_94⟩
  · exact ⟨mn_sGR, o314_95⟩
  · exact ⟨mn_sX, ok_X⟩
theorem oc314_4 : ∀ pc, Mnp (c314_4 pc) ∧ Okp RX12 cX12_call 6 none "call" false pc (c314_4 pc) := by
  intro pc
  unfold c314_4
  split
  · exact ⟨mn_sLI, o314_98⟩
  · exact ⟨mn_sLI, o314_100⟩
  · exact ⟨mn_sB2, o314_102⟩
  · exact ⟨mn_sIA, o314_103⟩
  · exact ⟨mn_sLR, o314_104⟩
  · exact ⟨mn_sGR, o314_105⟩
  · exact ⟨mn_sLI, o314_108⟩
  · exact ⟨mn_sLI, o314_110⟩
  · exact ⟨mn_sB2, o314_112⟩
  · exact ⟨mn_sIA, o314_113⟩
  · exact ⟨mn_sCV, o314_114⟩
  · exact ⟨mn_sInc, o314_117⟩
  · exact ⟨mn_sX, ok_X⟩
theorem oc314_5 : ∀ pc, Mnp (c314_5 pc) ∧ Okp RX12 cX12_call 6 none "call" false pc (c314_5 pc) := by
  intro pc
  unfold c314_5
  split
  · exact ⟨mn_sGo, o314_120⟩
  · exact ⟨mn_sRV, o314_123⟩
  · exact ⟨mn_sX, ok_X⟩
theorem oc314 : ∀ pc, Mnp (c314 pc) ∧ Okp RX12 cX12_call 6 none "call" false pc (c314 pc) := by
  intro pc
  unfold c314
  split
  · exact oc314_0 pc
  · exact oc314_1 pc
  · exact oc314_2 pc
  · exact oc314_3 pc
  · exact oc314_4 pc
  · exact oc314_5 pc
  · exact ⟨mn_sX, ok_X⟩
theorem o315_0 : Okp RX12 cX12_back 6 none "back" false 0 (sLR 0 1) := ok_aload_n (by decide +kernel : decode cX12_back 0 = .ok (.aload_n 0, 1)) rfl
theorem o315_1 : Okp RX12 cX12_back 6 none "back" false 1 (sGR 13 18 4) := ok_getR (by decide +kernel : decode cX12_back 1 = .ok (.getfield 60, 3)) fw_X12_60 rfl
theorem o315_4 : Okp RX12 cX12_back 6 none "back" false 4 (sLR 0 5) := ok_aload_n (by decide +kernel : decode cX12_back 4 = .ok (.aload_n 0, 1)) rfl
theorem o315_5 : Okp RX12 cX12_back 6 none "back" false 5 (sLI 1 6) := ok_iload_n (by decide +kernel : decode cX12_back 5 = .ok (.iload_n 1, 1)) rfl
theorem o315_6 : Okp RX12 cX12_back 6 none "back" false 6 (sCV false 301 2 13 9) := ok_cv (by decide +kernel : decode cX12_back 6 = .ok (.invokevirtual 522, 3)) mw_X12_522 rfl (by decide) wm_X12_function wse_X12_function (by decide) rfl
theorem o315_9 : Okp RX12 cX12_back 6 none "back" false 9 (sIA 10) := ok_iaload (by decide +kernel : decode cX12_back 9 = .ok (.iaload, 1))
theorem o315_10 : Okp RX12 cX12_back 6 none "back" false 10 (sK (-1) 11) := ok_iconst (by decide +kernel : decode cX12_back 10 = .ok (.iconst (-1), 1)) (by decide)
theorem o315_11 : Okp RX12 cX12_back 6 none "back" false 11 (sI2 0 18 14) := ok_icmp_eq (by decide +kernel : decode cX12_back 11 = .ok (.if_icmp .eq 7, 3)) (by decide)
theorem o315_14 : Okp RX12 cX12_back 6 none "back" false 14 (sK 1 15) := ok_iconst (by decide +kernel : decode cX12_back 14 = .ok (.iconst 1, 1)) (by decide)
theorem o315_15 : Okp RX12 cX12_back 6 none "back" false 15 (sGo 19) := ok_goto (by decide +kernel : decode cX12_back 15 = .ok (.goto 4, 3)) (by decide)
theorem o315_18 : Okp RX12 cX12_back 6 none "back" false 18 (sK 0 19) := ok_iconst (by decide +kernel : decode cX12_back 18 = .ok (.iconst 0, 1)) (by decide)
theorem o315_19 : Okp RX12 cX12_back 6 none "back" false 19 (sSI 2 20) := ok_istore_n (by decide +kernel : decode cX12_back 19 = .ok (.istore_n 2, 1)) rfl (by decide) (by decide)
theorem o315_20 : Okp RX12 cX12_back 6 none "back" false 20 (sLI 2 21) := ok_iload_n (by decide +kernel : decode cX12_back 20 = .ok (.iload_n 2, 1)) rfl
theorem o315_21 : Okp RX12 cX12_back 6 none "back" false 21 (sI1 0 32 24) := ok_if_eq (by decide +kernel : decode cX12_back 21 = .ok (.ifCond .eq 11, 3)) (by decide)
theorem o315_24 : Okp RX12 cX12_back 6 none "back" false 24 (sLR 0 25) := ok_aload_n (by decide +kernel : decode cX12_back 24 = .ok (.aload_n 0, 1)) rfl
theorem o315_25 : Okp RX12 cX12_back 6 none "back" false 25 (sLI 1 26) := ok_iload_n (by decide +kernel : decode cX12_back 25 = .ok (.iload_n 1, 1)) rfl
theorem o315_26 : Okp RX12 cX12_back 6 none "back" false 26 (sCV false 287 2 13 29) := ok_cv (by decide +kernel : decode cX12_back 26 = .ok (.invokevirtual 493, 3)) mw_X12_493 rfl (by decide) wm_X12_pop_ wse_X12_pop_ (by decide) rfl
theorem o315_29 : Okp RX12 cX12_back 6 none "back" false 29 (sGo 33) := ok_goto (by decide +kernel : decode cX12_back 29 = .ok (.goto 4, 3)) (by decide)
theorem o315_32 : Okp RX12 cX12_back 6 none "back" false 32 (sK 0 33) := ok_iconst (by decide +kernel : decode cX12_back 32 = .ok (.iconst 0, 1)) (by decide)
theorem o315_33 : Okp RX12 cX12_back 6 none "back" false 33 (sSI 3 34) := ok_istore_n (by decide +kernel : decode cX12_back 33 = .ok (.istore_n 3, 1)) rfl (by decide) (by decide)
theorem o315_34 : Okp RX12 cX12_back 6 none "back" false 34 (sLR 0 35) := ok_aload_n (by decide +kernel : decode cX12_back 34 = .ok (.aload_n 0, 1)) rfl
theorem o315_35 : Okp RX12 cX12_back 6 none "back" false 35 (sGR 13 68 38) := ok_getR (by decide +kernel : decode cX12_back 35 = .ok (.getfield 164, 3)) fw_X12_164 rfl
theorem o315_38 : Okp RX12 cX12_back 6 none "back" false 38 (sLI 3 39) := ok_iload_n (by decide +kernel : decode cX12_back 38 = .ok (.iload_n 3, 1)) rfl
theorem o315_39 : Okp RX12 cX12_back 6 none "back" false 39 (sIA 40) := ok_iaload (by decide +kernel : decode cX12_back 39 = .ok (.iaload, 1))
theorem o315_40 : Okp RX12 cX12_back 6 none "back" false 40 (sSI 4 42) := ok_istore (by decide +kernel : decode cX12_back 40 = .ok (.istore 4, 2)) (by decide) (by decide)
theorem o315_42 : Okp RX12 cX12_back 6 none "back" false 42 (sLR 0 43) := ok_aload_n (by decide +kernel : decode cX12_back 42 = .ok (.aload_n 0, 1)) rfl
theorem o315_43 : Okp RX12 cX12_back 6 none "back" false 43 (sGR 13 69 46) := ok_getR (by decide +kernel : decode cX12_back 43 = .ok (.getfield 167, 3)) fw_X12_167 rfl
theorem o315_46 : Okp RX12 cX12_back 6 none "back" false 46 (sLI 3 47) := ok_iload_n (by decide +kernel : decode cX12_back 46 = .ok (.iload_n 3, 1)) rfl
theorem o315_47 : Okp RX12 cX12_back 6 none "back" false 47 (sIA 48) := ok_iaload (by decide +kernel : decode cX12_back 47 = .ok (.iaload, 1))
theorem o315_48 : Okp RX12 cX12_back 6 none "back" false 48 (sSI 5 50) := ok_istore (by decide +kernel : decode cX12_back 48 = .ok (.istore 5, 2)) (by decide) (by decide)
theorem o315_50 : Okp RX12 cX12_back 6 none "back" false 50 (sLR 0 51) := ok_aload_n (by decide +kernel : decode cX12_back 50 = .ok (.aload_n 0, 1)) rfl
theorem o315_51 : Okp RX12 cX12_back 6 none "back" false 51 (sGR 13 64 54) := ok_getR (by decide +kernel : decode cX12_back 51 = .ok (.getfield 152, 3)) fw_X12_152 rfl
theorem o315_54 : Okp RX12 cX12_back 6 none "back" false 54 (sLI 1 55) := ok_iload_n (by decide +kernel : decode cX12_back 54 = .ok (.iload_n 1, 1)) rfl
theorem o315_55 : Okp RX12 cX12_back 6 none "back" false 55 (sIA 56) := ok_iaload (by decide +kernel : decode cX12_back 55 = .ok (.iaload, 1))
theorem o315_56 : Okp RX12 cX12_back 6 none "back" false 56 (sK 1 57) := ok_iconst (by decide +kernel : decode cX12_back 56 = .ok (.iconst 1, 1)) (by decide)
theorem o315_57 : Okp RX12 cX12_back 6 none "back" false 57 (sI2 1 67 60) := ok_icmp_ne (by decide +kernel : decode cX12_back 57 = .ok (.if_icmp .ne 10, 3)) (by decide)
theorem o315_60 : Okp RX12 cX12_back 6 none "back" false 60 (sLR 0 61) := ok_aload_n (by decide +kernel : decode cX12_back 60 = .ok (.aload_n 0, 1)) rfl
theorem o315_61 : Okp RX12 cX12_back 6 none "back" false 61 (sLI 1 62) := ok_iload_n (by decide +kernel : decode cX12_back 61 = .ok (.iload_n 1, 1)) rfl
theorem o315_62 : Okp RX12 cX12_back 6 none "back" false 62 (sK 4 63) := ok_iconst (by decide +kernel : decode cX12_back 62 = .ok (.iconst 4, 1)) (by decide)
theorem o315_63 : Okp RX12 cX12_back 6 none "back" false 63 (sCV false 298 3 13 66) := ok_cv (by decide +kernel : decode cX12_back 63 = .ok (.invokevirtual 533, 3)) mw_X12_533 rfl (by decide) wm_X12_over wse_X12_over (by decide) rfl
theorem o315_66 : Okp RX12 cX12_back 6 none "back" false 66 sRV := ok_vret rfl (by decide +kernel : decode cX12_back 66 = .ok (.return_, 1))
theorem o315_67 : Okp RX12 cX12_back 6 none "back" false 67 (sLR 0 68) := ok_aload_n (by decide +kernel : decode cX12_back 67 = .ok (.aload_n 0, 1)) rfl
theorem o315_68 : Okp RX12 cX12_back 6 none "back" false 68 (sGR 13 64 71) := ok_getR (by decide +kernel : decode cX12_back 68 = .ok (.getfield 152, 3)) fw_X12_152 rfl
theorem o315_71 : Okp RX12 cX12_back 6 none "back" false 71 (sLI 1 72) := ok_iload_n (by decide +kernel : decode cX12_back 71 = .ok (.iload_n 1, 1)) rfl
theorem o315_72 : Okp RX12 cX12_back 6 none "back" false 72 (sDup2 73) := ok_dup2 (by decide +kernel : decode cX12_back 72 = .ok (.dup2, 1))
theorem o315_73 : Okp RX12 cX12_back 6 none "back" false 73 (sIA 74) := ok_iaload (by decide +kernel : decode cX12_back 73 = .ok (.iaload, 1))
theorem o315_74 : Okp RX12 cX12_back 6 none "back" false 74 (sK 1 75) := ok_iconst (by decide +kernel : decode cX12_back 74 = .ok (.iconst 1, 1)) (by decide)
theorem o315_75 : Okp RX12 cX12_back 6 none "back" false 75 (sB2 fSub 76) := ok_isub (by decide +kernel : decode cX12_back 75 = .ok (.isub, 1))
theorem o315_76 : Okp RX12 cX12_back 6 none "back" false 76 (sIS 77) := ok_iastore (by decide +kernel : decode cX12_back 76 = .ok (.iastore, 1))
theorem o315_77 : Okp RX12 cX12_back 6 none "back" false 77 (sLI 2 78) := ok_iload_n (by decide +kernel : decode cX12_back 77 = .ok (.iload_n 2, 1)) rfl
theorem o315_78 : Okp RX12 cX12_back 6 none "back" false 78 (sI1 0 90 81) := ok_if_eq (by decide +kernel : decode cX12_back 78 = .ok (.ifCond .eq 12, 3)) (by decide)
theorem o315_81 : Okp RX12 cX12_back 6 none "back" false 81 (sLR 0 82) := ok_aload_n (by decide +kernel : decode cX12_back 81 = .ok (.aload_n 0, 1)) rfl
theorem o315_82 : Okp RX12 cX12_back 6 none "back" false 82 (sLI 1 83) := ok_iload_n (by decide +kernel : decode cX12_back 82 = .ok (.iload_n 1, 1)) rfl
theorem o315_83 : Okp RX12 cX12_back 6 none "back" false 83 (sLI 4 85) := ok_iload (by decide +kernel : decode cX12_back 83 = .ok (.iload 4, 2))
theorem o315_85 : Okp RX12 cX12_back 6 none "back" false 85 (sLI 5 87) := ok_iload (by decide +kernel : decode cX12_back 85 = .ok (.iload 5, 2))
theorem o315_87 : Okp RX12 cX12_back 6 none "back" false 87 (sCV false 286 4 13 90) := ok_cv (by decide +kernel : decode cX12_back 87 = .ok (.invokevirtual 548, 3)) mw_X12_548 rfl (by decide) wm_X12_push_ wse_X12_push_ (by decide) rfl
theorem o315_90 : Okp RX12 cX12_back 6 none "back" false 90 sRV := ok_vret rfl (by decide +kernel : decode cX12_back 90 = .ok (.return_, 1))
theorem oc315_0 : ∀ pc, Mnp (c315_0 pc) ∧ Okp RX12 cX12_back 6 none "back" false pc (c315_0 pc) := by
  intro pc
  unfold c315_0
  split
  · exact ⟨mn_sLR, o315_0⟩
  · exact ⟨mn_sGR, o315_1⟩
  · exact ⟨mn_sLR, o315_4⟩
  · exact ⟨mn_sLI, o315_5⟩
  · exact ⟨mn_sCV, o315_6⟩
  · exact ⟨mn_sIA, o315_9⟩
  · exact ⟨mn_sK, o315_10⟩
  · exact ⟨mn_sI2, o315_11⟩
  · exact ⟨mn_sK, o315_14⟩
  · exact ⟨mn_sGo, o315_15⟩
  · exact ⟨mn_sK, o315_18⟩
  · exact ⟨mn_sSI, o315_19⟩
  · exact ⟨mn_sLI, o315_20⟩
  · exact ⟨mn_sI1, o315_21⟩
  · exact ⟨mn_sX, ok_X⟩
theorem oc315_1 : ∀ pc, Mnp (c315_1 pc) ∧ Okp RX12 cX12_back 6 none "back" false pc (c315_1 pc) := by
  intro pc
  unfold c315_1
  split
  · exact ⟨mn_sLR, o315_24⟩
  · exact ⟨mn_sLI, o315_25⟩
  · exact ⟨mn_sCV, o315_26⟩
  · exact ⟨mn_sGo, o315_29⟩
  · exact ⟨mn_sK, o315_32⟩
  · exact ⟨mn_sSI, o315_33⟩
  · exact ⟨mn_sLR, o315_34⟩
  · exact ⟨mn_sGR, o315_35⟩
  · exact ⟨mn_sLI, o315_38⟩
  · exact ⟨mn_sIA, o315_39⟩
  · exact ⟨mn_sSI, o315_40⟩
  · exact ⟨mn_sLR, o315_42⟩
  · exact ⟨mn_sGR, o315_43⟩
  · exact ⟨mn_sLI, o315_46⟩
  · exact ⟨mn_sIA, o315_47⟩
  · exact ⟨mn_sX, ok_X⟩
theorem oc315_2 : ∀ pc, Mnp (c315_2 pc) ∧ Okp RX12 cX12_back 6 none "back" false pc (c315_2 pc) := by
  intro pc
  unfold c315_2
  split
  · exact ⟨mn_sSI, o315_48⟩
  · exact ⟨mn_sLR, o315_50⟩
  · exact ⟨mn_sGR, o315_51⟩
  · exact ⟨mn_sLI, o315_54⟩
  · exact ⟨mn_sIA, o315_55⟩
  · exact ⟨mn_sK, o315_56⟩
  · exact ⟨mn_sI2, o315_57⟩
  · exact ⟨mn_sLR, o315_60⟩
  · exact ⟨mn_sLI, o315_61⟩
  · exact ⟨mn_sK, o315_62⟩
  · exact ⟨mn_sCV, o315_63⟩
  · exact ⟨mn_sRV, o315_66⟩
  · exact ⟨mn_sLR, o315_67⟩
  · exact ⟨mn_sGR, o315_68⟩
  · exact ⟨mn_sLI, o315_71⟩
  · exact ⟨mn_sX, ok_X⟩
theorem oc315_3 : ∀ pc, Mnp (c315_3 pc) ∧ Okp RX12 cX12_back 6 none "back" false pc (c315_3 pc) := by
  intro pc
  unfold c315_3
  split
  · exact ⟨mn_sDup2, o315_72⟩
  · exact ⟨mn_sIA, o315_73⟩
  · exact ⟨mn_sK, o315_74⟩
  · exact ⟨mn_sB2, o315_75⟩
  · exact ⟨mn_sIS, o315_76⟩
  · exact ⟨mn_sLI, o315_77⟩
  · exact ⟨mn_sI1, o315_78⟩
  · exact ⟨mn_sLR, o315_81⟩
  · exact ⟨mn_sLI, o315_82⟩
  · exact ⟨mn_sLI, o315_83⟩
  · exact ⟨mn_sLI, o315_85⟩
  · exact ⟨mn_sCV, o315_87⟩
  · exact ⟨mn_sRV, o315_90⟩
  · exact ⟨mn_sX, ok_X⟩
theorem oc315 : ∀ pc, Mnp (c315 pc) ∧ Okp RX12 cX12_back 6 none "back" false pc (c315 pc) := by
  intro pc
  unfold c315
  split
  · exact oc315_0 pc
  · exact oc315_1 pc
  · exact oc315_2 pc
  · exact oc315_3 pc
  · exact ⟨mn_sX, ok_X⟩
theorem o316_0 : Okp RX12 cX12_linearly 6 none "linearly" false 0 (sLI 2 1) := ok_iload_n (by decide +kernel : decode cX12_linearly 0 = .ok (.iload_n 2, 1)) rfl
theorem o316_1 : Okp RX12 cX12_linearly 6 none "linearly" false 1 (sSw [(32, 60), (33, 69), (34, 110), (35, 154), (36, 172), (37, 181), (38, 190), (39, 200), (40, 216), (41, 225), (42, 233)] 242) := ok_tsw (by decide +kernel : decode cX12_linearly 1 = .ok (.tableswitch 241 32 42 #[59, 68, 109, 153, 171, 180, 189, 199, 215, 224, 232], 59)) (by decide) (by decide) (by decide)
theorem o316_60 : Okp RX12 cX12_linearly 6 none "linearly" false 60 (sLR 0 61) := ok_aload_n (by decide +kernel : decode cX12_linearly 60 = .ok (.aload_n 0, 1)) rfl
theorem o316_61 : Okp RX12 cX12_linearly 6 none "linearly" false 61 (sLI 1 62) := ok_iload_n (by decide +kernel : decode cX12_linearly 61 = .ok (.iload_n 1, 1)) rfl
theorem o316_62 : Okp RX12 cX12_linearly 6 none "linearly" false 62 (sLI 3 63) := ok_iload_n (by decide +kernel : decode cX12_linearly 62 = .ok (.iload_n 3, 1)) rfl
theorem o316_63 : Okp RX12 cX12_linearly 6 none "linearly" false 63 (sCV false 317 3 13 66) := ok_cv (by decide +kernel : decode cX12_linearly 63 = .ok (.invokevirtual 574, 3)) mw_X12_574 rfl (by decide) wm_X12_makeBlock wse_X12_makeBlock (by decide) rfl
theorem o316_66 : Okp RX12 cX12_linearly 6 none "linearly" false 66 (sGo 300) := ok_goto (by decide +kernel : decode cX12_linearly 66 = .ok (.goto 234, 3)) (by decide)
theorem o316_69 : Okp RX12 cX12_linearly 6 none "linearly" false 69 (sLR 0 70) := ok_aload_n (by decide +kernel : decode cX12_linearly 69 = .ok (.aload_n 0, 1)) rfl
theorem o316_70 : Okp RX12 cX12_linearly 6 none "linearly" false 70 (sLI 1 71) := ok_iload_n (by decide +kernel : decode cX12_linearly 70 = .ok (.iload_n 1, 1)) rfl
theorem o316_71 : Okp RX12 cX12_linearly 6 none "linearly" false 71 (sLR 0 72) := ok_aload_n (by decide +kernel : decode cX12_linearly 71 = .ok (.aload_n 0, 1)) rfl
theorem o316_72 : Okp RX12 cX12_linearly 6 none "linearly" false 72 (sGR 13 81 75) := ok_getR (by decide +kernel : decode cX12_linearly 72 = .ok (.getfield 203, 3)) fw_X12_203 rfl
theorem o316_75 : Okp RX12 cX12_linearly 6 none "linearly" false 75 (sK 6 77) := ok_bipush (by decide +kernel : decode cX12_linearly 75 = .ok (.bipush 6, 2)) (by decide)
theorem o316_77 : Okp RX12 cX12_linearly 6 none "linearly" false 77 (sLR 0 78) := ok_aload_n (by decide +kernel : decode cX12_linearly 77 = .ok (.aload_n 0, 1)) rfl
theorem o316_78 : Okp RX12 cX12_linearly 6 none "linearly" false 78 (sGR 13 68 81) := ok_getR (by decide +kernel : decode cX12_linearly 78 = .ok (.getfield 164, 3)) fw_X12_164 rfl
theorem o316_81 : Okp RX12 cX12_linearly 6 none "linearly" false 81 (sLR 0 82) := ok_aload_n (by decide +kernel : decode cX12_linearly 81 = .ok (.aload_n 0, 1)) rfl
theorem o316_82 : Okp RX12 cX12_linearly 6 none "linearly" false 82 (sLI 1 83) := ok_iload_n (by decide +kernel : decode cX12_linearly 82 = .ok (.iload_n 1, 1)) rfl
theorem o316_83 : Okp RX12 cX12_linearly 6 none "linearly" false 83 (sLR 0 84) := ok_aload_n (by decide +kernel : decode cX12_linearly 83 = .ok (.aload_n 0, 1)) rfl
theorem o316_84 : Okp RX12 cX12_linearly 6 none "linearly" false 84 (sGR 13 67 87) := ok_getR (by decide +kernel : decode cX12_linearly 84 = .ok (.getfield 161, 3)) fw_X12_161 rfl
theorem o316_87 : Okp RX12 cX12_linearly 6 none "linearly" false 87 (sLR 0 88) := ok_aload_n (by decide +kernel : decode cX12_linearly 87 = .ok (.aload_n 0, 1)) rfl
theorem o316_88 : Okp RX12 cX12_linearly 6 none "linearly" false 88 (sLI 1 89) := ok_iload_n (by decide +kernel : decode cX12_linearly 88 = .ok (.iload_n 1, 1)) rfl
theorem o316_89 : Okp RX12 cX12_linearly 6 none "linearly" false 89 (sCV true 282 2 13 92) := ok_cv (by decide +kernel : decode cX12_linearly 89 = .ok (.invokevirtual 487, 3)) mw_X12_487 rfl (by decide) wm_X12_act wse_X12_act (by decide) rfl
theorem o316_92 : Okp RX12 cX12_linearly 6 none "linearly" false 92 (sIA 93) := ok_iaload (by decide +kernel : decode cX12_linearly 92 = .ok (.iaload, 1))
theorem o316_93 : Okp RX12 cX12_linearly 6 none "linearly" false 93 (sK 1 94) := ok_iconst (by decide +kernel : decode cX12_linearly 93 = .ok (.iconst 1, 1)) (by decide)
theorem o316_94 : Okp RX12 cX12_linearly 6 none "linearly" false 94 (sB2 fSub 95) := ok_isub (by decide +kernel : decode cX12_linearly 94 = .ok (.isub, 1))
theorem o316_95 : Okp RX12 cX12_linearly 6 none "linearly" false 95 (sCV true 284 3 13 98) := ok_cv (by decide +kernel : decode cX12_linearly 95 = .ok (.invokevirtual 490, 3)) mw_X12_490 rfl (by decide) wm_X12_stack wse_X12_stack (by decide) rfl
theorem o316_98 : Okp RX12 cX12_linearly 6 none "linearly" false 98 (sIA 99) := ok_iaload (by decide +kernel : decode cX12_linearly 98 = .ok (.iaload, 1))
theorem o316_99 : Okp RX12 cX12_linearly 6 none "linearly" false 99 (sB2 fMul 100) := ok_imul (by decide +kernel : decode cX12_linearly 99 = .ok (.imul, 1))
theorem o316_100 : Okp RX12 cX12_linearly 6 none "linearly" false 100 (sLI 3 101) := ok_iload_n (by decide +kernel : decode cX12_linearly 100 = .ok (.iload_n 3, 1)) rfl
theorem o316_101 : Okp RX12 cX12_linearly 6 none "linearly" false 101 (sB2 fAdd 102) := ok_iadd (by decide +kernel : decode cX12_linearly 101 = .ok (.iadd, 1))
theorem o316_102 : Okp RX12 cX12_linearly 6 none "linearly" false 102 (sIA 103) := ok_iaload (by decide +kernel : decode cX12_linearly 102 = .ok (.iaload, 1))
theorem o316_103 : Okp RX12 cX12_linearly 6 none "linearly" false 103 (sK 0 104) := ok_iconst (by decide +kernel : decode cX12_linearly 103 = .ok (.iconst 0, 1)) (by decide)
theorem o316_104 : Okp RX12 cX12_linearly 6 none "linearly" false 104 (sCV false 286 4 13 107) := ok_cv (by decide +kernel : decode cX12_linearly 104 = .ok (.invokevirtual 548, 3)) mw_X12_548 rfl (by decide) wm_X12_push_ wse_X12_push_ (by decide) rfl
theorem o316_107 : Okp RX12 cX12_linearly 6 none "linearly" false 107 (sGo 300) := ok_goto (by decide +kernel : decode cX12_linearly 107 = .ok (.goto 193, 3)) (by decide)
theorem o316_110 : Okp RX12 cX12_linearly 6 none "linearly" false 110 (sLR 0 111) := ok_aload_n (by decide +kernel : decode cX12_linearly 110 = .ok (.aload_n 0, 1)) rfl
theorem o316_111 : Okp RX12 cX12_linearly 6 none "linearly" false 111 (sLI 1 112) := ok_iload_n (by decide +kernel : decode cX12_linearly 111 = .ok (.iload_n 1, 1)) rfl
theorem o316_112 : Okp RX12 cX12_linearly 6 none "linearly" false 112 (sCV false 288 2 13 115) := ok_cv (by decide +kernel : decode cX12_linearly 112 = .ok (.invokevirtual 550, 3)) mw_X12_550 rfl (by decide) wm_X12_popValue wse_X12_popValue (by decide) rfl
theorem o316_115 : Okp RX12 cX12_linearly 6 none "linearly" false 115 (sSI 5 117) := ok_istore (by decide +kernel : decode cX12_linearly 115 = .ok (.istore 5, 2)) (by decide) (by decide)
theorem o316_117 : Okp RX12 cX12_linearly 6 none "linearly" false 117 (sLR 0 118) := ok_aload_n (by decide +kernel : decode cX12_linearly 117 = .ok (.aload_n 0, 1)) rfl
theorem o316_118 : Okp RX12 cX12_linearly 6 none "linearly" false 118 (sGR 13 81 121) := ok_getR (by decide +kernel : decode cX12_linearly 118 = .ok (.getfield 203, 3)) fw_X12_203 rfl
theorem o316_121 : Okp RX12 cX12_linearly 6 none "linearly" false 121 (sK 6 123) := ok_bipush (by decide +kernel : decode cX12_linearly 121 = .ok (.bipush 6, 2)) (by decide)
theorem o316_123 : Okp RX12 cX12_linearly 6 none "linearly" false 123 (sLR 0 124) := ok_aload_n (by decide +kernel : decode cX12_linearly 123 = .ok (.aload_n 0, 1)) rfl
theorem o316_124 : Okp RX12 cX12_linearly 6 none "linearly" false 124 (sGR 13 68 127) := ok_getR (by decide +kernel : decode cX12_linearly 124 = .ok (.getfield 164, 3)) fw_X12_164 rfl
theorem o316_127 : Okp RX12 cX12_linearly 6 none "linearly" false 127 (sLR 0 128) := ok_aload_n (by decide +kernel : decode cX12_linearly 127 = .ok (.aload_n 0, 1)) rfl
theorem o316_128 : Okp RX12 cX12_linearly 6 none "linearly" false 128 (sLI 1 129) := ok_iload_n (by decide +kernel : decode cX12_linearly 128 = .ok (.iload_n 1, 1)) rfl
theorem o316_129 : Okp RX12 cX12_linearly 6 none "linearly" false 129 (sLR 0 130) := ok_aload_n (by decide +kernel : decode cX12_linearly 129 = .ok (.aload_n 0, 1)) rfl
theorem o316_130 : Okp RX12 cX12_linearly 6 none "linearly" false 130 (sGR 13 67 133) := ok_getR (by decide +kernel : decode cX12_linearly 130 = .ok (.getfield 161, 3)) fw_X12_161 rfl
theorem o316_133 : Okp RX12 cX12_linearly 6 none "linearly" false 133 (sLR 0 134) := ok_aload_n (by decide +kernel : decode cX12_linearly 133 = .ok (.aload_n 0, 1)) rfl
theorem o316_134 : Okp RX12 cX12_linearly 6 none "linearly" false 134 (sLI 1 135) := ok_iload_n (by decide +kernel : decode cX12_linearly 134 = .ok (.iload_n 1, 1)) rfl
theorem o316_135 : Okp RX12 cX12_linearly 6 none "linearly" false 135 (sCV true 282 2 13 138) := ok_cv (by decide +kernel : decode cX12_linearly 135 = .ok (.invokevirtual 487, 3)) mw_X12_487 rfl (by decide) wm_X12_act wse_X12_act (by decide) rfl
theorem o316_138 : Okp RX12 cX12_linearly 6 none "linearly" false 138 (sIA 139) := ok_iaload (by decide +kernel : decode cX12_linearly 138 = .ok (.iaload, 1))
theorem o316_139 : Okp RX12 cX12_linearly 6 none "linearly" false 139 (sK 1 140) := ok_iconst (by decide +kernel : decode cX12_linearly 139 = .ok (.iconst 1, 1)) (by decide)
theorem o316_140 : Okp RX12 cX12_linearly 6 none "linearly" false 140 (sB2 fSub 141) := ok_isub (by decide +kernel : decode cX12_linearly 140 = .ok (.isub, 1))
theorem o316_141 : Okp RX12 cX12_linearly 6 none "linearly" false 141 (sCV false 284 3 13 144) := ok_cv (by decide +kernel : decode cX12_linearly 141 = .ok (.invokevirtual 490, 3)) mw_X12_490 rfl (by decide) wm_X12_stack wse_X12_stack (by decide) rfl
theorem o316_144 : Okp RX12 cX12_linearly 6 none "linearly" false 144 (sIA 145) := ok_iaload (by decide +kernel : decode cX12_linearly 144 = .ok (.iaload, 1))
theorem o316_145 : Okp RX12 cX12_linearly 6 none "linearly" false 145 (sB2 fMul 146) := ok_imul (by decide +kernel : decode cX12_linearly 145 = .ok (.imul, 1))
theorem o316_146 : Okp RX12 cX12_linearly 6 none "linearly" false 146 (sLI 3 147) := ok_iload_n (by decide +kernel : decode cX12_linearly 146 = .ok (.iload_n 3, 1)) rfl
theorem o316_147 : Okp RX12 cX12_linearly 6 none "linearly" false 147 (sB2 fAdd 148) := ok_iadd (by decide +kernel : decode cX12_linearly 147 = .ok (.iadd, 1))
theorem o316_148 : Okp RX12 cX12_linearly 6 none "linearly" false 148 (sLI 5 150) := ok_iload (by decide +kernel : decode cX12_linearly 148 = .ok (.iload 5, 2))
theorem o316_150 : Okp RX12 cX12_linearly 6 none "linearly" false 150 (sIS 151) := ok_iastore (by decide +kernel : decode cX12_linearly 150 = .ok (.iastore, 1))
theorem o316_151 : Okp RX12 cX12_linearly 6 none "linearly" false 151 (sGo 300) := ok_goto (by decide +kernel : decode cX12_linearly 151 = .ok (.goto 149, 3)) (by decide)
theorem o316_154 : Okp RX12 cX12_linearly 6 none "linearly" false 154 (sLR 0 155) := ok_aload_n (by decide +kernel : decode cX12_linearly 154 = .ok (.aload_n 0, 1)) rfl
theorem o316_155 : Okp RX12 cX12_linearly 6 none "linearly" false 155 (sLI 1 156) := ok_iload_n (by decide +kernel : decode cX12_linearly 155 = .ok (.iload_n 1, 1)) rfl
theorem o316_156 : Okp RX12 cX12_linearly 6 none "linearly" false 156 (sCV false 288 2 13 159) := ok_cv (by decide +kernel : decode cX12_linearly 156 = .ok (.invokevirtual 550, 3)) mw_X12_550 rfl (by decide) wm_X12_popValue wse_X12_popValue (by decide) rfl
theorem o316_159 : Okp RX12 cX12_linearly 6 none "linearly" false 159 (sSI 5 161) := ok_istore (by decide +kernel : decode cX12_linearly 159 = .ok (.istore 5, 2)) (by decide) (by decide)
theorem o316_161 : Okp RX12 cX12_linearly 6 none "linearly" false 161 (sLR 0 162) := ok_aload_n (by decide +kernel : decode cX12_linearly 161 = .ok (.aload_n 0, 1)) rfl
theorem o316_162 : Okp RX12 cX12_linearly 6 none "linearly" false 162 (sGR 13 79 165) := ok_getR (by decide +kernel : decode cX12_linearly 162 = .ok (.getfield 197, 3)) fw_X12_197 rfl
theorem o316_165 : Okp RX12 cX12_linearly 6 none "linearly" false 165 (sLI 5 167) := ok_iload (by decide +kernel : decode cX12_linearly 165 = .ok (.iload 5, 2))
theorem o316_167 : Okp RX12 cX12_linearly 6 none "linearly" false 167 (sK (-1) 168) := ok_iconst (by decide +kernel : decode cX12_linearly 167 = .ok (.iconst (-1), 1)) (by decide)
theorem o316_168 : Okp RX12 cX12_linearly 6 none "linearly" false 168 (sIS 169) := ok_iastore (by decide +kernel : decode cX12_linearly 168 = .ok (.iastore, 1))
theorem o316_169 : Okp RX12 cX12_linearly 6 none "linearly" false 169 (sGo 300) := ok_goto (by decide +kernel : decode cX12_linearly 169 = .ok (.goto 131, 3)) (by decide)
theorem o316_172 : Okp RX12 cX12_linearly 6 none "linearly" false 172 (sLR 0 173) := ok_aload_n (by decide +kernel : decode cX12_linearly 172 = .ok (.aload_n 0, 1)) rfl
theorem o316_173 : Okp RX12 cX12_linearly 6 none "linearly" false 173 (sLI 1 174) := ok_iload_n (by decide +kernel : decode cX12_linearly 173 = .ok (.iload_n 1, 1)) rfl
theorem o316_174 : Okp RX12 cX12_linearly 6 none "linearly" false 174 (sLI 3 175) := ok_iload_n (by decide +kernel : decode cX12_linearly 174 = .ok (.iload_n 3, 1)) rfl
theorem o316_175 : Okp RX12 cX12_linearly 6 none "linearly" false 175 (sCV false 318 3 13 178) := ok_cv (by decide +kernel : decode cX12_linearly 175 = .ok (.invokevirtual 577, 3)) mw_X12_577 rfl (by decide) wm_X12_channel wse_X12_channel (by decide) rfl
theorem o316_178 : Okp RX12 cX12_linearly 6 none "linearly" false 178 (sGo 300) := ok_goto (by decide +kernel : decode cX12_linearly 178 = .ok (.goto 122, 3)) (by decide)
theorem o316_181 : Okp RX12 cX12_linearly 6 none "linearly" false 181 (sLR 0 182) := ok_aload_n (by decide +kernel : decode cX12_linearly 181 = .ok (.aload_n 0, 1)) rfl
theorem o316_182 : Okp RX12 cX12_linearly 6 none "linearly" false 182 (sLI 1 183) := ok_iload_n (by decide +kernel : decode cX12_linearly 182 = .ok (.iload_n 1, 1)) rfl
theorem o316_183 : Okp RX12 cX12_linearly 6 none "linearly" false 183 (sLI 3 184) := ok_iload_n (by decide +kernel : decode cX12_linearly 183 = .ok (.iload_n 3, 1)) rfl
theorem o316_184 : Okp RX12 cX12_linearly 6 none "linearly" false 184 (sCV false 319 3 13 187) := ok_cv (by decide +kernel : decode cX12_linearly 184 = .ok (.invokevirtual 580, 3)) mw_X12_580 rfl (by decide) wm_X12_send wse_X12_send (by decide) rfl
theorem o316_187 : Okp RX12 cX12_linearly 6 none "linearly" false 187 (sGo 300) := ok_goto (by decide +kernel : decode cX12_linearly 187 = .ok (.goto 113, 3)) (by decide)
theorem o316_190 : Okp RX12 cX12_linearly 6 none "linearly" false 190 (sLR 0 191) := ok_aload_n (by decide +kernel : decode cX12_linearly 190 = .ok (.aload_n 0, 1)) rfl
theorem o316_191 : Okp RX12 cX12_linearly 6 none "linearly" false 191 (sLI 1 192) := ok_iload_n (by decide +kernel : decode cX12_linearly 191 = .ok (.iload_n 1, 1)) rfl
theorem o316_192 : Okp RX12 cX12_linearly 6 none "linearly" false 192 (sLI 4 194) := ok_iload (by decide +kernel : decode cX12_linearly 192 = .ok (.iload 4, 2))
theorem o316_194 : Okp RX12 cX12_linearly 6 none "linearly" false 194 (sCV false 320 3 13 197) := ok_cv (by decide +kernel : decode cX12_linearly 194 = .ok (.invokevirtual 583, 3)) mw_X12_583 rfl (by decide) wm_X12_receive wse_X12_receive (by decide) rfl
theorem o316_197 : Okp RX12 cX12_linearly 6 none "linearly" false 197 (sGo 300) := ok_goto (by decide +kernel : decode cX12_linearly 197 = .ok (.goto 103, 3)) (by decide)
theorem o316_200 : Okp RX12 cX12_linearly 6 none "linearly" false 200 (sLR 0 201) := ok_aload_n (by decide +kernel : decode cX12_linearly 200 = .ok (.aload_n 0, 1)) rfl
theorem o316_201 : Okp RX12 cX12_linearly 6 none "linearly" false 201 (sLI 1 202) := ok_iload_n (by decide +kernel : decode cX12_linearly 201 = .ok (.iload_n 1, 1)) rfl
theorem o316_202 : Okp RX12 cX12_linearly 6 none "linearly" false 202 (sCV false 288 2 13 205) := ok_cv (by decide +kernel : decode cX12_linearly 202 = .ok (.invokevirtual 550, 3)) mw_X12_550 rfl (by decide) wm_X12_popValue wse_X12_popValue (by decide) rfl
theorem o316_205 : Okp RX12 cX12_linearly 6 none "linearly" false 205 (sSI 5 207) := ok_istore (by decide +kernel : decode cX12_linearly 205 = .ok (.istore 5, 2)) (by decide) (by decide)
theorem o316_207 : Okp RX12 cX12_linearly 6 none "linearly" false 207 (sLR 0 208) := ok_aload_n (by decide +kernel : decode cX12_linearly 207 = .ok (.aload_n 0, 1)) rfl
theorem o316_208 : Okp RX12 cX12_linearly 6 none "linearly" false 208 (sLI 5 210) := ok_iload (by decide +kernel : decode cX12_linearly 208 = .ok (.iload 5, 2))
theorem o316_210 : Okp RX12 cX12_linearly 6 none "linearly" false 210 (sCV false 295 2 13 213) := ok_cv (by decide +kernel : decode cX12_linearly 210 = .ok (.invokevirtual 504, 3)) mw_X12_504 rfl (by decide) wm_X12_close wse_X12_close (by decide) rfl
theorem o316_213 : Okp RX12 cX12_linearly 6 none "linearly" false 213 (sGo 300) := ok_goto (by decide +kernel : decode cX12_linearly 213 = .ok (.goto 87, 3)) (by decide)
theorem o316_216 : Okp RX12 cX12_linearly 6 none "linearly" false 216 (sLR 0 217) := ok_aload_n (by decide +kernel : decode cX12_linearly 216 = .ok (.aload_n 0, 1)) rfl
theorem o316_217 : Okp RX12 cX12_linearly 6 none "linearly" false 217 (sLI 1 218) := ok_iload_n (by decide +kernel : decode cX12_linearly 217 = .ok (.iload_n 1, 1)) rfl
theorem o316_218 : Okp RX12 cX12_linearly 6 none "linearly" false 218 (sLI 3 219) := ok_iload_n (by decide +kernel : decode cX12_linearly 218 = .ok (.iload_n 3, 1)) rfl
theorem o316_219 : Okp RX12 cX12_linearly 6 none "linearly" false 219 (sCV false 321 3 13 222) := ok_cv (by decide +kernel : decode cX12_linearly 219 = .ok (.invokevirtual 586, 3)) mw_X12_586 rfl (by decide) wm_X12_spawn wse_X12_spawn (by decide) rfl
theorem o316_222 : Okp RX12 cX12_linearly 6 none "linearly" false 222 (sGo 300) := ok_goto (by decide +kernel : decode cX12_linearly 222 = .ok (.goto 78, 3)) (by decide)
theorem o316_225 : Okp RX12 cX12_linearly 6 none "linearly" false 225 (sLR 0 226) := ok_aload_n (by decide +kernel : decode cX12_linearly 225 = .ok (.aload_n 0, 1)) rfl
theorem o316_226 : Okp RX12 cX12_linearly 6 none "linearly" false 226 (sK 1 227) := ok_iconst (by decide +kernel : decode cX12_linearly 226 = .ok (.iconst 1, 1)) (by decide)
theorem o316_227 : Okp RX12 cX12_linearly 6 none "linearly" false 227 (sPZ 13 89 230) := ok_putZ (by decide +kernel : decode cX12_linearly 227 = .ok (.putfield 510, 3)) fw_X12_510 ⟨⟨tyX12_ok, nmX12⟩, Or.inl rfl, rfl⟩ rfl
theorem o316_230 : Okp RX12 cX12_linearly 6 none "linearly" false 230 (sGo 300) := ok_goto (by decide +kernel : decode cX12_linearly 230 = .ok (.goto 70, 3)) (by decide)
theorem o316_233 : Okp RX12 cX12_linearly 6 none "linearly" false 233 (sLR 0 234) := ok_aload_n (by decide +kernel : decode cX12_linearly 233 = .ok (.aload_n 0, 1)) rfl
theorem o316_234 : Okp RX12 cX12_linearly 6 none "linearly" false 234 (sLI 1 235) := ok_iload_n (by decide +kernel : decode cX12_linearly 234 = .ok (.iload_n 1, 1)) rfl
theorem o316_235 : Okp RX12 cX12_linearly 6 none "linearly" false 235 (sK 4 236) := ok_iconst (by decide +kernel : decode cX12_linearly 235 = .ok (.iconst 4, 1)) (by decide)
theorem o316_236 : Okp RX12 cX12_linearly 6 none "linearly" false 236 (sCV false 298 3 13 239) := ok_cv (by decide +kernel : decode cX12_linearly 236 = .ok (.invokevirtual 533, 3)) mw_X12_533 rfl (by decide) wm_X12_over wse_X12_over (by decide) rfl
theorem o316_239 : Okp RX12 cX12_linearly 6 none "linearly" false 239 (sGo 300) := ok_goto (by decide +kernel : decode cX12_linearly 239 = .ok (.goto 61, 3)) (by decide)
theorem o316_242 : Okp RX12 cX12_linearly 6 none "linearly" false 242 (sLR 0 243) := ok_aload_n (by decide +kernel : decode cX12_linearly 242 = .ok (.aload_n 0, 1)) rfl
theorem o316_243 : Okp RX12 cX12_linearly 6 none "linearly" false 243 (sLI 1 244) := ok_iload_n (by decide +kernel : decode cX12_linearly 243 = .ok (.iload_n 1, 1)) rfl
theorem o316_244 : Okp RX12 cX12_linearly 6 none "linearly" false 244 (sCV false 288 2 13 247) := ok_cv (by decide +kernel : decode cX12_linearly 244 = .ok (.invokevirtual 550, 3)) mw_X12_550 rfl (by decide) wm_X12_popValue wse_X12_popValue (by decide) rfl
theorem o316_247 : Okp RX12 cX12_linearly 6 none "linearly" false 247 (sSI 5 249) := ok_istore (by decide +kernel : decode cX12_linearly 247 = .ok (.istore 5, 2)) (by decide) (by decide)
theorem o316_249 : Okp RX12 cX12_linearly 6 none "linearly" false 249 (sLR 0 250) := ok_aload_n (by decide +kernel : decode cX12_linearly 249 = .ok (.aload_n 0, 1)) rfl
theorem o316_250 : Okp RX12 cX12_linearly 6 none "linearly" false 250 (sGI 13 55 253) := ok_getI (by decide +kernel : decode cX12_linearly 250 = .ok (.getfield 469, 3)) fw_X12_469 rfl
theorem o316_253 : Okp RX12 cX12_linearly 6 none "linearly" false 253 (sK 500 256) := ok_sipush (by decide +kernel : decode cX12_linearly 253 = .ok (.sipush 500, 3)) (by decide)
theorem o316_256 : Okp RX12 cX12_linearly 6 none "linearly" false 256 (sI2 1 269 259) := ok_icmp_ne (by decide +kernel : decode cX12_linearly 256 = .ok (.if_icmp .ne 13, 3)) (by decide)
theorem o316_259 : Okp RX12 cX12_linearly 6 none "linearly" false 259 (sLR 0 260) := ok_aload_n (by decide +kernel : decode cX12_linearly 259 = .ok (.aload_n 0, 1)) rfl
theorem o316_260 : Okp RX12 cX12_linearly 6 none "linearly" false 260 (sLI 1 261) := ok_iload_n (by decide +kernel : decode cX12_linearly 260 = .ok (.iload_n 1, 1)) rfl
theorem o316_261 : Okp RX12 cX12_linearly 6 none "linearly" false 261 (sK 10 263) := ok_bipush (by decide +kernel : decode cX12_linearly 261 = .ok (.bipush 10, 2)) (by decide)
theorem o316_263 : Okp RX12 cX12_linearly 6 none "linearly" false 263 (sCV false 307 3 13 266) := ok_cv (by decide +kernel : decode cX12_linearly 263 = .ok (.invokevirtual 553, 3)) mw_X12_553 rfl (by decide) wm_X12_trap wse_X12_trap (by decide) rfl
theorem o316_266 : Okp RX12 cX12_linearly 6 none "linearly" false 266 (sGo 300) := ok_goto (by decide +kernel : decode cX12_linearly 266 = .ok (.goto 34, 3)) (by decide)
theorem o316_269 : Okp RX12 cX12_linearly 6 none "linearly" false 269 (sLR 0 270) := ok_aload_n (by decide +kernel : decode cX12_linearly 269 = .ok (.aload_n 0, 1)) rfl
theorem o316_270 : Okp RX12 cX12_linearly 6 none "linearly" false 270 (sGR 13 57 273) := ok_getR (by decide +kernel : decode cX12_linearly 270 = .ok (.getfield 131, 3)) fw_X12_131 rfl
theorem o316_273 : Okp RX12 cX12_linearly 6 none "linearly" false 273 (sLR 0 274) := ok_aload_n (by decide +kernel : decode cX12_linearly 273 = .ok (.aload_n 0, 1)) rfl
theorem o316_274 : Okp RX12 cX12_linearly 6 none "linearly" false 274 (sGI 13 55 277) := ok_getI (by decide +kernel : decode cX12_linearly 274 = .ok (.getfield 469, 3)) fw_X12_469 rfl
theorem o316_277 : Okp RX12 cX12_linearly 6 none "linearly" false 277 (sLI 1 278) := ok_iload_n (by decide +kernel : decode cX12_linearly 277 = .ok (.iload_n 1, 1)) rfl
theorem o316_278 : Okp RX12 cX12_linearly 6 none "linearly" false 278 (sIS 279) := ok_iastore (by decide +kernel : decode cX12_linearly 278 = .ok (.iastore, 1))
theorem o316_279 : Okp RX12 cX12_linearly 6 none "linearly" false 279 (sLR 0 280) := ok_aload_n (by decide +kernel : decode cX12_linearly 279 = .ok (.aload_n 0, 1)) rfl
theorem o316_280 : Okp RX12 cX12_linearly 6 none "linearly" false 280 (sGR 13 58 283) := ok_getR (by decide +kernel : decode cX12_linearly 280 = .ok (.getfield 134, 3)) fw_X12_134 rfl
theorem o316_283 : Okp RX12 cX12_linearly 6 none "linearly" false 283 (sLR 0 284) := ok_aload_n (by decide +kernel : decode cX12_linearly 283 = .ok (.aload_n 0, 1)) rfl
theorem o316_284 : Okp RX12 cX12_linearly 6 none "linearly" false 284 (sGI 13 55 287) := ok_getI (by decide +kernel : decode cX12_linearly 284 = .ok (.getfield 469, 3)) fw_X12_469 rfl
theorem o316_287 : Okp RX12 cX12_linearly 6 none "linearly" false 287 (sLI 5 289) := ok_iload (by decide +kernel : decode cX12_linearly 287 = .ok (.iload 5, 2))
theorem o316_289 : Okp RX12 cX12_linearly 6 none "linearly" false 289 (sIS 290) := ok_iastore (by decide +kernel : decode cX12_linearly 289 = .ok (.iastore, 1))
theorem o316_290 : Okp RX12 cX12_linearly 6 none "linearly" false 290 (sLR 0 291) := ok_aload_n (by decide +kernel : decode cX12_linearly 290 = .ok (.aload_n 0, 1)) rfl
theorem o316_291 : Okp RX12 cX12_linearly 6 none "linearly" false 291 (sDup 292) := ok_dup (by decide +kernel : decode cX12_linearly 291 = .ok (.dup, 1))
theorem o316_292 : Okp RX12 cX12_linearly 6 none "linearly" false 292 (sGI 13 55 295) := ok_getI (by decide +kernel : decode cX12_linearly 292 = .ok (.getfield 469, 3)) fw_X12_469 rfl
theorem o316_295 : Okp RX12 cX12_linearly 6 none "linearly" false 295 (sK 1 296) := ok_iconst (by decide +kernel : decode cX12_linearly 295 = .ok (.iconst 1, 1)) (by decide)
theorem o316_296 : Okp RX12 cX12_linearly 6 none "linearly" false 296 (sB2 fAdd 297) := ok_iadd (by decide +kernel : decode cX12_linearly 296 = .ok (.iadd, 1))
theorem o316_297 : Okp RX12 cX12_linearly 6 none "linearly" false 297 (sPI 13 55 300) := ok_putI (by decide +kernel : decode cX12_linearly 297 = .ok (.putfield 469, 3)) fw_X12_469 ⟨⟨tyX12_ok, nmX12⟩, Or.inl rfl, rfl⟩ rfl
theorem o316_300 : Okp RX12 cX12_linearly 6 none "linearly" false 300 sRV := ok_vret rfl (by decide +kernel : decode cX12_linearly 300 = .ok (.return_, 1))
theorem oc316_0 : ∀ pc, Mnp (c316_0 pc) ∧ Okp RX12 cX12_linearly 6 none "linearly" false pc (c316_0 pc) := by
  intro pc
  unfold c316_0
  split
  · exact ⟨mn_sLI, o316_0⟩
  · exact ⟨mn_sSw, o316_1⟩
  · exact ⟨mn_sX, ok_X⟩
theorem oc316_2 : ∀ pc, Mnp (c316_2 pc) ∧ Okp RX12 cX12_linearly 6 none "linearly" false pc (c316_2 pc) := by
  intro pc
  unfold c316_2
  split
  · exact ⟨mn_sLR, o316_60⟩
  · exact ⟨mn_sLI, o316_61⟩
  · exact ⟨mn_sLI, o316_62⟩
  · exact ⟨mn_sCV, o316_63⟩
  · exact ⟨mn_sGo, o316_66⟩
  · exact ⟨mn_sLR, o316_69⟩
  · exact ⟨mn_sLI, o316_70⟩
  · exact ⟨mn_sLR, o316_71⟩
  · exact ⟨mn_sX, ok_X⟩
theorem oc316_3 : ∀ pc, Mnp (c316_3 pc) ∧ Okp RX12 cX12_linearly 6 none "linearly" false pc (c316_3 pc) := by
  intro pc
  unfold c316_3
  split
  · exact ⟨mn_sGR, o316_72⟩
  · exact ⟨mn_sK, o316_75⟩
  · exact ⟨mn_sLR, o316_77⟩
  · exact ⟨mn_sGR, o316_78⟩
  · exact ⟨mn_sLR, o316_81⟩
  · exact ⟨mn_sLI, o316_82⟩
  · exact ⟨mn_sLR, o316_83⟩
  · exact ⟨mn_sGR, o316_84⟩
  · exact ⟨mn_sLR, o316_87⟩
  · exact ⟨mn_sLI, o316_88⟩
  · exact ⟨mn_sCV, o316_89⟩
  · exact ⟨mn_sIA, o316_92⟩
  · exact ⟨mn_sK, o316_93⟩
  · exact ⟨mn_sB2, o316_94⟩
  · exact ⟨mn_sCV, o316_95⟩
  · exact ⟨mn_sX, ok_X⟩
theorem oc316_4 : ∀ pc, Mnp (c316_4 pc) ∧ Okp RX12 cX12_linearly 6 none "linearly" false pc (c316_4 pc) := by
  intro pc
  unfold c316_4
  split
  · exact ⟨mn_sIA, o316_98⟩
  · exact ⟨mn_sB2, o316_99⟩
  · exact ⟨mn_sLI, o316_100⟩
  · exact ⟨mn_sB2, o316_101⟩
  · exact ⟨mn_sIA, o316_102⟩
  · exact ⟨mn_sK, o316_103⟩
  · exact ⟨mn_sCV, o316_104⟩
  · exact ⟨mn_sGo, o316_107⟩
  · exact ⟨mn_sLR, o316_110⟩
  · exact ⟨mn_sLI, o316_111⟩
  · exact ⟨mn_sCV, o316_112⟩
  · exact ⟨mn_sSI, o316_115⟩
  · exact ⟨mn_sLR, o316_117⟩
  · exact ⟨mn_sGR, o316_118⟩
  · exact ⟨mn_sX, ok_X⟩
theorem oc316_5 : ∀ pc, Mnp (c316_5 pc) ∧ Okp RX12 cX12_linearly 6 none "linearly" false pc (c316_5 pc) := by
  intro pc
  unfold c316_5
  split
  · exact ⟨mn_sK, o316_121⟩
  · exact ⟨mn_sLR, o316_123⟩
  · exact ⟨mn_sGR, o316_124⟩
  · exact ⟨mn_sLR, o316_127⟩
  · exact ⟨mn_sLI, o316_128⟩
  · exact ⟨mn_sLR, o316_129⟩
  · exact ⟨mn_sGR, o316_130⟩
  · exact ⟨mn_sLR, o316_133⟩
  · exact ⟨mn_sLI, o316_134⟩
  · exact ⟨mn_sCV, o316_135⟩
  · exact ⟨mn_sIA, o316_138⟩
  · exact ⟨mn_sK, o316_139⟩
  · exact ⟨mn_sB2, o316_140⟩
  · exact ⟨mn_sCV, o316_141⟩
  · exact ⟨mn_sX, ok_X⟩
theorem oc316_6 : ∀ pc, Mnp (c316_6 pc) ∧ Okp RX12 cX12_linearly 6 none "linearly" false pc (c316_6 pc) := by
  intro pc
  unfold c316_6
  split
  · exact ⟨mn_sIA, o316_144⟩
  · exact ⟨mn_sB2, o316_145⟩
  · exact ⟨mn_sLI, o316_146⟩
  · exact ⟨mn_sB2, o316_147⟩
  · exact ⟨mn_sLI, o316_148⟩
  · exact ⟨mn_sIS, o316_150⟩
  · exact ⟨mn_sGo, o316_151⟩
  · exact ⟨mn_sLR, o316_154⟩
  · exact ⟨mn_sLI, o316_155⟩
  · exact ⟨mn_sCV, o316_156⟩
  · exact ⟨mn_sSI, o316_159⟩
  · exact ⟨mn_sLR, o316_161⟩
  · exact ⟨mn_sGR, o316_162⟩
  · exact ⟨mn_sLI, o316_165⟩
  · exact ⟨mn_sK, o316_167⟩
  · exact ⟨mn_sX, ok_X⟩
theorem oc316_7 : ∀ pc, Mnp (c316_7 pc) ∧ Okp RX12 cX12_linearly 6 none "linearly" false pc (c316_7 pc) := by
  intro pc
  unfold c316_7
  split
  · exact ⟨mn_sIS, o316_168⟩
  · exact ⟨mn_sGo, o316_169⟩
  · exact ⟨mn_sLR, o316_172⟩
  · exact ⟨mn_sLI, o316_173⟩
  · exact ⟨mn_sLI, o316_174⟩
  · exact ⟨mn_sCV, o316_175⟩
  · exact ⟨mn_sGo, o316_178⟩
  · exact ⟨mn_sLR, o316_181⟩
  · exact ⟨mn_sLI, o316_182⟩
  · exact ⟨mn_sLI, o316_183⟩
  · exact ⟨mn_sCV, o316_184⟩
  · exact ⟨mn_sGo, o316_187⟩
  · exact ⟨mn_sLR, o316_190⟩
  · exact ⟨mn_sLI, o316_191⟩
  · exact ⟨mn_sX, ok_X⟩
theorem oc316_8 : ∀ pc, Mnp (c316_8 pc) ∧ Okp RX12 cX12_linearly 6 none "linearly" false pc (c316_8 pc) := by
  intro pc
  unfold c316_8
  split
  · exact ⟨mn_sLI, o316_192⟩
  · exact ⟨mn_sCV, o316_194⟩
  · exact ⟨mn_sGo, o316_197⟩
  · exact ⟨mn_sLR, o316_200⟩
  · exact ⟨mn_sLI, o316_201⟩
  · exact ⟨mn_sCV, o316_202⟩
  · exact ⟨mn_sSI, o316_205⟩
  · exact ⟨mn_sLR, o316_207⟩
  · exact ⟨mn_sLI, o316_208⟩
  · exact ⟨mn_sCV, o316_210⟩
  · exact ⟨mn_sGo, o316_213⟩
  · exact ⟨mn_sX, ok_X⟩
theorem oc316_9 : ∀ pc, Mnp (c316_9 pc) ∧ Okp RX12 cX12_linearly 6 none "linearly" false pc (c316_9 pc) := by
  intro pc
  unfold c316_9
  split
  · exact ⟨mn_sLR, o316_216⟩
  · exact ⟨mn_sLI, o316_217⟩
  · exact ⟨mn_sLI, o316_218⟩
  · exact ⟨mn_sCV, o316_219⟩
  · exact ⟨mn_sGo, o316_222⟩
  · exact ⟨mn_sLR, o316_225⟩
  · exact ⟨mn_sK, o316_226⟩
  · exact ⟨mn_sPZ, o316_227⟩
  · exact ⟨mn_sGo, o316_230⟩
  · exact ⟨mn_sLR, o316_233⟩
  · exact ⟨mn_sLI, o316_234⟩
  · exact ⟨mn_sK, o316_235⟩
  · exact ⟨mn_sCV, o316_236⟩
  · exact ⟨mn_sGo, o316_239⟩
  · exact ⟨mn_sX, ok_X⟩
theorem oc316_10 : ∀ pc, Mnp (c316_10 pc) ∧ Okp RX12 cX12_linearly 6 none "linearly" false pc (c316_10 pc) := by
  intro pc
  unfold c316_10
  split
  · exact ⟨mn_sLR, o316_242⟩
  · exact ⟨mn_sLI, o316_243⟩
  · exact ⟨mn_sCV, o316_244⟩
  · exact ⟨mn_sSI, o316_247⟩
  · exact ⟨mn_sLR, o316_249⟩
  · exact ⟨mn_sGI, o316_250⟩
  · exact ⟨mn_sK, o316_253⟩
  · exact ⟨mn_sI2, o316_256⟩
  · exact ⟨mn_sLR, o316_259⟩
  · exact ⟨mn_sLI, o316_260⟩
  · exact ⟨mn_sK, o316_261⟩
  · exact ⟨mn_sCV, o316_263⟩
  · exact ⟨mn_sX, ok_X⟩
theorem oc316_11 : ∀ pc, Mnp (c316_11 pc) ∧ Okp RX12 cX12_linearly 6 none "linearly" false pc (c316_11 pc) := by
  intro pc
  unfold c316_11
  split
  · exact ⟨mn_sGo, o316_266⟩
  · exact ⟨mn_sLR, o316_269⟩
  · exact ⟨mn_sGR, o316_270⟩
  · exact ⟨mn_sLR, o316_273⟩
  · exact ⟨mn_sGI, o316_274⟩
  · exact ⟨mn_sLI, o316_277⟩
  · exact ⟨mn_sIS, o316_278⟩
  · exact ⟨mn_sLR, o316_279⟩
  · exact ⟨mn_sGR, o316_280⟩
  · exact ⟨mn_sLR, o316_283⟩
  · exact ⟨mn_sGI, o316_284⟩
  · exact ⟨mn_sLI, o316_287⟩
  · exact ⟨mn_sX, ok_X⟩
theorem oc316_12 : ∀ pc, Mnp (c316_12 pc) ∧ Okp RX12 cX12_linearly 6 none "linearly" false pc (c316_12 pc) := by
  intro pc
  unfold c316_12
  split
  · exact ⟨mn_sIS, o316_289⟩
  · exact ⟨mn_sLR, o316_290⟩
  · exact ⟨mn_sDup, o316_291⟩
  · exact ⟨mn_sGI, o316_292⟩
  · exact ⟨mn_sK, o316_295⟩
  · exact ⟨mn_sB2, o316_296⟩
  · exact ⟨mn_sPI, o316_297⟩
  · exact ⟨mn_sRV, o316_300⟩
  · exact ⟨mn_sX, ok_X⟩
theorem oc316 : ∀ pc, Mnp (c316 pc) ∧ Okp RX12 cX12_linearly 6 none "linearly" false pc (c316 pc) := by
  intro pc
  unfold c316
  split
  · exact oc316_0 pc
  · exact oc316_2 pc
  · exact oc316_3 pc
  · exact oc316_4 pc
  · exact oc316_5 pc
  · exact oc316_6 pc
  · exact oc316_7 pc
  · exact oc316_8 pc
  · exact oc316_9 pc
  · exact oc316_10 pc
  · exact oc316_11 pc
  · exact oc316_12 pc
  · exact ⟨mn_sX, ok_X⟩
