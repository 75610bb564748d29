theorem o317_0 : Okp RX12 cX12_makeBlock 6 none "makeBlock" false 0 (sLR 0 1) := ok_aload_n (by decide +kernel : decode cX12_makeBlock 0 = .ok (.aload_n 0, 1)) rfl
theorem o317_1 : Okp RX12 cX12_makeBlock 6 none "makeBlock" false 1 (sGR 13 9 4) := ok_getR (by decide +kernel : decode cX12_makeBlock 1 = .ok (.getfield 33, 3)) fw_X12_33 rfl
theorem o317_4 : Okp RX12 cX12_makeBlock 6 none "makeBlock" false 4 (sK 8 6) := ok_bipush (by decide +kernel : decode cX12_makeBlock 4 = .ok (.bipush 8, 2)) (by decide)
theorem o317_6 : Okp RX12 cX12_makeBlock 6 none "makeBlock" false 6 (sLR 0 7) := ok_aload_n (by decide +kernel : decode cX12_makeBlock 6 = .ok (.aload_n 0, 1)) rfl
theorem o317_7 : Okp RX12 cX12_makeBlock 6 none "makeBlock" false 7 (sGR 13 61 10) := ok_getR (by decide +kernel : decode cX12_makeBlock 7 = .ok (.getfield 143, 3)) fw_X12_143 rfl
theorem o317_10 : Okp RX12 cX12_makeBlock 6 none "makeBlock" false 10 (sLI 1 11) := ok_iload_n (by decide +kernel : decode cX12_makeBlock 10 = .ok (.iload_n 1, 1)) rfl
theorem o317_11 : Okp RX12 cX12_makeBlock 6 none "makeBlock" false 11 (sIA 12) := ok_iaload (by decide +kernel : decode cX12_makeBlock 11 = .ok (.iaload, 1))
theorem o317_12 : Okp RX12 cX12_makeBlock 6 none "makeBlock" false 12 (sB2 fMul 13) := ok_imul (by decide +kernel : decode cX12_makeBlock 12 = .ok (.imul, 1))
theorem o317_13 : Okp RX12 cX12_makeBlock 6 none "makeBlock" false 13 (sLI 2 14) := ok_iload_n (by decide +kernel : decode cX12_makeBlock 13 = .ok (.iload_n 2, 1)) rfl
theorem o317_14 : Okp RX12 cX12_makeBlock 6 none "makeBlock" false 14 (sB2 fAdd 15) := ok_iadd (by decide +kernel : decode cX12_makeBlock 14 = .ok (.iadd, 1))
theorem o317_15 : Okp RX12 cX12_makeBlock 6 none "makeBlock" false 15 (sIA 16) := ok_iaload (by decide +kernel : decode cX12_makeBlock 15 = .ok (.iaload, 1))
theorem o317_16 : Okp RX12 cX12_makeBlock 6 none "makeBlock" false 16 (sSI 3 17) := ok_istore_n (by decide +kernel : decode cX12_makeBlock 16 = .ok (.istore_n 3, 1)) rfl (by decide) (by decide)
theorem o317_17 : Okp RX12 cX12_makeBlock 6 none "makeBlock" false 17 (sLR 0 18) := ok_aload_n (by decide +kernel : decode cX12_makeBlock 17 = .ok (.aload_n 0, 1)) rfl
theorem o317_18 : Okp RX12 cX12_makeBlock 6 none "makeBlock" false 18 (sCV false 293 1 13 21) := ok_cv (by decide +kernel : decode cX12_makeBlock 18 = .ok (.invokevirtual 589, 3)) mw_X12_589 rfl (by decide) wm_X12_blockCells wse_X12_blockCells (by decide) rfl
theorem o317_21 : Okp RX12 cX12_makeBlock 6 none "makeBlock" false 21 (sLI 3 22) := ok_iload_n (by decide +kernel : decode cX12_makeBlock 21 = .ok (.iload_n 3, 1)) rfl
theorem o317_22 : Okp RX12 cX12_makeBlock 6 none "makeBlock" false 22 (sB2 fAdd 23) := ok_iadd (by decide +kernel : decode cX12_makeBlock 22 = .ok (.iadd, 1))
theorem o317_23 : Okp RX12 cX12_makeBlock 6 none "makeBlock" false 23 (sK 1 24) := ok_iconst (by decide +kernel : decode cX12_makeBlock 23 = .ok (.iconst 1, 1)) (by decide)
theorem o317_24 : Okp RX12 cX12_makeBlock 6 none "makeBlock" false 24 (sB2 fAdd 25) := ok_iadd (by decide +kernel : decode cX12_makeBlock 24 = .ok (.iadd, 1))
theorem o317_25 : Okp RX12 cX12_makeBlock 6 none "makeBlock" false 25 (sK 256 28) := ok_sipush (by decide +kernel : decode cX12_makeBlock 25 = .ok (.sipush 256, 3)) (by decide)
theorem o317_28 : Okp RX12 cX12_makeBlock 6 none "makeBlock" false 28 (sI2 5 39 31) := ok_icmp_le (by decide +kernel : decode cX12_makeBlock 28 = .ok (.if_icmp .le 11, 3)) (by decide)
theorem o317_31 : Okp RX12 cX12_makeBlock 6 none "makeBlock" false 31 (sLR 0 32) := ok_aload_n (by decide +kernel : decode cX12_makeBlock 31 = .ok (.aload_n 0, 1)) rfl
theorem o317_32 : Okp RX12 cX12_makeBlock 6 none "makeBlock" false 32 (sLI 1 33) := ok_iload_n (by decide +kernel : decode cX12_makeBlock 32 = .ok (.iload_n 1, 1)) rfl
theorem o317_33 : Okp RX12 cX12_makeBlock 6 none "makeBlock" false 33 (sK 6 35) := ok_bipush (by decide +kernel : decode cX12_makeBlock 33 = .ok (.bipush 6, 2)) (by decide)
theorem o317_35 : Okp RX12 cX12_makeBlock 6 none "makeBlock" false 35 (sCV false 307 3 13 38) := ok_cv (by decide +kernel : decode cX12_makeBlock 35 = .ok (.invokevirtual 553, 3)) mw_X12_553 rfl (by decide) wm_X12_trap wse_X12_trap (by decide) rfl
theorem o317_38 : Okp RX12 cX12_makeBlock 6 none "makeBlock" false 38 sRV := ok_vret rfl (by decide +kernel : decode cX12_makeBlock 38 = .ok (.return_, 1))
theorem o317_39 : Okp RX12 cX12_makeBlock 6 none "makeBlock" false 39 (sK 0 40) := ok_iconst (by decide +kernel : decode cX12_makeBlock 39 = .ok (.iconst 0, 1)) (by decide)
theorem o317_40 : Okp RX12 cX12_makeBlock 6 none "makeBlock" false 40 (sSI 4 42) := ok_istore (by decide +kernel : decode cX12_makeBlock 40 = .ok (.istore 4, 2)) (by decide) (by decide)
theorem o317_42 : Okp RX12 cX12_makeBlock 6 none "makeBlock" false 42 (sLR 0 43) := ok_aload_n (by decide +kernel : decode cX12_makeBlock 42 = .ok (.aload_n 0, 1)) rfl
theorem o317_43 : Okp RX12 cX12_makeBlock 6 none "makeBlock" false 43 (sGR 13 79 46) := ok_getR (by decide +kernel : decode cX12_makeBlock 43 = .ok (.getfield 197, 3)) fw_X12_197 rfl
theorem o317_46 : Okp RX12 cX12_makeBlock 6 none "makeBlock" false 46 (sLI 4 48) := ok_iload (by decide +kernel : decode cX12_makeBlock 46 = .ok (.iload 4, 2))
theorem o317_48 : Okp RX12 cX12_makeBlock 6 none "makeBlock" false 48 (sIA 49) := ok_iaload (by decide +kernel : decode cX12_makeBlock 48 = .ok (.iaload, 1))
theorem o317_49 : Okp RX12 cX12_makeBlock 6 none "makeBlock" false 49 (sK (-1) 50) := ok_iconst (by decide +kernel : decode cX12_makeBlock 49 = .ok (.iconst (-1), 1)) (by decide)
theorem o317_50 : Okp RX12 cX12_makeBlock 6 none "makeBlock" false 50 (sI2 0 59 53) := ok_icmp_eq (by decide +kernel : decode cX12_makeBlock 50 = .ok (.if_icmp .eq 9, 3)) (by decide)
theorem o317_53 : Okp RX12 cX12_makeBlock 6 none "makeBlock" false 53 (sInc 4 1 56) := ok_iinc (by decide +kernel : decode cX12_makeBlock 53 = .ok (.iinc 4 1, 3)) (by decide) (by decide)
theorem o317_56 : Okp RX12 cX12_makeBlock 6 none "makeBlock" false 56 (sGo 42) := ok_goto (by decide +kernel : decode cX12_makeBlock 56 = .ok (.goto (-14), 3)) (by decide)
theorem o317_59 : Okp RX12 cX12_makeBlock 6 none "makeBlock" false 59 (sLR 0 60) := ok_aload_n (by decide +kernel : decode cX12_makeBlock 59 = .ok (.aload_n 0, 1)) rfl
theorem o317_60 : Okp RX12 cX12_makeBlock 6 none "makeBlock" false 60 (sGR 13 79 63) := ok_getR (by decide +kernel : decode cX12_makeBlock 60 = .ok (.getfield 197, 3)) fw_X12_197 rfl
theorem o317_63 : Okp RX12 cX12_makeBlock 6 none "makeBlock" false 63 (sLI 4 65) := ok_iload (by decide +kernel : decode cX12_makeBlock 63 = .ok (.iload 4, 2))
theorem o317_65 : Okp RX12 cX12_makeBlock 6 none "makeBlock" false 65 (sLI 3 66) := ok_iload_n (by decide +kernel : decode cX12_makeBlock 65 = .ok (.iload_n 3, 1)) rfl
theorem o317_66 : Okp RX12 cX12_makeBlock 6 none "makeBlock" false 66 (sIS 67) := ok_iastore (by decide +kernel : decode cX12_makeBlock 66 = .ok (.iastore, 1))
theorem o317_67 : Okp RX12 cX12_makeBlock 6 none "makeBlock" false 67 (sLR 0 68) := ok_aload_n (by decide +kernel : decode cX12_makeBlock 67 = .ok (.aload_n 0, 1)) rfl
theorem o317_68 : Okp RX12 cX12_makeBlock 6 none "makeBlock" false 68 (sGR 13 80 71) := ok_getR (by decide +kernel : decode cX12_makeBlock 68 = .ok (.getfield 200, 3)) fw_X12_200 rfl
theorem o317_71 : Okp RX12 cX12_makeBlock 6 none "makeBlock" false 71 (sLI 4 73) := ok_iload (by decide +kernel : decode cX12_makeBlock 71 = .ok (.iload 4, 2))
theorem o317_73 : Okp RX12 cX12_makeBlock 6 none "makeBlock" false 73 (sLI 1 74) := ok_iload_n (by decide +kernel : decode cX12_makeBlock 73 = .ok (.iload_n 1, 1)) rfl
theorem o317_74 : Okp RX12 cX12_makeBlock 6 none "makeBlock" false 74 (sIS 75) := ok_iastore (by decide +kernel : decode cX12_makeBlock 74 = .ok (.iastore, 1))
theorem o317_75 : Okp RX12 cX12_makeBlock 6 none "makeBlock" false 75 (sK 0 76) := ok_iconst (by decide +kernel : decode cX12_makeBlock 75 = .ok (.iconst 0, 1)) (by decide)
theorem o317_76 : Okp RX12 cX12_makeBlock 6 none "makeBlock" false 76 (sSI 5 78) := ok_istore (by decide +kernel : decode cX12_makeBlock 76 = .ok (.istore 5, 2)) (by decide) (by decide)
theorem o317_78 : Okp RX12 cX12_makeBlock 6 none "makeBlock" false 78 (sLI 5 80) := ok_iload (by decide +kernel : decode cX12_makeBlock 78 = .ok (.iload 5, 2))
theorem o317_80 : Okp RX12 cX12_makeBlock 6 none "makeBlock" false 80 (sK 6 82) := ok_bipush (by decide +kernel : decode cX12_makeBlock 80 = .ok (.bipush 6, 2)) (by decide)
theorem o317_82 : Okp RX12 cX12_makeBlock 6 none "makeBlock" false 82 (sI2 3 105 85) := ok_icmp_ge (by decide +kernel : decode cX12_makeBlock 82 = .ok (.if_icmp .ge 23, 3)) (by decide)
theorem o317_85 : Okp RX12 cX12_makeBlock 6 none "makeBlock" false 85 (sLR 0 86) := ok_aload_n (by decide +kernel : decode cX12_makeBlock 85 = .ok (.aload_n 0, 1)) rfl
theorem o317_86 : Okp RX12 cX12_makeBlock 6 none "makeBlock" false 86 (sGR 13 81 89) := ok_getR (by decide +kernel : decode cX12_makeBlock 86 = .ok (.getfield 203, 3)) fw_X12_203 rfl
theorem o317_89 : Okp RX12 cX12_makeBlock 6 none "makeBlock" false 89 (sK 6 91) := ok_bipush (by decide +kernel : decode cX12_makeBlock 89 = .ok (.bipush 6, 2)) (by decide)
theorem o317_91 : Okp RX12 cX12_makeBlock 6 none "makeBlock" false 91 (sLI 4 93) := ok_iload (by decide +kernel : decode cX12_makeBlock 91 = .ok (.iload 4, 2))
theorem o317_93 : Okp RX12 cX12_makeBlock 6 none "makeBlock" false 93 (sB2 fMul 94) := ok_imul (by decide +kernel : decode cX12_makeBlock 93 = .ok (.imul, 1))
theorem o317_94 : Okp RX12 cX12_makeBlock 6 none "makeBlock" false 94 (sLI 5 96) := ok_iload (by decide +kernel : decode cX12_makeBlock 94 = .ok (.iload 5, 2))
theorem o317_96 : Okp RX12 cX12_makeBlock 6 none "makeBlock" false 96 (sB2 fAdd 97) := ok_iadd (by decide +kernel : decode cX12_makeBlock 96 = .ok (.iadd, 1))
theorem o317_97 : Okp RX12 cX12_makeBlock 6 none "makeBlock" false 97 (sK 0 98) := ok_iconst (by decide +kernel : decode cX12_makeBlock 97 = .ok (.iconst 0, 1)) (by decide)
theorem o317_98 : Okp RX12 cX12_makeBlock 6 none "makeBlock" false 98 (sIS 99) := ok_iastore (by decide +kernel : decode cX12_makeBlock 98 = .ok (.iastore, 1))
theorem o317_99 : Okp RX12 cX12_makeBlock 6 none "makeBlock" false 99 (sInc 5 1 102) := ok_iinc (by decide +kernel : decode cX12_makeBlock 99 = .ok (.iinc 5 1, 3)) (by decide) (by decide)
theorem o317_102 : Okp RX12 cX12_makeBlock 6 none "makeBlock" false 102 (sGo 78) := ok_goto (by decide +kernel : decode cX12_makeBlock 102 = .ok (.goto (-24), 3)) (by decide)
theorem o317_105 : Okp RX12 cX12_makeBlock 6 none "makeBlock" false 105 (sLR 0 106) := ok_aload_n (by decide +kernel : decode cX12_makeBlock 105 = .ok (.aload_n 0, 1)) rfl
theorem o317_106 : Okp RX12 cX12_makeBlock 6 none "makeBlock" false 106 (sLI 1 107) := ok_iload_n (by decide +kernel : decode cX12_makeBlock 106 = .ok (.iload_n 1, 1)) rfl
theorem o317_107 : Okp RX12 cX12_makeBlock 6 none "makeBlock" false 107 (sLI 4 109) := ok_iload (by decide +kernel : decode cX12_makeBlock 107 = .ok (.iload 4, 2))
theorem o317_109 : Okp RX12 cX12_makeBlock 6 none "makeBlock" false 109 (sK 2 110) := ok_iconst (by decide +kernel : decode cX12_makeBlock 109 = .ok (.iconst 2, 1)) (by decide)
theorem o317_110 : Okp RX12 cX12_makeBlock 6 none "makeBlock" false 110 (sCV false 286 4 13 113) := ok_cv (by decide +kernel : decode cX12_makeBlock 110 = .ok (.invokevirtual 548, 3)) mw_X12_548 rfl (by decide) wm_X12_push_ wse_X12_push_ (by decide) rfl
theorem o317_113 : Okp RX12 cX12_makeBlock 6 none "makeBlock" false 113 sRV := ok_vret rfl (by decide +kernel : decode cX12_makeBlock 113 = .ok (.return_, 1))
theorem oc317_0 : ∀ pc, Mnp (c317_0 pc) ∧ Okp RX12 cX12_makeBlock 6 none "makeBlock" false pc (c317_0 pc) := by
  intro pc
  unfold c317_0
  split
  · exact ⟨mn_sLR, o317_0⟩
  · exact ⟨mn_sGR, o317_1⟩
  · exact ⟨mn_sK, o317_4⟩
  · exact ⟨mn_sLR, o317_6⟩
  · exact ⟨mn_sGR, o317_7⟩
  · exact ⟨mn_sLI, o317_10⟩
  · exact ⟨mn_sIA, o317_11⟩
  · exact ⟨mn_sB2, o317_12⟩
  · exact ⟨mn_sLI, o317_13⟩
  · exact ⟨mn_sB2, o317_14⟩
  · exact ⟨mn_sIA, o317_15⟩
  · exact ⟨mn_sSI, o317_16⟩
  · exact ⟨mn_sLR, o317_17⟩
  · exact ⟨mn_sCV, o317_18⟩
  · exact ⟨mn_sLI, o317_21⟩
  · exact ⟨mn_sB2, o317_22⟩
  · exact ⟨mn_sK, o317_23⟩
  · exact ⟨mn_sX, ok_X⟩
theorem oc317_1 : ∀ pc, Mnp (c317_1 pc) ∧ Okp RX12 cX12_makeBlock 6 none "makeBlock" false pc (c317_1 pc) := by
  intro pc
  unfold c317_1
  split
  · exact ⟨mn_sB2, o317_24⟩
  · exact ⟨mn_sK, o317_25⟩
  · exact ⟨mn_sI2, o317_28⟩
  · exact ⟨mn_sLR, o317_31⟩
  · exact ⟨mn_sLI, o317_32⟩
  · exact ⟨mn_sK, o317_33⟩
  · exact ⟨mn_sCV, o317_35⟩
  · exact ⟨mn_sRV, o317_38⟩
  · exact ⟨mn_sK, o317_39⟩
  · exact ⟨mn_sSI, o317_40⟩
  · exact ⟨mn_sLR, o317_42⟩
  · exact ⟨mn_sGR, o317_43⟩
  · exact ⟨mn_sLI, o317_46⟩
  · exact ⟨mn_sX, ok_X⟩
theorem oc317_2 : ∀ pc, Mnp (c317_2 pc) ∧ Okp RX12 cX12_makeBlock 6 none "makeBlock" false pc (c317_2 pc) := by
  intro pc
  unfold c317_2
  split
  · exact ⟨mn_sIA, o317_48⟩
  · exact ⟨mn_sK, o317_49⟩
  · exact ⟨mn_sI2, o317_50⟩
  · exact ⟨mn_sInc, o317_53⟩
  · exact ⟨mn_sGo, o317_56⟩
  · exact ⟨mn_sLR, o317_59⟩
  · exact ⟨mn_sGR, o317_60⟩
  · exact ⟨mn_sLI, o317_63⟩
  · exact ⟨mn_sLI, o317_65⟩
  · exact ⟨mn_sIS, o317_66⟩
  · exact ⟨mn_sLR, o317_67⟩
  · exact ⟨mn_sGR, o317_68⟩
  · exact ⟨mn_sLI, o317_71⟩
  · exact ⟨mn_sX, ok_X⟩
theorem oc317_3 : ∀ pc, Mnp (c317_3 pc) ∧ Okp RX12 cX12_makeBlock 6 none "makeBlock" false pc (c317_3 pc) := by
  intro pc
  unfold c317_3
  split
  · exact ⟨mn_sLI, o317_73⟩
  · exact ⟨mn_sIS, o317_74⟩
  · exact ⟨mn_sK, o317_75⟩
  · exact ⟨mn_sSI, o317_76⟩
  · exact ⟨mn_sLI, o317_78⟩
  · exact ⟨mn_sK, o317_80⟩
  · exact ⟨mn_sI2, o317_82⟩
  · exact ⟨mn_sLR, o317_85⟩
  · exact ⟨mn_sGR, o317_86⟩
  · exact ⟨mn_sK, o317_89⟩
  · exact ⟨mn_sLI, o317_91⟩
  · exact ⟨mn_sB2, o317_93⟩
  · exact ⟨mn_sLI, o317_94⟩
  · exact ⟨mn_sX, ok_X⟩
theorem oc317_4 : ∀ pc, Mnp (c317_4 pc) ∧ Okp RX12 cX12_makeBlock 6 none "makeBlock" false pc (c317_4 pc) := by
  intro pc
  unfold c317_4
  split
  · exact ⟨mn_sB2, o317_96⟩
  · exact ⟨mn_sK, o317_97⟩
  · exact ⟨mn_sIS, o317_98⟩
  · exact ⟨mn_sInc, o317_99⟩
  · exact ⟨mn_sGo, o317_102⟩
  · exact ⟨mn_sLR, o317_105⟩
  · exact ⟨mn_sLI, o317_106⟩
  · exact ⟨mn_sLI, o317_107⟩
  · exact ⟨mn_sK, o317_109⟩
  · exact ⟨mn_sCV, o317_110⟩
  · exact ⟨mn_sRV, o317_113⟩
  · exact ⟨mn_sX, ok_X⟩
theorem oc317 : ∀ pc, Mnp (c317 pc) ∧ Okp RX12 cX12_makeBlock 6 none "makeBlock" false pc (c317 pc) := by
  intro pc
  unfold c317
  split
  · exact oc317_0 pc
  · exact oc317_1 pc
  · exact oc317_2 pc
  · exact oc317_3 pc
  · exact oc317_4 pc
  · exact ⟨mn_sX, ok_X⟩
theorem o318_0 : Okp RX12 cX12_channel 5 none "channel" false 0 (sK 0 1) := ok_iconst (by decide +kernel : decode cX12_channel 0 = .ok (.iconst 0, 1)) (by decide)
theorem o318_1 : Okp RX12 cX12_channel 5 none "channel" false 1 (sSI 3 2) := ok_istore_n (by decide +kernel : decode cX12_channel 1 = .ok (.istore_n 3, 1)) rfl (by decide) (by decide)
theorem o318_2 : Okp RX12 cX12_channel 5 none "channel" false 2 (sLI 3 3) := ok_iload_n (by decide +kernel : decode cX12_channel 2 = .ok (.iload_n 3, 1)) rfl
theorem o318_3 : Okp RX12 cX12_channel 5 none "channel" false 3 (sK 12 5) := ok_bipush (by decide +kernel : decode cX12_channel 3 = .ok (.bipush 12, 2)) (by decide)
theorem o318_5 : Okp RX12 cX12_channel 5 none "channel" false 5 (sI2 3 22 8) := ok_icmp_ge (by decide +kernel : decode cX12_channel 5 = .ok (.if_icmp .ge 17, 3)) (by decide)
theorem o318_8 : Okp RX12 cX12_channel 5 none "channel" false 8 (sLR 0 9) := ok_aload_n (by decide +kernel : decode cX12_channel 8 = .ok (.aload_n 0, 1)) rfl
theorem o318_9 : Okp RX12 cX12_channel 5 none "channel" false 9 (sLI 3 10) := ok_iload_n (by decide +kernel : decode cX12_channel 9 = .ok (.iload_n 3, 1)) rfl
theorem o318_10 : Okp RX12 cX12_channel 5 none "channel" false 10 (sCV false 294 2 13 13) := ok_cv (by decide +kernel : decode cX12_channel 10 = .ok (.invokevirtual 592, 3)) mw_X12_592 rfl (by decide) wm_X12_isChannel wse_X12_isChannel (by decide) rfl
theorem o318_13 : Okp RX12 cX12_channel 5 none "channel" false 13 (sI1 0 22 16) := ok_if_eq (by decide +kernel : decode cX12_channel 13 = .ok (.ifCond .eq 9, 3)) (by decide)
theorem o318_16 : Okp RX12 cX12_channel 5 none "channel" false 16 (sInc 3 1 19) := ok_iinc (by decide +kernel : decode cX12_channel 16 = .ok (.iinc 3 1, 3)) (by decide) (by decide)
theorem o318_19 : Okp RX12 cX12_channel 5 none "channel" false 19 (sGo 2) := ok_goto (by decide +kernel : decode cX12_channel 19 = .ok (.goto (-17), 3)) (by decide)
theorem o318_22 : Okp RX12 cX12_channel 5 none "channel" false 22 (sLI 3 23) := ok_iload_n (by decide +kernel : decode cX12_channel 22 = .ok (.iload_n 3, 1)) rfl
theorem o318_23 : Okp RX12 cX12_channel 5 none "channel" false 23 (sK 12 25) := ok_bipush (by decide +kernel : decode cX12_channel 23 = .ok (.bipush 12, 2)) (by decide)
theorem o318_25 : Okp RX12 cX12_channel 5 none "channel" false 25 (sI2 1 36 28) := ok_icmp_ne (by decide +kernel : decode cX12_channel 25 = .ok (.if_icmp .ne 11, 3)) (by decide)
theorem o318_28 : Okp RX12 cX12_channel 5 none "channel" false 28 (sLR 0 29) := ok_aload_n (by decide +kernel : decode cX12_channel 28 = .ok (.aload_n 0, 1)) rfl
theorem o318_29 : Okp RX12 cX12_channel 5 none "channel" false 29 (sLI 1 30) := ok_iload_n (by decide +kernel : decode cX12_channel 29 = .ok (.iload_n 1, 1)) rfl
theorem o318_30 : Okp RX12 cX12_channel 5 none "channel" false 30 (sK 7 32) := ok_bipush (by decide +kernel : decode cX12_channel 30 = .ok (.bipush 7, 2)) (by decide)
theorem o318_32 : Okp RX12 cX12_channel 5 none "channel" false 32 (sCV false 307 3 13 35) := ok_cv (by decide +kernel : decode cX12_channel 32 = .ok (.invokevirtual 553, 3)) mw_X12_553 rfl (by decide) wm_X12_trap wse_X12_trap (by decide) rfl
theorem o318_35 : Okp RX12 cX12_channel 5 none "channel" false 35 sRV := ok_vret rfl (by decide +kernel : decode cX12_channel 35 = .ok (.return_, 1))
theorem o318_36 : Okp RX12 cX12_channel 5 none "channel" false 36 (sK 2 37) := ok_iconst (by decide +kernel : decode cX12_channel 36 = .ok (.iconst 2, 1)) (by decide)
theorem o318_37 : Okp RX12 cX12_channel 5 none "channel" false 37 (sLI 3 38) := ok_iload_n (by decide +kernel : decode cX12_channel 37 = .ok (.iload_n 3, 1)) rfl
theorem o318_38 : Okp RX12 cX12_channel 5 none "channel" false 38 (sB2 fMul 39) := ok_imul (by decide +kernel : decode cX12_channel 38 = .ok (.imul, 1))
theorem o318_39 : Okp RX12 cX12_channel 5 none "channel" false 39 (sSI 4 41) := ok_istore (by decide +kernel : decode cX12_channel 39 = .ok (.istore 4, 2)) (by decide) (by decide)
theorem o318_41 : Okp RX12 cX12_channel 5 none "channel" false 41 (sLI 4 43) := ok_iload (by decide +kernel : decode cX12_channel 41 = .ok (.iload 4, 2))
theorem o318_43 : Okp RX12 cX12_channel 5 none "channel" false 43 (sK 2 44) := ok_iconst (by decide +kernel : decode cX12_channel 43 = .ok (.iconst 2, 1)) (by decide)
theorem o318_44 : Okp RX12 cX12_channel 5 none "channel" false 44 (sLI 3 45) := ok_iload_n (by decide +kernel : decode cX12_channel 44 = .ok (.iload_n 3, 1)) rfl
theorem o318_45 : Okp RX12 cX12_channel 5 none "channel" false 45 (sB2 fMul 46) := ok_imul (by decide +kernel : decode cX12_channel 45 = .ok (.imul, 1))
theorem o318_46 : Okp RX12 cX12_channel 5 none "channel" false 46 (sK 2 47) := ok_iconst (by decide +kernel : decode cX12_channel 46 = .ok (.iconst 2, 1)) (by decide)
theorem o318_47 : Okp RX12 cX12_channel 5 none "channel" false 47 (sB2 fAdd 48) := ok_iadd (by decide +kernel : decode cX12_channel 47 = .ok (.iadd, 1))
theorem o318_48 : Okp RX12 cX12_channel 5 none "channel" false 48 (sI2 3 106 51) := ok_icmp_ge (by decide +kernel : decode cX12_channel 48 = .ok (.if_icmp .ge 58, 3)) (by decide)
theorem o318_51 : Okp RX12 cX12_channel 5 none "channel" false 51 (sLR 0 52) := ok_aload_n (by decide +kernel : decode cX12_channel 51 = .ok (.aload_n 0, 1)) rfl
theorem o318_52 : Okp RX12 cX12_channel 5 none "channel" false 52 (sGR 13 82 55) := ok_getR (by decide +kernel : decode cX12_channel 52 = .ok (.getfield 206, 3)) fw_X12_206 rfl
theorem o318_55 : Okp RX12 cX12_channel 5 none "channel" false 55 (sLI 4 57) := ok_iload (by decide +kernel : decode cX12_channel 55 = .ok (.iload 4, 2))
theorem o318_57 : Okp RX12 cX12_channel 5 none "channel" false 57 (sK 0 58) := ok_iconst (by decide +kernel : decode cX12_channel 57 = .ok (.iconst 0, 1)) (by decide)
theorem o318_58 : Okp RX12 cX12_channel 5 none "channel" false 58 (sIS 59) := ok_iastore (by decide +kernel : decode cX12_channel 58 = .ok (.iastore, 1))
theorem o318_59 : Okp RX12 cX12_channel 5 none "channel" false 59 (sLR 0 60) := ok_aload_n (by decide +kernel : decode cX12_channel 59 = .ok (.aload_n 0, 1)) rfl
theorem o318_60 : Okp RX12 cX12_channel 5 none "channel" false 60 (sGR 13 83 63) := ok_getR (by decide +kernel : decode cX12_channel 60 = .ok (.getfield 209, 3)) fw_X12_209 rfl
theorem o318_63 : Okp RX12 cX12_channel 5 none "channel" false 63 (sLI 4 65) := ok_iload (by decide +kernel : decode cX12_channel 63 = .ok (.iload 4, 2))
theorem o318_65 : Okp RX12 cX12_channel 5 none "channel" false 65 (sLI 1 66) := ok_iload_n (by decide +kernel : decode cX12_channel 65 = .ok (.iload_n 1, 1)) rfl
theorem o318_66 : Okp RX12 cX12_channel 5 none "channel" false 66 (sIS 67) := ok_iastore (by decide +kernel : decode cX12_channel 66 = .ok (.iastore, 1))
theorem o318_67 : Okp RX12 cX12_channel 5 none "channel" false 67 (sLR 0 68) := ok_aload_n (by decide +kernel : decode cX12_channel 67 = .ok (.aload_n 0, 1)) rfl
theorem o318_68 : Okp RX12 cX12_channel 5 none "channel" false 68 (sGR 13 84 71) := ok_getR (by decide +kernel : decode cX12_channel 68 = .ok (.getfield 212, 3)) fw_X12_212 rfl
theorem o318_71 : Okp RX12 cX12_channel 5 none "channel" false 71 (sLI 4 73) := ok_iload (by decide +kernel : decode cX12_channel 71 = .ok (.iload 4, 2))
theorem o318_73 : Okp RX12 cX12_channel 5 none "channel" false 73 (sK 0 74) := ok_iconst (by decide +kernel : decode cX12_channel 73 = .ok (.iconst 0, 1)) (by decide)
theorem o318_74 : Okp RX12 cX12_channel 5 none "channel" false 74 (sIS 75) := ok_iastore (by decide +kernel : decode cX12_channel 74 = .ok (.iastore, 1))
theorem o318_75 : Okp RX12 cX12_channel 5 none "channel" false 75 (sLR 0 76) := ok_aload_n (by decide +kernel : decode cX12_channel 75 = .ok (.aload_n 0, 1)) rfl
theorem o318_76 : Okp RX12 cX12_channel 5 none "channel" false 76 (sGR 13 88 79) := ok_getR (by decide +kernel : decode cX12_channel 76 = .ok (.getfield 224, 3)) fw_X12_224 rfl
theorem o318_79 : Okp RX12 cX12_channel 5 none "channel" false 79 (sLI 4 81) := ok_iload (by decide +kernel : decode cX12_channel 79 = .ok (.iload 4, 2))
theorem o318_81 : Okp RX12 cX12_channel 5 none "channel" false 81 (sK 4 82) := ok_iconst (by decide +kernel : decode cX12_channel 81 = .ok (.iconst 4, 1)) (by decide)
theorem o318_82 : Okp RX12 cX12_channel 5 none "channel" false 82 (sLR 0 83) := ok_aload_n (by decide +kernel : decode cX12_channel 82 = .ok (.aload_n 0, 1)) rfl
theorem o318_83 : Okp RX12 cX12_channel 5 none "channel" false 83 (sGR 13 61 86) := ok_getR (by decide +kernel : decode cX12_channel 83 = .ok (.getfield 143, 3)) fw_X12_143 rfl
theorem o318_86 : Okp RX12 cX12_channel 5 none "channel" false 86 (sLI 1 87) := ok_iload_n (by decide +kernel : decode cX12_channel 86 = .ok (.iload_n 1, 1)) rfl
theorem o318_87 : Okp RX12 cX12_channel 5 none "channel" false 87 (sIA 88) := ok_iaload (by decide +kernel : decode cX12_channel 87 = .ok (.iaload, 1))
theorem o318_88 : Okp RX12 cX12_channel 5 none "channel" false 88 (sB2 fMul 89) := ok_imul (by decide +kernel : decode cX12_channel 88 = .ok (.imul, 1))
theorem o318_89 : Okp RX12 cX12_channel 5 none "channel" false 89 (sLI 2 90) := ok_iload_n (by decide +kernel : decode cX12_channel 89 = .ok (.iload_n 2, 1)) rfl
theorem o318_90 : Okp RX12 cX12_channel 5 none "channel" false 90 (sB2 fAdd 91) := ok_iadd (by decide +kernel : decode cX12_channel 90 = .ok (.iadd, 1))
theorem o318_91 : Okp RX12 cX12_channel 5 none "channel" false 91 (sIS 92) := ok_iastore (by decide +kernel : decode cX12_channel 91 = .ok (.iastore, 1))
theorem o318_92 : Okp RX12 cX12_channel 5 none "channel" false 92 (sLR 0 93) := ok_aload_n (by decide +kernel : decode cX12_channel 92 = .ok (.aload_n 0, 1)) rfl
theorem o318_93 : Okp RX12 cX12_channel 5 none "channel" false 93 (sLI 1 94) := ok_iload_n (by decide +kernel : decode cX12_channel 93 = .ok (.iload_n 1, 1)) rfl
theorem o318_94 : Okp RX12 cX12_channel 5 none "channel" false 94 (sLI 4 96) := ok_iload (by decide +kernel : decode cX12_channel 94 = .ok (.iload 4, 2))
theorem o318_96 : Okp RX12 cX12_channel 5 none "channel" false 96 (sK 3 97) := ok_iconst (by decide +kernel : decode cX12_channel 96 = .ok (.iconst 3, 1)) (by decide)
theorem o318_97 : Okp RX12 cX12_channel 5 none "channel" false 97 (sCV false 286 4 13 100) := ok_cv (by decide +kernel : decode cX12_channel 97 = .ok (.invokevirtual 548, 3)) mw_X12_548 rfl (by decide) wm_X12_push_ wse_X12_push_ (by decide) rfl
theorem o318_100 : Okp RX12 cX12_channel 5 none "channel" false 100 (sInc 4 1 103) := ok_iinc (by decide +kernel : decode cX12_channel 100 = .ok (.iinc 4 1, 3)) (by decide) (by decide)
theorem o318_103 : Okp RX12 cX12_channel 5 none "channel" false 103 (sGo 41) := ok_goto (by decide +kernel : decode cX12_channel 103 = .ok (.goto (-62), 3)) (by decide)
theorem o318_106 : Okp RX12 cX12_channel 5 none "channel" false 106 sRV := ok_vret rfl (by decide +kernel : decode cX12_channel 106 = .ok (.return_, 1))
theorem oc318_0 : ∀ pc, Mnp (c318_0 pc) ∧ Okp RX12 cX12_channel 5 none "channel" false pc (c318_0 pc) := by
  intro pc
  unfold c318_0
  split
  · exact ⟨mn_sK, o318_0⟩
  · exact ⟨mn_sSI, o318_1⟩
  · exact ⟨mn_sLI, o318_2⟩
  · exact ⟨mn_sK, o318_3⟩
  · exact ⟨mn_sI2, o318_5⟩
  · exact ⟨mn_sLR, o318_8⟩
  · exact ⟨mn_sLI, o318_9⟩
  · exact ⟨mn_sCV, o318_10⟩
  · exact ⟨mn_sI1, o318_13⟩
  · exact ⟨mn_sInc, o318_16⟩
  · exact ⟨mn_sGo, o318_19⟩
  · exact ⟨mn_sLI, o318_22⟩
  · exact ⟨mn_sK, o318_23⟩
  · exact ⟨mn_sX, ok_X⟩
theorem oc318_1 : ∀ pc, Mnp (c318_1 pc) ∧ Okp RX12 cX12_channel 5 none "channel" false pc (c318_1 pc) := by
  intro pc
  unfold c318_1
  split
  · exact ⟨mn_sI2, o318_25⟩
  · exact ⟨mn_sLR, o318_28⟩
  · exact ⟨mn_sLI, o318_29⟩
  · exact ⟨mn_sK, o318_30⟩
  · exact ⟨mn_sCV, o318_32⟩
  · exact ⟨mn_sRV, o318_35⟩
  · exact ⟨mn_sK, o318_36⟩
  · exact ⟨mn_sLI, o318_37⟩
  · exact ⟨mn_sB2, o318_38⟩
  · exact ⟨mn_sSI, o318_39⟩
  · exact ⟨mn_sLI, o318_41⟩
  · exact ⟨mn_sK, o318_43⟩
  · exact ⟨mn_sLI, o318_44⟩
  · exact ⟨mn_sB2, o318_45⟩
  · exact ⟨mn_sK, o318_46⟩
  · exact ⟨mn_sB2, o318_47⟩
  · exact ⟨mn_sX, ok_X⟩
theorem oc318_2 : ∀ pc, Mnp (c318_2 pc) ∧ Okp RX12 cX12_channel 5 none "channel" false pc (c318_2 pc) := by
  intro pc
  unfold c318_2
  split
  · exact ⟨mn_sI2, o318_48⟩
  · exact ⟨mn_sLR, o318_51⟩
  · exact ⟨mn_sGR, o318_52⟩
  · exact ⟨mn_sLI, o318_55⟩
  · exact ⟨mn_sK, o318_57⟩
  · exact ⟨mn_sIS, o318_58⟩
  · exact ⟨mn_sLR, o318_59⟩
  · exact ⟨mn_sGR, o318_60⟩
  · exact ⟨mn_sLI, o318_63⟩
  · exact ⟨mn_sLI, o318_65⟩
  · exact ⟨mn_sIS, o318_66⟩
  · exact ⟨mn_sLR, o318_67⟩
  · exact ⟨mn_sGR, o318_68⟩
  · exact ⟨mn_sLI, o318_71⟩
  · exact ⟨mn_sX, ok_X⟩
theorem oc318_3 : ∀ pc, Mnp (c318_3 pc) ∧ Okp RX12 cX12_channel 5 none "channel" false pc (c318_3 pc) := by
  intro pc
  unfold c318_3
  split
  · exact ⟨mn_sK, o318_73⟩
  · exact ⟨mn_sIS, o318_74⟩
  · exact ⟨mn_sLR, o318_75⟩
  · exact ⟨mn_sGR, o318_76⟩
  · exact ⟨mn_sLI, o318_79⟩
  · exact ⟨mn_sK, o318_81⟩
  · exact ⟨mn_sLR, o318_82⟩
  · exact ⟨mn_sGR, o318_83⟩
  · exact ⟨mn_sLI, o318_86⟩
  · exact ⟨mn_sIA, o318_87⟩
  · exact ⟨mn_sB2, o318_88⟩
  · exact ⟨mn_sLI, o318_89⟩
  · exact ⟨mn_sB2, o318_90⟩
  · exact ⟨mn_sIS, o318_91⟩
  · exact ⟨mn_sLR, o318_92⟩
  · exact ⟨mn_sLI, o318_93⟩
  · exact ⟨mn_sLI, o318_94⟩
  · exact ⟨mn_sX, ok_X⟩
theorem oc318_4 : ∀ pc, Mnp (c318_4 pc) ∧ Okp RX12 cX12_channel 5 none "channel" false pc (c318_4 pc) := by
  intro pc
  unfold c318_4
  split
  · exact ⟨mn_sK, o318_96⟩
  · exact ⟨mn_sCV, o318_97⟩
  · exact ⟨mn_sInc, o318_100⟩
  · exact ⟨mn_sGo, o318_103⟩
  · exact ⟨mn_sRV, o318_106⟩
  · exact ⟨mn_sX, ok_X⟩
theorem oc318 : ∀ pc, Mnp (c318 pc) ∧ Okp RX12 cX12_channel 5 none "channel" false pc (c318 pc) := by
  intro pc
  unfold c318
  split
  · exact oc318_0 pc
  · exact oc318_1 pc
  · exact oc318_2 pc
  · exact oc318_3 pc
  · exact oc318_4 pc
  · exact ⟨mn_sX, ok_X⟩
theorem o319_0 : Okp RX12 cX12_send 8 none "send" false 0 (sK 0 1) := ok_iconst (by decide +kernel : decode cX12_send 0 = .ok (.iconst 0, 1)) (by decide)
theorem o319_1 : Okp RX12 cX12_send 8 none "send" false 1 (sSI 3 2) := ok_istore_n (by decide +kernel : decode cX12_send 1 = .ok (.istore_n 3, 1)) rfl (by decide) (by decide)
theorem o319_2 : Okp RX12 cX12_send 8 none "send" false 2 (sK 4 3) := ok_iconst (by decide +kernel : decode cX12_send 2 = .ok (.iconst 4, 1)) (by decide)
theorem o319_3 : Okp RX12 cX12_send 8 none "send" false 3 (sSI 4 5) := ok_istore (by decide +kernel : decode cX12_send 3 = .ok (.istore 4, 2)) (by decide) (by decide)
theorem o319_5 : Okp RX12 cX12_send 8 none "send" false 5 (sLR 0 6) := ok_aload_n (by decide +kernel : decode cX12_send 5 = .ok (.aload_n 0, 1)) rfl
theorem o319_6 : Okp RX12 cX12_send 8 none "send" false 6 (sLI 1 7) := ok_iload_n (by decide +kernel : decode cX12_send 6 = .ok (.iload_n 1, 1)) rfl
theorem o319_7 : Okp RX12 cX12_send 8 none "send" false 7 (sLI 2 8) := ok_iload_n (by decide +kernel : decode cX12_send 7 = .ok (.iload_n 2, 1)) rfl
theorem o319_8 : Okp RX12 cX12_send 8 none "send" false 8 (sCV false 305 3 13 11) := ok_cv (by decide +kernel : decode cX12_send 8 = .ok (.invokevirtual 530, 3)) mw_X12_530 rfl (by decide) wm_X12_depthOfEnd wse_X12_depthOfEnd (by decide) rfl
theorem o319_11 : Okp RX12 cX12_send 8 none "send" false 11 (sK 1 12) := ok_iconst (by decide +kernel : decode cX12_send 11 = .ok (.iconst 1, 1)) (by decide)
theorem o319_12 : Okp RX12 cX12_send 8 none "send" false 12 (sI2 1 39 15) := ok_icmp_ne (by decide +kernel : decode cX12_send 12 = .ok (.if_icmp .ne 27, 3)) (by decide)
theorem o319_15 : Okp RX12 cX12_send 8 none "send" false 15 (sLR 0 16) := ok_aload_n (by decide +kernel : decode cX12_send 15 = .ok (.aload_n 0, 1)) rfl
theorem o319_16 : Okp RX12 cX12_send 8 none "send" false 16 (sLI 1 17) := ok_iload_n (by decide +kernel : decode cX12_send 16 = .ok (.iload_n 1, 1)) rfl
theorem o319_17 : Okp RX12 cX12_send 8 none "send" false 17 (sCV false 287 2 13 20) := ok_cv (by decide +kernel : decode cX12_send 17 = .ok (.invokevirtual 493, 3)) mw_X12_493 rfl (by decide) wm_X12_pop_ wse_X12_pop_ (by decide) rfl
theorem o319_20 : Okp RX12 cX12_send 8 none "send" false 20 (sSI 5 22) := ok_istore (by decide +kernel : decode cX12_send 20 = .ok (.istore 5, 2)) (by decide) (by decide)
theorem o319_22 : Okp RX12 cX12_send 8 none "send" false 22 (sLR 0 23) := ok_aload_n (by decide +kernel : decode cX12_send 22 = .ok (.aload_n 0, 1)) rfl
theorem o319_23 : Okp RX12 cX12_send 8 none "send" false 23 (sGR 13 68 26) := ok_getR (by decide +kernel : decode cX12_send 23 = .ok (.getfield 164, 3)) fw_X12_164 rfl
theorem o319_26 : Okp RX12 cX12_send 8 none "send" false 26 (sLI 5 28) := ok_iload (by decide +kernel : decode cX12_send 26 = .ok (.iload 5, 2))
theorem o319_28 : Okp RX12 cX12_send 8 none "send" false 28 (sIA 29) := ok_iaload (by decide +kernel : decode cX12_send 28 = .ok (.iaload, 1))
theorem o319_29 : Okp RX12 cX12_send 8 none "send" false 29 (sSI 3 30) := ok_istore_n (by decide +kernel : decode cX12_send 29 = .ok (.istore_n 3, 1)) rfl (by decide) (by decide)
theorem o319_30 : Okp RX12 cX12_send 8 none "send" false 30 (sLR 0 31) := ok_aload_n (by decide +kernel : decode cX12_send 30 = .ok (.aload_n 0, 1)) rfl
theorem o319_31 : Okp RX12 cX12_send 8 none "send" false 31 (sGR 13 69 34) := ok_getR (by decide +kernel : decode cX12_send 31 = .ok (.getfield 167, 3)) fw_X12_167 rfl
theorem o319_34 : Okp RX12 cX12_send 8 none "send" false 34 (sLI 5 36) := ok_iload (by decide +kernel : decode cX12_send 34 = .ok (.iload 5, 2))
theorem o319_36 : Okp RX12 cX12_send 8 none "send" false 36 (sIA 37) := ok_iaload (by decide +kernel : decode cX12_send 36 = .ok (.iaload, 1))
theorem o319_37 : Okp RX12 cX12_send 8 none "send" false 37 (sSI 4 39) := ok_istore (by decide +kernel : decode cX12_send 37 = .ok (.istore 4, 2)) (by decide) (by decide)
theorem o319_39 : Okp RX12 cX12_send 8 none "send" false 39 (sLR 0 40) := ok_aload_n (by decide +kernel : decode cX12_send 39 = .ok (.aload_n 0, 1)) rfl
theorem o319_40 : Okp RX12 cX12_send 8 none "send" false 40 (sGR 13 68 43) := ok_getR (by decide +kernel : decode cX12_send 40 = .ok (.getfield 164, 3)) fw_X12_164 rfl
theorem o319_43 : Okp RX12 cX12_send 8 none "send" false 43 (sLR 0 44) := ok_aload_n (by decide +kernel : decode cX12_send 43 = .ok (.aload_n 0, 1)) rfl
theorem o319_44 : Okp RX12 cX12_send 8 none "send" false 44 (sLI 1 45) := ok_iload_n (by decide +kernel : decode cX12_send 44 = .ok (.iload_n 1, 1)) rfl
theorem o319_45 : Okp RX12 cX12_send 8 none "send" false 45 (sLR 0 46) := ok_aload_n (by decide +kernel : decode cX12_send 45 = .ok (.aload_n 0, 1)) rfl
theorem o319_46 : Okp RX12 cX12_send 8 none "send" false 46 (sGR 13 67 49) := ok_getR (by decide +kernel : decode cX12_send 46 = .ok (.getfield 161, 3)) fw_X12_161 rfl
theorem o319_49 : Okp RX12 cX12_send 8 none "send" false 49 (sLR 0 50) := ok_aload_n (by decide +kernel : decode cX12_send 49 = .ok (.aload_n 0, 1)) rfl
theorem o319_50 : Okp RX12 cX12_send 8 none "send" false 50 (sLI 1 51) := ok_iload_n (by decide +kernel : decode cX12_send 50 = .ok (.iload_n 1, 1)) rfl
theorem o319_51 : Okp RX12 cX12_send 8 none "send" false 51 (sCV false 282 2 13 54) := ok_cv (by decide +kernel : decode cX12_send 51 = .ok (.invokevirtual 487, 3)) mw_X12_487 rfl (by decide) wm_X12_act wse_X12_act (by decide) rfl
theorem o319_54 : Okp RX12 cX12_send 8 none "send" false 54 (sIA 55) := ok_iaload (by decide +kernel : decode cX12_send 54 = .ok (.iaload, 1))
theorem o319_55 : Okp RX12 cX12_send 8 none "send" false 55 (sK 1 56) := ok_iconst (by decide +kernel : decode cX12_send 55 = .ok (.iconst 1, 1)) (by decide)
theorem o319_56 : Okp RX12 cX12_send 8 none "send" false 56 (sB2 fSub 57) := ok_isub (by decide +kernel : decode cX12_send 56 = .ok (.isub, 1))
theorem o319_57 : Okp RX12 cX12_send 8 none "send" false 57 (sCV false 284 3 13 60) := ok_cv (by decide +kernel : decode cX12_send 57 = .ok (.invokevirtual 490, 3)) mw_X12_490 rfl (by decide) wm_X12_stack wse_X12_stack (by decide) rfl
theorem o319_60 : Okp RX12 cX12_send 8 none "send" false 60 (sIA 61) := ok_iaload (by decide +kernel : decode cX12_send 60 = .ok (.iaload, 1))
theorem o319_61 : Okp RX12 cX12_send 8 none "send" false 61 (sSI 5 63) := ok_istore (by decide +kernel : decode cX12_send 61 = .ok (.istore 5, 2)) (by decide) (by decide)
theorem o319_63 : Okp RX12 cX12_send 8 none "send" false 63 (sLR 0 64) := ok_aload_n (by decide +kernel : decode cX12_send 63 = .ok (.aload_n 0, 1)) rfl
theorem o319_64 : Okp RX12 cX12_send 8 none "send" false 64 (sGR 13 82 67) := ok_getR (by decide +kernel : decode cX12_send 64 = .ok (.getfield 206, 3)) fw_X12_206 rfl
theorem o319_67 : Okp RX12 cX12_send 8 none "send" false 67 (sLI 5 69) := ok_iload (by decide +kernel : decode cX12_send 67 = .ok (.iload 5, 2))
theorem o319_69 : Okp RX12 cX12_send 8 none "send" false 69 (sLR 0 70) := ok_aload_n (by decide +kernel : decode cX12_send 69 = .ok (.aload_n 0, 1)) rfl
theorem o319_70 : Okp RX12 cX12_send 8 none "send" false 70 (sGR 13 15 73) := ok_getR (by decide +kernel : decode cX12_send 70 = .ok (.getfield 51, 3)) fw_X12_51 rfl
theorem o319_73 : Okp RX12 cX12_send 8 none "send" false 73 (sK 4 74) := ok_iconst (by decide +kernel : decode cX12_send 73 = .ok (.iconst 4, 1)) (by decide)
theorem o319_74 : Okp RX12 cX12_send 8 none "send" false 74 (sK 8 76) := ok_bipush (by decide +kernel : decode cX12_send 74 = .ok (.bipush 8, 2)) (by decide)
theorem o319_76 : Okp RX12 cX12_send 8 none "send" false 76 (sLR 0 77) := ok_aload_n (by decide +kernel : decode cX12_send 76 = .ok (.aload_n 0, 1)) rfl
theorem o319_77 : Okp RX12 cX12_send 8 none "send" false 77 (sGR 13 88 80) := ok_getR (by decide +kernel : decode cX12_send 77 = .ok (.getfield 224, 3)) fw_X12_224 rfl
theorem o319_80 : Okp RX12 cX12_send 8 none "send" false 80 (sLI 5 82) := ok_iload (by decide +kernel : decode cX12_send 80 = .ok (.iload 5, 2))
theorem o319_82 : Okp RX12 cX12_send 8 none "send" false 82 (sIA 83) := ok_iaload (by decide +kernel : decode cX12_send 82 = .ok (.iaload, 1))
theorem o319_83 : Okp RX12 cX12_send 8 none "send" false 83 (sB2 fMul 84) := ok_imul (by decide +kernel : decode cX12_send 83 = .ok (.imul, 1))
theorem o319_84 : Okp RX12 cX12_send 8 none "send" false 84 (sLR 0 85) := ok_aload_n (by decide +kernel : decode cX12_send 84 = .ok (.aload_n 0, 1)) rfl
theorem o319_85 : Okp RX12 cX12_send 8 none "send" false 85 (sGR 13 82 88) := ok_getR (by decide +kernel : decode cX12_send 85 = .ok (.getfield 206, 3)) fw_X12_206 rfl
theorem o319_88 : Okp RX12 cX12_send 8 none "send" false 88 (sLI 5 90) := ok_iload (by decide +kernel : decode cX12_send 88 = .ok (.iload 5, 2))
theorem o319_90 : Okp RX12 cX12_send 8 none "send" false 90 (sIA 91) := ok_iaload (by decide +kernel : decode cX12_send 90 = .ok (.iaload, 1))
theorem o319_91 : Okp RX12 cX12_send 8 none "send" false 91 (sB2 fAdd 92) := ok_iadd (by decide +kernel : decode cX12_send 91 = .ok (.iadd, 1))
theorem o319_92 : Okp RX12 cX12_send 8 none "send" false 92 (sB2 fMul 93) := ok_imul (by decide +kernel : decode cX12_send 92 = .ok (.imul, 1))
theorem o319_93 : Okp RX12 cX12_send 8 none "send" false 93 (sLI 2 94) := ok_iload_n (by decide +kernel : decode cX12_send 93 = .ok (.iload_n 2, 1)) rfl
theorem o319_94 : Okp RX12 cX12_send 8 none "send" false 94 (sB2 fAdd 95) := ok_iadd (by decide +kernel : decode cX12_send 94 = .ok (.iadd, 1))
theorem o319_95 : Okp RX12 cX12_send 8 none "send" false 95 (sIA 96) := ok_iaload (by decide +kernel : decode cX12_send 95 = .ok (.iaload, 1))
theorem o319_96 : Okp RX12 cX12_send 8 none "send" false 96 (sIS 97) := ok_iastore (by decide +kernel : decode cX12_send 96 = .ok (.iastore, 1))
theorem o319_97 : Okp RX12 cX12_send 8 none "send" false 97 (sLI 5 99) := ok_iload (by decide +kernel : decode cX12_send 97 = .ok (.iload 5, 2))
theorem o319_99 : Okp RX12 cX12_send 8 none "send" false 99 (sK 1 100) := ok_iconst (by decide +kernel : decode cX12_send 99 = .ok (.iconst 1, 1)) (by decide)
theorem o319_100 : Okp RX12 cX12_send 8 none "send" false 100 (sB2 fXor 101) := ok_ixor (by decide +kernel : decode cX12_send 100 = .ok (.ixor, 1))
theorem o319_101 : Okp RX12 cX12_send 8 none "send" false 101 (sSI 6 103) := ok_istore (by decide +kernel : decode cX12_send 101 = .ok (.istore 6, 2)) (by decide) (by decide)
theorem o319_103 : Okp RX12 cX12_send 8 none "send" false 103 (sLR 0 104) := ok_aload_n (by decide +kernel : decode cX12_send 103 = .ok (.aload_n 0, 1)) rfl
theorem o319_104 : Okp RX12 cX12_send 8 none "send" false 104 (sGR 13 82 107) := ok_getR (by decide +kernel : decode cX12_send 104 = .ok (.getfield 206, 3)) fw_X12_206 rfl
theorem o319_107 : Okp RX12 cX12_send 8 none "send" false 107 (sLI 6 109) := ok_iload (by decide +kernel : decode cX12_send 107 = .ok (.iload 6, 2))
theorem o319_109 : Okp RX12 cX12_send 8 none "send" false 109 (sIA 110) := ok_iaload (by decide +kernel : decode cX12_send 109 = .ok (.iaload, 1))
theorem o319_110 : Okp RX12 cX12_send 8 none "send" false 110 (sK (-1) 111) := ok_iconst (by decide +kernel : decode cX12_send 110 = .ok (.iconst (-1), 1)) (by decide)
theorem o319_111 : Okp RX12 cX12_send 8 none "send" false 111 (sI2 1 122 114) := ok_icmp_ne (by decide +kernel : decode cX12_send 111 = .ok (.if_icmp .ne 11, 3)) (by decide)
theorem o319_114 : Okp RX12 cX12_send 8 none "send" false 114 (sLR 0 115) := ok_aload_n (by decide +kernel : decode cX12_send 114 = .ok (.aload_n 0, 1)) rfl
theorem o319_115 : Okp RX12 cX12_send 8 none "send" false 115 (sLI 3 116) := ok_iload_n (by decide +kernel : decode cX12_send 115 = .ok (.iload_n 3, 1)) rfl
theorem o319_116 : Okp RX12 cX12_send 8 none "send" false 116 (sLI 4 118) := ok_iload (by decide +kernel : decode cX12_send 116 = .ok (.iload 4, 2))
theorem o319_118 : Okp RX12 cX12_send 8 none "send" false 118 (sCV false 296 3 13 121) := ok_cv (by decide +kernel : decode cX12_send 118 = .ok (.invokevirtual 501, 3)) mw_X12_501 rfl (by decide) wm_X12_lose wse_X12_lose (by decide) rfl
theorem o319_121 : Okp RX12 cX12_send 8 none "send" false 121 sRV := ok_vret rfl (by decide +kernel : decode cX12_send 121 = .ok (.return_, 1))
theorem o319_122 : Okp RX12 cX12_send 8 none "send" false 122 (sK 4 123) := ok_iconst (by decide +kernel : decode cX12_send 122 = .ok (.iconst 4, 1)) (by decide)
theorem o319_123 : Okp RX12 cX12_send 8 none "send" false 123 (sLI 6 125) := ok_iload (by decide +kernel : decode cX12_send 123 = .ok (.iload 6, 2))
theorem o319_125 : Okp RX12 cX12_send 8 none "send" false 125 (sB2 fMul 126) := ok_imul (by decide +kernel : decode cX12_send 125 = .ok (.imul, 1))
theorem o319_126 : Okp RX12 cX12_send 8 none "send" false 126 (sLR 0 127) := ok_aload_n (by decide +kernel : decode cX12_send 126 = .ok (.aload_n 0, 1)) rfl
theorem o319_127 : Okp RX12 cX12_send 8 none "send" false 127 (sGR 13 84 130) := ok_getR (by decide +kernel : decode cX12_send 127 = .ok (.getfield 212, 3)) fw_X12_212 rfl
theorem o319_130 : Okp RX12 cX12_send 8 none "send" false 130 (sLI 6 132) := ok_iload (by decide +kernel : decode cX12_send 130 = .ok (.iload 6, 2))
theorem o319_132 : Okp RX12 cX12_send 8 none "send" false 132 (sIA 133) := ok_iaload (by decide +kernel : decode cX12_send 132 = .ok (.iaload, 1))
theorem o319_133 : Okp RX12 cX12_send 8 none "send" false 133 (sB2 fAdd 134) := ok_iadd (by decide +kernel : decode cX12_send 133 = .ok (.iadd, 1))
theorem o319_134 : Okp RX12 cX12_send 8 none "send" false 134 (sSI 7 136) := ok_istore (by decide +kernel : decode cX12_send 134 = .ok (.istore 7, 2)) (by decide) (by decide)
theorem o319_136 : Okp RX12 cX12_send 8 none "send" false 136 (sLR 0 137) := ok_aload_n (by decide +kernel : decode cX12_send 136 = .ok (.aload_n 0, 1)) rfl
theorem o319_137 : Okp RX12 cX12_send 8 none "send" false 137 (sGR 13 85 140) := ok_getR (by decide +kernel : decode cX12_send 137 = .ok (.getfield 215, 3)) fw_X12_215 rfl
theorem o319_140 : Okp RX12 cX12_send 8 none "send" false 140 (sLI 7 142) := ok_iload (by decide +kernel : decode cX12_send 140 = .ok (.iload 7, 2))
theorem o319_142 : Okp RX12 cX12_send 8 none "send" false 142 (sLI 2 143) := ok_iload_n (by decide +kernel : decode cX12_send 142 = .ok (.iload_n 2, 1)) rfl
theorem o319_143 : Okp RX12 cX12_send 8 none "send" false 143 (sIS 144) := ok_iastore (by decide +kernel : decode cX12_send 143 = .ok (.iastore, 1))
theorem o319_144 : Okp RX12 cX12_send 8 none "send" false 144 (sLR 0 145) := ok_aload_n (by decide +kernel : decode cX12_send 144 = .ok (.aload_n 0, 1)) rfl
theorem o319_145 : Okp RX12 cX12_send 8 none "send" false 145 (sGR 13 86 148) := ok_getR (by decide +kernel : decode cX12_send 145 = .ok (.getfield 218, 3)) fw_X12_218 rfl
theorem o319_148 : Okp RX12 cX12_send 8 none "send" false 148 (sLI 7 150) := ok_iload (by decide +kernel : decode cX12_send 148 = .ok (.iload 7, 2))
theorem o319_150 : Okp RX12 cX12_send 8 none "send" false 150 (sLI 3 151) := ok_iload_n (by decide +kernel : decode cX12_send 150 = .ok (.iload_n 3, 1)) rfl
theorem o319_151 : Okp RX12 cX12_send 8 none "send" false 151 (sIS 152) := ok_iastore (by decide +kernel : decode cX12_send 151 = .ok (.iastore, 1))
theorem o319_152 : Okp RX12 cX12_send 8 none "send" false 152 (sLR 0 153) := ok_aload_n (by decide +kernel : decode cX12_send 152 = .ok (.aload_n 0, 1)) rfl
theorem o319_153 : Okp RX12 cX12_send 8 none "send" false 153 (sGR 13 87 156) := ok_getR (by decide +kernel : decode cX12_send 153 = .ok (.getfield 221, 3)) fw_X12_221 rfl
theorem o319_156 : Okp RX12 cX12_send 8 none "send" false 156 (sLI 7 158) := ok_iload (by decide +kernel : decode cX12_send 156 = .ok (.iload 7, 2))
theorem o319_158 : Okp RX12 cX12_send 8 none "send" false 158 (sLI 4 160) := ok_iload (by decide +kernel : decode cX12_send 158 = .ok (.iload 4, 2))
theorem o319_160 : Okp RX12 cX12_send 8 none "send" false 160 (sIS 161) := ok_iastore (by decide +kernel : decode cX12_send 160 = .ok (.iastore, 1))
theorem o319_161 : Okp RX12 cX12_send 8 none "send" false 161 (sLR 0 162) := ok_aload_n (by decide +kernel : decode cX12_send 161 = .ok (.aload_n 0, 1)) rfl
theorem o319_162 : Okp RX12 cX12_send 8 none "send" false 162 (sGR 13 84 165) := ok_getR (by decide +kernel : decode cX12_send 162 = .ok (.getfield 212, 3)) fw_X12_212 rfl
theorem o319_165 : Okp RX12 cX12_send 8 none "send" false 165 (sLI 6 167) := ok_iload (by decide +kernel : decode cX12_send 165 = .ok (.iload 6, 2))
theorem o319_167 : Okp RX12 cX12_send 8 none "send" false 167 (sDup2 168) := ok_dup2 (by decide +kernel : decode cX12_send 167 = .ok (.dup2, 1))
theorem o319_168 : Okp RX12 cX12_send 8 none "send" false 168 (sIA 169) := ok_iaload (by decide +kernel : decode cX12_send 168 = .ok (.iaload, 1))
theorem o319_169 : Okp RX12 cX12_send 8 none "send" false 169 (sK 1 170) := ok_iconst (by decide +kernel : decode cX12_send 169 = .ok (.iconst 1, 1)) (by decide)
theorem o319_170 : Okp RX12 cX12_send 8 none "send" false 170 (sB2 fAdd 171) := ok_iadd (by decide +kernel : decode cX12_send 170 = .ok (.iadd, 1))
theorem o319_171 : Okp RX12 cX12_send 8 none "send" false 171 (sIS 172) := ok_iastore (by decide +kernel : decode cX12_send 171 = .ok (.iastore, 1))
theorem o319_172 : Okp RX12 cX12_send 8 none "send" false 172 (sLR 0 173) := ok_aload_n (by decide +kernel : decode cX12_send 172 = .ok (.aload_n 0, 1)) rfl
theorem o319_173 : Okp RX12 cX12_send 8 none "send" false 173 (sLI 3 174) := ok_iload_n (by decide +kernel : decode cX12_send 173 = .ok (.iload_n 3, 1)) rfl
theorem o319_174 : Okp RX12 cX12_send 8 none "send" false 174 (sLI 4 176) := ok_iload (by decide +kernel : decode cX12_send 174 = .ok (.iload 4, 2))
theorem o319_176 : Okp RX12 cX12_send 8 none "send" false 176 (sK 100 178) := ok_bipush (by decide +kernel : decode cX12_send 176 = .ok (.bipush 100, 2)) (by decide)
theorem o319_178 : Okp RX12 cX12_send 8 none "send" false 178 (sLI 6 180) := ok_iload (by decide +kernel : decode cX12_send 178 = .ok (.iload 6, 2))
theorem o319_180 : Okp RX12 cX12_send 8 none "send" false 180 (sB2 fAdd 181) := ok_iadd (by decide +kernel : decode cX12_send 180 = .ok (.iadd, 1))
theorem o319_181 : Okp RX12 cX12_send 8 none "send" false 181 (sCV false 297 4 13 184) := ok_cv (by decide +kernel : decode cX12_send 181 = .ok (.invokevirtual 595, 3)) mw_X12_595 rfl (by decide) wm_X12_own wse_X12_own (by decide) rfl
theorem o319_184 : Okp RX12 cX12_send 8 none "send" false 184 sRV := ok_vret rfl (by decide +kernel : decode cX12_send 184 = .ok (.return_, 1))
theorem oc319_0 : ∀ pc, Mnp (c319_0 pc) ∧ Okp RX12 cX12_send 8 none "send" false pc (c319_0 pc) := by
  intro pc
  unfold c319_0
  split
  · exact ⟨mn_sK, o319_0⟩
  · exact ⟨mn_sSI, o319_1⟩
  · exact ⟨mn_sK, o319_2⟩
  · exact ⟨mn_sSI, o319_3⟩
  · exact ⟨mn_sLR, o319_5⟩
  · exact ⟨mn_sLI, o319_6⟩
  · exact ⟨mn_sLI, o319_7⟩
  · exact ⟨mn_sCV, o319_8⟩
  · exact ⟨mn_sK, o319_11⟩
  · exact ⟨mn_sI2, o319_12⟩
  · exact ⟨mn_sLR, o319_15⟩
  · exact ⟨mn_sLI, o319_16⟩
  · exact ⟨mn_sCV, o319_17⟩
  · exact ⟨mn_sSI, o319_20⟩
  · exact ⟨mn_sLR, o319_22⟩
  · exact ⟨mn_sGR, o319_23⟩
  · exact ⟨mn_sX, ok_X⟩
theorem oc319_1 : ∀ pc, Mnp (c319_1 pc) ∧ Okp RX12 cX12_send 8 none "send" false pc (c319_1 pc) := by
  intro pc
  unfold c319_1
  split
  · exact ⟨mn_sLI, o319_26⟩
  · exact ⟨mn_sIA, o319_28⟩
  · exact ⟨mn_sSI, o319_29⟩
  · exact ⟨mn_sLR, o319_30⟩
  · exact ⟨mn_sGR, o319_31⟩
  · exact ⟨mn_sLI, o319_34⟩
  · exact ⟨mn_sIA, o319_36⟩
  · exact ⟨mn_sSI, o319_37⟩
  · exact ⟨mn_sLR, o319_39⟩
  · exact ⟨mn_sGR, o319_40⟩
  · exact ⟨mn_sLR, o319_43⟩
  · exact ⟨mn_sLI, o319_44⟩
  · exact ⟨mn_sLR, o319_45⟩
  · exact ⟨mn_sGR, o319_46⟩
  · exact ⟨mn_sX, ok_X⟩
theorem oc319_2 : ∀ pc, Mnp (c319_2 pc) ∧ Okp RX12 cX12_send 8 none "send" false pc (c319_2 pc) := by
  intro pc
  unfold c319_2
  split
  · exact ⟨mn_sLR, o319_49⟩
  · exact ⟨mn_sLI, o319_50⟩
  · exact ⟨mn_sCV, o319_51⟩
  · exact ⟨mn_sIA, o319_54⟩
  · exact ⟨mn_sK, o319_55⟩
  · exact ⟨mn_sB2, o319_56⟩
  · exact ⟨mn_sCV, o319_57⟩
  · exact ⟨mn_sIA, o319_60⟩
  · exact ⟨mn_sSI, o319_61⟩
  · exact ⟨mn_sLR, o319_63⟩
  · exact ⟨mn_sGR, o319_64⟩
  · exact ⟨mn_sLI, o319_67⟩
  · exact ⟨mn_sLR, o319_69⟩
  · exact ⟨mn_sGR, o319_70⟩
  · exact ⟨mn_sX, ok_X⟩
theorem oc319_3 : ∀ pc, Mnp (c319_3 pc) ∧ Okp RX12 cX12_send 8 none "send" false pc (c319_3 pc) := by
  intro pc
  unfold c319_3
  split
  · exact ⟨mn_sK, o319_73⟩
  · exact ⟨mn_sK, o319_74⟩
  · exact ⟨mn_sLR, o319_76⟩
  · exact ⟨mn_sGR, o319_77⟩
  · exact ⟨mn_sLI, o319_80⟩
  · exact ⟨mn_sIA, o319_82⟩
  · exact ⟨mn_sB2, o319_83⟩
  · exact ⟨mn_sLR, o319_84⟩
  · exact ⟨mn_sGR, o319_85⟩
  · exact ⟨mn_sLI, o319_88⟩
  · exact ⟨mn_sIA, o319_90⟩
  · exact ⟨mn_sB2, o319_91⟩
  · exact ⟨mn_sB2, o319_92⟩
  · exact ⟨mn_sLI, o319_93⟩
  · exact ⟨mn_sB2, o319_94⟩
  · exact ⟨mn_sIA, o319_95⟩
  · exact ⟨mn_sX, ok_X⟩
theorem oc319_4 : ∀ pc, Mnp (c319_4 pc) ∧ Okp RX12 cX12_send 8 none "send" false pc (c319_4 pc) := by
  intro pc
  unfold c319_4
  split
  · exact ⟨mn_sIS, o319_96⟩
  · exact ⟨mn_sLI, o319_97⟩
  · exact ⟨mn_sK, o319_99⟩
  · exact ⟨mn_sB2, o319_100⟩
  · exact ⟨mn_sSI, o319_101⟩
  · exact ⟨mn_sLR, o319_103⟩
  · exact ⟨mn_sGR, o319_104⟩
  · exact ⟨mn_sLI, o319_107⟩
  · exact ⟨mn_sIA, o319_109⟩
  · exact ⟨mn_sK, o319_110⟩
  · exact ⟨mn_sI2, o319_111⟩
  · exact ⟨mn_sLR, o319_114⟩
  · exact ⟨mn_sLI, o319_115⟩
  · exact ⟨mn_sLI, o319_116⟩
  · exact ⟨mn_sCV, o319_118⟩
  · exact ⟨mn_sX, ok_X⟩
theorem oc319_5 : ∀ pc, Mnp (c319_5 pc) ∧ Okp RX12 cX12_send 8 none "send" false pc (c319_5 pc) := by
  intro pc
  unfold c319_5
  split
  · exact ⟨mn_sRV, o319_121⟩
  · exact ⟨mn_sK, o319_122⟩
  · exact ⟨mn_sLI, o319_123⟩
  · exact ⟨mn_sB2, o319_125⟩
  · exact ⟨mn_sLR, o319_126⟩
  · exact ⟨mn_sGR, o319_127⟩
  · exact ⟨mn_sLI, o319_130⟩
  · exact ⟨mn_sIA, o319_132⟩
  · exact ⟨mn_sB2, o319_133⟩
  · exact ⟨mn_sSI, o319_134⟩
  · exact ⟨mn_sLR, o319_136⟩
  · exact ⟨mn_sGR, o319_137⟩
  · exact ⟨mn_sLI, o319_140⟩
  · exact ⟨mn_sLI, o319_142⟩
  · exact ⟨mn_sIS, o319_143⟩
  · exact ⟨mn_sX, ok_X⟩
theorem oc319_6 : ∀ pc, Mnp (c319_6 pc) ∧ Okp RX12 cX12_send 8 none "send" false pc (c319_6 pc) := by
  intro pc
  unfold c319_6
  split
  · exact ⟨mn_sLR, o319_144⟩
  · exact ⟨mn_sGR, o319_145⟩
  · exact ⟨mn_sLI, o319_148⟩
  · exact ⟨mn_sLI, o319_150⟩
  · exact ⟨mn_sIS, o319_151⟩
  · exact ⟨mn_sLR, o319_152⟩
  · exact ⟨mn_sGR, o319_153⟩
  · exact ⟨mn_sLI, o319_156⟩
  · exact ⟨mn_sLI, o319_158⟩
  · exact ⟨mn_sIS, o319_160⟩
  · exact ⟨mn_sLR, o319_161⟩
  · exact ⟨mn_sGR, o319_162⟩
  · exact ⟨mn_sLI, o319_165⟩
  · exact ⟨mn_sDup2, o319_167⟩
  · exact ⟨mn_sX, ok_X⟩
theorem oc319_7 : ∀ pc, Mnp (c319_7 pc) ∧ Okp RX12 cX12_send 8 none "send" false pc (c319_7 pc) := by
  intro pc
  unfold c319_7
  split
  · exact ⟨mn_sIA, o319_168⟩
  · exact ⟨mn_sK, o319_169⟩
  · exact ⟨mn_sB2, o319_170⟩
  · exact ⟨mn_sIS, o319_171⟩
  · exact ⟨mn_sLR, o319_172⟩
  · exact ⟨mn_sLI, o319_173⟩
  · exact ⟨mn_sLI, o319_174⟩
  · exact ⟨mn_sK, o319_176⟩
  · exact ⟨mn_sLI, o319_178⟩
  · exact ⟨mn_sB2, o319_180⟩
  · exact ⟨mn_sCV, o319_181⟩
  · exact ⟨mn_sRV, o319_184⟩
  · exact ⟨mn_sX, ok_X⟩
theorem oc319 : ∀ pc, Mnp (c319 pc) ∧ Okp RX12 cX12_send 8 none "send" false pc (c319 pc) := by
  intro pc
  unfold c319
  split
  · exact oc319_0 pc
  · exact oc319_1 pc
  · exact oc319_2 pc
  · exact oc319_3 pc
  · exact oc319_4 pc
  · exact oc319_5 pc
  · exact oc319_6 pc
  · exact oc319_7 pc
  · exact ⟨mn_sX, ok_X⟩
theorem o320_0 : Okp RX12 cX12_receive 8 none "receive" false 0 (sLR 0 1) := ok_aload_n (by decide +kernel : decode cX12_receive 0 = .ok (.aload_n 0, 1)) rfl
theorem o320_1 : Okp RX12 cX12_receive 8 none "receive" false 1 (sGR 13 68 4) := ok_getR (by decide +kernel : decode cX12_receive 1 = .ok (.getfield 164, 3)) fw_X12_164 rfl
theorem o320_4 : Okp RX12 cX12_receive 8 none "receive" false 4 (sLR 0 5) := ok_aload_n (by decide +kernel : decode cX12_receive 4 = .ok (.aload_n 0, 1)) rfl
theorem o320_5 : Okp RX12 cX12_receive 8 none "receive" false 5 (sLI 1 6) := ok_iload_n (by decide +kernel : decode cX12_receive 5 = .ok (.iload_n 1, 1)) rfl
theorem o320_6 : Okp RX12 cX12_receive 8 none "receive" false 6 (sLR 0 7) := ok_aload_n (by decide +kernel : decode cX12_receive 6 = .ok (.aload_n 0, 1)) rfl
theorem o320_7 : Okp RX12 cX12_receive 8 none "receive" false 7 (sGR 13 67 10) := ok_getR (by decide +kernel : decode cX12_receive 7 = .ok (.getfield 161, 3)) fw_X12_161 rfl
theorem o320_10 : Okp RX12 cX12_receive 8 none "receive" false 10 (sLR 0 11) := ok_aload_n (by decide +kernel : decode cX12_receive 10 = .ok (.aload_n 0, 1)) rfl
theorem o320_11 : Okp RX12 cX12_receive 8 none "receive" false 11 (sLI 1 12) := ok_iload_n (by decide +kernel : decode cX12_receive 11 = .ok (.iload_n 1, 1)) rfl
theorem o320_12 : Okp RX12 cX12_receive 8 none "receive" false 12 (sCV false 282 2 13 15) := ok_cv (by decide +kernel : decode cX12_receive 12 = .ok (.invokevirtual 487, 3)) mw_X12_487 rfl (by decide) wm_X12_act wse_X12_act (by decide) rfl
theorem o320_15 : Okp RX12 cX12_receive 8 none "receive" false 15 (sIA 16) := ok_iaload (by decide +kernel : decode cX12_receive 15 = .ok (.iaload, 1))
theorem o320_16 : Okp RX12 cX12_receive 8 none "receive" false 16 (sK 1 17) := ok_iconst (by decide +kernel : decode cX12_receive 16 = .ok (.iconst 1, 1)) (by decide)
theorem o320_17 : Okp RX12 cX12_receive 8 none "receive" false 17 (sB2 fSub 18) := ok_isub (by decide +kernel : decode cX12_receive 17 = .ok (.isub, 1))
theorem o320_18 : Okp RX12 cX12_receive 8 none "receive" false 18 (sCV false 284 3 13 21) := ok_cv (by decide +kernel : decode cX12_receive 18 = .ok (.invokevirtual 490, 3)) mw_X12_490 rfl (by decide) wm_X12_stack wse_X12_stack (by decide) rfl
theorem o320_21 : Okp RX12 cX12_receive 8 none "receive" false 21 (sIA 22) := ok_iaload (by decide +kernel : decode cX12_receive 21 = .ok (.iaload, 1))
theorem o320_22 : Okp RX12 cX12_receive 8 none "receive" false 22 (sSI 3 23) := ok_istore_n (by decide +kernel : decode cX12_receive 22 = .ok (.istore_n 3, 1)) rfl (by decide) (by decide)
theorem o320_23 : Okp RX12 cX12_receive 8 none "receive" false 23 (sLR 0 24) := ok_aload_n (by decide +kernel : decode cX12_receive 23 = .ok (.aload_n 0, 1)) rfl
theorem o320_24 : Okp RX12 cX12_receive 8 none "receive" false 24 (sGR 13 85 27) := ok_getR (by decide +kernel : decode cX12_receive 24 = .ok (.getfield 215, 3)) fw_X12_215 rfl
theorem o320_27 : Okp RX12 cX12_receive 8 none "receive" false 27 (sK 4 28) := ok_iconst (by decide +kernel : decode cX12_receive 27 = .ok (.iconst 4, 1)) (by decide)
theorem o320_28 : Okp RX12 cX12_receive 8 none "receive" false 28 (sLI 3 29) := ok_iload_n (by decide +kernel : decode cX12_receive 28 = .ok (.iload_n 3, 1)) rfl
theorem o320_29 : Okp RX12 cX12_receive 8 none "receive" false 29 (sB2 fMul 30) := ok_imul (by decide +kernel : decode cX12_receive 29 = .ok (.imul, 1))
theorem o320_30 : Okp RX12 cX12_receive 8 none "receive" false 30 (sIA 31) := ok_iaload (by decide +kernel : decode cX12_receive 30 = .ok (.iaload, 1))
theorem o320_31 : Okp RX12 cX12_receive 8 none "receive" false 31 (sSI 4 33) := ok_istore (by decide +kernel : decode cX12_receive 31 = .ok (.istore 4, 2)) (by decide) (by decide)
theorem o320_33 : Okp RX12 cX12_receive 8 none "receive" false 33 (sLR 0 34) := ok_aload_n (by decide +kernel : decode cX12_receive 33 = .ok (.aload_n 0, 1)) rfl
theorem o320_34 : Okp RX12 cX12_receive 8 none "receive" false 34 (sGR 13 86 37) := ok_getR (by decide +kernel : decode cX12_receive 34 = .ok (.getfield 218, 3)) fw_X12_218 rfl
theorem o320_37 : Okp RX12 cX12_receive 8 none "receive" false 37 (sK 4 38) := ok_iconst (by decide +kernel : decode cX12_receive 37 = .ok (.iconst 4, 1)) (by decide)
theorem o320_38 : Okp RX12 cX12_receive 8 none "receive" false 38 (sLI 3 39) := ok_iload_n (by decide +kernel : decode cX12_receive 38 = .ok (.iload_n 3, 1)) rfl
theorem o320_39 : Okp RX12 cX12_receive 8 none "receive" false 39 (sB2 fMul 40) := ok_imul (by decide +kernel : decode cX12_receive 39 = .ok (.imul, 1))
theorem o320_40 : Okp RX12 cX12_receive 8 none "receive" false 40 (sIA 41) := ok_iaload (by decide +kernel : decode cX12_receive 40 = .ok (.iaload, 1))
theorem o320_41 : Okp RX12 cX12_receive 8 none "receive" false 41 (sSI 5 43) := ok_istore (by decide +kernel : decode cX12_receive 41 = .ok (.istore 5, 2)) (by decide) (by decide)
theorem o320_43 : Okp RX12 cX12_receive 8 none "receive" false 43 (sLR 0 44) := ok_aload_n (by decide +kernel : decode cX12_receive 43 = .ok (.aload_n 0, 1)) rfl
theorem o320_44 : Okp RX12 cX12_receive 8 none "receive" false 44 (sGR 13 87 47) := ok_getR (by decide +kernel : decode cX12_receive 44 = .ok (.getfield 221, 3)) fw_X12_221 rfl
theorem o320_47 : Okp RX12 cX12_receive 8 none "receive" false 47 (sK 4 48) := ok_iconst (by decide +kernel : decode cX12_receive 47 = .ok (.iconst 4, 1)) (by decide)
theorem o320_48 : Okp RX12 cX12_receive 8 none "receive" false 48 (sLI 3 49) := ok_iload_n (by decide +kernel : decode cX12_receive 48 = .ok (.iload_n 3, 1)) rfl
theorem o320_49 : Okp RX12 cX12_receive 8 none "receive" false 49 (sB2 fMul 50) := ok_imul (by decide +kernel : decode cX12_receive 49 = .ok (.imul, 1))
theorem o320_50 : Okp RX12 cX12_receive 8 none "receive" false 50 (sIA 51) := ok_iaload (by decide +kernel : decode cX12_receive 50 = .ok (.iaload, 1))
theorem o320_51 : Okp RX12 cX12_receive 8 none "receive" false 51 (sSI 6 53) := ok_istore (by decide +kernel : decode cX12_receive 51 = .ok (.istore 6, 2)) (by decide) (by decide)
theorem o320_53 : Okp RX12 cX12_receive 8 none "receive" false 53 (sLR 0 54) := ok_aload_n (by decide +kernel : decode cX12_receive 53 = .ok (.aload_n 0, 1)) rfl
theorem o320_54 : Okp RX12 cX12_receive 8 none "receive" false 54 (sGR 13 84 57) := ok_getR (by decide +kernel : decode cX12_receive 54 = .ok (.getfield 212, 3)) fw_X12_212 rfl
theorem o320_57 : Okp RX12 cX12_receive 8 none "receive" false 57 (sLI 3 58) := ok_iload_n (by decide +kernel : decode cX12_receive 57 = .ok (.iload_n 3, 1)) rfl
theorem o320_58 : Okp RX12 cX12_receive 8 none "receive" false 58 (sDup2 59) := ok_dup2 (by decide +kernel : decode cX12_receive 58 = .ok (.dup2, 1))
theorem o320_59 : Okp RX12 cX12_receive 8 none "receive" false 59 (sIA 60) := ok_iaload (by decide +kernel : decode cX12_receive 59 = .ok (.iaload, 1))
theorem o320_60 : Okp RX12 cX12_receive 8 none "receive" false 60 (sK 1 61) := ok_iconst (by decide +kernel : decode cX12_receive 60 = .ok (.iconst 1, 1)) (by decide)
theorem o320_61 : Okp RX12 cX12_receive 8 none "receive" false 61 (sB2 fSub 62) := ok_isub (by decide +kernel : decode cX12_receive 61 = .ok (.isub, 1))
theorem o320_62 : Okp RX12 cX12_receive 8 none "receive" false 62 (sIS 63) := ok_iastore (by decide +kernel : decode cX12_receive 62 = .ok (.iastore, 1))
theorem o320_63 : Okp RX12 cX12_receive 8 none "receive" false 63 (sK 4 64) := ok_iconst (by decide +kernel : decode cX12_receive 63 = .ok (.iconst 4, 1)) (by decide)
theorem o320_64 : Okp RX12 cX12_receive 8 none "receive" false 64 (sLI 3 65) := ok_iload_n (by decide +kernel : decode cX12_receive 64 = .ok (.iload_n 3, 1)) rfl
theorem o320_65 : Okp RX12 cX12_receive 8 none "receive" false 65 (sB2 fMul 66) := ok_imul (by decide +kernel : decode cX12_receive 65 = .ok (.imul, 1))
theorem o320_66 : Okp RX12 cX12_receive 8 none "receive" false 66 (sSI 7 68) := ok_istore (by decide +kernel : decode cX12_receive 66 = .ok (.istore 7, 2)) (by decide) (by decide)
theorem o320_68 : Okp RX12 cX12_receive 8 none "receive" false 68 (sLI 7 70) := ok_iload (by decide +kernel : decode cX12_receive 68 = .ok (.iload 7, 2))
theorem o320_70 : Okp RX12 cX12_receive 8 none "receive" false 70 (sK 4 71) := ok_iconst (by decide +kernel : decode cX12_receive 70 = .ok (.iconst 4, 1)) (by decide)
theorem o320_71 : Okp RX12 cX12_receive 8 none "receive" false 71 (sLI 3 72) := ok_iload_n (by decide +kernel : decode cX12_receive 71 = .ok (.iload_n 3, 1)) rfl
theorem o320_72 : Okp RX12 cX12_receive 8 none "receive" false 72 (sB2 fMul 73) := ok_imul (by decide +kernel : decode cX12_receive 72 = .ok (.imul, 1))
theorem o320_73 : Okp RX12 cX12_receive 8 none "receive" false 73 (sLR 0 74) := ok_aload_n (by decide +kernel : decode cX12_receive 73 = .ok (.aload_n 0, 1)) rfl
theorem o320_74 : Okp RX12 cX12_receive 8 none "receive" false 74 (sGR 13 84 77) := ok_getR (by decide +kernel : decode cX12_receive 74 = .ok (.getfield 212, 3)) fw_X12_212 rfl
theorem o320_77 : Okp RX12 cX12_receive 8 none "receive" false 77 (sLI 3 78) := ok_iload_n (by decide +kernel : decode cX12_receive 77 = .ok (.iload_n 3, 1)) rfl
theorem o320_78 : Okp RX12 cX12_receive 8 none "receive" false 78 (sIA 79) := ok_iaload (by decide +kernel : decode cX12_receive 78 = .ok (.iaload, 1))
theorem o320_79 : Okp RX12 cX12_receive 8 none "receive" false 79 (sB2 fAdd 80) := ok_iadd (by decide +kernel : decode cX12_receive 79 = .ok (.iadd, 1))
theorem o320_80 : Okp RX12 cX12_receive 8 none "receive" false 80 (sI2 3 137 83) := ok_icmp_ge (by decide +kernel : decode cX12_receive 80 = .ok (.if_icmp .ge 57, 3)) (by decide)
theorem o320_83 : Okp RX12 cX12_receive 8 none "receive" false 83 (sLR 0 84) := ok_aload_n (by decide +kernel : decode cX12_receive 83 = .ok (.aload_n 0, 1)) rfl
theorem o320_84 : Okp RX12 cX12_receive 8 none "receive" false 84 (sGR 13 85 87) := ok_getR (by decide +kernel : decode cX12_receive 84 = .ok (.getfield 215, 3)) fw_X12_215 rfl
theorem o320_87 : Okp RX12 cX12_receive 8 none "receive" false 87 (sLI 7 89) := ok_iload (by decide +kernel : decode cX12_receive 87 = .ok (.iload 7, 2))
theorem o320_89 : Okp RX12 cX12_receive 8 none "receive" false 89 (sLR 0 90) := ok_aload_n (by decide +kernel : decode cX12_receive 89 = .ok (.aload_n 0, 1)) rfl
theorem o320_90 : Okp RX12 cX12_receive 8 none "receive" false 90 (sGR 13 85 93) := ok_getR (by decide +kernel : decode cX12_receive 90 = .ok (.getfield 215, 3)) fw_X12_215 rfl
theorem o320_93 : Okp RX12 cX12_receive 8 none "receive" false 93 (sLI 7 95) := ok_iload (by decide +kernel : decode cX12_receive 93 = .ok (.iload 7, 2))
theorem o320_95 : Okp RX12 cX12_receive 8 none "receive" false 95 (sK 1 96) := ok_iconst (by decide +kernel : decode cX12_receive 95 = .ok (.iconst 1, 1)) (by decide)
theorem o320_96 : Okp RX12 cX12_receive 8 none "receive" false 96 (sB2 fAdd 97) := ok_iadd (by decide +kernel : decode cX12_receive 96 = .ok (.iadd, 1))
theorem o320_97 : Okp RX12 cX12_receive 8 none "receive" false 97 (sIA 98) := ok_iaload (by decide +kernel : decode cX12_receive 97 = .ok (.iaload, 1))
theorem o320_98 : Okp RX12 cX12_receive 8 none "receive" false 98 (sIS 99) := ok_iastore (by decide +kernel : decode cX12_receive 98 = .ok (.iastore, 1))
theorem o320_99 : Okp RX12 cX12_receive 8 none "receive" false 99 (sLR 0 100) := ok_aload_n (by decide +kernel : decode cX12_receive 99 = .ok (.aload_n 0, 1)) rfl
theorem o320_100 : Okp RX12 cX12_receive 8 none "receive" false 100 (sGR 13 86 103) := ok_getR (by decide +kernel : decode cX12_receive 100 = .ok (.getfield 218, 3)) fw_X12_218 rfl
theorem o320_103 : Okp RX12 cX12_receive 8 none "receive" false 103 (sLI 7 105) := ok_iload (by decide +kernel : decode cX12_receive 103 = .ok (.iload 7, 2))
theorem o320_105 : Okp RX12 cX12_receive 8 none "receive" false 105 (sLR 0 106) := ok_aload_n (by decide +kernel : decode cX12_receive 105 = .ok (.aload_n 0, 1)) rfl
theorem o320_106 : Okp RX12 cX12_receive 8 none "receive" false 106 (sGR 13 86 109) := ok_getR (by decide +kernel : decode cX12_receive 106 = .ok (.getfield 218, 3)) fw_X12_218 rfl
theorem o320_109 : Okp RX12 cX12_receive 8 none "receive" false 109 (sLI 7 111) := ok_iload (by decide +kernel : decode cX12_receive 109 = .ok (.iload 7, 2))
theorem o320_111 : Okp RX12 cX12_receive 8 none "receive" false 111 (sK 1 112) := ok_iconst (by decide +kernel : decode cX12_receive 111 = .ok (.iconst 1, 1)) (by decide)
theorem o320_112 : Okp RX12 cX12_receive 8 none "receive" false 112 (sB2 fAdd 113) := ok_iadd (by decide +kernel : decode cX12_receive 112 = .ok (.iadd, 1))
theorem o320_113 : Okp RX12 cX12_receive 8 none "receive" false 113 (sIA 114) := ok_iaload (by decide +kernel : decode cX12_receive 113 = .ok (.iaload, 1))
theorem o320_114 : Okp RX12 cX12_receive 8 none "receive" false 114 (sIS 115) := ok_iastore (by decide +kernel : decode cX12_receive 114 = .ok (.iastore, 1))
theorem o320_115 : Okp RX12 cX12_receive 8 none "receive" false 115 (sLR 0 116) := ok_aload_n (by decide +kernel : decode cX12_receive 115 = .ok (.aload_n 0, 1)) rfl
theorem o320_116 : Okp RX12 cX12_receive 8 none "receive" false 116 (sGR 13 87 119) := ok_getR (by decide +kernel : decode cX12_receive 116 = .ok (.getfield 221, 3)) fw_X12_221 rfl
theorem o320_119 : Okp RX12 cX12_receive 8 none "receive" false 119 (sLI 7 121) := ok_iload (by decide +kernel : decode cX12_receive 119 = .ok (.iload 7, 2))
theorem o320_121 : Okp RX12 cX12_receive 8 none "receive" false 121 (sLR 0 122) := ok_aload_n (by decide +kernel : decode cX12_receive 121 = .ok (.aload_n 0, 1)) rfl
theorem o320_122 : Okp RX12 cX12_receive 8 none "receive" false 122 (sGR 13 87 125) := ok_getR (by decide +kernel : decode cX12_receive 122 = .ok (.getfield 221, 3)) fw_X12_221 rfl
theorem o320_125 : Okp RX12 cX12_receive 8 none "receive" false 125 (sLI 7 127) := ok_iload (by decide +kernel : decode cX12_receive 125 = .ok (.iload 7, 2))
theorem o320_127 : Okp RX12 cX12_receive 8 none "receive" false 127 (sK 1 128) := ok_iconst (by decide +kernel : decode cX12_receive 127 = .ok (.iconst 1, 1)) (by decide)
theorem o320_128 : Okp RX12 cX12_receive 8 none "receive" false 128 (sB2 fAdd 129) := ok_iadd (by decide +kernel : decode cX12_receive 128 = .ok (.iadd, 1))
theorem o320_129 : Okp RX12 cX12_receive 8 none "receive" false 129 (sIA 130) := ok_iaload (by decide +kernel : decode cX12_receive 129 = .ok (.iaload, 1))
theorem o320_130 : Okp RX12 cX12_receive 8 none "receive" false 130 (sIS 131) := ok_iastore (by decide +kernel : decode cX12_receive 130 = .ok (.iastore, 1))
theorem o320_131 : Okp RX12 cX12_receive 8 none "receive" false 131 (sInc 7 1 134) := ok_iinc (by decide +kernel : decode cX12_receive 131 = .ok (.iinc 7 1, 3)) (by decide) (by decide)
theorem o320_134 : Okp RX12 cX12_receive 8 none "receive" false 134 (sGo 68) := ok_goto (by decide +kernel : decode cX12_receive 134 = .ok (.goto (-66), 3)) (by decide)
theorem o320_137 : Okp RX12 cX12_receive 8 none "receive" false 137 (sLR 0 138) := ok_aload_n (by decide +kernel : decode cX12_receive 137 = .ok (.aload_n 0, 1)) rfl
theorem o320_138 : Okp RX12 cX12_receive 8 none "receive" false 138 (sGR 13 82 141) := ok_getR (by decide +kernel : decode cX12_receive 138 = .ok (.getfield 206, 3)) fw_X12_206 rfl
theorem o320_141 : Okp RX12 cX12_receive 8 none "receive" false 141 (sLI 3 142) := ok_iload_n (by decide +kernel : decode cX12_receive 141 = .ok (.iload_n 3, 1)) rfl
theorem o320_142 : Okp RX12 cX12_receive 8 none "receive" false 142 (sLR 0 143) := ok_aload_n (by decide +kernel : decode cX12_receive 142 = .ok (.aload_n 0, 1)) rfl
theorem o320_143 : Okp RX12 cX12_receive 8 none "receive" false 143 (sGR 13 15 146) := ok_getR (by decide +kernel : decode cX12_receive 143 = .ok (.getfield 51, 3)) fw_X12_51 rfl
theorem o320_146 : Okp RX12 cX12_receive 8 none "receive" false 146 (sK 4 147) := ok_iconst (by decide +kernel : decode cX12_receive 146 = .ok (.iconst 4, 1)) (by decide)
theorem o320_147 : Okp RX12 cX12_receive 8 none "receive" false 147 (sK 8 149) := ok_bipush (by decide +kernel : decode cX12_receive 147 = .ok (.bipush 8, 2)) (by decide)
theorem o320_149 : Okp RX12 cX12_receive 8 none "receive" false 149 (sLR 0 150) := ok_aload_n (by decide +kernel : decode cX12_receive 149 = .ok (.aload_n 0, 1)) rfl
theorem o320_150 : Okp RX12 cX12_receive 8 none "receive" false 150 (sGR 13 88 153) := ok_getR (by decide +kernel : decode cX12_receive 150 = .ok (.getfield 224, 3)) fw_X12_224 rfl
theorem o320_153 : Okp RX12 cX12_receive 8 none "receive" false 153 (sLI 3 154) := ok_iload_n (by decide +kernel : decode cX12_receive 153 = .ok (.iload_n 3, 1)) rfl
theorem o320_154 : Okp RX12 cX12_receive 8 none "receive" false 154 (sIA 155) := ok_iaload (by decide +kernel : decode cX12_receive 154 = .ok (.iaload, 1))
theorem o320_155 : Okp RX12 cX12_receive 8 none "receive" false 155 (sB2 fMul 156) := ok_imul (by decide +kernel : decode cX12_receive 155 = .ok (.imul, 1))
theorem o320_156 : Okp RX12 cX12_receive 8 none "receive" false 156 (sLR 0 157) := ok_aload_n (by decide +kernel : decode cX12_receive 156 = .ok (.aload_n 0, 1)) rfl
theorem o320_157 : Okp RX12 cX12_receive 8 none "receive" false 157 (sGR 13 82 160) := ok_getR (by decide +kernel : decode cX12_receive 157 = .ok (.getfield 206, 3)) fw_X12_206 rfl
theorem o320_160 : Okp RX12 cX12_receive 8 none "receive" false 160 (sLI 3 161) := ok_iload_n (by decide +kernel : decode cX12_receive 160 = .ok (.iload_n 3, 1)) rfl
theorem o320_161 : Okp RX12 cX12_receive 8 none "receive" false 161 (sIA 162) := ok_iaload (by decide +kernel : decode cX12_receive 161 = .ok (.iaload, 1))
theorem o320_162 : Okp RX12 cX12_receive 8 none "receive" false 162 (sB2 fAdd 163) := ok_iadd (by decide +kernel : decode cX12_receive 162 = .ok (.iadd, 1))
theorem o320_163 : Okp RX12 cX12_receive 8 none "receive" false 163 (sB2 fMul 164) := ok_imul (by decide +kernel : decode cX12_receive 163 = .ok (.imul, 1))
theorem o320_164 : Okp RX12 cX12_receive 8 none "receive" false 164 (sLI 4 166) := ok_iload (by decide +kernel : decode cX12_receive 164 = .ok (.iload 4, 2))
theorem o320_166 : Okp RX12 cX12_receive 8 none "receive" false 166 (sB2 fAdd 167) := ok_iadd (by decide +kernel : decode cX12_receive 166 = .ok (.iadd, 1))
theorem o320_167 : Okp RX12 cX12_receive 8 none "receive" false 167 (sIA 168) := ok_iaload (by decide +kernel : decode cX12_receive 167 = .ok (.iaload, 1))
theorem o320_168 : Okp RX12 cX12_receive 8 none "receive" false 168 (sIS 169) := ok_iastore (by decide +kernel : decode cX12_receive 168 = .ok (.iastore, 1))
theorem o320_169 : Okp RX12 cX12_receive 8 none "receive" false 169 (sLI 6 171) := ok_iload (by decide +kernel : decode cX12_receive 169 = .ok (.iload 6, 2))
theorem o320_171 : Okp RX12 cX12_receive 8 none "receive" false 171 (sK 4 172) := ok_iconst (by decide +kernel : decode cX12_receive 171 = .ok (.iconst 4, 1)) (by decide)
theorem o320_172 : Okp RX12 cX12_receive 8 none "receive" false 172 (sI2 0 193 175) := ok_icmp_eq (by decide +kernel : decode cX12_receive 172 = .ok (.if_icmp .eq 21, 3)) (by decide)
theorem o320_175 : Okp RX12 cX12_receive 8 none "receive" false 175 (sLR 0 176) := ok_aload_n (by decide +kernel : decode cX12_receive 175 = .ok (.aload_n 0, 1)) rfl
theorem o320_176 : Okp RX12 cX12_receive 8 none "receive" false 176 (sLI 1 177) := ok_iload_n (by decide +kernel : decode cX12_receive 176 = .ok (.iload_n 1, 1)) rfl
theorem o320_177 : Okp RX12 cX12_receive 8 none "receive" false 177 (sLI 5 179) := ok_iload (by decide +kernel : decode cX12_receive 177 = .ok (.iload 5, 2))
theorem o320_179 : Okp RX12 cX12_receive 8 none "receive" false 179 (sLI 6 181) := ok_iload (by decide +kernel : decode cX12_receive 179 = .ok (.iload 6, 2))
theorem o320_181 : Okp RX12 cX12_receive 8 none "receive" false 181 (sCV false 286 4 13 184) := ok_cv (by decide +kernel : decode cX12_receive 181 = .ok (.invokevirtual 548, 3)) mw_X12_548 rfl (by decide) wm_X12_push_ wse_X12_push_ (by decide) rfl
theorem o320_184 : Okp RX12 cX12_receive 8 none "receive" false 184 (sLR 0 185) := ok_aload_n (by decide +kernel : decode cX12_receive 184 = .ok (.aload_n 0, 1)) rfl
theorem o320_185 : Okp RX12 cX12_receive 8 none "receive" false 185 (sLI 5 187) := ok_iload (by decide +kernel : decode cX12_receive 185 = .ok (.iload 5, 2))
theorem o320_187 : Okp RX12 cX12_receive 8 none "receive" false 187 (sLI 6 189) := ok_iload (by decide +kernel : decode cX12_receive 187 = .ok (.iload 6, 2))
theorem o320_189 : Okp RX12 cX12_receive 8 none "receive" false 189 (sLI 1 190) := ok_iload_n (by decide +kernel : decode cX12_receive 189 = .ok (.iload_n 1, 1)) rfl
theorem o320_190 : Okp RX12 cX12_receive 8 none "receive" false 190 (sCV false 297 4 13 193) := ok_cv (by decide +kernel : decode cX12_receive 190 = .ok (.invokevirtual 595, 3)) mw_X12_595 rfl (by decide) wm_X12_own wse_X12_own (by decide) rfl
theorem o320_193 : Okp RX12 cX12_receive 8 none "receive" false 193 (sLR 0 194) := ok_aload_n (by decide +kernel : decode cX12_receive 193 = .ok (.aload_n 0, 1)) rfl
theorem o320_194 : Okp RX12 cX12_receive 8 none "receive" false 194 (sLI 1 195) := ok_iload_n (by decide +kernel : decode cX12_receive 194 = .ok (.iload_n 1, 1)) rfl
theorem o320_195 : Okp RX12 cX12_receive 8 none "receive" false 195 (sLR 0 196) := ok_aload_n (by decide +kernel : decode cX12_receive 195 = .ok (.aload_n 0, 1)) rfl
theorem o320_196 : Okp RX12 cX12_receive 8 none "receive" false 196 (sLR 0 197) := ok_aload_n (by decide +kernel : decode cX12_receive 196 = .ok (.aload_n 0, 1)) rfl
theorem o320_197 : Okp RX12 cX12_receive 8 none "receive" false 197 (sGR 13 61 200) := ok_getR (by decide +kernel : decode cX12_receive 197 = .ok (.getfield 143, 3)) fw_X12_143 rfl
theorem o320_200 : Okp RX12 cX12_receive 8 none "receive" false 200 (sLI 1 201) := ok_iload_n (by decide +kernel : decode cX12_receive 200 = .ok (.iload_n 1, 1)) rfl
theorem o320_201 : Okp RX12 cX12_receive 8 none "receive" false 201 (sIA 202) := ok_iaload (by decide +kernel : decode cX12_receive 201 = .ok (.iaload, 1))
theorem o320_202 : Okp RX12 cX12_receive 8 none "receive" false 202 (sLI 2 203) := ok_iload_n (by decide +kernel : decode cX12_receive 202 = .ok (.iload_n 2, 1)) rfl
theorem o320_203 : Okp RX12 cX12_receive 8 none "receive" false 203 (sK 2 204) := ok_iconst (by decide +kernel : decode cX12_receive 203 = .ok (.iconst 2, 1)) (by decide)
theorem o320_204 : Okp RX12 cX12_receive 8 none "receive" false 204 (sB2 fAdd 205) := ok_iadd (by decide +kernel : decode cX12_receive 204 = .ok (.iadd, 1))
theorem o320_205 : Okp RX12 cX12_receive 8 none "receive" false 205 (sLI 4 207) := ok_iload (by decide +kernel : decode cX12_receive 205 = .ok (.iload 4, 2))
theorem o320_207 : Okp RX12 cX12_receive 8 none "receive" false 207 (sB2 fAdd 208) := ok_iadd (by decide +kernel : decode cX12_receive 207 = .ok (.iadd, 1))
theorem o320_208 : Okp RX12 cX12_receive 8 none "receive" false 208 (sCV false 220 3 13 211) := ok_cv (by decide +kernel : decode cX12_receive 208 = .ok (.invokevirtual 246, 3)) mw_X12_246 rfl (by decide) wm_X12_byteAt wse_X12_byteAt (by decide) rfl
theorem o320_211 : Okp RX12 cX12_receive 8 none "receive" false 211 (sCV false 308 3 13 214) := ok_cv (by decide +kernel : decode cX12_receive 211 = .ok (.invokevirtual 536, 3)) mw_X12_536 rfl (by decide) wm_X12_goTo wse_X12_goTo (by decide) rfl
theorem o320_214 : Okp RX12 cX12_receive 8 none "receive" false 214 sRV := ok_vret rfl (by decide +kernel : decode cX12_receive 214 = .ok (.return_, 1))
theorem oc320_0 : ∀ pc, Mnp (c320_0 pc) ∧ Okp RX12 cX12_receive 8 none "receive" false pc (c320_0 pc) := by
  intro pc
  unfold c320_0
  split
  · exact ⟨mn_sLR, o320_0⟩
  · exact ⟨mn_sGR, o320_1⟩
  · exact ⟨mn_sLR, o320_4⟩
  · exact ⟨mn_sLI, o320_5⟩
  · exact ⟨mn_sLR, o320_6⟩
  · exact ⟨mn_sGR, o320_7⟩
  · exact ⟨mn_sLR, o320_10⟩
  · exact ⟨mn_sLI, o320_11⟩
  · exact ⟨mn_sCV, o320_12⟩
  · exact ⟨mn_sIA, o320_15⟩
  · exact ⟨mn_sK, o320_16⟩
  · exact ⟨mn_sB2, o320_17⟩
  · exact ⟨mn_sCV, o320_18⟩
  · exact ⟨mn_sIA, o320_21⟩
  · exact ⟨mn_sSI, o320_22⟩
  · exact ⟨mn_sLR, o320_23⟩
  · exact ⟨mn_sX, ok_X⟩
theorem oc320_1 : ∀ pc, Mnp (c320_1 pc) ∧ Okp RX12 cX12_receive 8 none "receive" false pc (c320_1 pc) := by
  intro pc
  unfold c320_1
  split
  · exact ⟨mn_sGR, o320_24⟩
  · exact ⟨mn_sK, o320_27⟩
  · exact ⟨mn_sLI, o320_28⟩
  · exact ⟨mn_sB2, o320_29⟩
  · exact ⟨mn_sIA, o320_30⟩
  · exact ⟨mn_sSI, o320_31⟩
  · exact ⟨mn_sLR, o320_33⟩
  · exact ⟨mn_sGR, o320_34⟩
  · exact ⟨mn_sK, o320_37⟩
  · exact ⟨mn_sLI, o320_38⟩
  · exact ⟨mn_sB2, o320_39⟩
  · exact ⟨mn_sIA, o320_40⟩
  · exact ⟨mn_sSI, o320_41⟩
  · exact ⟨mn_sLR, o320_43⟩
  · exact ⟨mn_sGR, o320_44⟩
  · exact ⟨mn_sK, o320_47⟩
  · exact ⟨mn_sX, ok_X⟩
theorem oc320_2 : ∀ pc, Mnp (c320_2 pc) ∧ Okp RX12 cX12_receive 8 none "receive" false pc (c320_2 pc) := by
  intro pc
  unfold c320_2
  split
  · exact ⟨mn_sLI, o320_48⟩
  · exact ⟨mn_sB2, o320_49⟩
  · exact ⟨mn_sIA, o320_50⟩
  · exact ⟨mn_sSI, o320_51⟩
  · exact ⟨mn_sLR, o320_53⟩
  · exact ⟨mn_sGR, o320_54⟩
  · exact ⟨mn_sLI, o320_57⟩
  · exact ⟨mn_sDup2, o320_58⟩
  · exact ⟨mn_sIA, o320_59⟩
  · exact ⟨mn_sK, o320_60⟩
  · exact ⟨mn_sB2, o320_61⟩
  · exact ⟨mn_sIS, o320_62⟩
  · exact ⟨mn_sK, o320_63⟩
  · exact ⟨mn_sLI, o320_64⟩
  · exact ⟨mn_sB2, o320_65⟩
  · exact ⟨mn_sSI, o320_66⟩
  · exact ⟨mn_sLI, o320_68⟩
  · exact ⟨mn_sK, o320_70⟩
  · exact ⟨mn_sLI, o320_71⟩
  · exact ⟨mn_sX, ok_X⟩
theorem oc320_3 : ∀ pc, Mnp (c320_3 pc) ∧ Okp RX12 cX12_receive 8 none "receive" false pc (c320_3 pc) := by
  intro pc
  unfold c320_3
  split
  · exact ⟨mn_sB2, o320_72⟩
  · exact ⟨mn_sLR, o320_73⟩
  · exact ⟨mn_sGR, o320_74⟩
  · exact ⟨mn_sLI, o320_77⟩
  · exact ⟨mn_sIA, o320_78⟩
  · exact ⟨mn_sB2, o320_79⟩
  · exact ⟨mn_sI2, o320_80⟩
  · exact ⟨mn_sLR, o320_83⟩
  · exact ⟨mn_sGR, o320_84⟩
  · exact ⟨mn_sLI, o320_87⟩
  · exact ⟨mn_sLR, o320_89⟩
  · exact ⟨mn_sGR, o320_90⟩
  · exact ⟨mn_sLI, o320_93⟩
  · exact ⟨mn_sK, o320_95⟩
  · exact ⟨mn_sX, ok_X⟩
theorem oc320_4 : ∀ pc, Mnp (c320_4 pc) ∧ Okp RX12 cX12_receive 8 none "receive" false pc (c320_4 pc) := by
  intro pc
  unfold c320_4
  split
  · exact ⟨mn_sB2, o320_96⟩
  · exact ⟨mn_sIA, o320_97⟩
  · exact ⟨mn_sIS, o320_98⟩
  · exact ⟨mn_sLR, o320_99⟩
  · exact ⟨mn_sGR, o320_100⟩
  · exact ⟨mn_sLI, o320_103⟩
  · exact ⟨mn_sLR, o320_105⟩
  · exact ⟨mn_sGR, o320_106⟩
  · exact ⟨mn_sLI, o320_109⟩
  · exact ⟨mn_sK, o320_111⟩
  · exact ⟨mn_sB2, o320_112⟩
  · exact ⟨mn_sIA, o320_113⟩
  · exact ⟨mn_sIS, o320_114⟩
  · exact ⟨mn_sLR, o320_115⟩
  · exact ⟨mn_sGR, o320_116⟩
  · exact ⟨mn_sLI, o320_119⟩
  · exact ⟨mn_sX, ok_X⟩
theorem oc320_5 : ∀ pc, Mnp (c320_5 pc) ∧ Okp RX12 cX12_receive 8 none "receive" false pc (c320_5 pc) := by
  intro pc
  unfold c320_5
  split
  · exact ⟨mn_sLR, o320_121⟩
  · exact ⟨mn_sGR, o320_122⟩
  · exact ⟨mn_sLI, o320_125⟩
  · exact ⟨mn_sK, o320_127⟩
  · exact ⟨mn_sB2, o320_128⟩
  · exact ⟨mn_sIA, o320_129⟩
  · exact ⟨mn_sIS, o320_130⟩
  · exact ⟨mn_sInc, o320_131⟩
  · exact ⟨mn_sGo, o320_134⟩
  · exact ⟨mn_sLR, o320_137⟩
  · exact ⟨mn_sGR, o320_138⟩
  · exact ⟨mn_sLI, o320_141⟩
  · exact ⟨mn_sLR, o320_142⟩
  · exact ⟨mn_sGR, o320_143⟩
  · exact ⟨mn_sX, ok_X⟩
theorem oc320_6 : ∀ pc, Mnp (c320_6 pc) ∧ Okp RX12 cX12_receive 8 none "receive" false pc (c320_6 pc) := by
  intro pc
  unfold c320_6
  split
  · exact ⟨mn_sK, o320_146⟩
  · exact ⟨mn_sK, o320_147⟩
  · exact ⟨mn_sLR, o320_149⟩
  · exact ⟨mn_sGR, o320_150⟩
  · exact ⟨mn_sLI, o320_153⟩
  · exact ⟨mn_sIA, o320_154⟩
  · exact ⟨mn_sB2, o320_155⟩
  · exact ⟨mn_sLR, o320_156⟩
  · exact ⟨mn_sGR, o320_157⟩
  · exact ⟨mn_sLI, o320_160⟩
  · exact ⟨mn_sIA, o320_161⟩
  · exact ⟨mn_sB2, o320_162⟩
  · exact ⟨mn_sB2, o320_163⟩
  · exact ⟨mn_sLI, o320_164⟩
  · exact ⟨mn_sB2, o320_166⟩
  · exact ⟨mn_sIA, o320_167⟩
  · exact ⟨mn_sX, ok_X⟩
theorem oc320_7 : ∀ pc, Mnp (c320_7 pc) ∧ Okp RX12 cX12_receive 8 none "receive" false pc (c320_7 pc) := by
  intro pc
  unfold c320_7
  split
  · exact ⟨mn_sIS, o320_168⟩
  · exact ⟨mn_sLI, o320_169⟩
  · exact ⟨mn_sK, o320_171⟩
  · exact ⟨mn_sI2, o320_172⟩
  · exact ⟨mn_sLR, o320_175⟩
  · exact ⟨mn_sLI, o320_176⟩
  · exact ⟨mn_sLI, o320_177⟩
  · exact ⟨mn_sLI, o320_179⟩
  · exact ⟨mn_sCV, o320_181⟩
  · exact ⟨mn_sLR, o320_184⟩
  · exact ⟨mn_sLI, o320_185⟩
  · exact ⟨mn_sLI, o320_187⟩
  · exact ⟨mn_sLI, o320_189⟩
  · exact ⟨mn_sCV, o320_190⟩
  · exact ⟨mn_sX, ok_X⟩
theorem oc320_8 : ∀ pc, Mnp (c320_8 pc) ∧ Okp RX12 cX12_receive 8 none "receive" false pc (c320_8 pc) := by
  intro pc
  unfold c320_8
  split
  · exact ⟨mn_sLR, o320_193⟩
  · exact ⟨mn_sLI, o320_194⟩
  · exact ⟨mn_sLR, o320_195⟩
  · exact ⟨mn_sLR, o320_196⟩
  · exact ⟨mn_sGR, o320_197⟩
  · exact ⟨mn_sLI, o320_200⟩
  · exact ⟨mn_sIA, o320_201⟩
  · exact ⟨mn_sLI, o320_202⟩
  · exact ⟨mn_sK, o320_203⟩
  · exact ⟨mn_sB2, o320_204⟩
  · exact ⟨mn_sLI, o320_205⟩
  · exact ⟨mn_sB2, o320_207⟩
  · exact ⟨mn_sCV, o320_208⟩
  · exact ⟨mn_sCV, o320_211⟩
  · exact ⟨mn_sRV, o320_214⟩
  · exact ⟨mn_sX, ok_X⟩
theorem oc320 : ∀ pc, Mnp (c320 pc) ∧ Okp RX12 cX12_receive 8 none "receive" false pc (c320 pc) := by
  intro pc
  unfold c320
  split
  · exact oc320_0 pc
  · exact oc320_1 pc
  · exact oc320_2 pc
  · exact oc320_3 pc
  · exact oc320_4 pc
  · exact oc320_5 pc
  · exact oc320_6 pc
  · exact oc320_7 pc
  · exact oc320_8 pc
  · exact ⟨mn_sX, ok_X⟩
theorem o321_0 : Okp RX12 cX12_spawn 7 none "spawn" false 0 (sK 0 1) := ok_iconst (by decide +kernel : decode cX12_spawn 0 = .ok (.iconst 0, 1)) (by decide)
theorem o321_1 : Okp RX12 cX12_spawn 7 none "spawn" false 1 (sSI 3 2) := ok_istore_n (by decide +kernel : decode cX12_spawn 1 = .ok (.istore_n 3, 1)) rfl (by decide) (by decide)
theorem o321_2 : Okp RX12 cX12_spawn 7 none "spawn" false 2 (sLI 3 3) := ok_iload_n (by decide +kernel : decode cX12_spawn 2 = .ok (.iload_n 3, 1)) rfl
theorem o321_3 : Okp RX12 cX12_spawn 7 none "spawn" false 3 (sK 12 5) := ok_bipush (by decide +kernel : decode cX12_spawn 3 = .ok (.bipush 12, 2)) (by decide)
theorem o321_5 : Okp RX12 cX12_spawn 7 none "spawn" false 5 (sI2 3 24 8) := ok_icmp_ge (by decide +kernel : decode cX12_spawn 5 = .ok (.if_icmp .ge 19, 3)) (by decide)
theorem o321_8 : Okp RX12 cX12_spawn 7 none "spawn" false 8 (sLR 0 9) := ok_aload_n (by decide +kernel : decode cX12_spawn 8 = .ok (.aload_n 0, 1)) rfl
theorem o321_9 : Okp RX12 cX12_spawn 7 none "spawn" false 9 (sGR 13 59 12) := ok_getR (by decide +kernel : decode cX12_spawn 9 = .ok (.getfield 137, 3)) fw_X12_137 rfl
theorem o321_12 : Okp RX12 cX12_spawn 7 none "spawn" false 12 (sLI 3 13) := ok_iload_n (by decide +kernel : decode cX12_spawn 12 = .ok (.iload_n 3, 1)) rfl
theorem o321_13 : Okp RX12 cX12_spawn 7 none "spawn" false 13 (sIA 14) := ok_iaload (by decide +kernel : decode cX12_spawn 13 = .ok (.iaload, 1))
theorem o321_14 : Okp RX12 cX12_spawn 7 none "spawn" false 14 (sK 4 15) := ok_iconst (by decide +kernel : decode cX12_spawn 14 = .ok (.iconst 4, 1)) (by decide)
theorem o321_15 : Okp RX12 cX12_spawn 7 none "spawn" false 15 (sI2 3 24 18) := ok_icmp_ge (by decide +kernel : decode cX12_spawn 15 = .ok (.if_icmp .ge 9, 3)) (by decide)
theorem o321_18 : Okp RX12 cX12_spawn 7 none "spawn" false 18 (sInc 3 1 21) := ok_iinc (by decide +kernel : decode cX12_spawn 18 = .ok (.iinc 3 1, 3)) (by decide) (by decide)
theorem o321_21 : Okp RX12 cX12_spawn 7 none "spawn" false 21 (sGo 2) := ok_goto (by decide +kernel : decode cX12_spawn 21 = .ok (.goto (-19), 3)) (by decide)
theorem o321_24 : Okp RX12 cX12_spawn 7 none "spawn" false 24 (sLI 3 25) := ok_iload_n (by decide +kernel : decode cX12_spawn 24 = .ok (.iload_n 3, 1)) rfl
theorem o321_25 : Okp RX12 cX12_spawn 7 none "spawn" false 25 (sK 12 27) := ok_bipush (by decide +kernel : decode cX12_spawn 25 = .ok (.bipush 12, 2)) (by decide)
theorem o321_27 : Okp RX12 cX12_spawn 7 none "spawn" false 27 (sI2 1 38 30) := ok_icmp_ne (by decide +kernel : decode cX12_spawn 27 = .ok (.if_icmp .ne 11, 3)) (by decide)
theorem o321_30 : Okp RX12 cX12_spawn 7 none "spawn" false 30 (sLR 0 31) := ok_aload_n (by decide +kernel : decode cX12_spawn 30 = .ok (.aload_n 0, 1)) rfl
theorem o321_31 : Okp RX12 cX12_spawn 7 none "spawn" false 31 (sLI 1 32) := ok_iload_n (by decide +kernel : decode cX12_spawn 31 = .ok (.iload_n 1, 1)) rfl
theorem o321_32 : Okp RX12 cX12_spawn 7 none "spawn" false 32 (sK 8 34) := ok_bipush (by decide +kernel : decode cX12_spawn 32 = .ok (.bipush 8, 2)) (by decide)
theorem o321_34 : Okp RX12 cX12_spawn 7 none "spawn" false 34 (sCV false 307 3 13 37) := ok_cv (by decide +kernel : decode cX12_spawn 34 = .ok (.invokevirtual 553, 3)) mw_X12_553 rfl (by decide) wm_X12_trap wse_X12_trap (by decide) rfl
theorem o321_37 : Okp RX12 cX12_spawn 7 none "spawn" false 37 sRV := ok_vret rfl (by decide +kernel : decode cX12_spawn 37 = .ok (.return_, 1))
theorem o321_38 : Okp RX12 cX12_spawn 7 none "spawn" false 38 (sLR 0 39) := ok_aload_n (by decide +kernel : decode cX12_spawn 38 = .ok (.aload_n 0, 1)) rfl
theorem o321_39 : Okp RX12 cX12_spawn 7 none "spawn" false 39 (sGR 13 16 42) := ok_getR (by decide +kernel : decode cX12_spawn 39 = .ok (.getfield 54, 3)) fw_X12_54 rfl
theorem o321_42 : Okp RX12 cX12_spawn 7 none "spawn" false 42 (sK 10 44) := ok_bipush (by decide +kernel : decode cX12_spawn 42 = .ok (.bipush 10, 2)) (by decide)
theorem o321_44 : Okp RX12 cX12_spawn 7 none "spawn" false 44 (sLR 0 45) := ok_aload_n (by decide +kernel : decode cX12_spawn 44 = .ok (.aload_n 0, 1)) rfl
theorem o321_45 : Okp RX12 cX12_spawn 7 none "spawn" false 45 (sGR 13 61 48) := ok_getR (by decide +kernel : decode cX12_spawn 45 = .ok (.getfield 143, 3)) fw_X12_143 rfl
theorem o321_48 : Okp RX12 cX12_spawn 7 none "spawn" false 48 (sLI 1 49) := ok_iload_n (by decide +kernel : decode cX12_spawn 48 = .ok (.iload_n 1, 1)) rfl
theorem o321_49 : Okp RX12 cX12_spawn 7 none "spawn" false 49 (sIA 50) := ok_iaload (by decide +kernel : decode cX12_spawn 49 = .ok (.iaload, 1))
theorem o321_50 : Okp RX12 cX12_spawn 7 none "spawn" false 50 (sB2 fMul 51) := ok_imul (by decide +kernel : decode cX12_spawn 50 = .ok (.imul, 1))
theorem o321_51 : Okp RX12 cX12_spawn 7 none "spawn" false 51 (sLI 2 52) := ok_iload_n (by decide +kernel : decode cX12_spawn 51 = .ok (.iload_n 2, 1)) rfl
theorem o321_52 : Okp RX12 cX12_spawn 7 none "spawn" false 52 (sB2 fAdd 53) := ok_iadd (by decide +kernel : decode cX12_spawn 52 = .ok (.iadd, 1))
theorem o321_53 : Okp RX12 cX12_spawn 7 none "spawn" false 53 (sIA 54) := ok_iaload (by decide +kernel : decode cX12_spawn 53 = .ok (.iaload, 1))
theorem o321_54 : Okp RX12 cX12_spawn 7 none "spawn" false 54 (sSI 4 56) := ok_istore (by decide +kernel : decode cX12_spawn 54 = .ok (.istore 4, 2)) (by decide) (by decide)
theorem o321_56 : Okp RX12 cX12_spawn 7 none "spawn" false 56 (sLR 0 57) := ok_aload_n (by decide +kernel : decode cX12_spawn 56 = .ok (.aload_n 0, 1)) rfl
theorem o321_57 : Okp RX12 cX12_spawn 7 none "spawn" false 57 (sGR 13 67 60) := ok_getR (by decide +kernel : decode cX12_spawn 57 = .ok (.getfield 161, 3)) fw_X12_161 rfl
theorem o321_60 : Okp RX12 cX12_spawn 7 none "spawn" false 60 (sLR 0 61) := ok_aload_n (by decide +kernel : decode cX12_spawn 60 = .ok (.aload_n 0, 1)) rfl
theorem o321_61 : Okp RX12 cX12_spawn 7 none "spawn" false 61 (sLI 1 62) := ok_iload_n (by decide +kernel : decode cX12_spawn 61 = .ok (.iload_n 1, 1)) rfl
theorem o321_62 : Okp RX12 cX12_spawn 7 none "spawn" false 62 (sCV false 282 2 13 65) := ok_cv (by decide +kernel : decode cX12_spawn 62 = .ok (.invokevirtual 487, 3)) mw_X12_487 rfl (by decide) wm_X12_act wse_X12_act (by decide) rfl
theorem o321_65 : Okp RX12 cX12_spawn 7 none "spawn" false 65 (sDup2 66) := ok_dup2 (by decide +kernel : decode cX12_spawn 65 = .ok (.dup2, 1))
theorem o321_66 : Okp RX12 cX12_spawn 7 none "spawn" false 66 (sIA 67) := ok_iaload (by decide +kernel : decode cX12_spawn 66 = .ok (.iaload, 1))
theorem o321_67 : Okp RX12 cX12_spawn 7 none "spawn" false 67 (sLI 4 69) := ok_iload (by decide +kernel : decode cX12_spawn 67 = .ok (.iload 4, 2))
theorem o321_69 : Okp RX12 cX12_spawn 7 none "spawn" false 69 (sB2 fSub 70) := ok_isub (by decide +kernel : decode cX12_spawn 69 = .ok (.isub, 1))
theorem o321_70 : Okp RX12 cX12_spawn 7 none "spawn" false 70 (sIS 71) := ok_iastore (by decide +kernel : decode cX12_spawn 70 = .ok (.iastore, 1))
theorem o321_71 : Okp RX12 cX12_spawn 7 none "spawn" false 71 (sLR 0 72) := ok_aload_n (by decide +kernel : decode cX12_spawn 71 = .ok (.aload_n 0, 1)) rfl
theorem o321_72 : Okp RX12 cX12_spawn 7 none "spawn" false 72 (sLI 1 73) := ok_iload_n (by decide +kernel : decode cX12_spawn 72 = .ok (.iload_n 1, 1)) rfl
theorem o321_73 : Okp RX12 cX12_spawn 7 none "spawn" false 73 (sLR 0 74) := ok_aload_n (by decide +kernel : decode cX12_spawn 73 = .ok (.aload_n 0, 1)) rfl
theorem o321_74 : Okp RX12 cX12_spawn 7 none "spawn" false 74 (sGR 13 67 77) := ok_getR (by decide +kernel : decode cX12_spawn 74 = .ok (.getfield 161, 3)) fw_X12_161 rfl
theorem o321_77 : Okp RX12 cX12_spawn 7 none "spawn" false 77 (sLR 0 78) := ok_aload_n (by decide +kernel : decode cX12_spawn 77 = .ok (.aload_n 0, 1)) rfl
theorem o321_78 : Okp RX12 cX12_spawn 7 none "spawn" false 78 (sLI 1 79) := ok_iload_n (by decide +kernel : decode cX12_spawn 78 = .ok (.iload_n 1, 1)) rfl
theorem o321_79 : Okp RX12 cX12_spawn 7 none "spawn" false 79 (sCV false 282 2 13 82) := ok_cv (by decide +kernel : decode cX12_spawn 79 = .ok (.invokevirtual 487, 3)) mw_X12_487 rfl (by decide) wm_X12_act wse_X12_act (by decide) rfl
theorem o321_82 : Okp RX12 cX12_spawn 7 none "spawn" false 82 (sIA 83) := ok_iaload (by decide +kernel : decode cX12_spawn 82 = .ok (.iaload, 1))
theorem o321_83 : Okp RX12 cX12_spawn 7 none "spawn" false 83 (sCV false 284 3 13 86) := ok_cv (by decide +kernel : decode cX12_spawn 83 = .ok (.invokevirtual 490, 3)) mw_X12_490 rfl (by decide) wm_X12_stack wse_X12_stack (by decide) rfl
theorem o321_86 : Okp RX12 cX12_spawn 7 none "spawn" false 86 (sSI 5 88) := ok_istore (by decide +kernel : decode cX12_spawn 86 = .ok (.istore 5, 2)) (by decide) (by decide)
theorem o321_88 : Okp RX12 cX12_spawn 7 none "spawn" false 88 (sLR 0 89) := ok_aload_n (by decide +kernel : decode cX12_spawn 88 = .ok (.aload_n 0, 1)) rfl
theorem o321_89 : Okp RX12 cX12_spawn 7 none "spawn" false 89 (sLI 3 90) := ok_iload_n (by decide +kernel : decode cX12_spawn 89 = .ok (.iload_n 3, 1)) rfl
theorem o321_90 : Okp RX12 cX12_spawn 7 none "spawn" false 90 (sLR 0 91) := ok_aload_n (by decide +kernel : decode cX12_spawn 90 = .ok (.aload_n 0, 1)) rfl
theorem o321_91 : Okp RX12 cX12_spawn 7 none "spawn" false 91 (sGR 13 61 94) := ok_getR (by decide +kernel : decode cX12_spawn 91 = .ok (.getfield 143, 3)) fw_X12_143 rfl
theorem o321_94 : Okp RX12 cX12_spawn 7 none "spawn" false 94 (sLI 1 95) := ok_iload_n (by decide +kernel : decode cX12_spawn 94 = .ok (.iload_n 1, 1)) rfl
theorem o321_95 : Okp RX12 cX12_spawn 7 none "spawn" false 95 (sIA 96) := ok_iaload (by decide +kernel : decode cX12_spawn 95 = .ok (.iaload, 1))
theorem o321_96 : Okp RX12 cX12_spawn 7 none "spawn" false 96 (sLI 2 97) := ok_iload_n (by decide +kernel : decode cX12_spawn 96 = .ok (.iload_n 2, 1)) rfl
theorem o321_97 : Okp RX12 cX12_spawn 7 none "spawn" false 97 (sLR 0 98) := ok_aload_n (by decide +kernel : decode cX12_spawn 97 = .ok (.aload_n 0, 1)) rfl
theorem o321_98 : Okp RX12 cX12_spawn 7 none "spawn" false 98 (sGR 13 62 101) := ok_getR (by decide +kernel : decode cX12_spawn 98 = .ok (.getfield 146, 3)) fw_X12_146 rfl
theorem o321_101 : Okp RX12 cX12_spawn 7 none "spawn" false 101 (sLI 1 102) := ok_iload_n (by decide +kernel : decode cX12_spawn 101 = .ok (.iload_n 1, 1)) rfl
theorem o321_102 : Okp RX12 cX12_spawn 7 none "spawn" false 102 (sIA 103) := ok_iaload (by decide +kernel : decode cX12_spawn 102 = .ok (.iaload, 1))
theorem o321_103 : Okp RX12 cX12_spawn 7 none "spawn" false 103 (sCV false 280 5 13 106) := ok_cv (by decide +kernel : decode cX12_spawn 103 = .ok (.invokevirtual 475, 3)) mw_X12_475 rfl (by decide) wm_X12_start wse_X12_start (by decide) rfl
theorem o321_106 : Okp RX12 cX12_spawn 7 none "spawn" false 106 (sK 0 107) := ok_iconst (by decide +kernel : decode cX12_spawn 106 = .ok (.iconst 0, 1)) (by decide)
theorem o321_107 : Okp RX12 cX12_spawn 7 none "spawn" false 107 (sSI 6 109) := ok_istore (by decide +kernel : decode cX12_spawn 107 = .ok (.istore 6, 2)) (by decide) (by decide)
theorem o321_109 : Okp RX12 cX12_spawn 7 none "spawn" false 109 (sLI 6 111) := ok_iload (by decide +kernel : decode cX12_spawn 109 = .ok (.iload 6, 2))
theorem o321_111 : Okp RX12 cX12_spawn 7 none "spawn" false 111 (sLI 4 113) := ok_iload (by decide +kernel : decode cX12_spawn 111 = .ok (.iload 4, 2))
theorem o321_113 : Okp RX12 cX12_spawn 7 none "spawn" false 113 (sI2 3 178 116) := ok_icmp_ge (by decide +kernel : decode cX12_spawn 113 = .ok (.if_icmp .ge 65, 3)) (by decide)
theorem o321_116 : Okp RX12 cX12_spawn 7 none "spawn" false 116 (sLR 0 117) := ok_aload_n (by decide +kernel : decode cX12_spawn 116 = .ok (.aload_n 0, 1)) rfl
theorem o321_117 : Okp RX12 cX12_spawn 7 none "spawn" false 117 (sLI 3 118) := ok_iload_n (by decide +kernel : decode cX12_spawn 117 = .ok (.iload_n 3, 1)) rfl
theorem o321_118 : Okp RX12 cX12_spawn 7 none "spawn" false 118 (sK 0 119) := ok_iconst (by decide +kernel : decode cX12_spawn 118 = .ok (.iconst 0, 1)) (by decide)
theorem o321_119 : Okp RX12 cX12_spawn 7 none "spawn" false 119 (sLI 6 121) := ok_iload (by decide +kernel : decode cX12_spawn 119 = .ok (.iload 6, 2))
theorem o321_121 : Okp RX12 cX12_spawn 7 none "spawn" false 121 (sCS false 283 3 124) := ok_cs (by decide +kernel : decode cX12_spawn 121 = .ok (.invokestatic 478, 3)) mw_X12_478 wt_X12_local (by decide) rfl
theorem o321_124 : Okp RX12 cX12_spawn 7 none "spawn" false 124 (sLR 0 125) := ok_aload_n (by decide +kernel : decode cX12_spawn 124 = .ok (.aload_n 0, 1)) rfl
theorem o321_125 : Okp RX12 cX12_spawn 7 none "spawn" false 125 (sGR 13 68 128) := ok_getR (by decide +kernel : decode cX12_spawn 125 = .ok (.getfield 164, 3)) fw_X12_164 rfl
theorem o321_128 : Okp RX12 cX12_spawn 7 none "spawn" false 128 (sLI 5 130) := ok_iload (by decide +kernel : decode cX12_spawn 128 = .ok (.iload 5, 2))
theorem o321_130 : Okp RX12 cX12_spawn 7 none "spawn" false 130 (sLI 6 132) := ok_iload (by decide +kernel : decode cX12_spawn 130 = .ok (.iload 6, 2))
theorem o321_132 : Okp RX12 cX12_spawn 7 none "spawn" false 132 (sB2 fAdd 133) := ok_iadd (by decide +kernel : decode cX12_spawn 132 = .ok (.iadd, 1))
theorem o321_133 : Okp RX12 cX12_spawn 7 none "spawn" false 133 (sIA 134) := ok_iaload (by decide +kernel : decode cX12_spawn 133 = .ok (.iaload, 1))
theorem o321_134 : Okp RX12 cX12_spawn 7 none "spawn" false 134 (sLR 0 135) := ok_aload_n (by decide +kernel : decode cX12_spawn 134 = .ok (.aload_n 0, 1)) rfl
theorem o321_135 : Okp RX12 cX12_spawn 7 none "spawn" false 135 (sGR 13 69 138) := ok_getR (by decide +kernel : decode cX12_spawn 135 = .ok (.getfield 167, 3)) fw_X12_167 rfl
theorem o321_138 : Okp RX12 cX12_spawn 7 none "spawn" false 138 (sLI 5 140) := ok_iload (by decide +kernel : decode cX12_spawn 138 = .ok (.iload 5, 2))
theorem o321_140 : Okp RX12 cX12_spawn 7 none "spawn" false 140 (sLI 6 142) := ok_iload (by decide +kernel : decode cX12_spawn 140 = .ok (.iload 6, 2))
theorem o321_142 : Okp RX12 cX12_spawn 7 none "spawn" false 142 (sB2 fAdd 143) := ok_iadd (by decide +kernel : decode cX12_spawn 142 = .ok (.iadd, 1))
theorem o321_143 : Okp RX12 cX12_spawn 7 none "spawn" false 143 (sIA 144) := ok_iaload (by decide +kernel : decode cX12_spawn 143 = .ok (.iaload, 1))
theorem o321_144 : Okp RX12 cX12_spawn 7 none "spawn" false 144 (sCV false 285 4 13 147) := ok_cv (by decide +kernel : decode cX12_spawn 144 = .ok (.invokevirtual 481, 3)) mw_X12_481 rfl (by decide) wm_X12_set wse_X12_set (by decide) rfl
theorem o321_147 : Okp RX12 cX12_spawn 7 none "spawn" false 147 (sLR 0 148) := ok_aload_n (by decide +kernel : decode cX12_spawn 147 = .ok (.aload_n 0, 1)) rfl
theorem o321_148 : Okp RX12 cX12_spawn 7 none "spawn" false 148 (sLR 0 149) := ok_aload_n (by decide +kernel : decode cX12_spawn 148 = .ok (.aload_n 0, 1)) rfl
theorem o321_149 : Okp RX12 cX12_spawn 7 none "spawn" false 149 (sGR 13 68 152) := ok_getR (by decide +kernel : decode cX12_spawn 149 = .ok (.getfield 164, 3)) fw_X12_164 rfl
theorem o321_152 : Okp RX12 cX12_spawn 7 none "spawn" false 152 (sLI 5 154) := ok_iload (by decide +kernel : decode cX12_spawn 152 = .ok (.iload 5, 2))
theorem o321_154 : Okp RX12 cX12_spawn 7 none "spawn" false 154 (sLI 6 156) := ok_iload (by decide +kernel : decode cX12_spawn 154 = .ok (.iload 6, 2))
theorem o321_156 : Okp RX12 cX12_spawn 7 none "spawn" false 156 (sB2 fAdd 157) := ok_iadd (by decide +kernel : decode cX12_spawn 156 = .ok (.iadd, 1))
theorem o321_157 : Okp RX12 cX12_spawn 7 none "spawn" false 157 (sIA 158) := ok_iaload (by decide +kernel : decode cX12_spawn 157 = .ok (.iaload, 1))
theorem o321_158 : Okp RX12 cX12_spawn 7 none "spawn" false 158 (sLR 0 159) := ok_aload_n (by decide +kernel : decode cX12_spawn 158 = .ok (.aload_n 0, 1)) rfl
theorem o321_159 : Okp RX12 cX12_spawn 7 none "spawn" false 159 (sGR 13 69 162) := ok_getR (by decide +kernel : decode cX12_spawn 159 = .ok (.getfield 167, 3)) fw_X12_167 rfl
theorem o321_162 : Okp RX12 cX12_spawn 7 none "spawn" false 162 (sLI 5 164) := ok_iload (by decide +kernel : decode cX12_spawn 162 = .ok (.iload 5, 2))
theorem o321_164 : Okp RX12 cX12_spawn 7 none "spawn" false 164 (sLI 6 166) := ok_iload (by decide +kernel : decode cX12_spawn 164 = .ok (.iload 6, 2))
theorem o321_166 : Okp RX12 cX12_spawn 7 none "spawn" false 166 (sB2 fAdd 167) := ok_iadd (by decide +kernel : decode cX12_spawn 166 = .ok (.iadd, 1))
theorem o321_167 : Okp RX12 cX12_spawn 7 none "spawn" false 167 (sIA 168) := ok_iaload (by decide +kernel : decode cX12_spawn 167 = .ok (.iaload, 1))
theorem o321_168 : Okp RX12 cX12_spawn 7 none "spawn" false 168 (sLI 3 169) := ok_iload_n (by decide +kernel : decode cX12_spawn 168 = .ok (.iload_n 3, 1)) rfl
theorem o321_169 : Okp RX12 cX12_spawn 7 none "spawn" false 169 (sCV false 297 4 13 172) := ok_cv (by decide +kernel : decode cX12_spawn 169 = .ok (.invokevirtual 595, 3)) mw_X12_595 rfl (by decide) wm_X12_own wse_X12_own (by decide) rfl
theorem o321_172 : Okp RX12 cX12_spawn 7 none "spawn" false 172 (sInc 6 1 175) := ok_iinc (by decide +kernel : decode cX12_spawn 172 = .ok (.iinc 6 1, 3)) (by decide) (by decide)
theorem o321_175 : Okp RX12 cX12_spawn 7 none "spawn" false 175 (sGo 109) := ok_goto (by decide +kernel : decode cX12_spawn 175 = .ok (.goto (-66), 3)) (by decide)
theorem o321_178 : Okp RX12 cX12_spawn 7 none "spawn" false 178 (sLR 0 179) := ok_aload_n (by decide +kernel : decode cX12_spawn 178 = .ok (.aload_n 0, 1)) rfl
theorem o321_179 : Okp RX12 cX12_spawn 7 none "spawn" false 179 (sLR 0 180) := ok_aload_n (by decide +kernel : decode cX12_spawn 179 = .ok (.aload_n 0, 1)) rfl
theorem o321_180 : Okp RX12 cX12_spawn 7 none "spawn" false 180 (sGI 13 56 183) := ok_getI (by decide +kernel : decode cX12_spawn 180 = .ok (.getfield 472, 3)) fw_X12_472 rfl
theorem o321_183 : Okp RX12 cX12_spawn 7 none "spawn" false 183 (sLI 3 184) := ok_iload_n (by decide +kernel : decode cX12_spawn 183 = .ok (.iload_n 3, 1)) rfl
theorem o321_184 : Okp RX12 cX12_spawn 7 none "spawn" false 184 (sK 1 185) := ok_iconst (by decide +kernel : decode cX12_spawn 184 = .ok (.iconst 1, 1)) (by decide)
theorem o321_185 : Okp RX12 cX12_spawn 7 none "spawn" false 185 (sB2 fAdd 186) := ok_iadd (by decide +kernel : decode cX12_spawn 185 = .ok (.iadd, 1))
theorem o321_186 : Okp RX12 cX12_spawn 7 none "spawn" false 186 (sM2 fMax 189) := ok_max (by decide +kernel : decode cX12_spawn 186 = .ok (.invokestatic 427, 3)) wq_X12_427 wq_smax wq_im wq_cmax
theorem o321_189 : Okp RX12 cX12_spawn 7 none "spawn" false 189 (sPI 13 56 192) := ok_putI (by decide +kernel : decode cX12_spawn 189 = .ok (.putfield 472, 3)) fw_X12_472 ⟨⟨tyX12_ok, nmX12⟩, Or.inl rfl, rfl⟩ rfl
theorem o321_192 : Okp RX12 cX12_spawn 7 none "spawn" false 192 sRV := ok_vret rfl (by decide +kernel : decode cX12_spawn 192 = .ok (.return_, 1))
theorem oc321_0 : ∀ pc, Mnp (c321_0 pc) ∧ Okp RX12 cX12_spawn 7 none "spawn" false pc (c321_0 pc) := by
  intro pc
  unfold c321_0
  split
  · exact ⟨mn_sK, o321_0⟩
  · exact ⟨mn_sSI, o321_1⟩
  · exact ⟨mn_sLI, o321_2⟩
  · exact ⟨mn_sK, o321_3⟩
  · exact ⟨mn_sI2, o321_5⟩
  · exact ⟨mn_sLR, o321_8⟩
  · exact ⟨mn_sGR, o321_9⟩
  · exact ⟨mn_sLI, o321_12⟩
  · exact ⟨mn_sIA, o321_13⟩
  · exact ⟨mn_sK, o321_14⟩
  · exact ⟨mn_sI2, o321_15⟩
  · exact ⟨mn_sInc, o321_18⟩
  · exact ⟨mn_sGo, o321_21⟩
  · exact ⟨mn_sX, ok_X⟩
theorem oc321_1 : ∀ pc, Mnp (c321_1 pc) ∧ Okp RX12 cX12_spawn 7 none "spawn" false pc (c321_1 pc) := by
  intro pc
  unfold c321_1
  split
  · exact ⟨mn_sLI, o321_24⟩
  · exact ⟨mn_sK, o321_25⟩
  · exact ⟨mn_sI2, o321_27⟩
  · exact ⟨mn_sLR, o321_30⟩
  · exact ⟨mn_sLI, o321_31⟩
  · exact ⟨mn_sK, o321_32⟩
  · exact ⟨mn_sCV, o321_34⟩
  · exact ⟨mn_sRV, o321_37⟩
  · exact ⟨mn_sLR, o321_38⟩
  · exact ⟨mn_sGR, o321_39⟩
  · exact ⟨mn_sK, o321_42⟩
  · exact ⟨mn_sLR, o321_44⟩
  · exact ⟨mn_sGR, o321_45⟩
  · exact ⟨mn_sX, ok_X⟩
theorem oc321_2 : ∀ pc, Mnp (c321_2 pc) ∧ Okp RX12 cX12_spawn 7 none "spawn" false pc (c321_2 pc) := by
  intro pc
  unfold c321_2
  split
  · exact ⟨mn_sLI, o321_48⟩
  · exact ⟨mn_sIA, o321_49⟩
  · exact ⟨mn_sB2, o321_50⟩
  · exact ⟨mn_sLI, o321_51⟩
  · exact ⟨mn_sB2, o321_52⟩
  · exact ⟨mn_sIA, o321_53⟩
  · exact ⟨mn_sSI, o321_54⟩
  · exact ⟨mn_sLR, o321_56⟩
  · exact ⟨mn_sGR, o321_57⟩
  · exact ⟨mn_sLR, o321_60⟩
  · exact ⟨mn_sLI, o321_61⟩
  · exact ⟨mn_sCV, o321_62⟩
  · exact ⟨mn_sDup2, o321_65⟩
  · exact ⟨mn_sIA, o321_66⟩
  · exact ⟨mn_sLI, o321_67⟩
  · exact ⟨mn_sB2, o321_69⟩
  · exact ⟨mn_sIS, o321_70⟩
  · exact ⟨mn_sLR, o321_71⟩
  · exact ⟨mn_sX, ok_X⟩
theorem oc321_3 : ∀ pc, Mnp (c321_3 pc) ∧ Okp RX12 cX12_spawn 7 none "spawn" false pc (c321_3 pc) := by
  intro pc
  unfold c321_3
  split
  · exact ⟨mn_sLI, o321_72⟩
  · exact ⟨mn_sLR, o321_73⟩
  · exact ⟨mn_sGR, o321_74⟩
  · exact ⟨mn_sLR, o321_77⟩
  · exact ⟨mn_sLI, o321_78⟩
  · exact ⟨mn_sCV, o321_79⟩
  · exact ⟨mn_sIA, o321_82⟩
  · exact ⟨mn_sCV, o321_83⟩
  · exact ⟨mn_sSI, o321_86⟩
  · exact ⟨mn_sLR, o321_88⟩
  · exact ⟨mn_sLI, o321_89⟩
  · exact ⟨mn_sLR, o321_90⟩
  · exact ⟨mn_sGR, o321_91⟩
  · exact ⟨mn_sLI, o321_94⟩
  · exact ⟨mn_sIA, o321_95⟩
  · exact ⟨mn_sX, ok_X⟩
theorem oc321_4 : ∀ pc, Mnp (c321_4 pc) ∧ Okp RX12 cX12_spawn 7 none "spawn" false pc (c321_4 pc) := by
  intro pc
  unfold c321_4
  split
  · exact ⟨mn_sLI, o321_96⟩
  · exact ⟨mn_sLR, o321_97⟩
  · exact ⟨mn_sGR, o321_98⟩
  · exact ⟨mn_sLI, o321_101⟩
  · exact ⟨mn_sIA, o321_102⟩
  · exact ⟨mn_sCV, o321_103⟩
  · exact ⟨mn_sK, o321_106⟩
  · exact ⟨mn_sSI, o321_107⟩
  · exact ⟨mn_sLI, o321_109⟩
  · exact ⟨mn_sLI, o321_111⟩
  · exact ⟨mn_sI2, o321_113⟩
  · exact ⟨mn_sLR, o321_116⟩
  · exact ⟨mn_sLI, o321_117⟩
  · exact ⟨mn_sK, o321_118⟩
  · exact ⟨mn_sLI, o321_119⟩
  · exact ⟨mn_sX, ok_X⟩
theorem oc321_5 : ∀ pc, Mnp (c321_5 pc) ∧ Okp RX12 cX12_spawn 7 none "spawn" false pc (c321_5 pc) := by
  intro pc
  unfold c321_5
  split
  · exact ⟨mn_sCS, o321_121⟩
  · exact ⟨mn_sLR, o321_124⟩
  · exact ⟨mn_sGR, o321_125⟩
  · exact ⟨mn_sLI, o321_128⟩
  · exact ⟨mn_sLI, o321_130⟩
  · exact ⟨mn_sB2, o321_132⟩
  · exact ⟨mn_sIA, o321_133⟩
  · exact ⟨mn_sLR, o321_134⟩
  · exact ⟨mn_sGR, o321_135⟩
  · exact ⟨mn_sLI, o321_138⟩
  · exact ⟨mn_sLI, o321_140⟩
  · exact ⟨mn_sB2, o321_142⟩
  · exact ⟨mn_sIA, o321_143⟩
  · exact ⟨mn_sX, ok_X⟩
theorem oc321_6 : ∀ pc, Mnp (c321_6 pc) ∧ Okp RX12 cX12_spawn 7 none "spawn" false pc (c321_6 pc) := by
  intro pc
  unfold c321_6
  split
  · exact ⟨mn_sCV, o321_144⟩
  · exact ⟨mn_sLR, o321_147⟩
  · exact ⟨mn_sLR, o321_148⟩
  · exact ⟨mn_sGR, o321_149⟩
  · exact ⟨mn_sLI, o321_152⟩
  · exact ⟨mn_sLI, o321_154⟩
  · exact ⟨mn_sB2, o321_156⟩
  · exact ⟨mn_sIA, o321_157⟩
  · exact ⟨mn_sLR, o321_158⟩
  · exact ⟨mn_sGR, o321_159⟩
  · exact ⟨mn_sLI, o321_162⟩
  · exact ⟨mn_sLI, o321_164⟩
  · exact ⟨mn_sB2, o321_166⟩
  · exact ⟨mn_sIA, o321_167⟩
  · exact ⟨mn_sX, ok_X⟩
theorem oc321_7 : ∀ pc, Mnp (c321_7 pc) ∧ Okp RX12 cX12_spawn 7 none "spawn" false pc (c321_7 pc) := by
  intro pc
  unfold c321_7
  split
  · exact ⟨mn_sLI, o321_168⟩
  · exact ⟨mn_sCV, o321_169⟩
  · exact ⟨mn_sInc, o321_172⟩
  · exact ⟨mn_sGo, o321_175⟩
  · exact ⟨mn_sLR, o321_178⟩
  · exact ⟨mn_sLR, o321_179⟩
  · exact ⟨mn_sGI, o321_180⟩
  · exact ⟨mn_sLI, o321_183⟩
  · exact ⟨mn_sK, o321_184⟩
  · exact ⟨mn_sB2, o321_185⟩
  · exact ⟨mn_sM2, o321_186⟩
  · exact ⟨mn_sPI, o321_189⟩
  · exact ⟨mn_sX, ok_X⟩
theorem oc321_8 : ∀ pc, Mnp (c321_8 pc) ∧ Okp RX12 cX12_spawn 7 none "spawn" false pc (c321_8 pc) := by
  intro pc
  unfold c321_8
  split
  · exact ⟨mn_sRV, o321_192⟩
  · exact ⟨mn_sX, ok_X⟩
theorem oc321 : ∀ pc, Mnp (c321 pc) ∧ Okp RX12 cX12_spawn 7 none "spawn" false pc (c321 pc) := by
  intro pc
  unfold c321
  split
  · exact oc321_0 pc
  · exact oc321_1 pc
  · exact oc321_2 pc
  · exact oc321_3 pc
  · exact oc321_4 pc
  · exact oc321_5 pc
  · exact oc321_6 pc
  · exact oc321_7 pc
  · exact oc321_8 pc
  · exact ⟨mn_sX, ok_X⟩
theorem o322_0 : Okp RX12 cX12_about 4 (some .int) "about" false 0 (sLR 0 1) := ok_aload_n (by decide +kernel : decode cX12_about 0 = .ok (.aload_n 0, 1)) rfl
theorem o322_1 : Okp RX12 cX12_about 4 (some .int) "about" false 1 (sK 0 2) := ok_iconst (by decide +kernel : decode cX12_about 1 = .ok (.iconst 0, 1)) (by decide)
theorem o322_2 : Okp RX12 cX12_about 4 (some .int) "about" false 2 (sPI 13 0 5) := ok_putI (by decide +kernel : decode cX12_about 2 = .ok (.putfield 227, 3)) fw_X12_227 ⟨⟨tyX12_ok, nmX12⟩, Or.inl rfl, rfl⟩ rfl
theorem o322_5 : Okp RX12 cX12_about 4 (some .int) "about" false 5 (sLR 0 6) := ok_aload_n (by decide +kernel : decode cX12_about 5 = .ok (.aload_n 0, 1)) rfl
theorem o322_6 : Okp RX12 cX12_about 4 (some .int) "about" false 6 (sGI 13 51 9) := ok_getI (by decide +kernel : decode cX12_about 6 = .ok (.getfield 457, 3)) fw_X12_457 rfl
theorem o322_9 : Okp RX12 cX12_about 4 (some .int) "about" false 9 (sI1 1 14 12) := ok_if_ne (by decide +kernel : decode cX12_about 9 = .ok (.ifCond .ne 5, 3)) (by decide)
theorem o322_12 : Okp RX12 cX12_about 4 (some .int) "about" false 12 (sK (-1) 13) := ok_iconst (by decide +kernel : decode cX12_about 12 = .ok (.iconst (-1), 1)) (by decide)
theorem o322_13 : Okp RX12 cX12_about 4 (some .int) "about" false 13 sRI := ok_iret rfl (by decide +kernel : decode cX12_about 13 = .ok (.ireturn, 1))
theorem o322_14 : Okp RX12 cX12_about 4 (some .int) "about" false 14 (sK 0 15) := ok_iconst (by decide +kernel : decode cX12_about 14 = .ok (.iconst 0, 1)) (by decide)
theorem o322_15 : Okp RX12 cX12_about 4 (some .int) "about" false 15 (sSI 2 16) := ok_istore_n (by decide +kernel : decode cX12_about 15 = .ok (.istore_n 2, 1)) rfl (by decide) (by decide)
theorem o322_16 : Okp RX12 cX12_about 4 (some .int) "about" false 16 (sLI 1 17) := ok_iload_n (by decide +kernel : decode cX12_about 16 = .ok (.iload_n 1, 1)) rfl
theorem o322_17 : Okp RX12 cX12_about 4 (some .int) "about" false 17 (sSw [(0, 60), (1, 65), (2, 101), (3, 135), (4, 167), (5, 202), (6, 207)] 212) := ok_tsw (by decide +kernel : decode cX12_about 17 = .ok (.tableswitch 195 0 6 #[43, 48, 84, 118, 150, 185, 190], 43)) (by decide) (by decide) (by decide)
theorem o322_60 : Okp RX12 cX12_about 4 (some .int) "about" false 60 (sLR 0 61) := ok_aload_n (by decide +kernel : decode cX12_about 60 = .ok (.aload_n 0, 1)) rfl
theorem o322_61 : Okp RX12 cX12_about 4 (some .int) "about" false 61 (sGI 13 52 64) := ok_getI (by decide +kernel : decode cX12_about 61 = .ok (.getfield 460, 3)) fw_X12_460 rfl
theorem o322_64 : Okp RX12 cX12_about 4 (some .int) "about" false 64 sRI := ok_iret rfl (by decide +kernel : decode cX12_about 64 = .ok (.ireturn, 1))
theorem o322_65 : Okp RX12 cX12_about 4 (some .int) "about" false 65 (sK 0 66) := ok_iconst (by decide +kernel : decode cX12_about 65 = .ok (.iconst 0, 1)) (by decide)
theorem o322_66 : Okp RX12 cX12_about 4 (some .int) "about" false 66 (sSI 3 67) := ok_istore_n (by decide +kernel : decode cX12_about 66 = .ok (.istore_n 3, 1)) rfl (by decide) (by decide)
theorem o322_67 : Okp RX12 cX12_about 4 (some .int) "about" false 67 (sLI 3 68) := ok_iload_n (by decide +kernel : decode cX12_about 67 = .ok (.iload_n 3, 1)) rfl
theorem o322_68 : Okp RX12 cX12_about 4 (some .int) "about" false 68 (sK 12 70) := ok_bipush (by decide +kernel : decode cX12_about 68 = .ok (.bipush 12, 2)) (by decide)
theorem o322_70 : Okp RX12 cX12_about 4 (some .int) "about" false 70 (sI2 3 99 73) := ok_icmp_ge (by decide +kernel : decode cX12_about 70 = .ok (.if_icmp .ge 29, 3)) (by decide)
theorem o322_73 : Okp RX12 cX12_about 4 (some .int) "about" false 73 (sLR 0 74) := ok_aload_n (by decide +kernel : decode cX12_about 73 = .ok (.aload_n 0, 1)) rfl
theorem o322_74 : Okp RX12 cX12_about 4 (some .int) "about" false 74 (sGR 13 59 77) := ok_getR (by decide +kernel : decode cX12_about 74 = .ok (.getfield 137, 3)) fw_X12_137 rfl
theorem o322_77 : Okp RX12 cX12_about 4 (some .int) "about" false 77 (sLI 3 78) := ok_iload_n (by decide +kernel : decode cX12_about 77 = .ok (.iload_n 3, 1)) rfl
theorem o322_78 : Okp RX12 cX12_about 4 (some .int) "about" false 78 (sIA 79) := ok_iaload (by decide +kernel : decode cX12_about 78 = .ok (.iaload, 1))
theorem o322_79 : Okp RX12 cX12_about 4 (some .int) "about" false 79 (sK 4 80) := ok_iconst (by decide +kernel : decode cX12_about 79 = .ok (.iconst 4, 1)) (by decide)
theorem o322_80 : Okp RX12 cX12_about 4 (some .int) "about" false 80 (sI2 3 93 83) := ok_icmp_ge (by decide +kernel : decode cX12_about 80 = .ok (.if_icmp .ge 13, 3)) (by decide)
theorem o322_83 : Okp RX12 cX12_about 4 (some .int) "about" false 83 (sLR 0 84) := ok_aload_n (by decide +kernel : decode cX12_about 83 = .ok (.aload_n 0, 1)) rfl
theorem o322_84 : Okp RX12 cX12_about 4 (some .int) "about" false 84 (sLI 3 85) := ok_iload_n (by decide +kernel : decode cX12_about 84 = .ok (.iload_n 3, 1)) rfl
theorem o322_85 : Okp RX12 cX12_about 4 (some .int) "about" false 85 (sCV false 306 2 13 88) := ok_cv (by decide +kernel : decode cX12_about 85 = .ok (.invokevirtual 507, 3)) mw_X12_507 rfl (by decide) wm_X12_canGo wse_X12_canGo (by decide) rfl
theorem o322_88 : Okp RX12 cX12_about 4 (some .int) "about" false 88 (sI1 0 93 91) := ok_if_eq (by decide +kernel : decode cX12_about 88 = .ok (.ifCond .eq 5, 3)) (by decide)
theorem o322_91 : Okp RX12 cX12_about 4 (some .int) "about" false 91 (sK 0 92) := ok_iconst (by decide +kernel : decode cX12_about 91 = .ok (.iconst 0, 1)) (by decide)
theorem o322_92 : Okp RX12 cX12_about 4 (some .int) "about" false 92 sRI := ok_iret rfl (by decide +kernel : decode cX12_about 92 = .ok (.ireturn, 1))
theorem o322_93 : Okp RX12 cX12_about 4 (some .int) "about" false 93 (sInc 3 1 96) := ok_iinc (by decide +kernel : decode cX12_about 93 = .ok (.iinc 3 1, 3)) (by decide) (by decide)
theorem o322_96 : Okp RX12 cX12_about 4 (some .int) "about" false 96 (sGo 67) := ok_goto (by decide +kernel : decode cX12_about 96 = .ok (.goto (-29), 3)) (by decide)
theorem o322_99 : Okp RX12 cX12_about 4 (some .int) "about" false 99 (sK 1 100) := ok_iconst (by decide +kernel : decode cX12_about 99 = .ok (.iconst 1, 1)) (by decide)
theorem o322_100 : Okp RX12 cX12_about 4 (some .int) "about" false 100 sRI := ok_iret rfl (by decide +kernel : decode cX12_about 100 = .ok (.ireturn, 1))
theorem o322_101 : Okp RX12 cX12_about 4 (some .int) "about" false 101 (sK 0 102) := ok_iconst (by decide +kernel : decode cX12_about 101 = .ok (.iconst 0, 1)) (by decide)
theorem o322_102 : Okp RX12 cX12_about 4 (some .int) "about" false 102 (sSI 3 103) := ok_istore_n (by decide +kernel : decode cX12_about 102 = .ok (.istore_n 3, 1)) rfl (by decide) (by decide)
theorem o322_103 : Okp RX12 cX12_about 4 (some .int) "about" false 103 (sLI 3 104) := ok_iload_n (by decide +kernel : decode cX12_about 103 = .ok (.iload_n 3, 1)) rfl
theorem o322_104 : Okp RX12 cX12_about 4 (some .int) "about" false 104 (sK 12 106) := ok_bipush (by decide +kernel : decode cX12_about 104 = .ok (.bipush 12, 2)) (by decide)
theorem o322_106 : Okp RX12 cX12_about 4 (some .int) "about" false 106 (sI2 3 133 109) := ok_icmp_ge (by decide +kernel : decode cX12_about 106 = .ok (.if_icmp .ge 27, 3)) (by decide)
theorem o322_109 : Okp RX12 cX12_about 4 (some .int) "about" false 109 (sLI 2 110) := ok_iload_n (by decide +kernel : decode cX12_about 109 = .ok (.iload_n 2, 1)) rfl
theorem o322_110 : Okp RX12 cX12_about 4 (some .int) "about" false 110 (sLR 0 111) := ok_aload_n (by decide +kernel : decode cX12_about 110 = .ok (.aload_n 0, 1)) rfl
theorem o322_111 : Okp RX12 cX12_about 4 (some .int) "about" false 111 (sGR 13 59 114) := ok_getR (by decide +kernel : decode cX12_about 111 = .ok (.getfield 137, 3)) fw_X12_137 rfl
theorem o322_114 : Okp RX12 cX12_about 4 (some .int) "about" false 114 (sLI 3 115) := ok_iload_n (by decide +kernel : decode cX12_about 114 = .ok (.iload_n 3, 1)) rfl
theorem o322_115 : Okp RX12 cX12_about 4 (some .int) "about" false 115 (sIA 116) := ok_iaload (by decide +kernel : decode cX12_about 115 = .ok (.iaload, 1))
theorem o322_116 : Okp RX12 cX12_about 4 (some .int) "about" false 116 (sK 4 117) := ok_iconst (by decide +kernel : decode cX12_about 116 = .ok (.iconst 4, 1)) (by decide)
theorem o322_117 : Okp RX12 cX12_about 4 (some .int) "about" false 117 (sI2 3 124 120) := ok_icmp_ge (by decide +kernel : decode cX12_about 117 = .ok (.if_icmp .ge 7, 3)) (by decide)
theorem o322_120 : Okp RX12 cX12_about 4 (some .int) "about" false 120 (sK 1 121) := ok_iconst (by decide +kernel : decode cX12_about 120 = .ok (.iconst 1, 1)) (by decide)
theorem o322_121 : Okp RX12 cX12_about 4 (some .int) "about" false 121 (sGo 125) := ok_goto (by decide +kernel : decode cX12_about 121 = .ok (.goto 4, 3)) (by decide)
theorem o322_124 : Okp RX12 cX12_about 4 (some .int) "about" false 124 (sK 0 125) := ok_iconst (by decide +kernel : decode cX12_about 124 = .ok (.iconst 0, 1)) (by decide)
theorem o322_125 : Okp RX12 cX12_about 4 (some .int) "about" false 125 (sB2 fAdd 126) := ok_iadd (by decide +kernel : decode cX12_about 125 = .ok (.iadd, 1))
theorem o322_126 : Okp RX12 cX12_about 4 (some .int) "about" false 126 (sSI 2 127) := ok_istore_n (by decide +kernel : decode cX12_about 126 = .ok (.istore_n 2, 1)) rfl (by decide) (by decide)
theorem o322_127 : Okp RX12 cX12_about 4 (some .int) "about" false 127 (sInc 3 1 130) := ok_iinc (by decide +kernel : decode cX12_about 127 = .ok (.iinc 3 1, 3)) (by decide) (by decide)
theorem o322_130 : Okp RX12 cX12_about 4 (some .int) "about" false 130 (sGo 103) := ok_goto (by decide +kernel : decode cX12_about 130 = .ok (.goto (-27), 3)) (by decide)
theorem o322_133 : Okp RX12 cX12_about 4 (some .int) "about" false 133 (sLI 2 134) := ok_iload_n (by decide +kernel : decode cX12_about 133 = .ok (.iload_n 2, 1)) rfl
theorem o322_134 : Okp RX12 cX12_about 4 (some .int) "about" false 134 sRI := ok_iret rfl (by decide +kernel : decode cX12_about 134 = .ok (.ireturn, 1))
theorem o322_135 : Okp RX12 cX12_about 4 (some .int) "about" false 135 (sK 0 136) := ok_iconst (by decide +kernel : decode cX12_about 135 = .ok (.iconst 0, 1)) (by decide)
theorem o322_136 : Okp RX12 cX12_about 4 (some .int) "about" false 136 (sSI 3 137) := ok_istore_n (by decide +kernel : decode cX12_about 136 = .ok (.istore_n 3, 1)) rfl (by decide) (by decide)
theorem o322_137 : Okp RX12 cX12_about 4 (some .int) "about" false 137 (sLI 3 138) := ok_iload_n (by decide +kernel : decode cX12_about 137 = .ok (.iload_n 3, 1)) rfl
theorem o322_138 : Okp RX12 cX12_about 4 (some .int) "about" false 138 (sK 12 140) := ok_bipush (by decide +kernel : decode cX12_about 138 = .ok (.bipush 12, 2)) (by decide)
theorem o322_140 : Okp RX12 cX12_about 4 (some .int) "about" false 140 (sI2 3 165 143) := ok_icmp_ge (by decide +kernel : decode cX12_about 140 = .ok (.if_icmp .ge 25, 3)) (by decide)
theorem o322_143 : Okp RX12 cX12_about 4 (some .int) "about" false 143 (sLI 2 144) := ok_iload_n (by decide +kernel : decode cX12_about 143 = .ok (.iload_n 2, 1)) rfl
theorem o322_144 : Okp RX12 cX12_about 4 (some .int) "about" false 144 (sLR 0 145) := ok_aload_n (by decide +kernel : decode cX12_about 144 = .ok (.aload_n 0, 1)) rfl
theorem o322_145 : Okp RX12 cX12_about 4 (some .int) "about" false 145 (sLI 3 146) := ok_iload_n (by decide +kernel : decode cX12_about 145 = .ok (.iload_n 3, 1)) rfl
theorem o322_146 : Okp RX12 cX12_about 4 (some .int) "about" false 146 (sCV false 294 2 13 149) := ok_cv (by decide +kernel : decode cX12_about 146 = .ok (.invokevirtual 592, 3)) mw_X12_592 rfl (by decide) wm_X12_isChannel wse_X12_isChannel (by decide) rfl
theorem o322_149 : Okp RX12 cX12_about 4 (some .int) "about" false 149 (sI1 0 156 152) := ok_if_eq (by decide +kernel : decode cX12_about 149 = .ok (.ifCond .eq 7, 3)) (by decide)
theorem o322_152 : Okp RX12 cX12_about 4 (some .int) "about" false 152 (sK 1 153) := ok_iconst (by decide +kernel : decode cX12_about 152 = .ok (.iconst 1, 1)) (by decide)
theorem o322_153 : Okp RX12 cX12_about 4 (some .int) "about" false 153 (sGo 157) := ok_goto (by decide +kernel : decode cX12_about 153 = .ok (.goto 4, 3)) (by decide)
theorem o322_156 : Okp RX12 cX12_about 4 (some .int) "about" false 156 (sK 0 157) := ok_iconst (by decide +kernel : decode cX12_about 156 = .ok (.iconst 0, 1)) (by decide)
theorem o322_157 : Okp RX12 cX12_about 4 (some .int) "about" false 157 (sB2 fAdd 158) := ok_iadd (by decide +kernel : decode cX12_about 157 = .ok (.iadd, 1))
theorem o322_158 : Okp RX12 cX12_about 4 (some .int) "about" false 158 (sSI 2 159) := ok_istore_n (by decide +kernel : decode cX12_about 158 = .ok (.istore_n 2, 1)) rfl (by decide) (by decide)
theorem o322_159 : Okp RX12 cX12_about 4 (some .int) "about" false 159 (sInc 3 1 162) := ok_iinc (by decide +kernel : decode cX12_about 159 = .ok (.iinc 3 1, 3)) (by decide) (by decide)
theorem o322_162 : Okp RX12 cX12_about 4 (some .int) "about" false 162 (sGo 137) := ok_goto (by decide +kernel : decode cX12_about 162 = .ok (.goto (-25), 3)) (by decide)
theorem o322_165 : Okp RX12 cX12_about 4 (some .int) "about" false 165 (sLI 2 166) := ok_iload_n (by decide +kernel : decode cX12_about 165 = .ok (.iload_n 2, 1)) rfl
theorem o322_166 : Okp RX12 cX12_about 4 (some .int) "about" false 166 sRI := ok_iret rfl (by decide +kernel : decode cX12_about 166 = .ok (.ireturn, 1))
theorem o322_167 : Okp RX12 cX12_about 4 (some .int) "about" false 167 (sK 0 168) := ok_iconst (by decide +kernel : decode cX12_about 167 = .ok (.iconst 0, 1)) (by decide)
theorem o322_168 : Okp RX12 cX12_about 4 (some .int) "about" false 168 (sSI 3 169) := ok_istore_n (by decide +kernel : decode cX12_about 168 = .ok (.istore_n 3, 1)) rfl (by decide) (by decide)
theorem o322_169 : Okp RX12 cX12_about 4 (some .int) "about" false 169 (sLI 3 170) := ok_iload_n (by decide +kernel : decode cX12_about 169 = .ok (.iload_n 3, 1)) rfl
theorem o322_170 : Okp RX12 cX12_about 4 (some .int) "about" false 170 (sK 128 173) := ok_sipush (by decide +kernel : decode cX12_about 170 = .ok (.sipush 128, 3)) (by decide)
theorem o322_173 : Okp RX12 cX12_about 4 (some .int) "about" false 173 (sI2 3 200 176) := ok_icmp_ge (by decide +kernel : decode cX12_about 173 = .ok (.if_icmp .ge 27, 3)) (by decide)
theorem o322_176 : Okp RX12 cX12_about 4 (some .int) "about" false 176 (sLI 2 177) := ok_iload_n (by decide +kernel : decode cX12_about 176 = .ok (.iload_n 2, 1)) rfl
theorem o322_177 : Okp RX12 cX12_about 4 (some .int) "about" false 177 (sLR 0 178) := ok_aload_n (by decide +kernel : decode cX12_about 177 = .ok (.aload_n 0, 1)) rfl
theorem o322_178 : Okp RX12 cX12_about 4 (some .int) "about" false 178 (sGR 13 79 181) := ok_getR (by decide +kernel : decode cX12_about 178 = .ok (.getfield 197, 3)) fw_X12_197 rfl
theorem o322_181 : Okp RX12 cX12_about 4 (some .int) "about" false 181 (sLI 3 182) := ok_iload_n (by decide +kernel : decode cX12_about 181 = .ok (.iload_n 3, 1)) rfl
theorem o322_182 : Okp RX12 cX12_about 4 (some .int) "about" false 182 (sIA 183) := ok_iaload (by decide +kernel : decode cX12_about 182 = .ok (.iaload, 1))
theorem o322_183 : Okp RX12 cX12_about 4 (some .int) "about" false 183 (sK (-1) 184) := ok_iconst (by decide +kernel : decode cX12_about 183 = .ok (.iconst (-1), 1)) (by decide)
theorem o322_184 : Okp RX12 cX12_about 4 (some .int) "about" false 184 (sI2 1 191 187) := ok_icmp_ne (by decide +kernel : decode cX12_about 184 = .ok (.if_icmp .ne 7, 3)) (by decide)
theorem o322_187 : Okp RX12 cX12_about 4 (some .int) "about" false 187 (sK 0 188) := ok_iconst (by decide +kernel : decode cX12_about 187 = .ok (.iconst 0, 1)) (by decide)
theorem o322_188 : Okp RX12 cX12_about 4 (some .int) "about" false 188 (sGo 192) := ok_goto (by decide +kernel : decode cX12_about 188 = .ok (.goto 4, 3)) (by decide)
theorem o322_191 : Okp RX12 cX12_about 4 (some .int) "about" false 191 (sK 1 192) := ok_iconst (by decide +kernel : decode cX12_about 191 = .ok (.iconst 1, 1)) (by decide)
theorem o322_192 : Okp RX12 cX12_about 4 (some .int) "about" false 192 (sB2 fAdd 193) := ok_iadd (by decide +kernel : decode cX12_about 192 = .ok (.iadd, 1))
theorem o322_193 : Okp RX12 cX12_about 4 (some .int) "about" false 193 (sSI 2 194) := ok_istore_n (by decide +kernel : decode cX12_about 193 = .ok (.istore_n 2, 1)) rfl (by decide) (by decide)
theorem o322_194 : Okp RX12 cX12_about 4 (some .int) "about" false 194 (sInc 3 1 197) := ok_iinc (by decide +kernel : decode cX12_about 194 = .ok (.iinc 3 1, 3)) (by decide) (by decide)
theorem o322_197 : Okp RX12 cX12_about 4 (some .int) "about" false 197 (sGo 169) := ok_goto (by decide +kernel : decode cX12_about 197 = .ok (.goto (-28), 3)) (by decide)
theorem o322_200 : Okp RX12 cX12_about 4 (some .int) "about" false 200 (sLI 2 201) := ok_iload_n (by decide +kernel : decode cX12_about 200 = .ok (.iload_n 2, 1)) rfl
theorem o322_201 : Okp RX12 cX12_about 4 (some .int) "about" false 201 sRI := ok_iret rfl (by decide +kernel : decode cX12_about 201 = .ok (.ireturn, 1))
theorem o322_202 : Okp RX12 cX12_about 4 (some .int) "about" false 202 (sLR 0 203) := ok_aload_n (by decide +kernel : decode cX12_about 202 = .ok (.aload_n 0, 1)) rfl
theorem o322_203 : Okp RX12 cX12_about 4 (some .int) "about" false 203 (sCV false 293 1 13 206) := ok_cv (by decide +kernel : decode cX12_about 203 = .ok (.invokevirtual 589, 3)) mw_X12_589 rfl (by decide) wm_X12_blockCells wse_X12_blockCells (by decide) rfl
theorem o322_206 : Okp RX12 cX12_about 4 (some .int) "about" false 206 sRI := ok_iret rfl (by decide +kernel : decode cX12_about 206 = .ok (.ireturn, 1))
theorem o322_207 : Okp RX12 cX12_about 4 (some .int) "about" false 207 (sLR 0 208) := ok_aload_n (by decide +kernel : decode cX12_about 207 = .ok (.aload_n 0, 1)) rfl
theorem o322_208 : Okp RX12 cX12_about 4 (some .int) "about" false 208 (sGI 13 55 211) := ok_getI (by decide +kernel : decode cX12_about 208 = .ok (.getfield 469, 3)) fw_X12_469 rfl
theorem o322_211 : Okp RX12 cX12_about 4 (some .int) "about" false 211 sRI := ok_iret rfl (by decide +kernel : decode cX12_about 211 = .ok (.ireturn, 1))
theorem o322_212 : Okp RX12 cX12_about 4 (some .int) "about" false 212 (sK (-1) 213) := ok_iconst (by decide +kernel : decode cX12_about 212 = .ok (.iconst (-1), 1)) (by decide)
theorem o322_213 : Okp RX12 cX12_about 4 (some .int) "about" false 213 sRI := ok_iret rfl (by decide +kernel : decode cX12_about 213 = .ok (.ireturn, 1))
theorem oc322_0 : ∀ pc, Mnp (c322_0 pc) ∧ Okp RX12 cX12_about 4 (some .int) "about" false pc (c322_0 pc) := by
  intro pc
  unfold c322_0
  split
  · exact ⟨mn_sLR, o322_0⟩
  · exact ⟨mn_sK, o322_1⟩
  · exact ⟨mn_sPI, o322_2⟩
  · exact ⟨mn_sLR, o322_5⟩
  · exact ⟨mn_sGI, o322_6⟩
  · exact ⟨mn_sI1, o322_9⟩
  · exact ⟨mn_sK, o322_12⟩
  · exact ⟨mn_sRI, o322_13⟩
  · exact ⟨mn_sK, o322_14⟩
  · exact ⟨mn_sSI, o322_15⟩
  · exact ⟨mn_sLI, o322_16⟩
  · exact ⟨mn_sSw, o322_17⟩
  · exact ⟨mn_sX, ok_X⟩
theorem oc322_2 : ∀ pc, Mnp (c322_2 pc) ∧ Okp RX12 cX12_about 4 (some .int) "about" false pc (c322_2 pc) := by
  intro pc
  unfold c322_2
  split
  · exact ⟨mn_sLR, o322_60⟩
  · exact ⟨mn_sGI, o322_61⟩
  · exact ⟨mn_sRI, o322_64⟩
  · exact ⟨mn_sK, o322_65⟩
  · exact ⟨mn_sSI, o322_66⟩
  · exact ⟨mn_sLI, o322_67⟩
  · exact ⟨mn_sK, o322_68⟩
  · exact ⟨mn_sI2, o322_70⟩
  · exact ⟨mn_sX, ok_X⟩
theorem oc322_3 : ∀ pc, Mnp (c322_3 pc) ∧ Okp RX12 cX12_about 4 (some .int) "about" false pc (c322_3 pc) := by
  intro pc
  unfold c322_3
  split
  · exact ⟨mn_sLR, o322_73⟩
  · exact ⟨mn_sGR, o322_74⟩
  · exact ⟨mn_sLI, o322_77⟩
  · exact ⟨mn_sIA, o322_78⟩
  · exact ⟨mn_sK, o322_79⟩
  · exact ⟨mn_sI2, o322_80⟩
  · exact ⟨mn_sLR, o322_83⟩
  · exact ⟨mn_sLI, o322_84⟩
  · exact ⟨mn_sCV, o322_85⟩
  · exact ⟨mn_sI1, o322_88⟩
  · exact ⟨mn_sK, o322_91⟩
  · exact ⟨mn_sRI, o322_92⟩
  · exact ⟨mn_sInc, o322_93⟩
  · exact ⟨mn_sX, ok_X⟩
theorem oc322_4 : ∀ pc, Mnp (c322_4 pc) ∧ Okp RX12 cX12_about 4 (some .int) "about" false pc (c322_4 pc) := by
  intro pc
  unfold c322_4
  split
  · exact ⟨mn_sGo, o322_96⟩
  · exact ⟨mn_sK, o322_99⟩
  · exact ⟨mn_sRI, o322_100⟩
  · exact ⟨mn_sK, o322_101⟩
  · exact ⟨mn_sSI, o322_102⟩
  · exact ⟨mn_sLI, o322_103⟩
  · exact ⟨mn_sK, o322_104⟩
  · exact ⟨mn_sI2, o322_106⟩
  · exact ⟨mn_sLI, o322_109⟩
  · exact ⟨mn_sLR, o322_110⟩
  · exact ⟨mn_sGR, o322_111⟩
  · exact ⟨mn_sLI, o322_114⟩
  · exact ⟨mn_sIA, o322_115⟩
  · exact ⟨mn_sK, o322_116⟩
  · exact ⟨mn_sI2, o322_117⟩
  · exact ⟨mn_sX, ok_X⟩
theorem oc322_5 : ∀ pc, Mnp (c322_5 pc) ∧ Okp RX12 cX12_about 4 (some .int) "about" false pc (c322_5 pc) := by
  intro pc
  unfold c322_5
  split
  · exact ⟨mn_sK, o322_120⟩
  · exact ⟨mn_sGo, o322_121⟩
  · exact ⟨mn_sK, o322_124⟩
  · exact ⟨mn_sB2, o322_125⟩
  · exact ⟨mn_sSI, o322_126⟩
  · exact ⟨mn_sInc, o322_127⟩
  · exact ⟨mn_sGo, o322_130⟩
  · exact ⟨mn_sLI, o322_133⟩
  · exact ⟨mn_sRI, o322_134⟩
  · exact ⟨mn_sK, o322_135⟩
  · exact ⟨mn_sSI, o322_136⟩
  · exact ⟨mn_sLI, o322_137⟩
  · exact ⟨mn_sK, o322_138⟩
  · exact ⟨mn_sI2, o322_140⟩
  · exact ⟨mn_sLI, o322_143⟩
  · exact ⟨mn_sX, ok_X⟩
theorem oc322_6 : ∀ pc, Mnp (c322_6 pc) ∧ Okp RX12 cX12_about 4 (some .int) "about" false pc (c322_6 pc) := by
  intro pc
  unfold c322_6
  split
  · exact ⟨mn_sLR, o322_144⟩
  · exact ⟨mn_sLI, o322_145⟩
  · exact ⟨mn_sCV, o322_146⟩
  · exact ⟨mn_sI1, o322_149⟩
  · exact ⟨mn_sK, o322_152⟩
  · exact ⟨mn_sGo, o322_153⟩
  · exact ⟨mn_sK, o322_156⟩
  · exact ⟨mn_sB2, o322_157⟩
  · exact ⟨mn_sSI, o322_158⟩
  · exact ⟨mn_sInc, o322_159⟩
  · exact ⟨mn_sGo, o322_162⟩
  · exact ⟨mn_sLI, o322_165⟩
  · exact ⟨mn_sRI, o322_166⟩
  · exact ⟨mn_sK, o322_167⟩
  · exact ⟨mn_sX, ok_X⟩
theorem oc322_7 : ∀ pc, Mnp (c322_7 pc) ∧ Okp RX12 cX12_about 4 (some .int) "about" false pc (c322_7 pc) := by
  intro pc
  unfold c322_7
  split
  · exact ⟨mn_sSI, o322_168⟩
  · exact ⟨mn_sLI, o322_169⟩
  · exact ⟨mn_sK, o322_170⟩
  · exact ⟨mn_sI2, o322_173⟩
  · exact ⟨mn_sLI, o322_176⟩
  · exact ⟨mn_sLR, o322_177⟩
  · exact ⟨mn_sGR, o322_178⟩
  · exact ⟨mn_sLI, o322_181⟩
  · exact ⟨mn_sIA, o322_182⟩
  · exact ⟨mn_sK, o322_183⟩
  · exact ⟨mn_sI2, o322_184⟩
  · exact ⟨mn_sK, o322_187⟩
  · exact ⟨mn_sGo, o322_188⟩
  · exact ⟨mn_sK, o322_191⟩
  · exact ⟨mn_sX, ok_X⟩
theorem oc322_8 : ∀ pc, Mnp (c322_8 pc) ∧ Okp RX12 cX12_about 4 (some .int) "about" false pc (c322_8 pc) := by
  intro pc
  unfold c322_8
  split
  · exact ⟨mn_sB2, o322_192⟩
  · exact ⟨mn_sSI, o322_193⟩
  · exact ⟨mn_sInc, o322_194⟩
  · exact ⟨mn_sGo, o322_197⟩
  · exact ⟨mn_sLI, o322_200⟩
  · exact ⟨mn_sRI, o322_201⟩
  · exact ⟨mn_sLR, o322_202⟩
  · exact ⟨mn_sCV, o322_203⟩
  · exact ⟨mn_sRI, o322_206⟩
  · exact ⟨mn_sLR, o322_207⟩
  · exact ⟨mn_sGI, o322_208⟩
  · exact ⟨mn_sRI, o322_211⟩
  · exact ⟨mn_sK, o322_212⟩
  · exact ⟨mn_sRI, o322_213⟩
  · exact ⟨mn_sX, ok_X⟩
theorem oc322 : ∀ pc, Mnp (c322 pc) ∧ Okp RX12 cX12_about 4 (some .int) "about" false pc (c322 pc) := by
  intro pc
  unfold c322
  split
  · exact oc322_0 pc
  · exact oc322_2 pc
  · exact oc322_3 pc
  · exact oc322_4 pc
  · exact oc322_5 pc
  · exact oc322_6 pc
  · exact oc322_7 pc
  · exact oc322_8 pc
  · exact ⟨mn_sX, ok_X⟩
theorem o323_0 : Okp RX12 cX12_process 4 (some .int) "process" false 0 (sLR 0 1) := ok_aload_n (by decide +kernel : decode cX12_process 0 = .ok (.aload_n 0, 1)) rfl
theorem o323_1 : Okp RX12 cX12_process 4 (some .int) "process" false 1 (sK 0 2) := ok_iconst (by decide +kernel : decode cX12_process 1 = .ok (.iconst 0, 1)) (by decide)
theorem o323_2 : Okp RX12 cX12_process 4 (some .int) "process" false 2 (sPI 13 0 5) := ok_putI (by decide +kernel : decode cX12_process 2 = .ok (.putfield 227, 3)) fw_X12_227 ⟨⟨tyX12_ok, nmX12⟩, Or.inl rfl, rfl⟩ rfl
theorem o323_5 : Okp RX12 cX12_process 4 (some .int) "process" false 5 (sLR 0 6) := ok_aload_n (by decide +kernel : decode cX12_process 5 = .ok (.aload_n 0, 1)) rfl
theorem o323_6 : Okp RX12 cX12_process 4 (some .int) "process" false 6 (sGI 13 51 9) := ok_getI (by decide +kernel : decode cX12_process 6 = .ok (.getfield 457, 3)) fw_X12_457 rfl
theorem o323_9 : Okp RX12 cX12_process 4 (some .int) "process" false 9 (sI1 0 24 12) := ok_if_eq (by decide +kernel : decode cX12_process 9 = .ok (.ifCond .eq 15, 3)) (by decide)
theorem o323_12 : Okp RX12 cX12_process 4 (some .int) "process" false 12 (sLI 1 13) := ok_iload_n (by decide +kernel : decode cX12_process 12 = .ok (.iload_n 1, 1)) rfl
theorem o323_13 : Okp RX12 cX12_process 4 (some .int) "process" false 13 (sI1 2 24 16) := ok_if_lt (by decide +kernel : decode cX12_process 13 = .ok (.ifCond .lt 11, 3)) (by decide)
theorem o323_16 : Okp RX12 cX12_process 4 (some .int) "process" false 16 (sLI 1 17) := ok_iload_n (by decide +kernel : decode cX12_process 16 = .ok (.iload_n 1, 1)) rfl
theorem o323_17 : Okp RX12 cX12_process 4 (some .int) "process" false 17 (sLR 0 18) := ok_aload_n (by decide +kernel : decode cX12_process 17 = .ok (.aload_n 0, 1)) rfl
theorem o323_18 : Okp RX12 cX12_process 4 (some .int) "process" false 18 (sGI 13 56 21) := ok_getI (by decide +kernel : decode cX12_process 18 = .ok (.getfield 472, 3)) fw_X12_472 rfl
theorem o323_21 : Okp RX12 cX12_process 4 (some .int) "process" false 21 (sI2 2 26 24) := ok_icmp_lt (by decide +kernel : decode cX12_process 21 = .ok (.if_icmp .lt 5, 3)) (by decide)
theorem o323_24 : Okp RX12 cX12_process 4 (some .int) "process" false 24 (sK (-1) 25) := ok_iconst (by decide +kernel : decode cX12_process 24 = .ok (.iconst (-1), 1)) (by decide)
theorem o323_25 : Okp RX12 cX12_process 4 (some .int) "process" false 25 sRI := ok_iret rfl (by decide +kernel : decode cX12_process 25 = .ok (.ireturn, 1))
theorem o323_26 : Okp RX12 cX12_process 4 (some .int) "process" false 26 (sLR 0 27) := ok_aload_n (by decide +kernel : decode cX12_process 26 = .ok (.aload_n 0, 1)) rfl
theorem o323_27 : Okp RX12 cX12_process 4 (some .int) "process" false 27 (sGR 13 59 30) := ok_getR (by decide +kernel : decode cX12_process 27 = .ok (.getfield 137, 3)) fw_X12_137 rfl
theorem o323_30 : Okp RX12 cX12_process 4 (some .int) "process" false 30 (sLI 1 31) := ok_iload_n (by decide +kernel : decode cX12_process 30 = .ok (.iload_n 1, 1)) rfl
theorem o323_31 : Okp RX12 cX12_process 4 (some .int) "process" false 31 (sIA 32) := ok_iaload (by decide +kernel : decode cX12_process 31 = .ok (.iaload, 1))
theorem o323_32 : Okp RX12 cX12_process 4 (some .int) "process" false 32 (sK 4 33) := ok_iconst (by decide +kernel : decode cX12_process 32 = .ok (.iconst 4, 1)) (by decide)
theorem o323_33 : Okp RX12 cX12_process 4 (some .int) "process" false 33 (sI2 3 40 36) := ok_icmp_ge (by decide +kernel : decode cX12_process 33 = .ok (.if_icmp .ge 7, 3)) (by decide)
theorem o323_36 : Okp RX12 cX12_process 4 (some .int) "process" false 36 (sK 1 37) := ok_iconst (by decide +kernel : decode cX12_process 36 = .ok (.iconst 1, 1)) (by decide)
theorem o323_37 : Okp RX12 cX12_process 4 (some .int) "process" false 37 (sGo 41) := ok_goto (by decide +kernel : decode cX12_process 37 = .ok (.goto 4, 3)) (by decide)
theorem o323_40 : Okp RX12 cX12_process 4 (some .int) "process" false 40 (sK 0 41) := ok_iconst (by decide +kernel : decode cX12_process 40 = .ok (.iconst 0, 1)) (by decide)
theorem o323_41 : Okp RX12 cX12_process 4 (some .int) "process" false 41 (sSI 3 42) := ok_istore_n (by decide +kernel : decode cX12_process 41 = .ok (.istore_n 3, 1)) rfl (by decide) (by decide)
theorem o323_42 : Okp RX12 cX12_process 4 (some .int) "process" false 42 (sLI 2 43) := ok_iload_n (by decide +kernel : decode cX12_process 42 = .ok (.iload_n 2, 1)) rfl
theorem o323_43 : Okp RX12 cX12_process 4 (some .int) "process" false 43 (sSw [(0, 96), (1, 103), (2, 110), (3, 120), (4, 139), (5, 158), (6, 173), (7, 192), (8, 206), (9, 213)] 220) := ok_tsw (by decide +kernel : decode cX12_process 43 = .ok (.tableswitch 177 0 9 #[53, 60, 67, 77, 96, 115, 130, 149, 163, 170], 53)) (by decide) (by decide) (by decide)
theorem o323_96 : Okp RX12 cX12_process 4 (some .int) "process" false 96 (sLR 0 97) := ok_aload_n (by decide +kernel : decode cX12_process 96 = .ok (.aload_n 0, 1)) rfl
theorem o323_97 : Okp RX12 cX12_process 4 (some .int) "process" false 97 (sGR 13 59 100) := ok_getR (by decide +kernel : decode cX12_process 97 = .ok (.getfield 137, 3)) fw_X12_137 rfl
theorem o323_100 : Okp RX12 cX12_process 4 (some .int) "process" false 100 (sLI 1 101) := ok_iload_n (by decide +kernel : decode cX12_process 100 = .ok (.iload_n 1, 1)) rfl
theorem o323_101 : Okp RX12 cX12_process 4 (some .int) "process" false 101 (sIA 102) := ok_iaload (by decide +kernel : decode cX12_process 101 = .ok (.iaload, 1))
theorem o323_102 : Okp RX12 cX12_process 4 (some .int) "process" false 102 sRI := ok_iret rfl (by decide +kernel : decode cX12_process 102 = .ok (.ireturn, 1))
theorem o323_103 : Okp RX12 cX12_process 4 (some .int) "process" false 103 (sLR 0 104) := ok_aload_n (by decide +kernel : decode cX12_process 103 = .ok (.aload_n 0, 1)) rfl
theorem o323_104 : Okp RX12 cX12_process 4 (some .int) "process" false 104 (sGR 13 60 107) := ok_getR (by decide +kernel : decode cX12_process 104 = .ok (.getfield 140, 3)) fw_X12_140 rfl
theorem o323_107 : Okp RX12 cX12_process 4 (some .int) "process" false 107 (sLI 1 108) := ok_iload_n (by decide +kernel : decode cX12_process 107 = .ok (.iload_n 1, 1)) rfl
theorem o323_108 : Okp RX12 cX12_process 4 (some .int) "process" false 108 (sIA 109) := ok_iaload (by decide +kernel : decode cX12_process 108 = .ok (.iaload, 1))
theorem o323_109 : Okp RX12 cX12_process 4 (some .int) "process" false 109 sRI := ok_iret rfl (by decide +kernel : decode cX12_process 109 = .ok (.ireturn, 1))
theorem o323_110 : Okp RX12 cX12_process 4 (some .int) "process" false 110 (sLR 0 111) := ok_aload_n (by decide +kernel : decode cX12_process 110 = .ok (.aload_n 0, 1)) rfl
theorem o323_111 : Okp RX12 cX12_process 4 (some .int) "process" false 111 (sGR 13 61 114) := ok_getR (by decide +kernel : decode cX12_process 111 = .ok (.getfield 143, 3)) fw_X12_143 rfl
theorem o323_114 : Okp RX12 cX12_process 4 (some .int) "process" false 114 (sLI 1 115) := ok_iload_n (by decide +kernel : decode cX12_process 114 = .ok (.iload_n 1, 1)) rfl
theorem o323_115 : Okp RX12 cX12_process 4 (some .int) "process" false 115 (sIA 116) := ok_iaload (by decide +kernel : decode cX12_process 115 = .ok (.iaload, 1))
theorem o323_116 : Okp RX12 cX12_process 4 (some .int) "process" false 116 (sK 6 118) := ok_bipush (by decide +kernel : decode cX12_process 116 = .ok (.bipush 6, 2)) (by decide)
theorem o323_118 : Okp RX12 cX12_process 4 (some .int) "process" false 118 (sB2 fSub 119) := ok_isub (by decide +kernel : decode cX12_process 118 = .ok (.isub, 1))
theorem o323_119 : Okp RX12 cX12_process 4 (some .int) "process" false 119 sRI := ok_iret rfl (by decide +kernel : decode cX12_process 119 = .ok (.ireturn, 1))
theorem o323_120 : Okp RX12 cX12_process 4 (some .int) "process" false 120 (sLI 3 121) := ok_iload_n (by decide +kernel : decode cX12_process 120 = .ok (.iload_n 3, 1)) rfl
theorem o323_121 : Okp RX12 cX12_process 4 (some .int) "process" false 121 (sI1 0 137 124) := ok_if_eq (by decide +kernel : decode cX12_process 121 = .ok (.ifCond .eq 16, 3)) (by decide)
theorem o323_124 : Okp RX12 cX12_process 4 (some .int) "process" false 124 (sLR 0 125) := ok_aload_n (by decide +kernel : decode cX12_process 124 = .ok (.aload_n 0, 1)) rfl
theorem o323_125 : Okp RX12 cX12_process 4 (some .int) "process" false 125 (sGR 13 65 128) := ok_getR (by decide +kernel : decode cX12_process 125 = .ok (.getfield 155, 3)) fw_X12_155 rfl
theorem o323_128 : Okp RX12 cX12_process 4 (some .int) "process" false 128 (sLR 0 129) := ok_aload_n (by decide +kernel : decode cX12_process 128 = .ok (.aload_n 0, 1)) rfl
theorem o323_129 : Okp RX12 cX12_process 4 (some .int) "process" false 129 (sLI 1 130) := ok_iload_n (by decide +kernel : decode cX12_process 129 = .ok (.iload_n 1, 1)) rfl
theorem o323_130 : Okp RX12 cX12_process 4 (some .int) "process" false 130 (sCV false 282 2 13 133) := ok_cv (by decide +kernel : decode cX12_process 130 = .ok (.invokevirtual 487, 3)) mw_X12_487 rfl (by decide) wm_X12_act wse_X12_act (by decide) rfl
theorem o323_133 : Okp RX12 cX12_process 4 (some .int) "process" false 133 (sIA 134) := ok_iaload (by decide +kernel : decode cX12_process 133 = .ok (.iaload, 1))
theorem o323_134 : Okp RX12 cX12_process 4 (some .int) "process" false 134 (sGo 138) := ok_goto (by decide +kernel : decode cX12_process 134 = .ok (.goto 4, 3)) (by decide)
theorem o323_137 : Okp RX12 cX12_process 4 (some .int) "process" false 137 (sK 0 138) := ok_iconst (by decide +kernel : decode cX12_process 137 = .ok (.iconst 0, 1)) (by decide)
theorem o323_138 : Okp RX12 cX12_process 4 (some .int) "process" false 138 sRI := ok_iret rfl (by decide +kernel : decode cX12_process 138 = .ok (.ireturn, 1))
theorem o323_139 : Okp RX12 cX12_process 4 (some .int) "process" false 139 (sLI 3 140) := ok_iload_n (by decide +kernel : decode cX12_process 139 = .ok (.iload_n 3, 1)) rfl
theorem o323_140 : Okp RX12 cX12_process 4 (some .int) "process" false 140 (sI1 0 156 143) := ok_if_eq (by decide +kernel : decode cX12_process 140 = .ok (.ifCond .eq 16, 3)) (by decide)
theorem o323_143 : Okp RX12 cX12_process 4 (some .int) "process" false 143 (sLR 0 144) := ok_aload_n (by decide +kernel : decode cX12_process 143 = .ok (.aload_n 0, 1)) rfl
theorem o323_144 : Okp RX12 cX12_process 4 (some .int) "process" false 144 (sGR 13 66 147) := ok_getR (by decide +kernel : decode cX12_process 144 = .ok (.getfield 158, 3)) fw_X12_158 rfl
theorem o323_147 : Okp RX12 cX12_process 4 (some .int) "process" false 147 (sLR 0 148) := ok_aload_n (by decide +kernel : decode cX12_process 147 = .ok (.aload_n 0, 1)) rfl
theorem o323_148 : Okp RX12 cX12_process 4 (some .int) "process" false 148 (sLI 1 149) := ok_iload_n (by decide +kernel : decode cX12_process 148 = .ok (.iload_n 1, 1)) rfl
theorem o323_149 : Okp RX12 cX12_process 4 (some .int) "process" false 149 (sCV false 282 2 13 152) := ok_cv (by decide +kernel : decode cX12_process 149 = .ok (.invokevirtual 487, 3)) mw_X12_487 rfl (by decide) wm_X12_act wse_X12_act (by decide) rfl
theorem o323_152 : Okp RX12 cX12_process 4 (some .int) "process" false 152 (sIA 153) := ok_iaload (by decide +kernel : decode cX12_process 152 = .ok (.iaload, 1))
theorem o323_153 : Okp RX12 cX12_process 4 (some .int) "process" false 153 (sGo 157) := ok_goto (by decide +kernel : decode cX12_process 153 = .ok (.goto 4, 3)) (by decide)
theorem o323_156 : Okp RX12 cX12_process 4 (some .int) "process" false 156 (sK 0 157) := ok_iconst (by decide +kernel : decode cX12_process 156 = .ok (.iconst 0, 1)) (by decide)
theorem o323_157 : Okp RX12 cX12_process 4 (some .int) "process" false 157 sRI := ok_iret rfl (by decide +kernel : decode cX12_process 157 = .ok (.ireturn, 1))
theorem o323_158 : Okp RX12 cX12_process 4 (some .int) "process" false 158 (sLI 3 159) := ok_iload_n (by decide +kernel : decode cX12_process 158 = .ok (.iload_n 3, 1)) rfl
theorem o323_159 : Okp RX12 cX12_process 4 (some .int) "process" false 159 (sI1 0 171 162) := ok_if_eq (by decide +kernel : decode cX12_process 159 = .ok (.ifCond .eq 12, 3)) (by decide)
theorem o323_162 : Okp RX12 cX12_process 4 (some .int) "process" false 162 (sLR 0 163) := ok_aload_n (by decide +kernel : decode cX12_process 162 = .ok (.aload_n 0, 1)) rfl
theorem o323_163 : Okp RX12 cX12_process 4 (some .int) "process" false 163 (sGR 13 64 166) := ok_getR (by decide +kernel : decode cX12_process 163 = .ok (.getfield 152, 3)) fw_X12_152 rfl
theorem o323_166 : Okp RX12 cX12_process 4 (some .int) "process" false 166 (sLI 1 167) := ok_iload_n (by decide +kernel : decode cX12_process 166 = .ok (.iload_n 1, 1)) rfl
theorem o323_167 : Okp RX12 cX12_process 4 (some .int) "process" false 167 (sIA 168) := ok_iaload (by decide +kernel : decode cX12_process 167 = .ok (.iaload, 1))
theorem o323_168 : Okp RX12 cX12_process 4 (some .int) "process" false 168 (sGo 172) := ok_goto (by decide +kernel : decode cX12_process 168 = .ok (.goto 4, 3)) (by decide)
theorem o323_171 : Okp RX12 cX12_process 4 (some .int) "process" false 171 (sK 0 172) := ok_iconst (by decide +kernel : decode cX12_process 171 = .ok (.iconst 0, 1)) (by decide)
theorem o323_172 : Okp RX12 cX12_process 4 (some .int) "process" false 172 sRI := ok_iret rfl (by decide +kernel : decode cX12_process 172 = .ok (.ireturn, 1))
theorem o323_173 : Okp RX12 cX12_process 4 (some .int) "process" false 173 (sLI 3 174) := ok_iload_n (by decide +kernel : decode cX12_process 173 = .ok (.iload_n 3, 1)) rfl
theorem o323_174 : Okp RX12 cX12_process 4 (some .int) "process" false 174 (sI1 0 190 177) := ok_if_eq (by decide +kernel : decode cX12_process 174 = .ok (.ifCond .eq 16, 3)) (by decide)
theorem o323_177 : Okp RX12 cX12_process 4 (some .int) "process" false 177 (sLR 0 178) := ok_aload_n (by decide +kernel : decode cX12_process 177 = .ok (.aload_n 0, 1)) rfl
theorem o323_178 : Okp RX12 cX12_process 4 (some .int) "process" false 178 (sGR 13 67 181) := ok_getR (by decide +kernel : decode cX12_process 178 = .ok (.getfield 161, 3)) fw_X12_161 rfl
theorem o323_181 : Okp RX12 cX12_process 4 (some .int) "process" false 181 (sLR 0 182) := ok_aload_n (by decide +kernel : decode cX12_process 181 = .ok (.aload_n 0, 1)) rfl
theorem o323_182 : Okp RX12 cX12_process 4 (some .int) "process" false 182 (sLI 1 183) := ok_iload_n (by decide +kernel : decode cX12_process 182 = .ok (.iload_n 1, 1)) rfl
theorem o323_183 : Okp RX12 cX12_process 4 (some .int) "process" false 183 (sCV false 282 2 13 186) := ok_cv (by decide +kernel : decode cX12_process 183 = .ok (.invokevirtual 487, 3)) mw_X12_487 rfl (by decide) wm_X12_act wse_X12_act (by decide) rfl
theorem o323_186 : Okp RX12 cX12_process 4 (some .int) "process" false 186 (sIA 187) := ok_iaload (by decide +kernel : decode cX12_process 186 = .ok (.iaload, 1))
theorem o323_187 : Okp RX12 cX12_process 4 (some .int) "process" false 187 (sGo 191) := ok_goto (by decide +kernel : decode cX12_process 187 = .ok (.goto 4, 3)) (by decide)
theorem o323_190 : Okp RX12 cX12_process 4 (some .int) "process" false 190 (sK 0 191) := ok_iconst (by decide +kernel : decode cX12_process 190 = .ok (.iconst 0, 1)) (by decide)
theorem o323_191 : Okp RX12 cX12_process 4 (some .int) "process" false 191 sRI := ok_iret rfl (by decide +kernel : decode cX12_process 191 = .ok (.ireturn, 1))
theorem o323_192 : Okp RX12 cX12_process 4 (some .int) "process" false 192 (sLI 3 193) := ok_iload_n (by decide +kernel : decode cX12_process 192 = .ok (.iload_n 3, 1)) rfl
theorem o323_193 : Okp RX12 cX12_process 4 (some .int) "process" false 193 (sI1 0 204 196) := ok_if_eq (by decide +kernel : decode cX12_process 193 = .ok (.ifCond .eq 11, 3)) (by decide)
theorem o323_196 : Okp RX12 cX12_process 4 (some .int) "process" false 196 (sLR 0 197) := ok_aload_n (by decide +kernel : decode cX12_process 196 = .ok (.aload_n 0, 1)) rfl
theorem o323_197 : Okp RX12 cX12_process 4 (some .int) "process" false 197 (sLI 1 198) := ok_iload_n (by decide +kernel : decode cX12_process 197 = .ok (.iload_n 1, 1)) rfl
theorem o323_198 : Okp RX12 cX12_process 4 (some .int) "process" false 198 (sCV false 289 2 13 201) := ok_cv (by decide +kernel : decode cX12_process 198 = .ok (.invokevirtual 498, 3)) mw_X12_498 rfl (by decide) wm_X12_reach wse_X12_reach (by decide) rfl
theorem o323_201 : Okp RX12 cX12_process 4 (some .int) "process" false 201 (sGo 205) := ok_goto (by decide +kernel : decode cX12_process 201 = .ok (.goto 4, 3)) (by decide)
theorem o323_204 : Okp RX12 cX12_process 4 (some .int) "process" false 204 (sK 0 205) := ok_iconst (by decide +kernel : decode cX12_process 204 = .ok (.iconst 0, 1)) (by decide)
theorem o323_205 : Okp RX12 cX12_process 4 (some .int) "process" false 205 sRI := ok_iret rfl (by decide +kernel : decode cX12_process 205 = .ok (.ireturn, 1))
theorem o323_206 : Okp RX12 cX12_process 4 (some .int) "process" false 206 (sLR 0 207) := ok_aload_n (by decide +kernel : decode cX12_process 206 = .ok (.aload_n 0, 1)) rfl
theorem o323_207 : Okp RX12 cX12_process 4 (some .int) "process" false 207 (sGR 13 62 210) := ok_getR (by decide +kernel : decode cX12_process 207 = .ok (.getfield 146, 3)) fw_X12_146 rfl
theorem o323_210 : Okp RX12 cX12_process 4 (some .int) "process" false 210 (sLI 1 211) := ok_iload_n (by decide +kernel : decode cX12_process 210 = .ok (.iload_n 1, 1)) rfl
theorem o323_211 : Okp RX12 cX12_process 4 (some .int) "process" false 211 (sIA 212) := ok_iaload (by decide +kernel : decode cX12_process 211 = .ok (.iaload, 1))
theorem o323_212 : Okp RX12 cX12_process 4 (some .int) "process" false 212 sRI := ok_iret rfl (by decide +kernel : decode cX12_process 212 = .ok (.ireturn, 1))
theorem o323_213 : Okp RX12 cX12_process 4 (some .int) "process" false 213 (sLR 0 214) := ok_aload_n (by decide +kernel : decode cX12_process 213 = .ok (.aload_n 0, 1)) rfl
theorem o323_214 : Okp RX12 cX12_process 4 (some .int) "process" false 214 (sGR 13 63 217) := ok_getR (by decide +kernel : decode cX12_process 214 = .ok (.getfield 149, 3)) fw_X12_149 rfl
theorem o323_217 : Okp RX12 cX12_process 4 (some .int) "process" false 217 (sLI 1 218) := ok_iload_n (by decide +kernel : decode cX12_process 217 = .ok (.iload_n 1, 1)) rfl
theorem o323_218 : Okp RX12 cX12_process 4 (some .int) "process" false 218 (sIA 219) := ok_iaload (by decide +kernel : decode cX12_process 218 = .ok (.iaload, 1))
theorem o323_219 : Okp RX12 cX12_process 4 (some .int) "process" false 219 sRI := ok_iret rfl (by decide +kernel : decode cX12_process 219 = .ok (.ireturn, 1))
theorem o323_220 : Okp RX12 cX12_process 4 (some .int) "process" false 220 (sK (-1) 221) := ok_iconst (by decide +kernel : decode cX12_process 220 = .ok (.iconst (-1), 1)) (by decide)
theorem o323_221 : Okp RX12 cX12_process 4 (some .int) "process" false 221 sRI := ok_iret rfl (by decide +kernel : decode cX12_process 221 = .ok (.ireturn, 1))
theorem oc323_0 : ∀ pc, Mnp (c323_0 pc) ∧ Okp RX12 cX12_process 4 (some .int) "process" false pc (c323_0 pc) := by
  intro pc
  unfold c323_0
  split
  · exact ⟨mn_sLR, o323_0⟩
  · exact ⟨mn_sK, o323_1⟩
  · exact ⟨mn_sPI, o323_2⟩
  · exact ⟨mn_sLR, o323_5⟩
  · exact ⟨mn_sGI, o323_6⟩
  · exact ⟨mn_sI1, o323_9⟩
  · exact ⟨mn_sLI, o323_12⟩
  · exact ⟨mn_sI1, o323_13⟩
  · exact ⟨mn_sLI, o323_16⟩
  · exact ⟨mn_sLR, o323_17⟩
  · exact ⟨mn_sGI, o323_18⟩
  · exact ⟨mn_sI2, o323_21⟩
  · exact ⟨mn_sX, ok_X⟩
theorem oc323_1 : ∀ pc, Mnp (c323_1 pc) ∧ Okp RX12 cX12_process 4 (some .int) "process" false pc (c323_1 pc) := by
  intro pc
  unfold c323_1
  split
  · exact ⟨mn_sK, o323_24⟩
  · exact ⟨mn_sRI, o323_25⟩
  · exact ⟨mn_sLR, o323_26⟩
  · exact ⟨mn_sGR, o323_27⟩
  · exact ⟨mn_sLI, o323_30⟩
  · exact ⟨mn_sIA, o323_31⟩
  · exact ⟨mn_sK, o323_32⟩
  · exact ⟨mn_sI2, o323_33⟩
  · exact ⟨mn_sK, o323_36⟩
  · exact ⟨mn_sGo, o323_37⟩
  · exact ⟨mn_sK, o323_40⟩
  · exact ⟨mn_sSI, o323_41⟩
  · exact ⟨mn_sLI, o323_42⟩
  · exact ⟨mn_sSw, o323_43⟩
  · exact ⟨mn_sX, ok_X⟩
theorem oc323_4 : ∀ pc, Mnp (c323_4 pc) ∧ Okp RX12 cX12_process 4 (some .int) "process" false pc (c323_4 pc) := by
  intro pc
  unfold c323_4
  split
  · exact ⟨mn_sLR, o323_96⟩
  · exact ⟨mn_sGR, o323_97⟩
  · exact ⟨mn_sLI, o323_100⟩
  · exact ⟨mn_sIA, o323_101⟩
  · exact ⟨mn_sRI, o323_102⟩
  · exact ⟨mn_sLR, o323_103⟩
  · exact ⟨mn_sGR, o323_104⟩
  · exact ⟨mn_sLI, o323_107⟩
  · exact ⟨mn_sIA, o323_108⟩
  · exact ⟨mn_sRI, o323_109⟩
  · exact ⟨mn_sLR, o323_110⟩
  · exact ⟨mn_sGR, o323_111⟩
  · exact ⟨mn_sLI, o323_114⟩
  · exact ⟨mn_sIA, o323_115⟩
  · exact ⟨mn_sK, o323_116⟩
  · exact ⟨mn_sB2, o323_118⟩
  · exact ⟨mn_sRI, o323_119⟩
  · exact ⟨mn_sX, ok_X⟩
theorem oc323_5 : ∀ pc, Mnp (c323_5 pc) ∧ Okp RX12 cX12_process 4 (some .int) "process" false pc (c323_5 pc) := by
  intro pc
  unfold c323_5
  split
  · exact ⟨mn_sLI, o323_120⟩
  · exact ⟨mn_sI1, o323_121⟩
  · exact ⟨mn_sLR, o323_124⟩
  · exact ⟨mn_sGR, o323_125⟩
  · exact ⟨mn_sLR, o323_128⟩
  · exact ⟨mn_sLI, o323_129⟩
  · exact ⟨mn_sCV, o323_130⟩
  · exact ⟨mn_sIA, o323_133⟩
  · exact ⟨mn_sGo, o323_134⟩
  · exact ⟨mn_sK, o323_137⟩
  · exact ⟨mn_sRI, o323_138⟩
  · exact ⟨mn_sLI, o323_139⟩
  · exact ⟨mn_sI1, o323_140⟩
  · exact ⟨mn_sLR, o323_143⟩
  · exact ⟨mn_sX, ok_X⟩
theorem oc323_6 : ∀ pc, Mnp (c323_6 pc) ∧ Okp RX12 cX12_process 4 (some .int) "process" false pc (c323_6 pc) := by
  intro pc
  unfold c323_6
  split
  · exact ⟨mn_sGR, o323_144⟩
  · exact ⟨mn_sLR, o323_147⟩
  · exact ⟨mn_sLI, o323_148⟩
  · exact ⟨mn_sCV, o323_149⟩
  · exact ⟨mn_sIA, o323_152⟩
  · exact ⟨mn_sGo, o323_153⟩
  · exact ⟨mn_sK, o323_156⟩
  · exact ⟨mn_sRI, o323_157⟩
  · exact ⟨mn_sLI, o323_158⟩
  · exact ⟨mn_sI1, o323_159⟩
  · exact ⟨mn_sLR, o323_162⟩
  · exact ⟨mn_sGR, o323_163⟩
  · exact ⟨mn_sLI, o323_166⟩
  · exact ⟨mn_sIA, o323_167⟩
  · exact ⟨mn_sX, ok_X⟩
theorem oc323_7 : ∀ pc, Mnp (c323_7 pc) ∧ Okp RX12 cX12_process 4 (some .int) "process" false pc (c323_7 pc) := by
  intro pc
  unfold c323_7
  split
  · exact ⟨mn_sGo, o323_168⟩
  · exact ⟨mn_sK, o323_171⟩
  · exact ⟨mn_sRI, o323_172⟩
  · exact ⟨mn_sLI, o323_173⟩
  · exact ⟨mn_sI1, o323_174⟩
  · exact ⟨mn_sLR, o323_177⟩
  · exact ⟨mn_sGR, o323_178⟩
  · exact ⟨mn_sLR, o323_181⟩
  · exact ⟨mn_sLI, o323_182⟩
  · exact ⟨mn_sCV, o323_183⟩
  · exact ⟨mn_sIA, o323_186⟩
  · exact ⟨mn_sGo, o323_187⟩
  · exact ⟨mn_sK, o323_190⟩
  · exact ⟨mn_sRI, o323_191⟩
  · exact ⟨mn_sX, ok_X⟩
theorem oc323_8 : ∀ pc, Mnp (c323_8 pc) ∧ Okp RX12 cX12_process 4 (some .int) "process" false pc (c323_8 pc) := by
  intro pc
  unfold c323_8
  split
  · exact ⟨mn_sLI, o323_192⟩
  · exact ⟨mn_sI1, o323_193⟩
  · exact ⟨mn_sLR, o323_196⟩
  · exact ⟨mn_sLI, o323_197⟩
  · exact ⟨mn_sCV, o323_198⟩
  · exact ⟨mn_sGo, o323_201⟩
  · exact ⟨mn_sK, o323_204⟩
  · exact ⟨mn_sRI, o323_205⟩
  · exact ⟨mn_sLR, o323_206⟩
  · exact ⟨mn_sGR, o323_207⟩
  · exact ⟨mn_sLI, o323_210⟩
  · exact ⟨mn_sIA, o323_211⟩
  · exact ⟨mn_sRI, o323_212⟩
  · exact ⟨mn_sLR, o323_213⟩
  · exact ⟨mn_sGR, o323_214⟩
  · exact ⟨mn_sX, ok_X⟩
theorem oc323_9 : ∀ pc, Mnp (c323_9 pc) ∧ Okp RX12 cX12_process 4 (some .int) "process" false pc (c323_9 pc) := by
  intro pc
  unfold c323_9
  split
  · exact ⟨mn_sLI, o323_217⟩
  · exact ⟨mn_sIA, o323_218⟩
  · exact ⟨mn_sRI, o323_219⟩
  · exact ⟨mn_sK, o323_220⟩
  · exact ⟨mn_sRI, o323_221⟩
  · exact ⟨mn_sX, ok_X⟩
theorem oc323 : ∀ pc, Mnp (c323 pc) ∧ Okp RX12 cX12_process 4 (some .int) "process" false pc (c323 pc) := by
  intro pc
  unfold c323
  split
  · exact oc323_0 pc
  · exact oc323_1 pc
  · exact oc323_4 pc
  · exact oc323_5 pc
  · exact oc323_6 pc
  · exact oc323_7 pc
  · exact oc323_8 pc
  · exact oc323_9 pc
  · exact ⟨mn_sX, ok_X⟩
theorem o324_0 : Okp RX12 cX12_value 6 (some .int) "value" false 0 (sLR 0 1) := ok_aload_n (by decide +kernel : decode cX12_value 0 = .ok (.aload_n 0, 1)) rfl
theorem o324_1 : Okp RX12 cX12_value 6 (some .int) "value" false 1 (sK 0 2) := ok_iconst (by decide +kernel : decode cX12_value 1 = .ok (.iconst 0, 1)) (by decide)
theorem o324_2 : Okp RX12 cX12_value 6 (some .int) "value" false 2 (sPI 13 0 5) := ok_putI (by decide +kernel : decode cX12_value 2 = .ok (.putfield 227, 3)) fw_X12_227 ⟨⟨tyX12_ok, nmX12⟩, Or.inl rfl, rfl⟩ rfl
theorem o324_5 : Okp RX12 cX12_value 6 (some .int) "value" false 5 (sK (-2147483648) 8) := ok_ldcw (by decide +kernel : decode cX12_value 5 = .ok (.ldc_w 600, 3)) wk_X12_600 (by decide)
theorem o324_8 : Okp RX12 cX12_value 6 (some .int) "value" false 8 (sSI 4 10) := ok_istore (by decide +kernel : decode cX12_value 8 = .ok (.istore 4, 2)) (by decide) (by decide)
theorem o324_10 : Okp RX12 cX12_value 6 (some .int) "value" false 10 (sLR 0 11) := ok_aload_n (by decide +kernel : decode cX12_value 10 = .ok (.aload_n 0, 1)) rfl
theorem o324_11 : Okp RX12 cX12_value 6 (some .int) "value" false 11 (sGI 13 51 14) := ok_getI (by decide +kernel : decode cX12_value 11 = .ok (.getfield 457, 3)) fw_X12_457 rfl
theorem o324_14 : Okp RX12 cX12_value 6 (some .int) "value" false 14 (sI1 0 52 17) := ok_if_eq (by decide +kernel : decode cX12_value 14 = .ok (.ifCond .eq 38, 3)) (by decide)
theorem o324_17 : Okp RX12 cX12_value 6 (some .int) "value" false 17 (sLI 1 18) := ok_iload_n (by decide +kernel : decode cX12_value 17 = .ok (.iload_n 1, 1)) rfl
theorem o324_18 : Okp RX12 cX12_value 6 (some .int) "value" false 18 (sI1 2 52 21) := ok_if_lt (by decide +kernel : decode cX12_value 18 = .ok (.ifCond .lt 34, 3)) (by decide)
theorem o324_21 : Okp RX12 cX12_value 6 (some .int) "value" false 21 (sLI 1 22) := ok_iload_n (by decide +kernel : decode cX12_value 21 = .ok (.iload_n 1, 1)) rfl
theorem o324_22 : Okp RX12 cX12_value 6 (some .int) "value" false 22 (sLR 0 23) := ok_aload_n (by decide +kernel : decode cX12_value 22 = .ok (.aload_n 0, 1)) rfl
theorem o324_23 : Okp RX12 cX12_value 6 (some .int) "value" false 23 (sGI 13 56 26) := ok_getI (by decide +kernel : decode cX12_value 23 = .ok (.getfield 472, 3)) fw_X12_472 rfl
theorem o324_26 : Okp RX12 cX12_value 6 (some .int) "value" false 26 (sI2 3 52 29) := ok_icmp_ge (by decide +kernel : decode cX12_value 26 = .ok (.if_icmp .ge 26, 3)) (by decide)
theorem o324_29 : Okp RX12 cX12_value 6 (some .int) "value" false 29 (sLR 0 30) := ok_aload_n (by decide +kernel : decode cX12_value 29 = .ok (.aload_n 0, 1)) rfl
theorem o324_30 : Okp RX12 cX12_value 6 (some .int) "value" false 30 (sGR 13 59 33) := ok_getR (by decide +kernel : decode cX12_value 30 = .ok (.getfield 137, 3)) fw_X12_137 rfl
theorem o324_33 : Okp RX12 cX12_value 6 (some .int) "value" false 33 (sLI 1 34) := ok_iload_n (by decide +kernel : decode cX12_value 33 = .ok (.iload_n 1, 1)) rfl
theorem o324_34 : Okp RX12 cX12_value 6 (some .int) "value" false 34 (sIA 35) := ok_iaload (by decide +kernel : decode cX12_value 34 = .ok (.iaload, 1))
theorem o324_35 : Okp RX12 cX12_value 6 (some .int) "value" false 35 (sK 4 36) := ok_iconst (by decide +kernel : decode cX12_value 35 = .ok (.iconst 4, 1)) (by decide)
theorem o324_36 : Okp RX12 cX12_value 6 (some .int) "value" false 36 (sI2 3 52 39) := ok_icmp_ge (by decide +kernel : decode cX12_value 36 = .ok (.if_icmp .ge 16, 3)) (by decide)
theorem o324_39 : Okp RX12 cX12_value 6 (some .int) "value" false 39 (sLI 2 40) := ok_iload_n (by decide +kernel : decode cX12_value 39 = .ok (.iload_n 2, 1)) rfl
theorem o324_40 : Okp RX12 cX12_value 6 (some .int) "value" false 40 (sI1 0 48 43) := ok_if_eq (by decide +kernel : decode cX12_value 40 = .ok (.ifCond .eq 8, 3)) (by decide)
theorem o324_43 : Okp RX12 cX12_value 6 (some .int) "value" false 43 (sLI 2 44) := ok_iload_n (by decide +kernel : decode cX12_value 43 = .ok (.iload_n 2, 1)) rfl
theorem o324_44 : Okp RX12 cX12_value 6 (some .int) "value" false 44 (sK 1 45) := ok_iconst (by decide +kernel : decode cX12_value 44 = .ok (.iconst 1, 1)) (by decide)
theorem o324_45 : Okp RX12 cX12_value 6 (some .int) "value" false 45 (sI2 1 52 48) := ok_icmp_ne (by decide +kernel : decode cX12_value 45 = .ok (.if_icmp .ne 7, 3)) (by decide)
theorem o324_48 : Okp RX12 cX12_value 6 (some .int) "value" false 48 (sLI 3 49) := ok_iload_n (by decide +kernel : decode cX12_value 48 = .ok (.iload_n 3, 1)) rfl
theorem o324_49 : Okp RX12 cX12_value 6 (some .int) "value" false 49 (sI1 3 55 52) := ok_if_ge (by decide +kernel : decode cX12_value 49 = .ok (.ifCond .ge 6, 3)) (by decide)
theorem o324_52 : Okp RX12 cX12_value 6 (some .int) "value" false 52 (sLI 4 54) := ok_iload (by decide +kernel : decode cX12_value 52 = .ok (.iload 4, 2))
theorem o324_54 : Okp RX12 cX12_value 6 (some .int) "value" false 54 sRI := ok_iret rfl (by decide +kernel : decode cX12_value 54 = .ok (.ireturn, 1))
theorem o324_55 : Okp RX12 cX12_value 6 (some .int) "value" false 55 (sLI 3 56) := ok_iload_n (by decide +kernel : decode cX12_value 55 = .ok (.iload_n 3, 1)) rfl
theorem o324_56 : Okp RX12 cX12_value 6 (some .int) "value" false 56 (sLI 2 57) := ok_iload_n (by decide +kernel : decode cX12_value 56 = .ok (.iload_n 2, 1)) rfl
theorem o324_57 : Okp RX12 cX12_value 6 (some .int) "value" false 57 (sI1 1 73 60) := ok_if_ne (by decide +kernel : decode cX12_value 57 = .ok (.ifCond .ne 16, 3)) (by decide)
theorem o324_60 : Okp RX12 cX12_value 6 (some .int) "value" false 60 (sLR 0 61) := ok_aload_n (by decide +kernel : decode cX12_value 60 = .ok (.aload_n 0, 1)) rfl
theorem o324_61 : Okp RX12 cX12_value 6 (some .int) "value" false 61 (sGR 13 67 64) := ok_getR (by decide +kernel : decode cX12_value 61 = .ok (.getfield 161, 3)) fw_X12_161 rfl
theorem o324_64 : Okp RX12 cX12_value 6 (some .int) "value" false 64 (sLR 0 65) := ok_aload_n (by decide +kernel : decode cX12_value 64 = .ok (.aload_n 0, 1)) rfl
theorem o324_65 : Okp RX12 cX12_value 6 (some .int) "value" false 65 (sLI 1 66) := ok_iload_n (by decide +kernel : decode cX12_value 65 = .ok (.iload_n 1, 1)) rfl
theorem o324_66 : Okp RX12 cX12_value 6 (some .int) "value" false 66 (sCV false 282 2 13 69) := ok_cv (by decide +kernel : decode cX12_value 66 = .ok (.invokevirtual 487, 3)) mw_X12_487 rfl (by decide) wm_X12_act wse_X12_act (by decide) rfl
theorem o324_69 : Okp RX12 cX12_value 6 (some .int) "value" false 69 (sIA 70) := ok_iaload (by decide +kernel : decode cX12_value 69 = .ok (.iaload, 1))
theorem o324_70 : Okp RX12 cX12_value 6 (some .int) "value" false 70 (sGo 83) := ok_goto (by decide +kernel : decode cX12_value 70 = .ok (.goto 13, 3)) (by decide)
theorem o324_73 : Okp RX12 cX12_value 6 (some .int) "value" false 73 (sLR 0 74) := ok_aload_n (by decide +kernel : decode cX12_value 73 = .ok (.aload_n 0, 1)) rfl
theorem o324_74 : Okp RX12 cX12_value 6 (some .int) "value" false 74 (sGR 13 19 77) := ok_getR (by decide +kernel : decode cX12_value 74 = .ok (.getfield 63, 3)) fw_X12_63 rfl
theorem o324_77 : Okp RX12 cX12_value 6 (some .int) "value" false 77 (sLR 0 78) := ok_aload_n (by decide +kernel : decode cX12_value 77 = .ok (.aload_n 0, 1)) rfl
theorem o324_78 : Okp RX12 cX12_value 6 (some .int) "value" false 78 (sLI 1 79) := ok_iload_n (by decide +kernel : decode cX12_value 78 = .ok (.iload_n 1, 1)) rfl
theorem o324_79 : Okp RX12 cX12_value 6 (some .int) "value" false 79 (sCV false 301 2 13 82) := ok_cv (by decide +kernel : decode cX12_value 79 = .ok (.invokevirtual 522, 3)) mw_X12_522 rfl (by decide) wm_X12_function wse_X12_function (by decide) rfl
theorem o324_82 : Okp RX12 cX12_value 6 (some .int) "value" false 82 (sIA 83) := ok_iaload (by decide +kernel : decode cX12_value 82 = .ok (.iaload, 1))
theorem o324_83 : Okp RX12 cX12_value 6 (some .int) "value" false 83 (sI2 2 89 86) := ok_icmp_lt (by decide +kernel : decode cX12_value 83 = .ok (.if_icmp .lt 6, 3)) (by decide)
theorem o324_86 : Okp RX12 cX12_value 6 (some .int) "value" false 86 (sLI 4 88) := ok_iload (by decide +kernel : decode cX12_value 86 = .ok (.iload 4, 2))
theorem o324_88 : Okp RX12 cX12_value 6 (some .int) "value" false 88 sRI := ok_iret rfl (by decide +kernel : decode cX12_value 88 = .ok (.ireturn, 1))
theorem o324_89 : Okp RX12 cX12_value 6 (some .int) "value" false 89 (sLI 2 90) := ok_iload_n (by decide +kernel : decode cX12_value 89 = .ok (.iload_n 2, 1)) rfl
theorem o324_90 : Okp RX12 cX12_value 6 (some .int) "value" false 90 (sI1 1 102 93) := ok_if_ne (by decide +kernel : decode cX12_value 90 = .ok (.ifCond .ne 12, 3)) (by decide)
theorem o324_93 : Okp RX12 cX12_value 6 (some .int) "value" false 93 (sLR 0 94) := ok_aload_n (by decide +kernel : decode cX12_value 93 = .ok (.aload_n 0, 1)) rfl
theorem o324_94 : Okp RX12 cX12_value 6 (some .int) "value" false 94 (sLI 1 95) := ok_iload_n (by decide +kernel : decode cX12_value 94 = .ok (.iload_n 1, 1)) rfl
theorem o324_95 : Okp RX12 cX12_value 6 (some .int) "value" false 95 (sLI 3 96) := ok_iload_n (by decide +kernel : decode cX12_value 95 = .ok (.iload_n 3, 1)) rfl
theorem o324_96 : Okp RX12 cX12_value 6 (some .int) "value" false 96 (sCV false 284 3 13 99) := ok_cv (by decide +kernel : decode cX12_value 96 = .ok (.invokevirtual 490, 3)) mw_X12_490 rfl (by decide) wm_X12_stack wse_X12_stack (by decide) rfl
theorem o324_99 : Okp RX12 cX12_value 6 (some .int) "value" false 99 (sGo 112) := ok_goto (by decide +kernel : decode cX12_value 99 = .ok (.goto 13, 3)) (by decide)
theorem o324_102 : Okp RX12 cX12_value 6 (some .int) "value" false 102 (sK 26 104) := ok_bipush (by decide +kernel : decode cX12_value 102 = .ok (.bipush 26, 2)) (by decide)
theorem o324_104 : Okp RX12 cX12_value 6 (some .int) "value" false 104 (sLR 0 105) := ok_aload_n (by decide +kernel : decode cX12_value 104 = .ok (.aload_n 0, 1)) rfl
theorem o324_105 : Okp RX12 cX12_value 6 (some .int) "value" false 105 (sLI 1 106) := ok_iload_n (by decide +kernel : decode cX12_value 105 = .ok (.iload_n 1, 1)) rfl
theorem o324_106 : Okp RX12 cX12_value 6 (some .int) "value" false 106 (sCV false 282 2 13 109) := ok_cv (by decide +kernel : decode cX12_value 106 = .ok (.invokevirtual 487, 3)) mw_X12_487 rfl (by decide) wm_X12_act wse_X12_act (by decide) rfl
theorem o324_109 : Okp RX12 cX12_value 6 (some .int) "value" false 109 (sB2 fMul 110) := ok_imul (by decide +kernel : decode cX12_value 109 = .ok (.imul, 1))
theorem o324_110 : Okp RX12 cX12_value 6 (some .int) "value" false 110 (sLI 3 111) := ok_iload_n (by decide +kernel : decode cX12_value 110 = .ok (.iload_n 3, 1)) rfl
theorem o324_111 : Okp RX12 cX12_value 6 (some .int) "value" false 111 (sB2 fAdd 112) := ok_iadd (by decide +kernel : decode cX12_value 111 = .ok (.iadd, 1))
theorem o324_112 : Okp RX12 cX12_value 6 (some .int) "value" false 112 (sSI 5 114) := ok_istore (by decide +kernel : decode cX12_value 112 = .ok (.istore 5, 2)) (by decide) (by decide)
theorem o324_114 : Okp RX12 cX12_value 6 (some .int) "value" false 114 (sLR 0 115) := ok_aload_n (by decide +kernel : decode cX12_value 114 = .ok (.aload_n 0, 1)) rfl
theorem o324_115 : Okp RX12 cX12_value 6 (some .int) "value" false 115 (sGR 13 69 118) := ok_getR (by decide +kernel : decode cX12_value 115 = .ok (.getfield 167, 3)) fw_X12_167 rfl
theorem o324_118 : Okp RX12 cX12_value 6 (some .int) "value" false 118 (sLI 5 120) := ok_iload (by decide +kernel : decode cX12_value 118 = .ok (.iload 5, 2))
theorem o324_120 : Okp RX12 cX12_value 6 (some .int) "value" false 120 (sIA 121) := ok_iaload (by decide +kernel : decode cX12_value 120 = .ok (.iaload, 1))
theorem o324_121 : Okp RX12 cX12_value 6 (some .int) "value" false 121 (sK 1 122) := ok_iconst (by decide +kernel : decode cX12_value 121 = .ok (.iconst 1, 1)) (by decide)
theorem o324_122 : Okp RX12 cX12_value 6 (some .int) "value" false 122 (sI2 1 143 125) := ok_icmp_ne (by decide +kernel : decode cX12_value 122 = .ok (.if_icmp .ne 21, 3)) (by decide)
theorem o324_125 : Okp RX12 cX12_value 6 (some .int) "value" false 125 (sLR 0 126) := ok_aload_n (by decide +kernel : decode cX12_value 125 = .ok (.aload_n 0, 1)) rfl
theorem o324_126 : Okp RX12 cX12_value 6 (some .int) "value" false 126 (sGR 13 68 129) := ok_getR (by decide +kernel : decode cX12_value 126 = .ok (.getfield 164, 3)) fw_X12_164 rfl
theorem o324_129 : Okp RX12 cX12_value 6 (some .int) "value" false 129 (sLI 5 131) := ok_iload (by decide +kernel : decode cX12_value 129 = .ok (.iload 5, 2))
theorem o324_131 : Okp RX12 cX12_value 6 (some .int) "value" false 131 (sIA 132) := ok_iaload (by decide +kernel : decode cX12_value 131 = .ok (.iaload, 1))
theorem o324_132 : Okp RX12 cX12_value 6 (some .int) "value" false 132 (sI1 5 139 135) := ok_if_le (by decide +kernel : decode cX12_value 132 = .ok (.ifCond .le 7, 3)) (by decide)
theorem o324_135 : Okp RX12 cX12_value 6 (some .int) "value" false 135 (sK 1 136) := ok_iconst (by decide +kernel : decode cX12_value 135 = .ok (.iconst 1, 1)) (by decide)
theorem o324_136 : Okp RX12 cX12_value 6 (some .int) "value" false 136 (sGo 150) := ok_goto (by decide +kernel : decode cX12_value 136 = .ok (.goto 14, 3)) (by decide)
theorem o324_139 : Okp RX12 cX12_value 6 (some .int) "value" false 139 (sK 0 140) := ok_iconst (by decide +kernel : decode cX12_value 139 = .ok (.iconst 0, 1)) (by decide)
theorem o324_140 : Okp RX12 cX12_value 6 (some .int) "value" false 140 (sGo 150) := ok_goto (by decide +kernel : decode cX12_value 140 = .ok (.goto 10, 3)) (by decide)
theorem o324_143 : Okp RX12 cX12_value 6 (some .int) "value" false 143 (sLR 0 144) := ok_aload_n (by decide +kernel : decode cX12_value 143 = .ok (.aload_n 0, 1)) rfl
theorem o324_144 : Okp RX12 cX12_value 6 (some .int) "value" false 144 (sGR 13 68 147) := ok_getR (by decide +kernel : decode cX12_value 144 = .ok (.getfield 164, 3)) fw_X12_164 rfl
theorem o324_147 : Okp RX12 cX12_value 6 (some .int) "value" false 147 (sLI 5 149) := ok_iload (by decide +kernel : decode cX12_value 147 = .ok (.iload 5, 2))
theorem o324_149 : Okp RX12 cX12_value 6 (some .int) "value" false 149 (sIA 150) := ok_iaload (by decide +kernel : decode cX12_value 149 = .ok (.iaload, 1))
theorem o324_150 : Okp RX12 cX12_value 6 (some .int) "value" false 150 sRI := ok_iret rfl (by decide +kernel : decode cX12_value 150 = .ok (.ireturn, 1))
theorem oc324_0 : ∀ pc, Mnp (c324_0 pc) ∧ Okp RX12 cX12_value 6 (some .int) "value" false pc (c324_0 pc) := by
  intro pc
  unfold c324_0
  split
  · exact ⟨mn_sLR, o324_0⟩
  · exact ⟨mn_sK, o324_1⟩
  · exact ⟨mn_sPI, o324_2⟩
  · exact ⟨mn_sK, o324_5⟩
  · exact ⟨mn_sSI, o324_8⟩
  · exact ⟨mn_sLR, o324_10⟩
  · exact ⟨mn_sGI, o324_11⟩
  · exact ⟨mn_sI1, o324_14⟩
  · exact ⟨mn_sLI, o324_17⟩
  · exact ⟨mn_sI1, o324_18⟩
  · exact ⟨mn_sLI, o324_21⟩
  · exact ⟨mn_sLR, o324_22⟩
  · exact ⟨mn_sGI, o324_23⟩
  · exact ⟨mn_sX, ok_X⟩
theorem oc324_1 : ∀ pc, Mnp (c324_1 pc) ∧ Okp RX12 cX12_value 6 (some .int) "value" false pc (c324_1 pc) := by
  intro pc
  unfold c324_1
  split
  · exact ⟨mn_sI2, o324_26⟩
  · exact ⟨mn_sLR, o324_29⟩
  · exact ⟨mn_sGR, o324_30⟩
  · exact ⟨mn_sLI, o324_33⟩
  · exact ⟨mn_sIA, o324_34⟩
  · exact ⟨mn_sK, o324_35⟩
  · exact ⟨mn_sI2, o324_36⟩
  · exact ⟨mn_sLI, o324_39⟩
  · exact ⟨mn_sI1, o324_40⟩
  · exact ⟨mn_sLI, o324_43⟩
  · exact ⟨mn_sK, o324_44⟩
  · exact ⟨mn_sI2, o324_45⟩
  · exact ⟨mn_sX, ok_X⟩
theorem oc324_2 : ∀ pc, Mnp (c324_2 pc) ∧ Okp RX12 cX12_value 6 (some .int) "value" false pc (c324_2 pc) := by
  intro pc
  unfold c324_2
  split
  · exact ⟨mn_sLI, o324_48⟩
  · exact ⟨mn_sI1, o324_49⟩
  · exact ⟨mn_sLI, o324_52⟩
  · exact ⟨mn_sRI, o324_54⟩
  · exact ⟨mn_sLI, o324_55⟩
  · exact ⟨mn_sLI, o324_56⟩
  · exact ⟨mn_sI1, o324_57⟩
  · exact ⟨mn_sLR, o324_60⟩
  · exact ⟨mn_sGR, o324_61⟩
  · exact ⟨mn_sLR, o324_64⟩
  · exact ⟨mn_sLI, o324_65⟩
  · exact ⟨mn_sCV, o324_66⟩
  · exact ⟨mn_sIA, o324_69⟩
  · exact ⟨mn_sGo, o324_70⟩
  · exact ⟨mn_sX, ok_X⟩
theorem oc324_3 : ∀ pc, Mnp (c324_3 pc) ∧ Okp RX12 cX12_value 6 (some .int) "value" false pc (c324_3 pc) := by
  intro pc
  unfold c324_3
  split
  · exact ⟨mn_sLR, o324_73⟩
  · exact ⟨mn_sGR, o324_74⟩
  · exact ⟨mn_sLR, o324_77⟩
  · exact ⟨mn_sLI, o324_78⟩
  · exact ⟨mn_sCV, o324_79⟩
  · exact ⟨mn_sIA, o324_82⟩
  · exact ⟨mn_sI2, o324_83⟩
  · exact ⟨mn_sLI, o324_86⟩
  · exact ⟨mn_sRI, o324_88⟩
  · exact ⟨mn_sLI, o324_89⟩
  · exact ⟨mn_sI1, o324_90⟩
  · exact ⟨mn_sLR, o324_93⟩
  · exact ⟨mn_sLI, o324_94⟩
  · exact ⟨mn_sLI, o324_95⟩
  · exact ⟨mn_sX, ok_X⟩
theorem oc324_4 : ∀ pc, Mnp (c324_4 pc) ∧ Okp RX12 cX12_value 6 (some .int) "value" false pc (c324_4 pc) := by
  intro pc
  unfold c324_4
  split
  · exact ⟨mn_sCV, o324_96⟩
  · exact ⟨mn_sGo, o324_99⟩
  · exact ⟨mn_sK, o324_102⟩
  · exact ⟨mn_sLR, o324_104⟩
  · exact ⟨mn_sLI, o324_105⟩
  · exact ⟨mn_sCV, o324_106⟩
  · exact ⟨mn_sB2, o324_109⟩
  · exact ⟨mn_sLI, o324_110⟩
  · exact ⟨mn_sB2, o324_111⟩
  · exact ⟨mn_sSI, o324_112⟩
  · exact ⟨mn_sLR, o324_114⟩
  · exact ⟨mn_sGR, o324_115⟩
  · exact ⟨mn_sLI, o324_118⟩
  · exact ⟨mn_sX, ok_X⟩
theorem oc324_5 : ∀ pc, Mnp (c324_5 pc) ∧ Okp RX12 cX12_value 6 (some .int) "value" false pc (c324_5 pc) := by
  intro pc
  unfold c324_5
  split
  · exact ⟨mn_sIA, o324_120⟩
  · exact ⟨mn_sK, o324_121⟩
  · exact ⟨mn_sI2, o324_122⟩
  · exact ⟨mn_sLR, o324_125⟩
  · exact ⟨mn_sGR, o324_126⟩
  · exact ⟨mn_sLI, o324_129⟩
  · exact ⟨mn_sIA, o324_131⟩
  · exact ⟨mn_sI1, o324_132⟩
  · exact ⟨mn_sK, o324_135⟩
  · exact ⟨mn_sGo, o324_136⟩
  · exact ⟨mn_sK, o324_139⟩
  · exact ⟨mn_sGo, o324_140⟩
  · exact ⟨mn_sLR, o324_143⟩
  · exact ⟨mn_sX, ok_X⟩
theorem oc324_6 : ∀ pc, Mnp (c324_6 pc) ∧ Okp RX12 cX12_value 6 (some .int) "value" false pc (c324_6 pc) := by
  intro pc
  unfold c324_6
  split
  · exact ⟨mn_sGR, o324_144⟩
  · exact ⟨mn_sLI, o324_147⟩
  · exact ⟨mn_sIA, o324_149⟩
  · exact ⟨mn_sRI, o324_150⟩
  · exact ⟨mn_sX, ok_X⟩
theorem oc324 : ∀ pc, Mnp (c324 pc) ∧ Okp RX12 cX12_value 6 (some .int) "value" false pc (c324 pc) := by
  intro pc
  unfold c324
  split
  · exact oc324_0 pc
  · exact oc324_1 pc
  · exact oc324_2 pc
  · exact oc324_3 pc
  · exact oc324_4 pc
  · exact oc324_5 pc
  · exact oc324_6 pc
  · exact ⟨mn_sX, ok_X⟩
theorem o325_0 : Okp RX12 cX12_block 3 (some .int) "block" false 0 (sLR 0 1) := ok_aload_n (by decide +kernel : decode cX12_block 0 = .ok (.aload_n 0, 1)) rfl
theorem o325_1 : Okp RX12 cX12_block 3 (some .int) "block" false 1 (sK 0 2) := ok_iconst (by decide +kernel : decode cX12_block 1 = .ok (.iconst 0, 1)) (by decide)
theorem o325_2 : Okp RX12 cX12_block 3 (some .int) "block" false 2 (sPI 13 0 5) := ok_putI (by decide +kernel : decode cX12_block 2 = .ok (.putfield 227, 3)) fw_X12_227 ⟨⟨tyX12_ok, nmX12⟩, Or.inl rfl, rfl⟩ rfl
theorem o325_5 : Okp RX12 cX12_block 3 (some .int) "block" false 5 (sLR 0 6) := ok_aload_n (by decide +kernel : decode cX12_block 5 = .ok (.aload_n 0, 1)) rfl
theorem o325_6 : Okp RX12 cX12_block 3 (some .int) "block" false 6 (sGI 13 51 9) := ok_getI (by decide +kernel : decode cX12_block 6 = .ok (.getfield 457, 3)) fw_X12_457 rfl
theorem o325_9 : Okp RX12 cX12_block 3 (some .int) "block" false 9 (sI1 0 33 12) := ok_if_eq (by decide +kernel : decode cX12_block 9 = .ok (.ifCond .eq 24, 3)) (by decide)
theorem o325_12 : Okp RX12 cX12_block 3 (some .int) "block" false 12 (sLI 1 13) := ok_iload_n (by decide +kernel : decode cX12_block 12 = .ok (.iload_n 1, 1)) rfl
theorem o325_13 : Okp RX12 cX12_block 3 (some .int) "block" false 13 (sI1 2 33 16) := ok_if_lt (by decide +kernel : decode cX12_block 13 = .ok (.ifCond .lt 20, 3)) (by decide)
theorem o325_16 : Okp RX12 cX12_block 3 (some .int) "block" false 16 (sLI 1 17) := ok_iload_n (by decide +kernel : decode cX12_block 16 = .ok (.iload_n 1, 1)) rfl
theorem o325_17 : Okp RX12 cX12_block 3 (some .int) "block" false 17 (sK 128 20) := ok_sipush (by decide +kernel : decode cX12_block 17 = .ok (.sipush 128, 3)) (by decide)
theorem o325_20 : Okp RX12 cX12_block 3 (some .int) "block" false 20 (sI2 3 33 23) := ok_icmp_ge (by decide +kernel : decode cX12_block 20 = .ok (.if_icmp .ge 13, 3)) (by decide)
theorem o325_23 : Okp RX12 cX12_block 3 (some .int) "block" false 23 (sLR 0 24) := ok_aload_n (by decide +kernel : decode cX12_block 23 = .ok (.aload_n 0, 1)) rfl
theorem o325_24 : Okp RX12 cX12_block 3 (some .int) "block" false 24 (sGR 13 79 27) := ok_getR (by decide +kernel : decode cX12_block 24 = .ok (.getfield 197, 3)) fw_X12_197 rfl
theorem o325_27 : Okp RX12 cX12_block 3 (some .int) "block" false 27 (sLI 1 28) := ok_iload_n (by decide +kernel : decode cX12_block 27 = .ok (.iload_n 1, 1)) rfl
theorem o325_28 : Okp RX12 cX12_block 3 (some .int) "block" false 28 (sIA 29) := ok_iaload (by decide +kernel : decode cX12_block 28 = .ok (.iaload, 1))
theorem o325_29 : Okp RX12 cX12_block 3 (some .int) "block" false 29 (sK (-1) 30) := ok_iconst (by decide +kernel : decode cX12_block 29 = .ok (.iconst (-1), 1)) (by decide)
theorem o325_30 : Okp RX12 cX12_block 3 (some .int) "block" false 30 (sI2 1 35 33) := ok_icmp_ne (by decide +kernel : decode cX12_block 30 = .ok (.if_icmp .ne 5, 3)) (by decide)
theorem o325_33 : Okp RX12 cX12_block 3 (some .int) "block" false 33 (sK (-1) 34) := ok_iconst (by decide +kernel : decode cX12_block 33 = .ok (.iconst (-1), 1)) (by decide)
theorem o325_34 : Okp RX12 cX12_block 3 (some .int) "block" false 34 sRI := ok_iret rfl (by decide +kernel : decode cX12_block 34 = .ok (.ireturn, 1))
theorem o325_35 : Okp RX12 cX12_block 3 (some .int) "block" false 35 (sLI 2 36) := ok_iload_n (by decide +kernel : decode cX12_block 35 = .ok (.iload_n 2, 1)) rfl
theorem o325_36 : Okp RX12 cX12_block 3 (some .int) "block" false 36 (sI1 1 46 39) := ok_if_ne (by decide +kernel : decode cX12_block 36 = .ok (.ifCond .ne 10, 3)) (by decide)
theorem o325_39 : Okp RX12 cX12_block 3 (some .int) "block" false 39 (sLR 0 40) := ok_aload_n (by decide +kernel : decode cX12_block 39 = .ok (.aload_n 0, 1)) rfl
theorem o325_40 : Okp RX12 cX12_block 3 (some .int) "block" false 40 (sGR 13 79 43) := ok_getR (by decide +kernel : decode cX12_block 40 = .ok (.getfield 197, 3)) fw_X12_197 rfl
theorem o325_43 : Okp RX12 cX12_block 3 (some .int) "block" false 43 (sLI 1 44) := ok_iload_n (by decide +kernel : decode cX12_block 43 = .ok (.iload_n 1, 1)) rfl
theorem o325_44 : Okp RX12 cX12_block 3 (some .int) "block" false 44 (sIA 45) := ok_iaload (by decide +kernel : decode cX12_block 44 = .ok (.iaload, 1))
theorem o325_45 : Okp RX12 cX12_block 3 (some .int) "block" false 45 sRI := ok_iret rfl (by decide +kernel : decode cX12_block 45 = .ok (.ireturn, 1))
theorem o325_46 : Okp RX12 cX12_block 3 (some .int) "block" false 46 (sLI 2 47) := ok_iload_n (by decide +kernel : decode cX12_block 46 = .ok (.iload_n 2, 1)) rfl
theorem o325_47 : Okp RX12 cX12_block 3 (some .int) "block" false 47 (sK 1 48) := ok_iconst (by decide +kernel : decode cX12_block 47 = .ok (.iconst 1, 1)) (by decide)
theorem o325_48 : Okp RX12 cX12_block 3 (some .int) "block" false 48 (sI2 1 58 51) := ok_icmp_ne (by decide +kernel : decode cX12_block 48 = .ok (.if_icmp .ne 10, 3)) (by decide)
theorem o325_51 : Okp RX12 cX12_block 3 (some .int) "block" false 51 (sLR 0 52) := ok_aload_n (by decide +kernel : decode cX12_block 51 = .ok (.aload_n 0, 1)) rfl
theorem o325_52 : Okp RX12 cX12_block 3 (some .int) "block" false 52 (sGR 13 80 55) := ok_getR (by decide +kernel : decode cX12_block 52 = .ok (.getfield 200, 3)) fw_X12_200 rfl
theorem o325_55 : Okp RX12 cX12_block 3 (some .int) "block" false 55 (sLI 1 56) := ok_iload_n (by decide +kernel : decode cX12_block 55 = .ok (.iload_n 1, 1)) rfl
theorem o325_56 : Okp RX12 cX12_block 3 (some .int) "block" false 56 (sIA 57) := ok_iaload (by decide +kernel : decode cX12_block 56 = .ok (.iaload, 1))
theorem o325_57 : Okp RX12 cX12_block 3 (some .int) "block" false 57 sRI := ok_iret rfl (by decide +kernel : decode cX12_block 57 = .ok (.ireturn, 1))
theorem o325_58 : Okp RX12 cX12_block 3 (some .int) "block" false 58 (sLI 2 59) := ok_iload_n (by decide +kernel : decode cX12_block 58 = .ok (.iload_n 2, 1)) rfl
theorem o325_59 : Okp RX12 cX12_block 3 (some .int) "block" false 59 (sK 10 61) := ok_bipush (by decide +kernel : decode cX12_block 59 = .ok (.bipush 10, 2)) (by decide)
theorem o325_61 : Okp RX12 cX12_block 3 (some .int) "block" false 61 (sI2 2 94 64) := ok_icmp_lt (by decide +kernel : decode cX12_block 61 = .ok (.if_icmp .lt 33, 3)) (by decide)
theorem o325_64 : Okp RX12 cX12_block 3 (some .int) "block" false 64 (sLI 2 65) := ok_iload_n (by decide +kernel : decode cX12_block 64 = .ok (.iload_n 2, 1)) rfl
theorem o325_65 : Okp RX12 cX12_block 3 (some .int) "block" false 65 (sK 10 67) := ok_bipush (by decide +kernel : decode cX12_block 65 = .ok (.bipush 10, 2)) (by decide)
theorem o325_67 : Okp RX12 cX12_block 3 (some .int) "block" false 67 (sLR 0 68) := ok_aload_n (by decide +kernel : decode cX12_block 67 = .ok (.aload_n 0, 1)) rfl
theorem o325_68 : Okp RX12 cX12_block 3 (some .int) "block" false 68 (sGR 13 79 71) := ok_getR (by decide +kernel : decode cX12_block 68 = .ok (.getfield 197, 3)) fw_X12_197 rfl
theorem o325_71 : Okp RX12 cX12_block 3 (some .int) "block" false 71 (sLI 1 72) := ok_iload_n (by decide +kernel : decode cX12_block 71 = .ok (.iload_n 1, 1)) rfl
theorem o325_72 : Okp RX12 cX12_block 3 (some .int) "block" false 72 (sIA 73) := ok_iaload (by decide +kernel : decode cX12_block 72 = .ok (.iaload, 1))
theorem o325_73 : Okp RX12 cX12_block 3 (some .int) "block" false 73 (sB2 fAdd 74) := ok_iadd (by decide +kernel : decode cX12_block 73 = .ok (.iadd, 1))
theorem o325_74 : Okp RX12 cX12_block 3 (some .int) "block" false 74 (sI2 3 94 77) := ok_icmp_ge (by decide +kernel : decode cX12_block 74 = .ok (.if_icmp .ge 20, 3)) (by decide)
theorem o325_77 : Okp RX12 cX12_block 3 (some .int) "block" false 77 (sLR 0 78) := ok_aload_n (by decide +kernel : decode cX12_block 77 = .ok (.aload_n 0, 1)) rfl
theorem o325_78 : Okp RX12 cX12_block 3 (some .int) "block" false 78 (sGR 13 81 81) := ok_getR (by decide +kernel : decode cX12_block 78 = .ok (.getfield 203, 3)) fw_X12_203 rfl
theorem o325_81 : Okp RX12 cX12_block 3 (some .int) "block" false 81 (sK 6 83) := ok_bipush (by decide +kernel : decode cX12_block 81 = .ok (.bipush 6, 2)) (by decide)
theorem o325_83 : Okp RX12 cX12_block 3 (some .int) "block" false 83 (sLI 1 84) := ok_iload_n (by decide +kernel : decode cX12_block 83 = .ok (.iload_n 1, 1)) rfl
theorem o325_84 : Okp RX12 cX12_block 3 (some .int) "block" false 84 (sB2 fMul 85) := ok_imul (by decide +kernel : decode cX12_block 84 = .ok (.imul, 1))
theorem o325_85 : Okp RX12 cX12_block 3 (some .int) "block" false 85 (sLI 2 86) := ok_iload_n (by decide +kernel : decode cX12_block 85 = .ok (.iload_n 2, 1)) rfl
theorem o325_86 : Okp RX12 cX12_block 3 (some .int) "block" false 86 (sB2 fAdd 87) := ok_iadd (by decide +kernel : decode cX12_block 86 = .ok (.iadd, 1))
theorem o325_87 : Okp RX12 cX12_block 3 (some .int) "block" false 87 (sK 10 89) := ok_bipush (by decide +kernel : decode cX12_block 87 = .ok (.bipush 10, 2)) (by decide)
theorem o325_89 : Okp RX12 cX12_block 3 (some .int) "block" false 89 (sB2 fSub 90) := ok_isub (by decide +kernel : decode cX12_block 89 = .ok (.isub, 1))
theorem o325_90 : Okp RX12 cX12_block 3 (some .int) "block" false 90 (sIA 91) := ok_iaload (by decide +kernel : decode cX12_block 90 = .ok (.iaload, 1))
theorem o325_91 : Okp RX12 cX12_block 3 (some .int) "block" false 91 (sGo 95) := ok_goto (by decide +kernel : decode cX12_block 91 = .ok (.goto 4, 3)) (by decide)
theorem o325_94 : Okp RX12 cX12_block 3 (some .int) "block" false 94 (sK (-1) 95) := ok_iconst (by decide +kernel : decode cX12_block 94 = .ok (.iconst (-1), 1)) (by decide)
theorem o325_95 : Okp RX12 cX12_block 3 (some .int) "block" false 95 sRI := ok_iret rfl (by decide +kernel : decode cX12_block 95 = .ok (.ireturn, 1))
theorem oc325_0 : ∀ pc, Mnp (c325_0 pc) ∧ Okp RX12 cX12_block 3 (some .int) "block" false pc (c325_0 pc) := by
  intro pc
  unfold c325_0
  split
  · exact ⟨mn_sLR, o325_0⟩
  · exact ⟨mn_sK, o325_1⟩
  · exact ⟨mn_sPI, o325_2⟩
  · exact ⟨mn_sLR, o325_5⟩
  · exact ⟨mn_sGI, o325_6⟩
  · exact ⟨mn_sI1, o325_9⟩
  · exact ⟨mn_sLI, o325_12⟩
  · exact ⟨mn_sI1, o325_13⟩
  · exact ⟨mn_sLI, o325_16⟩
  · exact ⟨mn_sK, o325_17⟩
  · exact ⟨mn_sI2, o325_20⟩
  · exact ⟨mn_sLR, o325_23⟩
  · exact ⟨mn_sX, ok_X⟩
theorem oc325_1 : ∀ pc, Mnp (c325_1 pc) ∧ Okp RX12 cX12_block 3 (some .int) "block" false pc (c325_1 pc) := by
  intro pc
  unfold c325_1
  split
  · exact ⟨mn_sGR, o325_24⟩
  · exact ⟨mn_sLI, o325_27⟩
  · exact ⟨mn_sIA, o325_28⟩
  · exact ⟨mn_sK, o325_29⟩
  · exact ⟨mn_sI2, o325_30⟩
  · exact ⟨mn_sK, o325_33⟩
  · exact ⟨mn_sRI, o325_34⟩
  · exact ⟨mn_sLI, o325_35⟩
  · exact ⟨mn_sI1, o325_36⟩
  · exact ⟨mn_sLR, o325_39⟩
  · exact ⟨mn_sGR, o325_40⟩
  · exact ⟨mn_sLI, o325_43⟩
  · exact ⟨mn_sIA, o325_44⟩
  · exact ⟨mn_sRI, o325_45⟩
  · exact ⟨mn_sLI, o325_46⟩
  · exact ⟨mn_sK, o325_47⟩
  · exact ⟨mn_sX, ok_X⟩
theorem oc325_2 : ∀ pc, Mnp (c325_2 pc) ∧ Okp RX12 cX12_block 3 (some .int) "block" false pc (c325_2 pc) := by
  intro pc
  unfold c325_2
  split
  · exact ⟨mn_sI2, o325_48⟩
  · exact ⟨mn_sLR, o325_51⟩
  · exact ⟨mn_sGR, o325_52⟩
  · exact ⟨mn_sLI, o325_55⟩
  · exact ⟨mn_sIA, o325_56⟩
  · exact ⟨mn_sRI, o325_57⟩
  · exact ⟨mn_sLI, o325_58⟩
  · exact ⟨mn_sK, o325_59⟩
  · exact ⟨mn_sI2, o325_61⟩
  · exact ⟨mn_sLI, o325_64⟩
  · exact ⟨mn_sK, o325_65⟩
  · exact ⟨mn_sLR, o325_67⟩
  · exact ⟨mn_sGR, o325_68⟩
  · exact ⟨mn_sLI, o325_71⟩
  · exact ⟨mn_sX, ok_X⟩
theorem oc325_3 : ∀ pc, Mnp (c325_3 pc) ∧ Okp RX12 cX12_block 3 (some .int) "block" false pc (c325_3 pc) := by
  intro pc
  unfold c325_3
  split
  · exact ⟨mn_sIA, o325_72⟩
  · exact ⟨mn_sB2, o325_73⟩
  · exact ⟨mn_sI2, o325_74⟩
  · exact ⟨mn_sLR, o325_77⟩
  · exact ⟨mn_sGR, o325_78⟩
  · exact ⟨mn_sK, o325_81⟩
  · exact ⟨mn_sLI, o325_83⟩
  · exact ⟨mn_sB2, o325_84⟩
  · exact ⟨mn_sLI, o325_85⟩
  · exact ⟨mn_sB2, o325_86⟩
  · exact ⟨mn_sK, o325_87⟩
  · exact ⟨mn_sB2, o325_89⟩
  · exact ⟨mn_sIA, o325_90⟩
  · exact ⟨mn_sGo, o325_91⟩
  · exact ⟨mn_sK, o325_94⟩
  · exact ⟨mn_sRI, o325_95⟩
  · exact ⟨mn_sX, ok_X⟩
theorem oc325 : ∀ pc, Mnp (c325 pc) ∧ Okp RX12 cX12_block 3 (some .int) "block" false pc (c325 pc) := by
  intro pc
  unfold c325
  split
  · exact oc325_0 pc
  · exact oc325_1 pc
  · exact oc325_2 pc
  · exact oc325_3 pc
  · exact ⟨mn_sX, ok_X⟩
theorem o326_0 : Okp RX12 cX12_channel_ 5 (some .int) "channel" false 0 (sLR 0 1) := ok_aload_n (by decide +kernel : decode cX12_channel_ 0 = .ok (.aload_n 0, 1)) rfl
theorem o326_1 : Okp RX12 cX12_channel_ 5 (some .int) "channel" false 1 (sK 0 2) := ok_iconst (by decide +kernel : decode cX12_channel_ 1 = .ok (.iconst 0, 1)) (by decide)
theorem o326_2 : Okp RX12 cX12_channel_ 5 (some .int) "channel" false 2 (sPI 13 0 5) := ok_putI (by decide +kernel : decode cX12_channel_ 2 = .ok (.putfield 227, 3)) fw_X12_227 ⟨⟨tyX12_ok, nmX12⟩, Or.inl rfl, rfl⟩ rfl
theorem o326_5 : Okp RX12 cX12_channel_ 5 (some .int) "channel" false 5 (sLR 0 6) := ok_aload_n (by decide +kernel : decode cX12_channel_ 5 = .ok (.aload_n 0, 1)) rfl
theorem o326_6 : Okp RX12 cX12_channel_ 5 (some .int) "channel" false 6 (sGI 13 51 9) := ok_getI (by decide +kernel : decode cX12_channel_ 6 = .ok (.getfield 457, 3)) fw_X12_457 rfl
theorem o326_9 : Okp RX12 cX12_channel_ 5 (some .int) "channel" false 9 (sI1 0 45 12) := ok_if_eq (by decide +kernel : decode cX12_channel_ 9 = .ok (.ifCond .eq 36, 3)) (by decide)
theorem o326_12 : Okp RX12 cX12_channel_ 5 (some .int) "channel" false 12 (sLI 1 13) := ok_iload_n (by decide +kernel : decode cX12_channel_ 12 = .ok (.iload_n 1, 1)) rfl
theorem o326_13 : Okp RX12 cX12_channel_ 5 (some .int) "channel" false 13 (sI1 2 45 16) := ok_if_lt (by decide +kernel : decode cX12_channel_ 13 = .ok (.ifCond .lt 32, 3)) (by decide)
theorem o326_16 : Okp RX12 cX12_channel_ 5 (some .int) "channel" false 16 (sLI 1 17) := ok_iload_n (by decide +kernel : decode cX12_channel_ 16 = .ok (.iload_n 1, 1)) rfl
theorem o326_17 : Okp RX12 cX12_channel_ 5 (some .int) "channel" false 17 (sK 12 19) := ok_bipush (by decide +kernel : decode cX12_channel_ 17 = .ok (.bipush 12, 2)) (by decide)
theorem o326_19 : Okp RX12 cX12_channel_ 5 (some .int) "channel" false 19 (sI2 3 45 22) := ok_icmp_ge (by decide +kernel : decode cX12_channel_ 19 = .ok (.if_icmp .ge 26, 3)) (by decide)
theorem o326_22 : Okp RX12 cX12_channel_ 5 (some .int) "channel" false 22 (sLI 2 23) := ok_iload_n (by decide +kernel : decode cX12_channel_ 22 = .ok (.iload_n 2, 1)) rfl
theorem o326_23 : Okp RX12 cX12_channel_ 5 (some .int) "channel" false 23 (sI1 0 31 26) := ok_if_eq (by decide +kernel : decode cX12_channel_ 23 = .ok (.ifCond .eq 8, 3)) (by decide)
theorem o326_26 : Okp RX12 cX12_channel_ 5 (some .int) "channel" false 26 (sLI 2 27) := ok_iload_n (by decide +kernel : decode cX12_channel_ 26 = .ok (.iload_n 2, 1)) rfl
theorem o326_27 : Okp RX12 cX12_channel_ 5 (some .int) "channel" false 27 (sK 1 28) := ok_iconst (by decide +kernel : decode cX12_channel_ 27 = .ok (.iconst 1, 1)) (by decide)
theorem o326_28 : Okp RX12 cX12_channel_ 5 (some .int) "channel" false 28 (sI2 1 45 31) := ok_icmp_ne (by decide +kernel : decode cX12_channel_ 28 = .ok (.if_icmp .ne 17, 3)) (by decide)
theorem o326_31 : Okp RX12 cX12_channel_ 5 (some .int) "channel" false 31 (sLR 0 32) := ok_aload_n (by decide +kernel : decode cX12_channel_ 31 = .ok (.aload_n 0, 1)) rfl
theorem o326_32 : Okp RX12 cX12_channel_ 5 (some .int) "channel" false 32 (sGR 13 82 35) := ok_getR (by decide +kernel : decode cX12_channel_ 32 = .ok (.getfield 206, 3)) fw_X12_206 rfl
theorem o326_35 : Okp RX12 cX12_channel_ 5 (some .int) "channel" false 35 (sK 2 36) := ok_iconst (by decide +kernel : decode cX12_channel_ 35 = .ok (.iconst 2, 1)) (by decide)
theorem o326_36 : Okp RX12 cX12_channel_ 5 (some .int) "channel" false 36 (sLI 1 37) := ok_iload_n (by decide +kernel : decode cX12_channel_ 36 = .ok (.iload_n 1, 1)) rfl
theorem o326_37 : Okp RX12 cX12_channel_ 5 (some .int) "channel" false 37 (sB2 fMul 38) := ok_imul (by decide +kernel : decode cX12_channel_ 37 = .ok (.imul, 1))
theorem o326_38 : Okp RX12 cX12_channel_ 5 (some .int) "channel" false 38 (sLI 2 39) := ok_iload_n (by decide +kernel : decode cX12_channel_ 38 = .ok (.iload_n 2, 1)) rfl
theorem o326_39 : Okp RX12 cX12_channel_ 5 (some .int) "channel" false 39 (sB2 fAdd 40) := ok_iadd (by decide +kernel : decode cX12_channel_ 39 = .ok (.iadd, 1))
theorem o326_40 : Okp RX12 cX12_channel_ 5 (some .int) "channel" false 40 (sIA 41) := ok_iaload (by decide +kernel : decode cX12_channel_ 40 = .ok (.iaload, 1))
theorem o326_41 : Okp RX12 cX12_channel_ 5 (some .int) "channel" false 41 (sK (-1) 42) := ok_iconst (by decide +kernel : decode cX12_channel_ 41 = .ok (.iconst (-1), 1)) (by decide)
theorem o326_42 : Okp RX12 cX12_channel_ 5 (some .int) "channel" false 42 (sI2 1 47 45) := ok_icmp_ne (by decide +kernel : decode cX12_channel_ 42 = .ok (.if_icmp .ne 5, 3)) (by decide)
theorem o326_45 : Okp RX12 cX12_channel_ 5 (some .int) "channel" false 45 (sK (-1) 46) := ok_iconst (by decide +kernel : decode cX12_channel_ 45 = .ok (.iconst (-1), 1)) (by decide)
theorem o326_46 : Okp RX12 cX12_channel_ 5 (some .int) "channel" false 46 sRI := ok_iret rfl (by decide +kernel : decode cX12_channel_ 46 = .ok (.ireturn, 1))
theorem o326_47 : Okp RX12 cX12_channel_ 5 (some .int) "channel" false 47 (sK 2 48) := ok_iconst (by decide +kernel : decode cX12_channel_ 47 = .ok (.iconst 2, 1)) (by decide)
theorem o326_48 : Okp RX12 cX12_channel_ 5 (some .int) "channel" false 48 (sLI 1 49) := ok_iload_n (by decide +kernel : decode cX12_channel_ 48 = .ok (.iload_n 1, 1)) rfl
theorem o326_49 : Okp RX12 cX12_channel_ 5 (some .int) "channel" false 49 (sB2 fMul 50) := ok_imul (by decide +kernel : decode cX12_channel_ 49 = .ok (.imul, 1))
theorem o326_50 : Okp RX12 cX12_channel_ 5 (some .int) "channel" false 50 (sLI 2 51) := ok_iload_n (by decide +kernel : decode cX12_channel_ 50 = .ok (.iload_n 2, 1)) rfl
theorem o326_51 : Okp RX12 cX12_channel_ 5 (some .int) "channel" false 51 (sB2 fAdd 52) := ok_iadd (by decide +kernel : decode cX12_channel_ 51 = .ok (.iadd, 1))
theorem o326_52 : Okp RX12 cX12_channel_ 5 (some .int) "channel" false 52 (sSI 4 54) := ok_istore (by decide +kernel : decode cX12_channel_ 52 = .ok (.istore 4, 2)) (by decide) (by decide)
theorem o326_54 : Okp RX12 cX12_channel_ 5 (some .int) "channel" false 54 (sLI 3 55) := ok_iload_n (by decide +kernel : decode cX12_channel_ 54 = .ok (.iload_n 3, 1)) rfl
theorem o326_55 : Okp RX12 cX12_channel_ 5 (some .int) "channel" false 55 (sI1 1 68 58) := ok_if_ne (by decide +kernel : decode cX12_channel_ 55 = .ok (.ifCond .ne 13, 3)) (by decide)
theorem o326_58 : Okp RX12 cX12_channel_ 5 (some .int) "channel" false 58 (sLR 0 59) := ok_aload_n (by decide +kernel : decode cX12_channel_ 58 = .ok (.aload_n 0, 1)) rfl
theorem o326_59 : Okp RX12 cX12_channel_ 5 (some .int) "channel" false 59 (sGR 13 82 62) := ok_getR (by decide +kernel : decode cX12_channel_ 59 = .ok (.getfield 206, 3)) fw_X12_206 rfl
theorem o326_62 : Okp RX12 cX12_channel_ 5 (some .int) "channel" false 62 (sLI 4 64) := ok_iload (by decide +kernel : decode cX12_channel_ 62 = .ok (.iload 4, 2))
theorem o326_64 : Okp RX12 cX12_channel_ 5 (some .int) "channel" false 64 (sIA 65) := ok_iaload (by decide +kernel : decode cX12_channel_ 64 = .ok (.iaload, 1))
theorem o326_65 : Okp RX12 cX12_channel_ 5 (some .int) "channel" false 65 (sGo 99) := ok_goto (by decide +kernel : decode cX12_channel_ 65 = .ok (.goto 34, 3)) (by decide)
theorem o326_68 : Okp RX12 cX12_channel_ 5 (some .int) "channel" false 68 (sLI 3 69) := ok_iload_n (by decide +kernel : decode cX12_channel_ 68 = .ok (.iload_n 3, 1)) rfl
theorem o326_69 : Okp RX12 cX12_channel_ 5 (some .int) "channel" false 69 (sK 1 70) := ok_iconst (by decide +kernel : decode cX12_channel_ 69 = .ok (.iconst 1, 1)) (by decide)
theorem o326_70 : Okp RX12 cX12_channel_ 5 (some .int) "channel" false 70 (sI2 1 83 73) := ok_icmp_ne (by decide +kernel : decode cX12_channel_ 70 = .ok (.if_icmp .ne 13, 3)) (by decide)
theorem o326_73 : Okp RX12 cX12_channel_ 5 (some .int) "channel" false 73 (sLR 0 74) := ok_aload_n (by decide +kernel : decode cX12_channel_ 73 = .ok (.aload_n 0, 1)) rfl
theorem o326_74 : Okp RX12 cX12_channel_ 5 (some .int) "channel" false 74 (sGR 13 83 77) := ok_getR (by decide +kernel : decode cX12_channel_ 74 = .ok (.getfield 209, 3)) fw_X12_209 rfl
theorem o326_77 : Okp RX12 cX12_channel_ 5 (some .int) "channel" false 77 (sLI 4 79) := ok_iload (by decide +kernel : decode cX12_channel_ 77 = .ok (.iload 4, 2))
theorem o326_79 : Okp RX12 cX12_channel_ 5 (some .int) "channel" false 79 (sIA 80) := ok_iaload (by decide +kernel : decode cX12_channel_ 79 = .ok (.iaload, 1))
theorem o326_80 : Okp RX12 cX12_channel_ 5 (some .int) "channel" false 80 (sGo 99) := ok_goto (by decide +kernel : decode cX12_channel_ 80 = .ok (.goto 19, 3)) (by decide)
theorem o326_83 : Okp RX12 cX12_channel_ 5 (some .int) "channel" false 83 (sLI 3 84) := ok_iload_n (by decide +kernel : decode cX12_channel_ 83 = .ok (.iload_n 3, 1)) rfl
theorem o326_84 : Okp RX12 cX12_channel_ 5 (some .int) "channel" false 84 (sK 2 85) := ok_iconst (by decide +kernel : decode cX12_channel_ 84 = .ok (.iconst 2, 1)) (by decide)
theorem o326_85 : Okp RX12 cX12_channel_ 5 (some .int) "channel" false 85 (sI2 1 98 88) := ok_icmp_ne (by decide +kernel : decode cX12_channel_ 85 = .ok (.if_icmp .ne 13, 3)) (by decide)
theorem o326_88 : Okp RX12 cX12_channel_ 5 (some .int) "channel" false 88 (sLR 0 89) := ok_aload_n (by decide +kernel : decode cX12_channel_ 88 = .ok (.aload_n 0, 1)) rfl
theorem o326_89 : Okp RX12 cX12_channel_ 5 (some .int) "channel" false 89 (sGR 13 84 92) := ok_getR (by decide +kernel : decode cX12_channel_ 89 = .ok (.getfield 212, 3)) fw_X12_212 rfl
theorem o326_92 : Okp RX12 cX12_channel_ 5 (some .int) "channel" false 92 (sLI 4 94) := ok_iload (by decide +kernel : decode cX12_channel_ 92 = .ok (.iload 4, 2))
theorem o326_94 : Okp RX12 cX12_channel_ 5 (some .int) "channel" false 94 (sIA 95) := ok_iaload (by decide +kernel : decode cX12_channel_ 94 = .ok (.iaload, 1))
theorem o326_95 : Okp RX12 cX12_channel_ 5 (some .int) "channel" false 95 (sGo 99) := ok_goto (by decide +kernel : decode cX12_channel_ 95 = .ok (.goto 4, 3)) (by decide)
theorem o326_98 : Okp RX12 cX12_channel_ 5 (some .int) "channel" false 98 (sK (-1) 99) := ok_iconst (by decide +kernel : decode cX12_channel_ 98 = .ok (.iconst (-1), 1)) (by decide)
theorem o326_99 : Okp RX12 cX12_channel_ 5 (some .int) "channel" false 99 sRI := ok_iret rfl (by decide +kernel : decode cX12_channel_ 99 = .ok (.ireturn, 1))
theorem oc326_0 : ∀ pc, Mnp (c326_0 pc) ∧ Okp RX12 cX12_channel_ 5 (some .int) "channel" false pc (c326_0 pc) := by
  intro pc
  unfold c326_0
  split
  · exact ⟨mn_sLR, o326_0⟩
  · exact ⟨mn_sK, o326_1⟩
  · exact ⟨mn_sPI, o326_2⟩
  · exact ⟨mn_sLR, o326_5⟩
  · exact ⟨mn_sGI, o326_6⟩
  · exact ⟨mn_sI1, o326_9⟩
  · exact ⟨mn_sLI, o326_12⟩
  · exact ⟨mn_sI1, o326_13⟩
  · exact ⟨mn_sLI, o326_16⟩
  · exact ⟨mn_sK, o326_17⟩
  · exact ⟨mn_sI2, o326_19⟩
  · exact ⟨mn_sLI, o326_22⟩
  · exact ⟨mn_sI1, o326_23⟩
  · exact ⟨mn_sX, ok_X⟩
theorem oc326_1 : ∀ pc, Mnp (c326_1 pc) ∧ Okp RX12 cX12_channel_ 5 (some .int) "channel" false pc (c326_1 pc) := by
  intro pc
  unfold c326_1
  split
  · exact ⟨mn_sLI, o326_26⟩
  · exact ⟨mn_sK, o326_27⟩
  · exact ⟨mn_sI2, o326_28⟩
  · exact ⟨mn_sLR, o326_31⟩
  · exact ⟨mn_sGR, o326_32⟩
  · exact ⟨mn_sK, o326_35⟩
  · exact ⟨mn_sLI, o326_36⟩
  · exact ⟨mn_sB2, o326_37⟩
  · exact ⟨mn_sLI, o326_38⟩
  · exact ⟨mn_sB2, o326_39⟩
  · exact ⟨mn_sIA, o326_40⟩
  · exact ⟨mn_sK, o326_41⟩
  · exact ⟨mn_sI2, o326_42⟩
  · exact ⟨mn_sK, o326_45⟩
  · exact ⟨mn_sRI, o326_46⟩
  · exact ⟨mn_sK, o326_47⟩
  · exact ⟨mn_sX, ok_X⟩
theorem oc326_2 : ∀ pc, Mnp (c326_2 pc) ∧ Okp RX12 cX12_channel_ 5 (some .int) "channel" false pc (c326_2 pc) := by
  intro pc
  unfold c326_2
  split
  · exact ⟨mn_sLI, o326_48⟩
  · exact ⟨mn_sB2, o326_49⟩
  · exact ⟨mn_sLI, o326_50⟩
  · exact ⟨mn_sB2, o326_51⟩
  · exact ⟨mn_sSI, o326_52⟩
  · exact ⟨mn_sLI, o326_54⟩
  · exact ⟨mn_sI1, o326_55⟩
  · exact ⟨mn_sLR, o326_58⟩
  · exact ⟨mn_sGR, o326_59⟩
  · exact ⟨mn_sLI, o326_62⟩
  · exact ⟨mn_sIA, o326_64⟩
  · exact ⟨mn_sGo, o326_65⟩
  · exact ⟨mn_sLI, o326_68⟩
  · exact ⟨mn_sK, o326_69⟩
  · exact ⟨mn_sI2, o326_70⟩
  · exact ⟨mn_sX, ok_X⟩
theorem oc326_3 : ∀ pc, Mnp (c326_3 pc) ∧ Okp RX12 cX12_channel_ 5 (some .int) "channel" false pc (c326_3 pc) := by
  intro pc
  unfold c326_3
  split
  · exact ⟨mn_sLR, o326_73⟩
  · exact ⟨mn_sGR, o326_74⟩
  · exact ⟨mn_sLI, o326_77⟩
  · exact ⟨mn_sIA, o326_79⟩
  · exact ⟨mn_sGo, o326_80⟩
  · exact ⟨mn_sLI, o326_83⟩
  · exact ⟨mn_sK, o326_84⟩
  · exact ⟨mn_sI2, o326_85⟩
  · exact ⟨mn_sLR, o326_88⟩
  · exact ⟨mn_sGR, o326_89⟩
  · exact ⟨mn_sLI, o326_92⟩
  · exact ⟨mn_sIA, o326_94⟩
  · exact ⟨mn_sGo, o326_95⟩
  · exact ⟨mn_sX, ok_X⟩
theorem oc326_4 : ∀ pc, Mnp (c326_4 pc) ∧ Okp RX12 cX12_channel_ 5 (some .int) "channel" false pc (c326_4 pc) := by
  intro pc
  unfold c326_4
  split
  · exact ⟨mn_sK, o326_98⟩
  · exact ⟨mn_sRI, o326_99⟩
  · exact ⟨mn_sX, ok_X⟩
theorem oc326 : ∀ pc, Mnp (c326 pc) ∧ Okp RX12 cX12_channel_ 5 (some .int) "channel" false pc (c326 pc) := by
  intro pc
  unfold c326
  split
  · exact oc326_0 pc
  · exact oc326_1 pc
  · exact oc326_2 pc
  · exact oc326_3 pc
  · exact oc326_4 pc
  · exact ⟨mn_sX, ok_X⟩
