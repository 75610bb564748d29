theorem o256_0 : Okp RX12 cX12_fits 3 none "fits" false 0 (sLR 0 1) := ok_aload_n (by decide +kernel : decode cX12_fits 0 = .ok (.aload_n 0, 1)) rfl
theorem o256_1 : Okp RX12 cX12_fits 3 none "fits" false 1 (sLI 1 2) := ok_iload_n (by decide +kernel : decode cX12_fits 1 = .ok (.iload_n 1, 1)) rfl
theorem o256_2 : Okp RX12 cX12_fits 3 none "fits" false 2 (sLI 2 3) := ok_iload_n (by decide +kernel : decode cX12_fits 2 = .ok (.iload_n 2, 1)) rfl
theorem o256_3 : Okp RX12 cX12_fits 3 none "fits" false 3 (sI2 0 19 6) := ok_icmp_eq (by decide +kernel : decode cX12_fits 3 = .ok (.if_icmp .eq 16, 3)) (by decide)
theorem o256_6 : Okp RX12 cX12_fits 3 none "fits" false 6 (sLI 1 7) := ok_iload_n (by decide +kernel : decode cX12_fits 6 = .ok (.iload_n 1, 1)) rfl
theorem o256_7 : Okp RX12 cX12_fits 3 none "fits" false 7 (sK 6 9) := ok_bipush (by decide +kernel : decode cX12_fits 7 = .ok (.bipush 6, 2)) (by decide)
theorem o256_9 : Okp RX12 cX12_fits 3 none "fits" false 9 (sI2 1 23 12) := ok_icmp_ne (by decide +kernel : decode cX12_fits 9 = .ok (.if_icmp .ne 14, 3)) (by decide)
theorem o256_12 : Okp RX12 cX12_fits 3 none "fits" false 12 (sLI 2 13) := ok_iload_n (by decide +kernel : decode cX12_fits 12 = .ok (.iload_n 2, 1)) rfl
theorem o256_13 : Okp RX12 cX12_fits 3 none "fits" false 13 (sCS false 229 1 16) := ok_cs (by decide +kernel : decode cX12_fits 13 = .ok (.invokestatic 336, 3)) mw_X12_336 wt_X12_isHeap (by decide) rfl
theorem o256_16 : Okp RX12 cX12_fits 3 none "fits" false 16 (sI1 0 23 19) := ok_if_eq (by decide +kernel : decode cX12_fits 16 = .ok (.ifCond .eq 7, 3)) (by decide)
theorem o256_19 : Okp RX12 cX12_fits 3 none "fits" false 19 (sK 1 20) := ok_iconst (by decide +kernel : decode cX12_fits 19 = .ok (.iconst 1, 1)) (by decide)
theorem o256_20 : Okp RX12 cX12_fits 3 none "fits" false 20 (sGo 24) := ok_goto (by decide +kernel : decode cX12_fits 20 = .ok (.goto 4, 3)) (by decide)
theorem o256_23 : Okp RX12 cX12_fits 3 none "fits" false 23 (sK 0 24) := ok_iconst (by decide +kernel : decode cX12_fits 23 = .ok (.iconst 0, 1)) (by decide)
theorem o256_24 : Okp RX12 cX12_fits 3 none "fits" false 24 (sCV false 244 2 13 27) := ok_cv (by decide +kernel : decode cX12_fits 24 = .ok (.invokevirtual 325, 3)) mw_X12_325 rfl (by decide) wm_X12_wants wse_X12_wants (by decide) rfl
theorem o256_27 : Okp RX12 cX12_fits 3 none "fits" false 27 sRV := ok_vret rfl (by decide +kernel : decode cX12_fits 27 = .ok (.return_, 1))
theorem oc256_0 : ∀ pc, Mnp (c256_0 pc) ∧ Okp RX12 cX12_fits 3 none "fits" false pc (c256_0 pc) := by
  intro pc
  unfold c256_0
  split
  · exact ⟨mn_sLR, o256_0⟩
  · exact ⟨mn_sLI, o256_1⟩
  · exact ⟨mn_sLI, o256_2⟩
  · exact ⟨mn_sI2, o256_3⟩
  · exact ⟨mn_sLI, o256_6⟩
  · exact ⟨mn_sK, o256_7⟩
  · exact ⟨mn_sI2, o256_9⟩
  · exact ⟨mn_sLI, o256_12⟩
  · exact ⟨mn_sCS, o256_13⟩
  · exact ⟨mn_sI1, o256_16⟩
  · exact ⟨mn_sK, o256_19⟩
  · exact ⟨mn_sGo, o256_20⟩
  · exact ⟨mn_sK, o256_23⟩
  · exact ⟨mn_sX, ok_X⟩
theorem oc256_1 : ∀ pc, Mnp (c256_1 pc) ∧ Okp RX12 cX12_fits 3 none "fits" false pc (c256_1 pc) := by
  intro pc
  unfold c256_1
  split
  · exact ⟨mn_sCV, o256_24⟩
  · exact ⟨mn_sRV, o256_27⟩
  · exact ⟨mn_sX, ok_X⟩
theorem oc256 : ∀ pc, Mnp (c256 pc) ∧ Okp RX12 cX12_fits 3 none "fits" false pc (c256 pc) := by
  intro pc
  unfold c256
  split
  · exact oc256_0 pc
  · exact oc256_1 pc
  · exact ⟨mn_sX, ok_X⟩
theorem o257_0 : Okp RX12 cX12_takes 3 none "takes" false 0 (sLR 0 1) := ok_aload_n (by decide +kernel : decode cX12_takes 0 = .ok (.aload_n 0, 1)) rfl
theorem o257_1 : Okp RX12 cX12_takes 3 none "takes" false 1 (sGR 13 16 4) := ok_getR (by decide +kernel : decode cX12_takes 1 = .ok (.getfield 54, 3)) fw_X12_54 rfl
theorem o257_4 : Okp RX12 cX12_takes 3 none "takes" false 4 (sLI 1 5) := ok_iload_n (by decide +kernel : decode cX12_takes 4 = .ok (.iload_n 1, 1)) rfl
theorem o257_5 : Okp RX12 cX12_takes 3 none "takes" false 5 (sIA 6) := ok_iaload (by decide +kernel : decode cX12_takes 5 = .ok (.iaload, 1))
theorem o257_6 : Okp RX12 cX12_takes 3 none "takes" false 6 (sK 1 7) := ok_iconst (by decide +kernel : decode cX12_takes 6 = .ok (.iconst 1, 1)) (by decide)
theorem o257_7 : Okp RX12 cX12_takes 3 none "takes" false 7 (sB2 fSub 8) := ok_isub (by decide +kernel : decode cX12_takes 7 = .ok (.isub, 1))
theorem o257_8 : Okp RX12 cX12_takes 3 none "takes" false 8 (sSI 2 9) := ok_istore_n (by decide +kernel : decode cX12_takes 8 = .ok (.istore_n 2, 1)) rfl (by decide) (by decide)
theorem o257_9 : Okp RX12 cX12_takes 3 none "takes" false 9 (sLI 2 10) := ok_iload_n (by decide +kernel : decode cX12_takes 9 = .ok (.iload_n 2, 1)) rfl
theorem o257_10 : Okp RX12 cX12_takes 3 none "takes" false 10 (sI1 2 40 13) := ok_if_lt (by decide +kernel : decode cX12_takes 10 = .ok (.ifCond .lt 30, 3)) (by decide)
theorem o257_13 : Okp RX12 cX12_takes 3 none "takes" false 13 (sLR 0 14) := ok_aload_n (by decide +kernel : decode cX12_takes 13 = .ok (.aload_n 0, 1)) rfl
theorem o257_14 : Okp RX12 cX12_takes 3 none "takes" false 14 (sGI 13 36 17) := ok_getI (by decide +kernel : decode cX12_takes 14 = .ok (.getfield 309, 3)) fw_X12_309 rfl
theorem o257_17 : Okp RX12 cX12_takes 3 none "takes" false 17 (sI1 0 40 20) := ok_if_eq (by decide +kernel : decode cX12_takes 17 = .ok (.ifCond .eq 23, 3)) (by decide)
theorem o257_20 : Okp RX12 cX12_takes 3 none "takes" false 20 (sLR 0 21) := ok_aload_n (by decide +kernel : decode cX12_takes 20 = .ok (.aload_n 0, 1)) rfl
theorem o257_21 : Okp RX12 cX12_takes 3 none "takes" false 21 (sLR 0 22) := ok_aload_n (by decide +kernel : decode cX12_takes 21 = .ok (.aload_n 0, 1)) rfl
theorem o257_22 : Okp RX12 cX12_takes 3 none "takes" false 22 (sGR 13 17 25) := ok_getR (by decide +kernel : decode cX12_takes 22 = .ok (.getfield 57, 3)) fw_X12_57 rfl
theorem o257_25 : Okp RX12 cX12_takes 3 none "takes" false 25 (sK 4 26) := ok_iconst (by decide +kernel : decode cX12_takes 25 = .ok (.iconst 4, 1)) (by decide)
theorem o257_26 : Okp RX12 cX12_takes 3 none "takes" false 26 (sLI 1 27) := ok_iload_n (by decide +kernel : decode cX12_takes 26 = .ok (.iload_n 1, 1)) rfl
theorem o257_27 : Okp RX12 cX12_takes 3 none "takes" false 27 (sB2 fMul 28) := ok_imul (by decide +kernel : decode cX12_takes 27 = .ok (.imul, 1))
theorem o257_28 : Okp RX12 cX12_takes 3 none "takes" false 28 (sLI 2 29) := ok_iload_n (by decide +kernel : decode cX12_takes 28 = .ok (.iload_n 2, 1)) rfl
theorem o257_29 : Okp RX12 cX12_takes 3 none "takes" false 29 (sB2 fAdd 30) := ok_iadd (by decide +kernel : decode cX12_takes 29 = .ok (.iadd, 1))
theorem o257_30 : Okp RX12 cX12_takes 3 none "takes" false 30 (sIA 31) := ok_iaload (by decide +kernel : decode cX12_takes 30 = .ok (.iaload, 1))
theorem o257_31 : Okp RX12 cX12_takes 3 none "takes" false 31 (sCV false 249 2 13 34) := ok_cv (by decide +kernel : decode cX12_takes 31 = .ok (.invokevirtual 362, 3)) mw_X12_362 rfl (by decide) wm_X12_popFor wse_X12_popFor (by decide) rfl
theorem o257_34 : Okp RX12 cX12_takes 3 none "takes" false 34 (sInc 2 (-1) 37) := ok_iinc (by decide +kernel : decode cX12_takes 34 = .ok (.iinc 2 (-1), 3)) (by decide) (by decide)
theorem o257_37 : Okp RX12 cX12_takes 3 none "takes" false 37 (sGo 9) := ok_goto (by decide +kernel : decode cX12_takes 37 = .ok (.goto (-28), 3)) (by decide)
theorem o257_40 : Okp RX12 cX12_takes 3 none "takes" false 40 sRV := ok_vret rfl (by decide +kernel : decode cX12_takes 40 = .ok (.return_, 1))
theorem oc257_0 : ∀ pc, Mnp (c257_0 pc) ∧ Okp RX12 cX12_takes 3 none "takes" false pc (c257_0 pc) := by
  intro pc
  unfold c257_0
  split
  · exact ⟨mn_sLR, o257_0⟩
  · exact ⟨mn_sGR, o257_1⟩
  · exact ⟨mn_sLI, o257_4⟩
  · exact ⟨mn_sIA, o257_5⟩
  · exact ⟨mn_sK, o257_6⟩
  · exact ⟨mn_sB2, o257_7⟩
  · exact ⟨mn_sSI, o257_8⟩
  · exact ⟨mn_sLI, o257_9⟩
  · exact ⟨mn_sI1, o257_10⟩
  · exact ⟨mn_sLR, o257_13⟩
  · exact ⟨mn_sGI, o257_14⟩
  · exact ⟨mn_sI1, o257_17⟩
  · exact ⟨mn_sLR, o257_20⟩
  · exact ⟨mn_sLR, o257_21⟩
  · exact ⟨mn_sGR, o257_22⟩
  · exact ⟨mn_sX, ok_X⟩
theorem oc257_1 : ∀ pc, Mnp (c257_1 pc) ∧ Okp RX12 cX12_takes 3 none "takes" false pc (c257_1 pc) := by
  intro pc
  unfold c257_1
  split
  · exact ⟨mn_sK, o257_25⟩
  · exact ⟨mn_sLI, o257_26⟩
  · exact ⟨mn_sB2, o257_27⟩
  · exact ⟨mn_sLI, o257_28⟩
  · exact ⟨mn_sB2, o257_29⟩
  · exact ⟨mn_sIA, o257_30⟩
  · exact ⟨mn_sCV, o257_31⟩
  · exact ⟨mn_sInc, o257_34⟩
  · exact ⟨mn_sGo, o257_37⟩
  · exact ⟨mn_sRV, o257_40⟩
  · exact ⟨mn_sX, ok_X⟩
theorem oc257 : ∀ pc, Mnp (c257 pc) ∧ Okp RX12 cX12_takes 3 none "takes" false pc (c257 pc) := by
  intro pc
  unfold c257
  split
  · exact oc257_0 pc
  · exact oc257_1 pc
  · exact ⟨mn_sX, ok_X⟩
theorem o258_0 : Okp RX12 cX12_linear 8 none "linear" false 0 (sLI 3 1) := ok_iload_n (by decide +kernel : decode cX12_linear 0 = .ok (.iload_n 3, 1)) rfl
theorem o258_1 : Okp RX12 cX12_linear 8 none "linear" false 1 (sSw [(32, 64), (33, 78), (34, 142), (35, 206), (36, 216), (37, 245), (38, 401), (39, 255), (40, 307), (41, 401), (42, 401), (43, 393)] 401) := ok_tsw (by decide +kernel : decode cX12_linear 1 = .ok (.tableswitch 400 32 43 #[63, 77, 141, 205, 215, 244, 400, 254, 306, 400, 400, 392], 63)) (by decide) (by decide) (by decide)
theorem o258_64 : Okp RX12 cX12_linear 8 none "linear" false 64 (sLR 0 65) := ok_aload_n (by decide +kernel : decode cX12_linear 64 = .ok (.aload_n 0, 1)) rfl
theorem o258_65 : Okp RX12 cX12_linear 8 none "linear" false 65 (sK 4 66) := ok_iconst (by decide +kernel : decode cX12_linear 65 = .ok (.iconst 4, 1)) (by decide)
theorem o258_66 : Okp RX12 cX12_linear 8 none "linear" false 66 (sK 8 68) := ok_bipush (by decide +kernel : decode cX12_linear 66 = .ok (.bipush 8, 2)) (by decide)
theorem o258_68 : Okp RX12 cX12_linear 8 none "linear" false 68 (sLI 4 70) := ok_iload (by decide +kernel : decode cX12_linear 68 = .ok (.iload 4, 2))
theorem o258_70 : Okp RX12 cX12_linear 8 none "linear" false 70 (sB2 fMul 71) := ok_imul (by decide +kernel : decode cX12_linear 70 = .ok (.imul, 1))
theorem o258_71 : Okp RX12 cX12_linear 8 none "linear" false 71 (sB2 fAdd 72) := ok_iadd (by decide +kernel : decode cX12_linear 71 = .ok (.iadd, 1))
theorem o258_72 : Okp RX12 cX12_linear 8 none "linear" false 72 (sCV false 248 2 13 75) := ok_cv (by decide +kernel : decode cX12_linear 72 = .ok (.invokevirtual 359, 3)) mw_X12_359 rfl (by decide) wm_X12_push wse_X12_push (by decide) rfl
theorem o258_75 : Okp RX12 cX12_linear 8 none "linear" false 75 (sGo 401) := ok_goto (by decide +kernel : decode cX12_linear 75 = .ok (.goto 326, 3)) (by decide)
theorem o258_78 : Okp RX12 cX12_linear 8 none "linear" false 78 (sLR 0 79) := ok_aload_n (by decide +kernel : decode cX12_linear 78 = .ok (.aload_n 0, 1)) rfl
theorem o258_79 : Okp RX12 cX12_linear 8 none "linear" false 79 (sK 4 80) := ok_iconst (by decide +kernel : decode cX12_linear 79 = .ok (.iconst 4, 1)) (by decide)
theorem o258_80 : Okp RX12 cX12_linear 8 none "linear" false 80 (sCV false 250 2 13 83) := ok_cv (by decide +kernel : decode cX12_linear 80 = .ok (.invokevirtual 380, 3)) mw_X12_380 rfl (by decide) wm_X12_popKind wse_X12_popKind (by decide) rfl
theorem o258_83 : Okp RX12 cX12_linear 8 none "linear" false 83 (sSI 5 85) := ok_istore (by decide +kernel : decode cX12_linear 83 = .ok (.istore 5, 2)) (by decide) (by decide)
theorem o258_85 : Okp RX12 cX12_linear 8 none "linear" false 85 (sLR 0 86) := ok_aload_n (by decide +kernel : decode cX12_linear 85 = .ok (.aload_n 0, 1)) rfl
theorem o258_86 : Okp RX12 cX12_linear 8 none "linear" false 86 (sLR 0 87) := ok_aload_n (by decide +kernel : decode cX12_linear 86 = .ok (.aload_n 0, 1)) rfl
theorem o258_87 : Okp RX12 cX12_linear 8 none "linear" false 87 (sGI 13 36 90) := ok_getI (by decide +kernel : decode cX12_linear 87 = .ok (.getfield 309, 3)) fw_X12_309 rfl
theorem o258_90 : Okp RX12 cX12_linear 8 none "linear" false 90 (sI1 0 117 93) := ok_if_eq (by decide +kernel : decode cX12_linear 90 = .ok (.ifCond .eq 27, 3)) (by decide)
theorem o258_93 : Okp RX12 cX12_linear 8 none "linear" false 93 (sLI 4 95) := ok_iload (by decide +kernel : decode cX12_linear 93 = .ok (.iload 4, 2))
theorem o258_95 : Okp RX12 cX12_linear 8 none "linear" false 95 (sLR 0 96) := ok_aload_n (by decide +kernel : decode cX12_linear 95 = .ok (.aload_n 0, 1)) rfl
theorem o258_96 : Okp RX12 cX12_linear 8 none "linear" false 96 (sGR 13 9 99) := ok_getR (by decide +kernel : decode cX12_linear 96 = .ok (.getfield 33, 3)) fw_X12_33 rfl
theorem o258_99 : Okp RX12 cX12_linear 8 none "linear" false 99 (sK 8 101) := ok_bipush (by decide +kernel : decode cX12_linear 99 = .ok (.bipush 8, 2)) (by decide)
theorem o258_101 : Okp RX12 cX12_linear 8 none "linear" false 101 (sLI 1 102) := ok_iload_n (by decide +kernel : decode cX12_linear 101 = .ok (.iload_n 1, 1)) rfl
theorem o258_102 : Okp RX12 cX12_linear 8 none "linear" false 102 (sB2 fMul 103) := ok_imul (by decide +kernel : decode cX12_linear 102 = .ok (.imul, 1))
theorem o258_103 : Okp RX12 cX12_linear 8 none "linear" false 103 (sLI 5 105) := ok_iload (by decide +kernel : decode cX12_linear 103 = .ok (.iload 5, 2))
theorem o258_105 : Okp RX12 cX12_linear 8 none "linear" false 105 (sCS false 225 1 108) := ok_cs (by decide +kernel : decode cX12_linear 105 = .ok (.invokestatic 368, 3)) mw_X12_368 wt_X12_which (by decide) rfl
theorem o258_108 : Okp RX12 cX12_linear 8 none "linear" false 108 (sB2 fAdd 109) := ok_iadd (by decide +kernel : decode cX12_linear 108 = .ok (.iadd, 1))
theorem o258_109 : Okp RX12 cX12_linear 8 none "linear" false 109 (sIA 110) := ok_iaload (by decide +kernel : decode cX12_linear 109 = .ok (.iaload, 1))
theorem o258_110 : Okp RX12 cX12_linear 8 none "linear" false 110 (sI2 3 117 113) := ok_icmp_ge (by decide +kernel : decode cX12_linear 110 = .ok (.if_icmp .ge 7, 3)) (by decide)
theorem o258_113 : Okp RX12 cX12_linear 8 none "linear" false 113 (sK 1 114) := ok_iconst (by decide +kernel : decode cX12_linear 113 = .ok (.iconst 1, 1)) (by decide)
theorem o258_114 : Okp RX12 cX12_linear 8 none "linear" false 114 (sGo 118) := ok_goto (by decide +kernel : decode cX12_linear 114 = .ok (.goto 4, 3)) (by decide)
theorem o258_117 : Okp RX12 cX12_linear 8 none "linear" false 117 (sK 0 118) := ok_iconst (by decide +kernel : decode cX12_linear 117 = .ok (.iconst 0, 1)) (by decide)
theorem o258_118 : Okp RX12 cX12_linear 8 none "linear" false 118 (sCV false 244 2 13 121) := ok_cv (by decide +kernel : decode cX12_linear 118 = .ok (.invokevirtual 325, 3)) mw_X12_325 rfl (by decide) wm_X12_wants wse_X12_wants (by decide) rfl
theorem o258_121 : Okp RX12 cX12_linear 8 none "linear" false 121 (sLR 0 122) := ok_aload_n (by decide +kernel : decode cX12_linear 121 = .ok (.aload_n 0, 1)) rfl
theorem o258_122 : Okp RX12 cX12_linear 8 none "linear" false 122 (sGI 13 36 125) := ok_getI (by decide +kernel : decode cX12_linear 122 = .ok (.getfield 309, 3)) fw_X12_309 rfl
theorem o258_125 : Okp RX12 cX12_linear 8 none "linear" false 125 (sI1 0 401 128) := ok_if_eq (by decide +kernel : decode cX12_linear 125 = .ok (.ifCond .eq 276, 3)) (by decide)
theorem o258_128 : Okp RX12 cX12_linear 8 none "linear" false 128 (sLR 0 129) := ok_aload_n (by decide +kernel : decode cX12_linear 128 = .ok (.aload_n 0, 1)) rfl
theorem o258_129 : Okp RX12 cX12_linear 8 none "linear" false 129 (sLI 5 131) := ok_iload (by decide +kernel : decode cX12_linear 129 = .ok (.iload 5, 2))
theorem o258_131 : Okp RX12 cX12_linear 8 none "linear" false 131 (sCV false 248 2 13 134) := ok_cv (by decide +kernel : decode cX12_linear 131 = .ok (.invokevirtual 359, 3)) mw_X12_359 rfl (by decide) wm_X12_push wse_X12_push (by decide) rfl
theorem o258_134 : Okp RX12 cX12_linear 8 none "linear" false 134 (sLR 0 135) := ok_aload_n (by decide +kernel : decode cX12_linear 134 = .ok (.aload_n 0, 1)) rfl
theorem o258_135 : Okp RX12 cX12_linear 8 none "linear" false 135 (sK 0 136) := ok_iconst (by decide +kernel : decode cX12_linear 135 = .ok (.iconst 0, 1)) (by decide)
theorem o258_136 : Okp RX12 cX12_linear 8 none "linear" false 136 (sCV false 248 2 13 139) := ok_cv (by decide +kernel : decode cX12_linear 136 = .ok (.invokevirtual 359, 3)) mw_X12_359 rfl (by decide) wm_X12_push wse_X12_push (by decide) rfl
theorem o258_139 : Okp RX12 cX12_linear 8 none "linear" false 139 (sGo 401) := ok_goto (by decide +kernel : decode cX12_linear 139 = .ok (.goto 262, 3)) (by decide)
theorem o258_142 : Okp RX12 cX12_linear 8 none "linear" false 142 (sLR 0 143) := ok_aload_n (by decide +kernel : decode cX12_linear 142 = .ok (.aload_n 0, 1)) rfl
theorem o258_143 : Okp RX12 cX12_linear 8 none "linear" false 143 (sK 0 144) := ok_iconst (by decide +kernel : decode cX12_linear 143 = .ok (.iconst 0, 1)) (by decide)
theorem o258_144 : Okp RX12 cX12_linear 8 none "linear" false 144 (sCV false 249 2 13 147) := ok_cv (by decide +kernel : decode cX12_linear 144 = .ok (.invokevirtual 362, 3)) mw_X12_362 rfl (by decide) wm_X12_popFor wse_X12_popFor (by decide) rfl
theorem o258_147 : Okp RX12 cX12_linear 8 none "linear" false 147 (sLR 0 148) := ok_aload_n (by decide +kernel : decode cX12_linear 147 = .ok (.aload_n 0, 1)) rfl
theorem o258_148 : Okp RX12 cX12_linear 8 none "linear" false 148 (sK 4 149) := ok_iconst (by decide +kernel : decode cX12_linear 148 = .ok (.iconst 4, 1)) (by decide)
theorem o258_149 : Okp RX12 cX12_linear 8 none "linear" false 149 (sCV false 250 2 13 152) := ok_cv (by decide +kernel : decode cX12_linear 149 = .ok (.invokevirtual 380, 3)) mw_X12_380 rfl (by decide) wm_X12_popKind wse_X12_popKind (by decide) rfl
theorem o258_152 : Okp RX12 cX12_linear 8 none "linear" false 152 (sSI 5 154) := ok_istore (by decide +kernel : decode cX12_linear 152 = .ok (.istore 5, 2)) (by decide) (by decide)
theorem o258_154 : Okp RX12 cX12_linear 8 none "linear" false 154 (sLR 0 155) := ok_aload_n (by decide +kernel : decode cX12_linear 154 = .ok (.aload_n 0, 1)) rfl
theorem o258_155 : Okp RX12 cX12_linear 8 none "linear" false 155 (sLR 0 156) := ok_aload_n (by decide +kernel : decode cX12_linear 155 = .ok (.aload_n 0, 1)) rfl
theorem o258_156 : Okp RX12 cX12_linear 8 none "linear" false 156 (sGI 13 36 159) := ok_getI (by decide +kernel : decode cX12_linear 156 = .ok (.getfield 309, 3)) fw_X12_309 rfl
theorem o258_159 : Okp RX12 cX12_linear 8 none "linear" false 159 (sI1 0 186 162) := ok_if_eq (by decide +kernel : decode cX12_linear 159 = .ok (.ifCond .eq 27, 3)) (by decide)
theorem o258_162 : Okp RX12 cX12_linear 8 none "linear" false 162 (sLI 4 164) := ok_iload (by decide +kernel : decode cX12_linear 162 = .ok (.iload 4, 2))
theorem o258_164 : Okp RX12 cX12_linear 8 none "linear" false 164 (sLR 0 165) := ok_aload_n (by decide +kernel : decode cX12_linear 164 = .ok (.aload_n 0, 1)) rfl
theorem o258_165 : Okp RX12 cX12_linear 8 none "linear" false 165 (sGR 13 9 168) := ok_getR (by decide +kernel : decode cX12_linear 165 = .ok (.getfield 33, 3)) fw_X12_33 rfl
theorem o258_168 : Okp RX12 cX12_linear 8 none "linear" false 168 (sK 8 170) := ok_bipush (by decide +kernel : decode cX12_linear 168 = .ok (.bipush 8, 2)) (by decide)
theorem o258_170 : Okp RX12 cX12_linear 8 none "linear" false 170 (sLI 1 171) := ok_iload_n (by decide +kernel : decode cX12_linear 170 = .ok (.iload_n 1, 1)) rfl
theorem o258_171 : Okp RX12 cX12_linear 8 none "linear" false 171 (sB2 fMul 172) := ok_imul (by decide +kernel : decode cX12_linear 171 = .ok (.imul, 1))
theorem o258_172 : Okp RX12 cX12_linear 8 none "linear" false 172 (sLI 5 174) := ok_iload (by decide +kernel : decode cX12_linear 172 = .ok (.iload 5, 2))
theorem o258_174 : Okp RX12 cX12_linear 8 none "linear" false 174 (sCS false 225 1 177) := ok_cs (by decide +kernel : decode cX12_linear 174 = .ok (.invokestatic 368, 3)) mw_X12_368 wt_X12_which (by decide) rfl
theorem o258_177 : Okp RX12 cX12_linear 8 none "linear" false 177 (sB2 fAdd 178) := ok_iadd (by decide +kernel : decode cX12_linear 177 = .ok (.iadd, 1))
theorem o258_178 : Okp RX12 cX12_linear 8 none "linear" false 178 (sIA 179) := ok_iaload (by decide +kernel : decode cX12_linear 178 = .ok (.iaload, 1))
theorem o258_179 : Okp RX12 cX12_linear 8 none "linear" false 179 (sI2 3 186 182) := ok_icmp_ge (by decide +kernel : decode cX12_linear 179 = .ok (.if_icmp .ge 7, 3)) (by decide)
theorem o258_182 : Okp RX12 cX12_linear 8 none "linear" false 182 (sK 1 183) := ok_iconst (by decide +kernel : decode cX12_linear 182 = .ok (.iconst 1, 1)) (by decide)
theorem o258_183 : Okp RX12 cX12_linear 8 none "linear" false 183 (sGo 187) := ok_goto (by decide +kernel : decode cX12_linear 183 = .ok (.goto 4, 3)) (by decide)
theorem o258_186 : Okp RX12 cX12_linear 8 none "linear" false 186 (sK 0 187) := ok_iconst (by decide +kernel : decode cX12_linear 186 = .ok (.iconst 0, 1)) (by decide)
theorem o258_187 : Okp RX12 cX12_linear 8 none "linear" false 187 (sCV false 244 2 13 190) := ok_cv (by decide +kernel : decode cX12_linear 187 = .ok (.invokevirtual 325, 3)) mw_X12_325 rfl (by decide) wm_X12_wants wse_X12_wants (by decide) rfl
theorem o258_190 : Okp RX12 cX12_linear 8 none "linear" false 190 (sLR 0 191) := ok_aload_n (by decide +kernel : decode cX12_linear 190 = .ok (.aload_n 0, 1)) rfl
theorem o258_191 : Okp RX12 cX12_linear 8 none "linear" false 191 (sGI 13 36 194) := ok_getI (by decide +kernel : decode cX12_linear 191 = .ok (.getfield 309, 3)) fw_X12_309 rfl
theorem o258_194 : Okp RX12 cX12_linear 8 none "linear" false 194 (sI1 0 401 197) := ok_if_eq (by decide +kernel : decode cX12_linear 194 = .ok (.ifCond .eq 207, 3)) (by decide)
theorem o258_197 : Okp RX12 cX12_linear 8 none "linear" false 197 (sLR 0 198) := ok_aload_n (by decide +kernel : decode cX12_linear 197 = .ok (.aload_n 0, 1)) rfl
theorem o258_198 : Okp RX12 cX12_linear 8 none "linear" false 198 (sLI 5 200) := ok_iload (by decide +kernel : decode cX12_linear 198 = .ok (.iload 5, 2))
theorem o258_200 : Okp RX12 cX12_linear 8 none "linear" false 200 (sCV false 248 2 13 203) := ok_cv (by decide +kernel : decode cX12_linear 200 = .ok (.invokevirtual 359, 3)) mw_X12_359 rfl (by decide) wm_X12_push wse_X12_push (by decide) rfl
theorem o258_203 : Okp RX12 cX12_linear 8 none "linear" false 203 (sGo 401) := ok_goto (by decide +kernel : decode cX12_linear 203 = .ok (.goto 198, 3)) (by decide)
theorem o258_206 : Okp RX12 cX12_linear 8 none "linear" false 206 (sLR 0 207) := ok_aload_n (by decide +kernel : decode cX12_linear 206 = .ok (.aload_n 0, 1)) rfl
theorem o258_207 : Okp RX12 cX12_linear 8 none "linear" false 207 (sK 4 208) := ok_iconst (by decide +kernel : decode cX12_linear 207 = .ok (.iconst 4, 1)) (by decide)
theorem o258_208 : Okp RX12 cX12_linear 8 none "linear" false 208 (sCV false 250 2 13 211) := ok_cv (by decide +kernel : decode cX12_linear 208 = .ok (.invokevirtual 380, 3)) mw_X12_380 rfl (by decide) wm_X12_popKind wse_X12_popKind (by decide) rfl
theorem o258_211 : Okp RX12 cX12_linear 8 none "linear" false 211 (sSI 5 213) := ok_istore (by decide +kernel : decode cX12_linear 211 = .ok (.istore 5, 2)) (by decide) (by decide)
theorem o258_213 : Okp RX12 cX12_linear 8 none "linear" false 213 (sGo 401) := ok_goto (by decide +kernel : decode cX12_linear 213 = .ok (.goto 188, 3)) (by decide)
theorem o258_216 : Okp RX12 cX12_linear 8 none "linear" false 216 (sLR 0 217) := ok_aload_n (by decide +kernel : decode cX12_linear 216 = .ok (.aload_n 0, 1)) rfl
theorem o258_217 : Okp RX12 cX12_linear 8 none "linear" false 217 (sK 5 218) := ok_iconst (by decide +kernel : decode cX12_linear 217 = .ok (.iconst 5, 1)) (by decide)
theorem o258_218 : Okp RX12 cX12_linear 8 none "linear" false 218 (sK 8 220) := ok_bipush (by decide +kernel : decode cX12_linear 218 = .ok (.bipush 8, 2)) (by decide)
theorem o258_220 : Okp RX12 cX12_linear 8 none "linear" false 220 (sLI 4 222) := ok_iload (by decide +kernel : decode cX12_linear 220 = .ok (.iload 4, 2))
theorem o258_222 : Okp RX12 cX12_linear 8 none "linear" false 222 (sB2 fMul 223) := ok_imul (by decide +kernel : decode cX12_linear 222 = .ok (.imul, 1))
theorem o258_223 : Okp RX12 cX12_linear 8 none "linear" false 223 (sB2 fAdd 224) := ok_iadd (by decide +kernel : decode cX12_linear 223 = .ok (.iadd, 1))
theorem o258_224 : Okp RX12 cX12_linear 8 none "linear" false 224 (sCV false 248 2 13 227) := ok_cv (by decide +kernel : decode cX12_linear 224 = .ok (.invokevirtual 359, 3)) mw_X12_359 rfl (by decide) wm_X12_push wse_X12_push (by decide) rfl
theorem o258_227 : Okp RX12 cX12_linear 8 none "linear" false 227 (sLR 0 228) := ok_aload_n (by decide +kernel : decode cX12_linear 227 = .ok (.aload_n 0, 1)) rfl
theorem o258_228 : Okp RX12 cX12_linear 8 none "linear" false 228 (sK 5 229) := ok_iconst (by decide +kernel : decode cX12_linear 228 = .ok (.iconst 5, 1)) (by decide)
theorem o258_229 : Okp RX12 cX12_linear 8 none "linear" false 229 (sK 8 231) := ok_bipush (by decide +kernel : decode cX12_linear 229 = .ok (.bipush 8, 2)) (by decide)
theorem o258_231 : Okp RX12 cX12_linear 8 none "linear" false 231 (sLI 4 233) := ok_iload (by decide +kernel : decode cX12_linear 231 = .ok (.iload 4, 2))
theorem o258_233 : Okp RX12 cX12_linear 8 none "linear" false 233 (sB2 fMul 234) := ok_imul (by decide +kernel : decode cX12_linear 233 = .ok (.imul, 1))
theorem o258_234 : Okp RX12 cX12_linear 8 none "linear" false 234 (sB2 fAdd 235) := ok_iadd (by decide +kernel : decode cX12_linear 234 = .ok (.iadd, 1))
theorem o258_235 : Okp RX12 cX12_linear 8 none "linear" false 235 (sK 524288 238) := ok_ldcw (by decide +kernel : decode cX12_linear 235 = .ok (.ldc_w 257, 3)) wk_X12_257 (by decide)
theorem o258_238 : Okp RX12 cX12_linear 8 none "linear" false 238 (sB2 fAdd 239) := ok_iadd (by decide +kernel : decode cX12_linear 238 = .ok (.iadd, 1))
theorem o258_239 : Okp RX12 cX12_linear 8 none "linear" false 239 (sCV false 248 2 13 242) := ok_cv (by decide +kernel : decode cX12_linear 239 = .ok (.invokevirtual 359, 3)) mw_X12_359 rfl (by decide) wm_X12_push wse_X12_push (by decide) rfl
theorem o258_242 : Okp RX12 cX12_linear 8 none "linear" false 242 (sGo 401) := ok_goto (by decide +kernel : decode cX12_linear 242 = .ok (.goto 159, 3)) (by decide)
theorem o258_245 : Okp RX12 cX12_linear 8 none "linear" false 245 (sLR 0 246) := ok_aload_n (by decide +kernel : decode cX12_linear 245 = .ok (.aload_n 0, 1)) rfl
theorem o258_246 : Okp RX12 cX12_linear 8 none "linear" false 246 (sLI 1 247) := ok_iload_n (by decide +kernel : decode cX12_linear 246 = .ok (.iload_n 1, 1)) rfl
theorem o258_247 : Okp RX12 cX12_linear 8 none "linear" false 247 (sLI 4 249) := ok_iload (by decide +kernel : decode cX12_linear 247 = .ok (.iload 4, 2))
theorem o258_249 : Okp RX12 cX12_linear 8 none "linear" false 249 (sCV false 260 3 13 252) := ok_cv (by decide +kernel : decode cX12_linear 249 = .ok (.invokevirtual 383, 3)) mw_X12_383 rfl (by decide) wm_X12_sends wse_X12_sends (by decide) rfl
theorem o258_252 : Okp RX12 cX12_linear 8 none "linear" false 252 (sGo 401) := ok_goto (by decide +kernel : decode cX12_linear 252 = .ok (.goto 149, 3)) (by decide)
theorem o258_255 : Okp RX12 cX12_linear 8 none "linear" false 255 (sLR 0 256) := ok_aload_n (by decide +kernel : decode cX12_linear 255 = .ok (.aload_n 0, 1)) rfl
theorem o258_256 : Okp RX12 cX12_linear 8 none "linear" false 256 (sK 5 257) := ok_iconst (by decide +kernel : decode cX12_linear 256 = .ok (.iconst 5, 1)) (by decide)
theorem o258_257 : Okp RX12 cX12_linear 8 none "linear" false 257 (sCV false 250 2 13 260) := ok_cv (by decide +kernel : decode cX12_linear 257 = .ok (.invokevirtual 380, 3)) mw_X12_380 rfl (by decide) wm_X12_popKind wse_X12_popKind (by decide) rfl
theorem o258_260 : Okp RX12 cX12_linear 8 none "linear" false 260 (sSI 5 262) := ok_istore (by decide +kernel : decode cX12_linear 260 = .ok (.istore 5, 2)) (by decide) (by decide)
theorem o258_262 : Okp RX12 cX12_linear 8 none "linear" false 262 (sLR 0 263) := ok_aload_n (by decide +kernel : decode cX12_linear 262 = .ok (.aload_n 0, 1)) rfl
theorem o258_263 : Okp RX12 cX12_linear 8 none "linear" false 263 (sLR 0 264) := ok_aload_n (by decide +kernel : decode cX12_linear 263 = .ok (.aload_n 0, 1)) rfl
theorem o258_264 : Okp RX12 cX12_linear 8 none "linear" false 264 (sGI 13 36 267) := ok_getI (by decide +kernel : decode cX12_linear 264 = .ok (.getfield 309, 3)) fw_X12_309 rfl
theorem o258_267 : Okp RX12 cX12_linear 8 none "linear" false 267 (sI1 0 300 270) := ok_if_eq (by decide +kernel : decode cX12_linear 267 = .ok (.ifCond .eq 33, 3)) (by decide)
theorem o258_270 : Okp RX12 cX12_linear 8 none "linear" false 270 (sLR 0 271) := ok_aload_n (by decide +kernel : decode cX12_linear 270 = .ok (.aload_n 0, 1)) rfl
theorem o258_271 : Okp RX12 cX12_linear 8 none "linear" false 271 (sGR 13 12 274) := ok_getR (by decide +kernel : decode cX12_linear 271 = .ok (.getfield 42, 3)) fw_X12_42 rfl
theorem o258_274 : Okp RX12 cX12_linear 8 none "linear" false 274 (sK 8 276) := ok_bipush (by decide +kernel : decode cX12_linear 274 = .ok (.bipush 8, 2)) (by decide)
theorem o258_276 : Okp RX12 cX12_linear 8 none "linear" false 276 (sK 4 277) := ok_iconst (by decide +kernel : decode cX12_linear 276 = .ok (.iconst 4, 1)) (by decide)
theorem o258_277 : Okp RX12 cX12_linear 8 none "linear" false 277 (sLI 1 278) := ok_iload_n (by decide +kernel : decode cX12_linear 277 = .ok (.iload_n 1, 1)) rfl
theorem o258_278 : Okp RX12 cX12_linear 8 none "linear" false 278 (sB2 fMul 279) := ok_imul (by decide +kernel : decode cX12_linear 278 = .ok (.imul, 1))
theorem o258_279 : Okp RX12 cX12_linear 8 none "linear" false 279 (sLI 5 281) := ok_iload (by decide +kernel : decode cX12_linear 279 = .ok (.iload 5, 2))
theorem o258_281 : Okp RX12 cX12_linear 8 none "linear" false 281 (sCS false 225 1 284) := ok_cs (by decide +kernel : decode cX12_linear 281 = .ok (.invokestatic 368, 3)) mw_X12_368 wt_X12_which (by decide) rfl
theorem o258_284 : Okp RX12 cX12_linear 8 none "linear" false 284 (sB2 fAdd 285) := ok_iadd (by decide +kernel : decode cX12_linear 284 = .ok (.iadd, 1))
theorem o258_285 : Okp RX12 cX12_linear 8 none "linear" false 285 (sB2 fMul 286) := ok_imul (by decide +kernel : decode cX12_linear 285 = .ok (.imul, 1))
theorem o258_286 : Okp RX12 cX12_linear 8 none "linear" false 286 (sLI 5 288) := ok_iload (by decide +kernel : decode cX12_linear 286 = .ok (.iload 5, 2))
theorem o258_288 : Okp RX12 cX12_linear 8 none "linear" false 288 (sCS false 226 1 291) := ok_cs (by decide +kernel : decode cX12_linear 288 = .ok (.invokestatic 386, 3)) mw_X12_386 wt_X12_state (by decide) rfl
theorem o258_291 : Okp RX12 cX12_linear 8 none "linear" false 291 (sB2 fAdd 292) := ok_iadd (by decide +kernel : decode cX12_linear 291 = .ok (.iadd, 1))
theorem o258_292 : Okp RX12 cX12_linear 8 none "linear" false 292 (sIA 293) := ok_iaload (by decide +kernel : decode cX12_linear 292 = .ok (.iaload, 1))
theorem o258_293 : Okp RX12 cX12_linear 8 none "linear" false 293 (sI1 1 300 296) := ok_if_ne (by decide +kernel : decode cX12_linear 293 = .ok (.ifCond .ne 7, 3)) (by decide)
theorem o258_296 : Okp RX12 cX12_linear 8 none "linear" false 296 (sK 1 297) := ok_iconst (by decide +kernel : decode cX12_linear 296 = .ok (.iconst 1, 1)) (by decide)
theorem o258_297 : Okp RX12 cX12_linear 8 none "linear" false 297 (sGo 301) := ok_goto (by decide +kernel : decode cX12_linear 297 = .ok (.goto 4, 3)) (by decide)
theorem o258_300 : Okp RX12 cX12_linear 8 none "linear" false 300 (sK 0 301) := ok_iconst (by decide +kernel : decode cX12_linear 300 = .ok (.iconst 0, 1)) (by decide)
theorem o258_301 : Okp RX12 cX12_linear 8 none "linear" false 301 (sCV false 244 2 13 304) := ok_cv (by decide +kernel : decode cX12_linear 301 = .ok (.invokevirtual 325, 3)) mw_X12_325 rfl (by decide) wm_X12_wants wse_X12_wants (by decide) rfl
theorem o258_304 : Okp RX12 cX12_linear 8 none "linear" false 304 (sGo 401) := ok_goto (by decide +kernel : decode cX12_linear 304 = .ok (.goto 97, 3)) (by decide)
theorem o258_307 : Okp RX12 cX12_linear 8 none "linear" false 307 (sK 10 309) := ok_bipush (by decide +kernel : decode cX12_linear 307 = .ok (.bipush 10, 2)) (by decide)
theorem o258_309 : Okp RX12 cX12_linear 8 none "linear" false 309 (sLI 1 310) := ok_iload_n (by decide +kernel : decode cX12_linear 309 = .ok (.iload_n 1, 1)) rfl
theorem o258_310 : Okp RX12 cX12_linear 8 none "linear" false 310 (sB2 fMul 311) := ok_imul (by decide +kernel : decode cX12_linear 310 = .ok (.imul, 1))
theorem o258_311 : Okp RX12 cX12_linear 8 none "linear" false 311 (sLI 4 313) := ok_iload (by decide +kernel : decode cX12_linear 311 = .ok (.iload 4, 2))
theorem o258_313 : Okp RX12 cX12_linear 8 none "linear" false 313 (sB2 fAdd 314) := ok_iadd (by decide +kernel : decode cX12_linear 313 = .ok (.iadd, 1))
theorem o258_314 : Okp RX12 cX12_linear 8 none "linear" false 314 (sSI 6 316) := ok_istore (by decide +kernel : decode cX12_linear 314 = .ok (.istore 6, 2)) (by decide) (by decide)
theorem o258_316 : Okp RX12 cX12_linear 8 none "linear" false 316 (sLR 0 317) := ok_aload_n (by decide +kernel : decode cX12_linear 316 = .ok (.aload_n 0, 1)) rfl
theorem o258_317 : Okp RX12 cX12_linear 8 none "linear" false 317 (sLR 0 318) := ok_aload_n (by decide +kernel : decode cX12_linear 317 = .ok (.aload_n 0, 1)) rfl
theorem o258_318 : Okp RX12 cX12_linear 8 none "linear" false 318 (sGR 13 18 321) := ok_getR (by decide +kernel : decode cX12_linear 318 = .ok (.getfield 60, 3)) fw_X12_60 rfl
theorem o258_321 : Okp RX12 cX12_linear 8 none "linear" false 321 (sLI 6 323) := ok_iload (by decide +kernel : decode cX12_linear 321 = .ok (.iload 6, 2))
theorem o258_323 : Okp RX12 cX12_linear 8 none "linear" false 323 (sIA 324) := ok_iaload (by decide +kernel : decode cX12_linear 323 = .ok (.iaload, 1))
theorem o258_324 : Okp RX12 cX12_linear 8 none "linear" false 324 (sK (-1) 325) := ok_iconst (by decide +kernel : decode cX12_linear 324 = .ok (.iconst (-1), 1)) (by decide)
theorem o258_325 : Okp RX12 cX12_linear 8 none "linear" false 325 (sI2 1 332 328) := ok_icmp_ne (by decide +kernel : decode cX12_linear 325 = .ok (.if_icmp .ne 7, 3)) (by decide)
theorem o258_328 : Okp RX12 cX12_linear 8 none "linear" false 328 (sK 1 329) := ok_iconst (by decide +kernel : decode cX12_linear 328 = .ok (.iconst 1, 1)) (by decide)
theorem o258_329 : Okp RX12 cX12_linear 8 none "linear" false 329 (sGo 333) := ok_goto (by decide +kernel : decode cX12_linear 329 = .ok (.goto 4, 3)) (by decide)
theorem o258_332 : Okp RX12 cX12_linear 8 none "linear" false 332 (sK 0 333) := ok_iconst (by decide +kernel : decode cX12_linear 332 = .ok (.iconst 0, 1)) (by decide)
theorem o258_333 : Okp RX12 cX12_linear 8 none "linear" false 333 (sCV false 244 2 13 336) := ok_cv (by decide +kernel : decode cX12_linear 333 = .ok (.invokevirtual 325, 3)) mw_X12_325 rfl (by decide) wm_X12_wants wse_X12_wants (by decide) rfl
theorem o258_336 : Okp RX12 cX12_linear 8 none "linear" false 336 (sK 0 337) := ok_iconst (by decide +kernel : decode cX12_linear 336 = .ok (.iconst 0, 1)) (by decide)
theorem o258_337 : Okp RX12 cX12_linear 8 none "linear" false 337 (sSI 7 339) := ok_istore (by decide +kernel : decode cX12_linear 337 = .ok (.istore 7, 2)) (by decide) (by decide)
theorem o258_339 : Okp RX12 cX12_linear 8 none "linear" false 339 (sLI 7 341) := ok_iload (by decide +kernel : decode cX12_linear 339 = .ok (.iload 7, 2))
theorem o258_341 : Okp RX12 cX12_linear 8 none "linear" false 341 (sLR 0 342) := ok_aload_n (by decide +kernel : decode cX12_linear 341 = .ok (.aload_n 0, 1)) rfl
theorem o258_342 : Okp RX12 cX12_linear 8 none "linear" false 342 (sGR 13 16 345) := ok_getR (by decide +kernel : decode cX12_linear 342 = .ok (.getfield 54, 3)) fw_X12_54 rfl
theorem o258_345 : Okp RX12 cX12_linear 8 none "linear" false 345 (sLI 6 347) := ok_iload (by decide +kernel : decode cX12_linear 345 = .ok (.iload 6, 2))
theorem o258_347 : Okp RX12 cX12_linear 8 none "linear" false 347 (sIA 348) := ok_iaload (by decide +kernel : decode cX12_linear 347 = .ok (.iaload, 1))
theorem o258_348 : Okp RX12 cX12_linear 8 none "linear" false 348 (sI2 3 384 351) := ok_icmp_ge (by decide +kernel : decode cX12_linear 348 = .ok (.if_icmp .ge 36, 3)) (by decide)
theorem o258_351 : Okp RX12 cX12_linear 8 none "linear" false 351 (sLR 0 352) := ok_aload_n (by decide +kernel : decode cX12_linear 351 = .ok (.aload_n 0, 1)) rfl
theorem o258_352 : Okp RX12 cX12_linear 8 none "linear" false 352 (sLR 0 353) := ok_aload_n (by decide +kernel : decode cX12_linear 352 = .ok (.aload_n 0, 1)) rfl
theorem o258_353 : Okp RX12 cX12_linear 8 none "linear" false 353 (sGR 13 17 356) := ok_getR (by decide +kernel : decode cX12_linear 353 = .ok (.getfield 57, 3)) fw_X12_57 rfl
theorem o258_356 : Okp RX12 cX12_linear 8 none "linear" false 356 (sK 4 357) := ok_iconst (by decide +kernel : decode cX12_linear 356 = .ok (.iconst 4, 1)) (by decide)
theorem o258_357 : Okp RX12 cX12_linear 8 none "linear" false 357 (sLI 6 359) := ok_iload (by decide +kernel : decode cX12_linear 357 = .ok (.iload 6, 2))
theorem o258_359 : Okp RX12 cX12_linear 8 none "linear" false 359 (sB2 fMul 360) := ok_imul (by decide +kernel : decode cX12_linear 359 = .ok (.imul, 1))
theorem o258_360 : Okp RX12 cX12_linear 8 none "linear" false 360 (sLI 7 362) := ok_iload (by decide +kernel : decode cX12_linear 360 = .ok (.iload 7, 2))
theorem o258_362 : Okp RX12 cX12_linear 8 none "linear" false 362 (sB2 fAdd 363) := ok_iadd (by decide +kernel : decode cX12_linear 362 = .ok (.iadd, 1))
theorem o258_363 : Okp RX12 cX12_linear 8 none "linear" false 363 (sIA 364) := ok_iaload (by decide +kernel : decode cX12_linear 363 = .ok (.iaload, 1))
theorem o258_364 : Okp RX12 cX12_linear 8 none "linear" false 364 (sCS false 229 1 367) := ok_cs (by decide +kernel : decode cX12_linear 364 = .ok (.invokestatic 336, 3)) mw_X12_336 wt_X12_isHeap (by decide) rfl
theorem o258_367 : Okp RX12 cX12_linear 8 none "linear" false 367 (sI1 1 374 370) := ok_if_ne (by decide +kernel : decode cX12_linear 367 = .ok (.ifCond .ne 7, 3)) (by decide)
theorem o258_370 : Okp RX12 cX12_linear 8 none "linear" false 370 (sK 1 371) := ok_iconst (by decide +kernel : decode cX12_linear 370 = .ok (.iconst 1, 1)) (by decide)
theorem o258_371 : Okp RX12 cX12_linear 8 none "linear" false 371 (sGo 375) := ok_goto (by decide +kernel : decode cX12_linear 371 = .ok (.goto 4, 3)) (by decide)
theorem o258_374 : Okp RX12 cX12_linear 8 none "linear" false 374 (sK 0 375) := ok_iconst (by decide +kernel : decode cX12_linear 374 = .ok (.iconst 0, 1)) (by decide)
theorem o258_375 : Okp RX12 cX12_linear 8 none "linear" false 375 (sCV false 244 2 13 378) := ok_cv (by decide +kernel : decode cX12_linear 375 = .ok (.invokevirtual 325, 3)) mw_X12_325 rfl (by decide) wm_X12_wants wse_X12_wants (by decide) rfl
theorem o258_378 : Okp RX12 cX12_linear 8 none "linear" false 378 (sInc 7 1 381) := ok_iinc (by decide +kernel : decode cX12_linear 378 = .ok (.iinc 7 1, 3)) (by decide) (by decide)
theorem o258_381 : Okp RX12 cX12_linear 8 none "linear" false 381 (sGo 339) := ok_goto (by decide +kernel : decode cX12_linear 381 = .ok (.goto (-42), 3)) (by decide)
theorem o258_384 : Okp RX12 cX12_linear 8 none "linear" false 384 (sLR 0 385) := ok_aload_n (by decide +kernel : decode cX12_linear 384 = .ok (.aload_n 0, 1)) rfl
theorem o258_385 : Okp RX12 cX12_linear 8 none "linear" false 385 (sLI 6 387) := ok_iload (by decide +kernel : decode cX12_linear 385 = .ok (.iload 6, 2))
theorem o258_387 : Okp RX12 cX12_linear 8 none "linear" false 387 (sCV false 257 2 13 390) := ok_cv (by decide +kernel : decode cX12_linear 387 = .ok (.invokevirtual 377, 3)) mw_X12_377 rfl (by decide) wm_X12_takes wse_X12_takes (by decide) rfl
theorem o258_390 : Okp RX12 cX12_linear 8 none "linear" false 390 (sGo 401) := ok_goto (by decide +kernel : decode cX12_linear 390 = .ok (.goto 11, 3)) (by decide)
theorem o258_393 : Okp RX12 cX12_linear 8 none "linear" false 393 (sLR 0 394) := ok_aload_n (by decide +kernel : decode cX12_linear 393 = .ok (.aload_n 0, 1)) rfl
theorem o258_394 : Okp RX12 cX12_linear 8 none "linear" false 394 (sK 0 395) := ok_iconst (by decide +kernel : decode cX12_linear 394 = .ok (.iconst 0, 1)) (by decide)
theorem o258_395 : Okp RX12 cX12_linear 8 none "linear" false 395 (sCV false 249 2 13 398) := ok_cv (by decide +kernel : decode cX12_linear 395 = .ok (.invokevirtual 362, 3)) mw_X12_362 rfl (by decide) wm_X12_popFor wse_X12_popFor (by decide) rfl
theorem o258_398 : Okp RX12 cX12_linear 8 none "linear" false 398 (sGo 401) := ok_goto (by decide +kernel : decode cX12_linear 398 = .ok (.goto 3, 3)) (by decide)
theorem o258_401 : Okp RX12 cX12_linear 8 none "linear" false 401 sRV := ok_vret rfl (by decide +kernel : decode cX12_linear 401 = .ok (.return_, 1))
theorem oc258_0 : ∀ pc, Mnp (c258_0 pc) ∧ Okp RX12 cX12_linear 8 none "linear" false pc (c258_0 pc) := by
  intro pc
  unfold c258_0
  split
  · exact ⟨mn_sLI, o258_0⟩
  · exact ⟨mn_sSw, o258_1⟩
  · exact ⟨mn_sX, ok_X⟩
theorem oc258_2 : ∀ pc, Mnp (c258_2 pc) ∧ Okp RX12 cX12_linear 8 none "linear" false pc (c258_2 pc) := by
  intro pc
  unfold c258_2
  split
  · exact ⟨mn_sLR, o258_64⟩
  · exact ⟨mn_sK, o258_65⟩
  · exact ⟨mn_sK, o258_66⟩
  · exact ⟨mn_sLI, o258_68⟩
  · exact ⟨mn_sB2, o258_70⟩
  · exact ⟨mn_sB2, o258_71⟩
  · exact ⟨mn_sX, ok_X⟩
theorem oc258_3 : ∀ pc, Mnp (c258_3 pc) ∧ Okp RX12 cX12_linear 8 none "linear" false pc (c258_3 pc) := by
  intro pc
  unfold c258_3
  split
  · exact ⟨mn_sCV, o258_72⟩
  · exact ⟨mn_sGo, o258_75⟩
  · exact ⟨mn_sLR, o258_78⟩
  · exact ⟨mn_sK, o258_79⟩
  · exact ⟨mn_sCV, o258_80⟩
  · exact ⟨mn_sSI, o258_83⟩
  · exact ⟨mn_sLR, o258_85⟩
  · exact ⟨mn_sLR, o258_86⟩
  · exact ⟨mn_sGI, o258_87⟩
  · exact ⟨mn_sI1, o258_90⟩
  · exact ⟨mn_sLI, o258_93⟩
  · exact ⟨mn_sLR, o258_95⟩
  · exact ⟨mn_sX, ok_X⟩
theorem oc258_4 : ∀ pc, Mnp (c258_4 pc) ∧ Okp RX12 cX12_linear 8 none "linear" false pc (c258_4 pc) := by
  intro pc
  unfold c258_4
  split
  · exact ⟨mn_sGR, o258_96⟩
  · exact ⟨mn_sK, o258_99⟩
  · exact ⟨mn_sLI, o258_101⟩
  · exact ⟨mn_sB2, o258_102⟩
  · exact ⟨mn_sLI, o258_103⟩
  · exact ⟨mn_sCS, o258_105⟩
  · exact ⟨mn_sB2, o258_108⟩
  · exact ⟨mn_sIA, o258_109⟩
  · exact ⟨mn_sI2, o258_110⟩
  · exact ⟨mn_sK, o258_113⟩
  · exact ⟨mn_sGo, o258_114⟩
  · exact ⟨mn_sK, o258_117⟩
  · exact ⟨mn_sCV, o258_118⟩
  · exact ⟨mn_sX, ok_X⟩
theorem oc258_5 : ∀ pc, Mnp (c258_5 pc) ∧ Okp RX12 cX12_linear 8 none "linear" false pc (c258_5 pc) := by
  intro pc
  unfold c258_5
  split
  · exact ⟨mn_sLR, o258_121⟩
  · exact ⟨mn_sGI, o258_122⟩
  · exact ⟨mn_sI1, o258_125⟩
  · exact ⟨mn_sLR, o258_128⟩
  · exact ⟨mn_sLI, o258_129⟩
  · exact ⟨mn_sCV, o258_131⟩
  · exact ⟨mn_sLR, o258_134⟩
  · exact ⟨mn_sK, o258_135⟩
  · exact ⟨mn_sCV, o258_136⟩
  · exact ⟨mn_sGo, o258_139⟩
  · exact ⟨mn_sLR, o258_142⟩
  · exact ⟨mn_sK, o258_143⟩
  · exact ⟨mn_sX, ok_X⟩
theorem oc258_6 : ∀ pc, Mnp (c258_6 pc) ∧ Okp RX12 cX12_linear 8 none "linear" false pc (c258_6 pc) := by
  intro pc
  unfold c258_6
  split
  · exact ⟨mn_sCV, o258_144⟩
  · exact ⟨mn_sLR, o258_147⟩
  · exact ⟨mn_sK, o258_148⟩
  · exact ⟨mn_sCV, o258_149⟩
  · exact ⟨mn_sSI, o258_152⟩
  · exact ⟨mn_sLR, o258_154⟩
  · exact ⟨mn_sLR, o258_155⟩
  · exact ⟨mn_sGI, o258_156⟩
  · exact ⟨mn_sI1, o258_159⟩
  · exact ⟨mn_sLI, o258_162⟩
  · exact ⟨mn_sLR, o258_164⟩
  · exact ⟨mn_sGR, o258_165⟩
  · exact ⟨mn_sX, ok_X⟩
theorem oc258_7 : ∀ pc, Mnp (c258_7 pc) ∧ Okp RX12 cX12_linear 8 none "linear" false pc (c258_7 pc) := by
  intro pc
  unfold c258_7
  split
  · exact ⟨mn_sK, o258_168⟩
  · exact ⟨mn_sLI, o258_170⟩
  · exact ⟨mn_sB2, o258_171⟩
  · exact ⟨mn_sLI, o258_172⟩
  · exact ⟨mn_sCS, o258_174⟩
  · exact ⟨mn_sB2, o258_177⟩
  · exact ⟨mn_sIA, o258_178⟩
  · exact ⟨mn_sI2, o258_179⟩
  · exact ⟨mn_sK, o258_182⟩
  · exact ⟨mn_sGo, o258_183⟩
  · exact ⟨mn_sK, o258_186⟩
  · exact ⟨mn_sCV, o258_187⟩
  · exact ⟨mn_sLR, o258_190⟩
  · exact ⟨mn_sGI, o258_191⟩
  · exact ⟨mn_sX, ok_X⟩
theorem oc258_8 : ∀ pc, Mnp (c258_8 pc) ∧ Okp RX12 cX12_linear 8 none "linear" false pc (c258_8 pc) := by
  intro pc
  unfold c258_8
  split
  · exact ⟨mn_sI1, o258_194⟩
  · exact ⟨mn_sLR, o258_197⟩
  · exact ⟨mn_sLI, o258_198⟩
  · exact ⟨mn_sCV, o258_200⟩
  · exact ⟨mn_sGo, o258_203⟩
  · exact ⟨mn_sLR, o258_206⟩
  · exact ⟨mn_sK, o258_207⟩
  · exact ⟨mn_sCV, o258_208⟩
  · exact ⟨mn_sSI, o258_211⟩
  · exact ⟨mn_sGo, o258_213⟩
  · exact ⟨mn_sX, ok_X⟩
theorem oc258_9 : ∀ pc, Mnp (c258_9 pc) ∧ Okp RX12 cX12_linear 8 none "linear" false pc (c258_9 pc) := by
  intro pc
  unfold c258_9
  split
  · exact ⟨mn_sLR, o258_216⟩
  · exact ⟨mn_sK, o258_217⟩
  · exact ⟨mn_sK, o258_218⟩
  · exact ⟨mn_sLI, o258_220⟩
  · exact ⟨mn_sB2, o258_222⟩
  · exact ⟨mn_sB2, o258_223⟩
  · exact ⟨mn_sCV, o258_224⟩
  · exact ⟨mn_sLR, o258_227⟩
  · exact ⟨mn_sK, o258_228⟩
  · exact ⟨mn_sK, o258_229⟩
  · exact ⟨mn_sLI, o258_231⟩
  · exact ⟨mn_sB2, o258_233⟩
  · exact ⟨mn_sB2, o258_234⟩
  · exact ⟨mn_sK, o258_235⟩
  · exact ⟨mn_sB2, o258_238⟩
  · exact ⟨mn_sCV, o258_239⟩
  · exact ⟨mn_sX, ok_X⟩
theorem oc258_10 : ∀ pc, Mnp (c258_10 pc) ∧ Okp RX12 cX12_linear 8 none "linear" false pc (c258_10 pc) := by
  intro pc
  unfold c258_10
  split
  · exact ⟨mn_sGo, o258_242⟩
  · exact ⟨mn_sLR, o258_245⟩
  · exact ⟨mn_sLI, o258_246⟩
  · exact ⟨mn_sLI, o258_247⟩
  · exact ⟨mn_sCV, o258_249⟩
  · exact ⟨mn_sGo, o258_252⟩
  · exact ⟨mn_sLR, o258_255⟩
  · exact ⟨mn_sK, o258_256⟩
  · exact ⟨mn_sCV, o258_257⟩
  · exact ⟨mn_sSI, o258_260⟩
  · exact ⟨mn_sLR, o258_262⟩
  · exact ⟨mn_sLR, o258_263⟩
  · exact ⟨mn_sX, ok_X⟩
theorem oc258_11 : ∀ pc, Mnp (c258_11 pc) ∧ Okp RX12 cX12_linear 8 none "linear" false pc (c258_11 pc) := by
  intro pc
  unfold c258_11
  split
  · exact ⟨mn_sGI, o258_264⟩
  · exact ⟨mn_sI1, o258_267⟩
  · exact ⟨mn_sLR, o258_270⟩
  · exact ⟨mn_sGR, o258_271⟩
  · exact ⟨mn_sK, o258_274⟩
  · exact ⟨mn_sK, o258_276⟩
  · exact ⟨mn_sLI, o258_277⟩
  · exact ⟨mn_sB2, o258_278⟩
  · exact ⟨mn_sLI, o258_279⟩
  · exact ⟨mn_sCS, o258_281⟩
  · exact ⟨mn_sB2, o258_284⟩
  · exact ⟨mn_sB2, o258_285⟩
  · exact ⟨mn_sLI, o258_286⟩
  · exact ⟨mn_sX, ok_X⟩
theorem oc258_12 : ∀ pc, Mnp (c258_12 pc) ∧ Okp RX12 cX12_linear 8 none "linear" false pc (c258_12 pc) := by
  intro pc
  unfold c258_12
  split
  · exact ⟨mn_sCS, o258_288⟩
  · exact ⟨mn_sB2, o258_291⟩
  · exact ⟨mn_sIA, o258_292⟩
  · exact ⟨mn_sI1, o258_293⟩
  · exact ⟨mn_sK, o258_296⟩
  · exact ⟨mn_sGo, o258_297⟩
  · exact ⟨mn_sK, o258_300⟩
  · exact ⟨mn_sCV, o258_301⟩
  · exact ⟨mn_sGo, o258_304⟩
  · exact ⟨mn_sK, o258_307⟩
  · exact ⟨mn_sLI, o258_309⟩
  · exact ⟨mn_sB2, o258_310⟩
  · exact ⟨mn_sLI, o258_311⟩
  · exact ⟨mn_sX, ok_X⟩
theorem oc258_13 : ∀ pc, Mnp (c258_13 pc) ∧ Okp RX12 cX12_linear 8 none "linear" false pc (c258_13 pc) := by
  intro pc
  unfold c258_13
  split
  · exact ⟨mn_sB2, o258_313⟩
  · exact ⟨mn_sSI, o258_314⟩
  · exact ⟨mn_sLR, o258_316⟩
  · exact ⟨mn_sLR, o258_317⟩
  · exact ⟨mn_sGR, o258_318⟩
  · exact ⟨mn_sLI, o258_321⟩
  · exact ⟨mn_sIA, o258_323⟩
  · exact ⟨mn_sK, o258_324⟩
  · exact ⟨mn_sI2, o258_325⟩
  · exact ⟨mn_sK, o258_328⟩
  · exact ⟨mn_sGo, o258_329⟩
  · exact ⟨mn_sK, o258_332⟩
  · exact ⟨mn_sCV, o258_333⟩
  · exact ⟨mn_sX, ok_X⟩
theorem oc258_14 : ∀ pc, Mnp (c258_14 pc) ∧ Okp RX12 cX12_linear 8 none "linear" false pc (c258_14 pc) := by
  intro pc
  unfold c258_14
  split
  · exact ⟨mn_sK, o258_336⟩
  · exact ⟨mn_sSI, o258_337⟩
  · exact ⟨mn_sLI, o258_339⟩
  · exact ⟨mn_sLR, o258_341⟩
  · exact ⟨mn_sGR, o258_342⟩
  · exact ⟨mn_sLI, o258_345⟩
  · exact ⟨mn_sIA, o258_347⟩
  · exact ⟨mn_sI2, o258_348⟩
  · exact ⟨mn_sLR, o258_351⟩
  · exact ⟨mn_sLR, o258_352⟩
  · exact ⟨mn_sGR, o258_353⟩
  · exact ⟨mn_sK, o258_356⟩
  · exact ⟨mn_sLI, o258_357⟩
  · exact ⟨mn_sB2, o258_359⟩
  · exact ⟨mn_sX, ok_X⟩
theorem oc258_15 : ∀ pc, Mnp (c258_15 pc) ∧ Okp RX12 cX12_linear 8 none "linear" false pc (c258_15 pc) := by
  intro pc
  unfold c258_15
  split
  · exact ⟨mn_sLI, o258_360⟩
  · exact ⟨mn_sB2, o258_362⟩
  · exact ⟨mn_sIA, o258_363⟩
  · exact ⟨mn_sCS, o258_364⟩
  · exact ⟨mn_sI1, o258_367⟩
  · exact ⟨mn_sK, o258_370⟩
  · exact ⟨mn_sGo, o258_371⟩
  · exact ⟨mn_sK, o258_374⟩
  · exact ⟨mn_sCV, o258_375⟩
  · exact ⟨mn_sInc, o258_378⟩
  · exact ⟨mn_sGo, o258_381⟩
  · exact ⟨mn_sX, ok_X⟩
theorem oc258_16 : ∀ pc, Mnp (c258_16 pc) ∧ Okp RX12 cX12_linear 8 none "linear" false pc (c258_16 pc) := by
  intro pc
  unfold c258_16
  split
  · exact ⟨mn_sLR, o258_384⟩
  · exact ⟨mn_sLI, o258_385⟩
  · exact ⟨mn_sCV, o258_387⟩
  · exact ⟨mn_sGo, o258_390⟩
  · exact ⟨mn_sLR, o258_393⟩
  · exact ⟨mn_sK, o258_394⟩
  · exact ⟨mn_sCV, o258_395⟩
  · exact ⟨mn_sGo, o258_398⟩
  · exact ⟨mn_sRV, o258_401⟩
  · exact ⟨mn_sX, ok_X⟩
theorem oc258 : ∀ pc, Mnp (c258 pc) ∧ Okp RX12 cX12_linear 8 none "linear" false pc (c258 pc) := by
  intro pc
  unfold c258
  split
  · exact oc258_0 pc
  · exact oc258_2 pc
  · exact oc258_3 pc
  · exact oc258_4 pc
  · exact oc258_5 pc
  · exact oc258_6 pc
  · exact oc258_7 pc
  · exact oc258_8 pc
  · exact oc258_9 pc
  · exact oc258_10 pc
  · exact oc258_11 pc
  · exact oc258_12 pc
  · exact oc258_13 pc
  · exact oc258_14 pc
  · exact oc258_15 pc
  · exact oc258_16 pc
  · exact ⟨mn_sX, ok_X⟩
theorem o259_0 : Okp RX12 cX12_inState 2 (some .int) "inState" false 0 (sLI 0 1) := ok_iload_n (by decide +kernel : decode cX12_inState 0 = .ok (.iload_n 0, 1)) rfl
theorem o259_1 : Okp RX12 cX12_inState 2 (some .int) "inState" false 1 (sK (-522241) 4) := ok_ldcw (by decide +kernel : decode cX12_inState 1 = .ok (.ldc_w 389, 3)) wk_X12_389 (by decide)
theorem o259_4 : Okp RX12 cX12_inState 2 (some .int) "inState" false 4 (sB2 fAnd 5) := ok_iand (by decide +kernel : decode cX12_inState 4 = .ok (.iand, 1))
theorem o259_5 : Okp RX12 cX12_inState 2 (some .int) "inState" false 5 (sLI 1 6) := ok_iload_n (by decide +kernel : decode cX12_inState 5 = .ok (.iload_n 1, 1)) rfl
theorem o259_6 : Okp RX12 cX12_inState 2 (some .int) "inState" false 6 (sK 11 8) := ok_bipush (by decide +kernel : decode cX12_inState 6 = .ok (.bipush 11, 2)) (by decide)
theorem o259_8 : Okp RX12 cX12_inState 2 (some .int) "inState" false 8 (sB2 fShl 9) := ok_ishl (by decide +kernel : decode cX12_inState 8 = .ok (.ishl, 1))
theorem o259_9 : Okp RX12 cX12_inState 2 (some .int) "inState" false 9 (sB2 fOr 10) := ok_ior (by decide +kernel : decode cX12_inState 9 = .ok (.ior, 1))
theorem o259_10 : Okp RX12 cX12_inState 2 (some .int) "inState" false 10 sRI := ok_iret rfl (by decide +kernel : decode cX12_inState 10 = .ok (.ireturn, 1))
theorem oc259 : ∀ pc, Mnp (c259 pc) ∧ Okp RX12 cX12_inState 2 (some .int) "inState" false pc (c259 pc) := by
  intro pc
  unfold c259
  split
  · exact ⟨mn_sLI, o259_0⟩
  · exact ⟨mn_sK, o259_1⟩
  · exact ⟨mn_sB2, o259_4⟩
  · exact ⟨mn_sLI, o259_5⟩
  · exact ⟨mn_sK, o259_6⟩
  · exact ⟨mn_sB2, o259_8⟩
  · exact ⟨mn_sB2, o259_9⟩
  · exact ⟨mn_sRI, o259_10⟩
  · exact ⟨mn_sX, ok_X⟩
theorem o260_0 : Okp RX12 cX12_sends 6 none "sends" false 0 (sLR 0 1) := ok_aload_n (by decide +kernel : decode cX12_sends 0 = .ok (.aload_n 0, 1)) rfl
theorem o260_1 : Okp RX12 cX12_sends 6 none "sends" false 1 (sGI 13 35 4) := ok_getI (by decide +kernel : decode cX12_sends 1 = .ok (.getfield 315, 3)) fw_X12_315 rfl
theorem o260_4 : Okp RX12 cX12_sends 6 none "sends" false 4 (sI1 5 82 7) := ok_if_le (by decide +kernel : decode cX12_sends 4 = .ok (.ifCond .le 78, 3)) (by decide)
theorem o260_7 : Okp RX12 cX12_sends 6 none "sends" false 7 (sLR 0 8) := ok_aload_n (by decide +kernel : decode cX12_sends 7 = .ok (.aload_n 0, 1)) rfl
theorem o260_8 : Okp RX12 cX12_sends 6 none "sends" false 8 (sGR 13 33 11) := ok_getR (by decide +kernel : decode cX12_sends 8 = .ok (.getfield 95, 3)) fw_X12_95 rfl
theorem o260_11 : Okp RX12 cX12_sends 6 none "sends" false 11 (sLR 0 12) := ok_aload_n (by decide +kernel : decode cX12_sends 11 = .ok (.aload_n 0, 1)) rfl
theorem o260_12 : Okp RX12 cX12_sends 6 none "sends" false 12 (sGI 13 35 15) := ok_getI (by decide +kernel : decode cX12_sends 12 = .ok (.getfield 315, 3)) fw_X12_315 rfl
theorem o260_15 : Okp RX12 cX12_sends 6 none "sends" false 15 (sK 1 16) := ok_iconst (by decide +kernel : decode cX12_sends 15 = .ok (.iconst 1, 1)) (by decide)
theorem o260_16 : Okp RX12 cX12_sends 6 none "sends" false 16 (sB2 fSub 17) := ok_isub (by decide +kernel : decode cX12_sends 16 = .ok (.isub, 1))
theorem o260_17 : Okp RX12 cX12_sends 6 none "sends" false 17 (sIA 18) := ok_iaload (by decide +kernel : decode cX12_sends 17 = .ok (.iaload, 1))
theorem o260_18 : Okp RX12 cX12_sends 6 none "sends" false 18 (sCS false 224 1 21) := ok_cs (by decide +kernel : decode cX12_sends 18 = .ok (.invokestatic 258, 3)) mw_X12_258 wt_X12_kind (by decide) rfl
theorem o260_21 : Okp RX12 cX12_sends 6 none "sends" false 21 (sK 5 22) := ok_iconst (by decide +kernel : decode cX12_sends 21 = .ok (.iconst 5, 1)) (by decide)
theorem o260_22 : Okp RX12 cX12_sends 6 none "sends" false 22 (sI2 1 82 25) := ok_icmp_ne (by decide +kernel : decode cX12_sends 22 = .ok (.if_icmp .ne 60, 3)) (by decide)
theorem o260_25 : Okp RX12 cX12_sends 6 none "sends" false 25 (sLR 0 26) := ok_aload_n (by decide +kernel : decode cX12_sends 25 = .ok (.aload_n 0, 1)) rfl
theorem o260_26 : Okp RX12 cX12_sends 6 none "sends" false 26 (sLI 1 27) := ok_iload_n (by decide +kernel : decode cX12_sends 26 = .ok (.iload_n 1, 1)) rfl
theorem o260_27 : Okp RX12 cX12_sends 6 none "sends" false 27 (sLR 0 28) := ok_aload_n (by decide +kernel : decode cX12_sends 27 = .ok (.aload_n 0, 1)) rfl
theorem o260_28 : Okp RX12 cX12_sends 6 none "sends" false 28 (sGR 13 33 31) := ok_getR (by decide +kernel : decode cX12_sends 28 = .ok (.getfield 95, 3)) fw_X12_95 rfl
theorem o260_31 : Okp RX12 cX12_sends 6 none "sends" false 31 (sLR 0 32) := ok_aload_n (by decide +kernel : decode cX12_sends 31 = .ok (.aload_n 0, 1)) rfl
theorem o260_32 : Okp RX12 cX12_sends 6 none "sends" false 32 (sGI 13 35 35) := ok_getI (by decide +kernel : decode cX12_sends 32 = .ok (.getfield 315, 3)) fw_X12_315 rfl
theorem o260_35 : Okp RX12 cX12_sends 6 none "sends" false 35 (sK 1 36) := ok_iconst (by decide +kernel : decode cX12_sends 35 = .ok (.iconst 1, 1)) (by decide)
theorem o260_36 : Okp RX12 cX12_sends 6 none "sends" false 36 (sB2 fSub 37) := ok_isub (by decide +kernel : decode cX12_sends 36 = .ok (.isub, 1))
theorem o260_37 : Okp RX12 cX12_sends 6 none "sends" false 37 (sIA 38) := ok_iaload (by decide +kernel : decode cX12_sends 37 = .ok (.iaload, 1))
theorem o260_38 : Okp RX12 cX12_sends 6 none "sends" false 38 (sLI 2 39) := ok_iload_n (by decide +kernel : decode cX12_sends 38 = .ok (.iload_n 2, 1)) rfl
theorem o260_39 : Okp RX12 cX12_sends 6 none "sends" false 39 (sCV false 262 4 13 42) := ok_cv (by decide +kernel : decode cX12_sends 39 = .ok (.invokevirtual 390, 3)) mw_X12_390 rfl (by decide) wm_X12_isTurn wse_X12_isTurn (by decide) rfl
theorem o260_42 : Okp RX12 cX12_sends 6 none "sends" false 42 (sI1 0 82 45) := ok_if_eq (by decide +kernel : decode cX12_sends 42 = .ok (.ifCond .eq 40, 3)) (by decide)
theorem o260_45 : Okp RX12 cX12_sends 6 none "sends" false 45 (sLR 0 46) := ok_aload_n (by decide +kernel : decode cX12_sends 45 = .ok (.aload_n 0, 1)) rfl
theorem o260_46 : Okp RX12 cX12_sends 6 none "sends" false 46 (sGR 13 14 49) := ok_getR (by decide +kernel : decode cX12_sends 46 = .ok (.getfield 48, 3)) fw_X12_48 rfl
theorem o260_49 : Okp RX12 cX12_sends 6 none "sends" false 49 (sK 4 50) := ok_iconst (by decide +kernel : decode cX12_sends 49 = .ok (.iconst 4, 1)) (by decide)
theorem o260_50 : Okp RX12 cX12_sends 6 none "sends" false 50 (sLI 1 51) := ok_iload_n (by decide +kernel : decode cX12_sends 50 = .ok (.iload_n 1, 1)) rfl
theorem o260_51 : Okp RX12 cX12_sends 6 none "sends" false 51 (sLR 0 52) := ok_aload_n (by decide +kernel : decode cX12_sends 51 = .ok (.aload_n 0, 1)) rfl
theorem o260_52 : Okp RX12 cX12_sends 6 none "sends" false 52 (sGR 13 33 55) := ok_getR (by decide +kernel : decode cX12_sends 52 = .ok (.getfield 95, 3)) fw_X12_95 rfl
theorem o260_55 : Okp RX12 cX12_sends 6 none "sends" false 55 (sLR 0 56) := ok_aload_n (by decide +kernel : decode cX12_sends 55 = .ok (.aload_n 0, 1)) rfl
theorem o260_56 : Okp RX12 cX12_sends 6 none "sends" false 56 (sGI 13 35 59) := ok_getI (by decide +kernel : decode cX12_sends 56 = .ok (.getfield 315, 3)) fw_X12_315 rfl
theorem o260_59 : Okp RX12 cX12_sends 6 none "sends" false 59 (sK 1 60) := ok_iconst (by decide +kernel : decode cX12_sends 59 = .ok (.iconst 1, 1)) (by decide)
theorem o260_60 : Okp RX12 cX12_sends 6 none "sends" false 60 (sB2 fSub 61) := ok_isub (by decide +kernel : decode cX12_sends 60 = .ok (.isub, 1))
theorem o260_61 : Okp RX12 cX12_sends 6 none "sends" false 61 (sIA 62) := ok_iaload (by decide +kernel : decode cX12_sends 61 = .ok (.iaload, 1))
theorem o260_62 : Okp RX12 cX12_sends 6 none "sends" false 62 (sCS false 261 2 65) := ok_cs (by decide +kernel : decode cX12_sends 62 = .ok (.invokestatic 393, 3)) mw_X12_393 wt_X12_stateOf (by decide) rfl
theorem o260_65 : Okp RX12 cX12_sends 6 none "sends" false 65 (sB2 fMul 66) := ok_imul (by decide +kernel : decode cX12_sends 65 = .ok (.imul, 1))
theorem o260_66 : Okp RX12 cX12_sends 6 none "sends" false 66 (sLI 2 67) := ok_iload_n (by decide +kernel : decode cX12_sends 66 = .ok (.iload_n 2, 1)) rfl
theorem o260_67 : Okp RX12 cX12_sends 6 none "sends" false 67 (sB2 fAdd 68) := ok_iadd (by decide +kernel : decode cX12_sends 67 = .ok (.iadd, 1))
theorem o260_68 : Okp RX12 cX12_sends 6 none "sends" false 68 (sIA 69) := ok_iaload (by decide +kernel : decode cX12_sends 68 = .ok (.iaload, 1))
theorem o260_69 : Okp RX12 cX12_sends 6 none "sends" false 69 (sK (-1) 70) := ok_iconst (by decide +kernel : decode cX12_sends 69 = .ok (.iconst (-1), 1)) (by decide)
theorem o260_70 : Okp RX12 cX12_sends 6 none "sends" false 70 (sI2 1 82 73) := ok_icmp_ne (by decide +kernel : decode cX12_sends 70 = .ok (.if_icmp .ne 12, 3)) (by decide)
theorem o260_73 : Okp RX12 cX12_sends 6 none "sends" false 73 (sLR 0 74) := ok_aload_n (by decide +kernel : decode cX12_sends 73 = .ok (.aload_n 0, 1)) rfl
theorem o260_74 : Okp RX12 cX12_sends 6 none "sends" false 74 (sGI 13 35 77) := ok_getI (by decide +kernel : decode cX12_sends 74 = .ok (.getfield 315, 3)) fw_X12_315 rfl
theorem o260_77 : Okp RX12 cX12_sends 6 none "sends" false 77 (sK 1 78) := ok_iconst (by decide +kernel : decode cX12_sends 77 = .ok (.iconst 1, 1)) (by decide)
theorem o260_78 : Okp RX12 cX12_sends 6 none "sends" false 78 (sB2 fSub 79) := ok_isub (by decide +kernel : decode cX12_sends 78 = .ok (.isub, 1))
theorem o260_79 : Okp RX12 cX12_sends 6 none "sends" false 79 (sGo 88) := ok_goto (by decide +kernel : decode cX12_sends 79 = .ok (.goto 9, 3)) (by decide)
theorem o260_82 : Okp RX12 cX12_sends 6 none "sends" false 82 (sLR 0 83) := ok_aload_n (by decide +kernel : decode cX12_sends 82 = .ok (.aload_n 0, 1)) rfl
theorem o260_83 : Okp RX12 cX12_sends 6 none "sends" false 83 (sGI 13 35 86) := ok_getI (by decide +kernel : decode cX12_sends 83 = .ok (.getfield 315, 3)) fw_X12_315 rfl
theorem o260_86 : Okp RX12 cX12_sends 6 none "sends" false 86 (sK 2 87) := ok_iconst (by decide +kernel : decode cX12_sends 86 = .ok (.iconst 2, 1)) (by decide)
theorem o260_87 : Okp RX12 cX12_sends 6 none "sends" false 87 (sB2 fSub 88) := ok_isub (by decide +kernel : decode cX12_sends 87 = .ok (.isub, 1))
theorem o260_88 : Okp RX12 cX12_sends 6 none "sends" false 88 (sSI 3 89) := ok_istore_n (by decide +kernel : decode cX12_sends 88 = .ok (.istore_n 3, 1)) rfl (by decide) (by decide)
theorem o260_89 : Okp RX12 cX12_sends 6 none "sends" false 89 (sLR 0 90) := ok_aload_n (by decide +kernel : decode cX12_sends 89 = .ok (.aload_n 0, 1)) rfl
theorem o260_90 : Okp RX12 cX12_sends 6 none "sends" false 90 (sLI 3 91) := ok_iload_n (by decide +kernel : decode cX12_sends 90 = .ok (.iload_n 3, 1)) rfl
theorem o260_91 : Okp RX12 cX12_sends 6 none "sends" false 91 (sI1 2 98 94) := ok_if_lt (by decide +kernel : decode cX12_sends 91 = .ok (.ifCond .lt 7, 3)) (by decide)
theorem o260_94 : Okp RX12 cX12_sends 6 none "sends" false 94 (sK 1 95) := ok_iconst (by decide +kernel : decode cX12_sends 94 = .ok (.iconst 1, 1)) (by decide)
theorem o260_95 : Okp RX12 cX12_sends 6 none "sends" false 95 (sGo 99) := ok_goto (by decide +kernel : decode cX12_sends 95 = .ok (.goto 4, 3)) (by decide)
theorem o260_98 : Okp RX12 cX12_sends 6 none "sends" false 98 (sK 0 99) := ok_iconst (by decide +kernel : decode cX12_sends 98 = .ok (.iconst 0, 1)) (by decide)
theorem o260_99 : Okp RX12 cX12_sends 6 none "sends" false 99 (sCV false 244 2 13 102) := ok_cv (by decide +kernel : decode cX12_sends 99 = .ok (.invokevirtual 325, 3)) mw_X12_325 rfl (by decide) wm_X12_wants wse_X12_wants (by decide) rfl
theorem o260_102 : Okp RX12 cX12_sends 6 none "sends" false 102 (sLR 0 103) := ok_aload_n (by decide +kernel : decode cX12_sends 102 = .ok (.aload_n 0, 1)) rfl
theorem o260_103 : Okp RX12 cX12_sends 6 none "sends" false 103 (sGI 13 36 106) := ok_getI (by decide +kernel : decode cX12_sends 103 = .ok (.getfield 309, 3)) fw_X12_309 rfl
theorem o260_106 : Okp RX12 cX12_sends 6 none "sends" false 106 (sI1 1 110 109) := ok_if_ne (by decide +kernel : decode cX12_sends 106 = .ok (.ifCond .ne 4, 3)) (by decide)
theorem o260_109 : Okp RX12 cX12_sends 6 none "sends" false 109 sRV := ok_vret rfl (by decide +kernel : decode cX12_sends 109 = .ok (.return_, 1))
theorem o260_110 : Okp RX12 cX12_sends 6 none "sends" false 110 (sLR 0 111) := ok_aload_n (by decide +kernel : decode cX12_sends 110 = .ok (.aload_n 0, 1)) rfl
theorem o260_111 : Okp RX12 cX12_sends 6 none "sends" false 111 (sGR 13 33 114) := ok_getR (by decide +kernel : decode cX12_sends 111 = .ok (.getfield 95, 3)) fw_X12_95 rfl
theorem o260_114 : Okp RX12 cX12_sends 6 none "sends" false 114 (sLI 3 115) := ok_iload_n (by decide +kernel : decode cX12_sends 114 = .ok (.iload_n 3, 1)) rfl
theorem o260_115 : Okp RX12 cX12_sends 6 none "sends" false 115 (sIA 116) := ok_iaload (by decide +kernel : decode cX12_sends 115 = .ok (.iaload, 1))
theorem o260_116 : Okp RX12 cX12_sends 6 none "sends" false 116 (sSI 4 118) := ok_istore (by decide +kernel : decode cX12_sends 116 = .ok (.istore 4, 2)) (by decide) (by decide)
theorem o260_118 : Okp RX12 cX12_sends 6 none "sends" false 118 (sLR 0 119) := ok_aload_n (by decide +kernel : decode cX12_sends 118 = .ok (.aload_n 0, 1)) rfl
theorem o260_119 : Okp RX12 cX12_sends 6 none "sends" false 119 (sLI 4 121) := ok_iload (by decide +kernel : decode cX12_sends 119 = .ok (.iload 4, 2))
theorem o260_121 : Okp RX12 cX12_sends 6 none "sends" false 121 (sCS false 224 1 124) := ok_cs (by decide +kernel : decode cX12_sends 121 = .ok (.invokestatic 258, 3)) mw_X12_258 wt_X12_kind (by decide) rfl
theorem o260_124 : Okp RX12 cX12_sends 6 none "sends" false 124 (sK 5 125) := ok_iconst (by decide +kernel : decode cX12_sends 124 = .ok (.iconst 5, 1)) (by decide)
theorem o260_125 : Okp RX12 cX12_sends 6 none "sends" false 125 (sI2 1 143 128) := ok_icmp_ne (by decide +kernel : decode cX12_sends 125 = .ok (.if_icmp .ne 18, 3)) (by decide)
theorem o260_128 : Okp RX12 cX12_sends 6 none "sends" false 128 (sLR 0 129) := ok_aload_n (by decide +kernel : decode cX12_sends 128 = .ok (.aload_n 0, 1)) rfl
theorem o260_129 : Okp RX12 cX12_sends 6 none "sends" false 129 (sLI 1 130) := ok_iload_n (by decide +kernel : decode cX12_sends 129 = .ok (.iload_n 1, 1)) rfl
theorem o260_130 : Okp RX12 cX12_sends 6 none "sends" false 130 (sLI 4 132) := ok_iload (by decide +kernel : decode cX12_sends 130 = .ok (.iload 4, 2))
theorem o260_132 : Okp RX12 cX12_sends 6 none "sends" false 132 (sLI 2 133) := ok_iload_n (by decide +kernel : decode cX12_sends 132 = .ok (.iload_n 2, 1)) rfl
theorem o260_133 : Okp RX12 cX12_sends 6 none "sends" false 133 (sCV false 262 4 13 136) := ok_cv (by decide +kernel : decode cX12_sends 133 = .ok (.invokevirtual 390, 3)) mw_X12_390 rfl (by decide) wm_X12_isTurn wse_X12_isTurn (by decide) rfl
theorem o260_136 : Okp RX12 cX12_sends 6 none "sends" false 136 (sI1 0 143 139) := ok_if_eq (by decide +kernel : decode cX12_sends 136 = .ok (.ifCond .eq 7, 3)) (by decide)
theorem o260_139 : Okp RX12 cX12_sends 6 none "sends" false 139 (sK 1 140) := ok_iconst (by decide +kernel : decode cX12_sends 139 = .ok (.iconst 1, 1)) (by decide)
theorem o260_140 : Okp RX12 cX12_sends 6 none "sends" false 140 (sGo 144) := ok_goto (by decide +kernel : decode cX12_sends 140 = .ok (.goto 4, 3)) (by decide)
theorem o260_143 : Okp RX12 cX12_sends 6 none "sends" false 143 (sK 0 144) := ok_iconst (by decide +kernel : decode cX12_sends 143 = .ok (.iconst 0, 1)) (by decide)
theorem o260_144 : Okp RX12 cX12_sends 6 none "sends" false 144 (sCV false 244 2 13 147) := ok_cv (by decide +kernel : decode cX12_sends 144 = .ok (.invokevirtual 325, 3)) mw_X12_325 rfl (by decide) wm_X12_wants wse_X12_wants (by decide) rfl
theorem o260_147 : Okp RX12 cX12_sends 6 none "sends" false 147 (sLR 0 148) := ok_aload_n (by decide +kernel : decode cX12_sends 147 = .ok (.aload_n 0, 1)) rfl
theorem o260_148 : Okp RX12 cX12_sends 6 none "sends" false 148 (sGI 13 36 151) := ok_getI (by decide +kernel : decode cX12_sends 148 = .ok (.getfield 309, 3)) fw_X12_309 rfl
theorem o260_151 : Okp RX12 cX12_sends 6 none "sends" false 151 (sI1 1 155 154) := ok_if_ne (by decide +kernel : decode cX12_sends 151 = .ok (.ifCond .ne 4, 3)) (by decide)
theorem o260_154 : Okp RX12 cX12_sends 6 none "sends" false 154 sRV := ok_vret rfl (by decide +kernel : decode cX12_sends 154 = .ok (.return_, 1))
theorem o260_155 : Okp RX12 cX12_sends 6 none "sends" false 155 (sK 4 156) := ok_iconst (by decide +kernel : decode cX12_sends 155 = .ok (.iconst 4, 1)) (by decide)
theorem o260_156 : Okp RX12 cX12_sends 6 none "sends" false 156 (sLI 1 157) := ok_iload_n (by decide +kernel : decode cX12_sends 156 = .ok (.iload_n 1, 1)) rfl
theorem o260_157 : Okp RX12 cX12_sends 6 none "sends" false 157 (sLI 4 159) := ok_iload (by decide +kernel : decode cX12_sends 157 = .ok (.iload 4, 2))
theorem o260_159 : Okp RX12 cX12_sends 6 none "sends" false 159 (sCS false 261 2 162) := ok_cs (by decide +kernel : decode cX12_sends 159 = .ok (.invokestatic 393, 3)) mw_X12_393 wt_X12_stateOf (by decide) rfl
theorem o260_162 : Okp RX12 cX12_sends 6 none "sends" false 162 (sB2 fMul 163) := ok_imul (by decide +kernel : decode cX12_sends 162 = .ok (.imul, 1))
theorem o260_163 : Okp RX12 cX12_sends 6 none "sends" false 163 (sLI 2 164) := ok_iload_n (by decide +kernel : decode cX12_sends 163 = .ok (.iload_n 2, 1)) rfl
theorem o260_164 : Okp RX12 cX12_sends 6 none "sends" false 164 (sB2 fAdd 165) := ok_iadd (by decide +kernel : decode cX12_sends 164 = .ok (.iadd, 1))
theorem o260_165 : Okp RX12 cX12_sends 6 none "sends" false 165 (sSI 5 167) := ok_istore (by decide +kernel : decode cX12_sends 165 = .ok (.istore 5, 2)) (by decide) (by decide)
theorem o260_167 : Okp RX12 cX12_sends 6 none "sends" false 167 (sLR 0 168) := ok_aload_n (by decide +kernel : decode cX12_sends 167 = .ok (.aload_n 0, 1)) rfl
theorem o260_168 : Okp RX12 cX12_sends 6 none "sends" false 168 (sGR 13 14 171) := ok_getR (by decide +kernel : decode cX12_sends 168 = .ok (.getfield 48, 3)) fw_X12_48 rfl
theorem o260_171 : Okp RX12 cX12_sends 6 none "sends" false 171 (sLI 5 173) := ok_iload (by decide +kernel : decode cX12_sends 171 = .ok (.iload 5, 2))
theorem o260_173 : Okp RX12 cX12_sends 6 none "sends" false 173 (sIA 174) := ok_iaload (by decide +kernel : decode cX12_sends 173 = .ok (.iaload, 1))
theorem o260_174 : Okp RX12 cX12_sends 6 none "sends" false 174 (sK (-1) 175) := ok_iconst (by decide +kernel : decode cX12_sends 174 = .ok (.iconst (-1), 1)) (by decide)
theorem o260_175 : Okp RX12 cX12_sends 6 none "sends" false 175 (sI2 0 189 178) := ok_icmp_eq (by decide +kernel : decode cX12_sends 175 = .ok (.if_icmp .eq 14, 3)) (by decide)
theorem o260_178 : Okp RX12 cX12_sends 6 none "sends" false 178 (sLR 0 179) := ok_aload_n (by decide +kernel : decode cX12_sends 178 = .ok (.aload_n 0, 1)) rfl
theorem o260_179 : Okp RX12 cX12_sends 6 none "sends" false 179 (sLR 0 180) := ok_aload_n (by decide +kernel : decode cX12_sends 179 = .ok (.aload_n 0, 1)) rfl
theorem o260_180 : Okp RX12 cX12_sends 6 none "sends" false 180 (sGR 13 14 183) := ok_getR (by decide +kernel : decode cX12_sends 180 = .ok (.getfield 48, 3)) fw_X12_48 rfl
theorem o260_183 : Okp RX12 cX12_sends 6 none "sends" false 183 (sLI 5 185) := ok_iload (by decide +kernel : decode cX12_sends 183 = .ok (.iload 5, 2))
theorem o260_185 : Okp RX12 cX12_sends 6 none "sends" false 185 (sIA 186) := ok_iaload (by decide +kernel : decode cX12_sends 185 = .ok (.iaload, 1))
theorem o260_186 : Okp RX12 cX12_sends 6 none "sends" false 186 (sCV false 249 2 13 189) := ok_cv (by decide +kernel : decode cX12_sends 186 = .ok (.invokevirtual 362, 3)) mw_X12_362 rfl (by decide) wm_X12_popFor wse_X12_popFor (by decide) rfl
theorem o260_189 : Okp RX12 cX12_sends 6 none "sends" false 189 (sLR 0 190) := ok_aload_n (by decide +kernel : decode cX12_sends 189 = .ok (.aload_n 0, 1)) rfl
theorem o260_190 : Okp RX12 cX12_sends 6 none "sends" false 190 (sLR 0 191) := ok_aload_n (by decide +kernel : decode cX12_sends 190 = .ok (.aload_n 0, 1)) rfl
theorem o260_191 : Okp RX12 cX12_sends 6 none "sends" false 191 (sGI 13 35 194) := ok_getI (by decide +kernel : decode cX12_sends 191 = .ok (.getfield 315, 3)) fw_X12_315 rfl
theorem o260_194 : Okp RX12 cX12_sends 6 none "sends" false 194 (sLI 3 195) := ok_iload_n (by decide +kernel : decode cX12_sends 194 = .ok (.iload_n 3, 1)) rfl
theorem o260_195 : Okp RX12 cX12_sends 6 none "sends" false 195 (sK 1 196) := ok_iconst (by decide +kernel : decode cX12_sends 195 = .ok (.iconst 1, 1)) (by decide)
theorem o260_196 : Okp RX12 cX12_sends 6 none "sends" false 196 (sB2 fAdd 197) := ok_iadd (by decide +kernel : decode cX12_sends 196 = .ok (.iadd, 1))
theorem o260_197 : Okp RX12 cX12_sends 6 none "sends" false 197 (sI2 1 204 200) := ok_icmp_ne (by decide +kernel : decode cX12_sends 197 = .ok (.if_icmp .ne 7, 3)) (by decide)
theorem o260_200 : Okp RX12 cX12_sends 6 none "sends" false 200 (sK 1 201) := ok_iconst (by decide +kernel : decode cX12_sends 200 = .ok (.iconst 1, 1)) (by decide)
theorem o260_201 : Okp RX12 cX12_sends 6 none "sends" false 201 (sGo 205) := ok_goto (by decide +kernel : decode cX12_sends 201 = .ok (.goto 4, 3)) (by decide)
theorem o260_204 : Okp RX12 cX12_sends 6 none "sends" false 204 (sK 0 205) := ok_iconst (by decide +kernel : decode cX12_sends 204 = .ok (.iconst 0, 1)) (by decide)
theorem o260_205 : Okp RX12 cX12_sends 6 none "sends" false 205 (sCV false 244 2 13 208) := ok_cv (by decide +kernel : decode cX12_sends 205 = .ok (.invokevirtual 325, 3)) mw_X12_325 rfl (by decide) wm_X12_wants wse_X12_wants (by decide) rfl
theorem o260_208 : Okp RX12 cX12_sends 6 none "sends" false 208 (sLR 0 209) := ok_aload_n (by decide +kernel : decode cX12_sends 208 = .ok (.aload_n 0, 1)) rfl
theorem o260_209 : Okp RX12 cX12_sends 6 none "sends" false 209 (sGI 13 36 212) := ok_getI (by decide +kernel : decode cX12_sends 209 = .ok (.getfield 309, 3)) fw_X12_309 rfl
theorem o260_212 : Okp RX12 cX12_sends 6 none "sends" false 212 (sI1 1 216 215) := ok_if_ne (by decide +kernel : decode cX12_sends 212 = .ok (.ifCond .ne 4, 3)) (by decide)
theorem o260_215 : Okp RX12 cX12_sends 6 none "sends" false 215 sRV := ok_vret rfl (by decide +kernel : decode cX12_sends 215 = .ok (.return_, 1))
theorem o260_216 : Okp RX12 cX12_sends 6 none "sends" false 216 (sLR 0 217) := ok_aload_n (by decide +kernel : decode cX12_sends 216 = .ok (.aload_n 0, 1)) rfl
theorem o260_217 : Okp RX12 cX12_sends 6 none "sends" false 217 (sGR 13 33 220) := ok_getR (by decide +kernel : decode cX12_sends 217 = .ok (.getfield 95, 3)) fw_X12_95 rfl
theorem o260_220 : Okp RX12 cX12_sends 6 none "sends" false 220 (sLI 3 221) := ok_iload_n (by decide +kernel : decode cX12_sends 220 = .ok (.iload_n 3, 1)) rfl
theorem o260_221 : Okp RX12 cX12_sends 6 none "sends" false 221 (sLI 4 223) := ok_iload (by decide +kernel : decode cX12_sends 221 = .ok (.iload 4, 2))
theorem o260_223 : Okp RX12 cX12_sends 6 none "sends" false 223 (sLR 0 224) := ok_aload_n (by decide +kernel : decode cX12_sends 223 = .ok (.aload_n 0, 1)) rfl
theorem o260_224 : Okp RX12 cX12_sends 6 none "sends" false 224 (sGR 13 15 227) := ok_getR (by decide +kernel : decode cX12_sends 224 = .ok (.getfield 51, 3)) fw_X12_51 rfl
theorem o260_227 : Okp RX12 cX12_sends 6 none "sends" false 227 (sLI 5 229) := ok_iload (by decide +kernel : decode cX12_sends 227 = .ok (.iload 5, 2))
theorem o260_229 : Okp RX12 cX12_sends 6 none "sends" false 229 (sIA 230) := ok_iaload (by decide +kernel : decode cX12_sends 229 = .ok (.iaload, 1))
theorem o260_230 : Okp RX12 cX12_sends 6 none "sends" false 230 (sCS false 259 2 233) := ok_cs (by decide +kernel : decode cX12_sends 230 = .ok (.invokestatic 396, 3)) mw_X12_396 wt_X12_inState (by decide) rfl
theorem o260_233 : Okp RX12 cX12_sends 6 none "sends" false 233 (sIS 234) := ok_iastore (by decide +kernel : decode cX12_sends 233 = .ok (.iastore, 1))
theorem o260_234 : Okp RX12 cX12_sends 6 none "sends" false 234 sRV := ok_vret rfl (by decide +kernel : decode cX12_sends 234 = .ok (.return_, 1))
theorem oc260_0 : ∀ pc, Mnp (c260_0 pc) ∧ Okp RX12 cX12_sends 6 none "sends" false pc (c260_0 pc) := by
  intro pc
  unfold c260_0
  split
  · exact ⟨mn_sLR, o260_0⟩
  · exact ⟨mn_sGI, o260_1⟩
  · exact ⟨mn_sI1, o260_4⟩
  · exact ⟨mn_sLR, o260_7⟩
  · exact ⟨mn_sGR, o260_8⟩
  · exact ⟨mn_sLR, o260_11⟩
  · exact ⟨mn_sGI, o260_12⟩
  · exact ⟨mn_sK, o260_15⟩
  · exact ⟨mn_sB2, o260_16⟩
  · exact ⟨mn_sIA, o260_17⟩
  · exact ⟨mn_sCS, o260_18⟩
  · exact ⟨mn_sK, o260_21⟩
  · exact ⟨mn_sI2, o260_22⟩
  · exact ⟨mn_sX, ok_X⟩
theorem oc260_1 : ∀ pc, Mnp (c260_1 pc) ∧ Okp RX12 cX12_sends 6 none "sends" false pc (c260_1 pc) := by
  intro pc
  unfold c260_1
  split
  · exact ⟨mn_sLR, o260_25⟩
  · exact ⟨mn_sLI, o260_26⟩
  · exact ⟨mn_sLR, o260_27⟩
  · exact ⟨mn_sGR, o260_28⟩
  · exact ⟨mn_sLR, o260_31⟩
  · exact ⟨mn_sGI, o260_32⟩
  · exact ⟨mn_sK, o260_35⟩
  · exact ⟨mn_sB2, o260_36⟩
  · exact ⟨mn_sIA, o260_37⟩
  · exact ⟨mn_sLI, o260_38⟩
  · exact ⟨mn_sCV, o260_39⟩
  · exact ⟨mn_sI1, o260_42⟩
  · exact ⟨mn_sLR, o260_45⟩
  · exact ⟨mn_sGR, o260_46⟩
  · exact ⟨mn_sX, ok_X⟩
theorem oc260_2 : ∀ pc, Mnp (c260_2 pc) ∧ Okp RX12 cX12_sends 6 none "sends" false pc (c260_2 pc) := by
  intro pc
  unfold c260_2
  split
  · exact ⟨mn_sK, o260_49⟩
  · exact ⟨mn_sLI, o260_50⟩
  · exact ⟨mn_sLR, o260_51⟩
  · exact ⟨mn_sGR, o260_52⟩
  · exact ⟨mn_sLR, o260_55⟩
  · exact ⟨mn_sGI, o260_56⟩
  · exact ⟨mn_sK, o260_59⟩
  · exact ⟨mn_sB2, o260_60⟩
  · exact ⟨mn_sIA, o260_61⟩
  · exact ⟨mn_sCS, o260_62⟩
  · exact ⟨mn_sB2, o260_65⟩
  · exact ⟨mn_sLI, o260_66⟩
  · exact ⟨mn_sB2, o260_67⟩
  · exact ⟨mn_sIA, o260_68⟩
  · exact ⟨mn_sK, o260_69⟩
  · exact ⟨mn_sI2, o260_70⟩
  · exact ⟨mn_sX, ok_X⟩
theorem oc260_3 : ∀ pc, Mnp (c260_3 pc) ∧ Okp RX12 cX12_sends 6 none "sends" false pc (c260_3 pc) := by
  intro pc
  unfold c260_3
  split
  · exact ⟨mn_sLR, o260_73⟩
  · exact ⟨mn_sGI, o260_74⟩
  · exact ⟨mn_sK, o260_77⟩
  · exact ⟨mn_sB2, o260_78⟩
  · exact ⟨mn_sGo, o260_79⟩
  · exact ⟨mn_sLR, o260_82⟩
  · exact ⟨mn_sGI, o260_83⟩
  · exact ⟨mn_sK, o260_86⟩
  · exact ⟨mn_sB2, o260_87⟩
  · exact ⟨mn_sSI, o260_88⟩
  · exact ⟨mn_sLR, o260_89⟩
  · exact ⟨mn_sLI, o260_90⟩
  · exact ⟨mn_sI1, o260_91⟩
  · exact ⟨mn_sK, o260_94⟩
  · exact ⟨mn_sGo, o260_95⟩
  · exact ⟨mn_sX, ok_X⟩
theorem oc260_4 : ∀ pc, Mnp (c260_4 pc) ∧ Okp RX12 cX12_sends 6 none "sends" false pc (c260_4 pc) := by
  intro pc
  unfold c260_4
  split
  · exact ⟨mn_sK, o260_98⟩
  · exact ⟨mn_sCV, o260_99⟩
  · exact ⟨mn_sLR, o260_102⟩
  · exact ⟨mn_sGI, o260_103⟩
  · exact ⟨mn_sI1, o260_106⟩
  · exact ⟨mn_sRV, o260_109⟩
  · exact ⟨mn_sLR, o260_110⟩
  · exact ⟨mn_sGR, o260_111⟩
  · exact ⟨mn_sLI, o260_114⟩
  · exact ⟨mn_sIA, o260_115⟩
  · exact ⟨mn_sSI, o260_116⟩
  · exact ⟨mn_sLR, o260_118⟩
  · exact ⟨mn_sLI, o260_119⟩
  · exact ⟨mn_sX, ok_X⟩
theorem oc260_5 : ∀ pc, Mnp (c260_5 pc) ∧ Okp RX12 cX12_sends 6 none "sends" false pc (c260_5 pc) := by
  intro pc
  unfold c260_5
  split
  · exact ⟨mn_sCS, o260_121⟩
  · exact ⟨mn_sK, o260_124⟩
  · exact ⟨mn_sI2, o260_125⟩
  · exact ⟨mn_sLR, o260_128⟩
  · exact ⟨mn_sLI, o260_129⟩
  · exact ⟨mn_sLI, o260_130⟩
  · exact ⟨mn_sLI, o260_132⟩
  · exact ⟨mn_sCV, o260_133⟩
  · exact ⟨mn_sI1, o260_136⟩
  · exact ⟨mn_sK, o260_139⟩
  · exact ⟨mn_sGo, o260_140⟩
  · exact ⟨mn_sK, o260_143⟩
  · exact ⟨mn_sX, ok_X⟩
theorem oc260_6 : ∀ pc, Mnp (c260_6 pc) ∧ Okp RX12 cX12_sends 6 none "sends" false pc (c260_6 pc) := by
  intro pc
  unfold c260_6
  split
  · exact ⟨mn_sCV, o260_144⟩
  · exact ⟨mn_sLR, o260_147⟩
  · exact ⟨mn_sGI, o260_148⟩
  · exact ⟨mn_sI1, o260_151⟩
  · exact ⟨mn_sRV, o260_154⟩
  · exact ⟨mn_sK, o260_155⟩
  · exact ⟨mn_sLI, o260_156⟩
  · exact ⟨mn_sLI, o260_157⟩
  · exact ⟨mn_sCS, o260_159⟩
  · exact ⟨mn_sB2, o260_162⟩
  · exact ⟨mn_sLI, o260_163⟩
  · exact ⟨mn_sB2, o260_164⟩
  · exact ⟨mn_sSI, o260_165⟩
  · exact ⟨mn_sLR, o260_167⟩
  · exact ⟨mn_sX, ok_X⟩
theorem oc260_7 : ∀ pc, Mnp (c260_7 pc) ∧ Okp RX12 cX12_sends 6 none "sends" false pc (c260_7 pc) := by
  intro pc
  unfold c260_7
  split
  · exact ⟨mn_sGR, o260_168⟩
  · exact ⟨mn_sLI, o260_171⟩
  · exact ⟨mn_sIA, o260_173⟩
  · exact ⟨mn_sK, o260_174⟩
  · exact ⟨mn_sI2, o260_175⟩
  · exact ⟨mn_sLR, o260_178⟩
  · exact ⟨mn_sLR, o260_179⟩
  · exact ⟨mn_sGR, o260_180⟩
  · exact ⟨mn_sLI, o260_183⟩
  · exact ⟨mn_sIA, o260_185⟩
  · exact ⟨mn_sCV, o260_186⟩
  · exact ⟨mn_sLR, o260_189⟩
  · exact ⟨mn_sLR, o260_190⟩
  · exact ⟨mn_sGI, o260_191⟩
  · exact ⟨mn_sX, ok_X⟩
theorem oc260_8 : ∀ pc, Mnp (c260_8 pc) ∧ Okp RX12 cX12_sends 6 none "sends" false pc (c260_8 pc) := by
  intro pc
  unfold c260_8
  split
  · exact ⟨mn_sLI, o260_194⟩
  · exact ⟨mn_sK, o260_195⟩
  · exact ⟨mn_sB2, o260_196⟩
  · exact ⟨mn_sI2, o260_197⟩
  · exact ⟨mn_sK, o260_200⟩
  · exact ⟨mn_sGo, o260_201⟩
  · exact ⟨mn_sK, o260_204⟩
  · exact ⟨mn_sCV, o260_205⟩
  · exact ⟨mn_sLR, o260_208⟩
  · exact ⟨mn_sGI, o260_209⟩
  · exact ⟨mn_sI1, o260_212⟩
  · exact ⟨mn_sRV, o260_215⟩
  · exact ⟨mn_sX, ok_X⟩
theorem oc260_9 : ∀ pc, Mnp (c260_9 pc) ∧ Okp RX12 cX12_sends 6 none "sends" false pc (c260_9 pc) := by
  intro pc
  unfold c260_9
  split
  · exact ⟨mn_sLR, o260_216⟩
  · exact ⟨mn_sGR, o260_217⟩
  · exact ⟨mn_sLI, o260_220⟩
  · exact ⟨mn_sLI, o260_221⟩
  · exact ⟨mn_sLR, o260_223⟩
  · exact ⟨mn_sGR, o260_224⟩
  · exact ⟨mn_sLI, o260_227⟩
  · exact ⟨mn_sIA, o260_229⟩
  · exact ⟨mn_sCS, o260_230⟩
  · exact ⟨mn_sIS, o260_233⟩
  · exact ⟨mn_sRV, o260_234⟩
  · exact ⟨mn_sX, ok_X⟩
theorem oc260 : ∀ pc, Mnp (c260 pc) ∧ Okp RX12 cX12_sends 6 none "sends" false pc (c260 pc) := by
  intro pc
  unfold c260
  split
  · exact oc260_0 pc
  · exact oc260_1 pc
  · exact oc260_2 pc
  · exact oc260_3 pc
  · exact oc260_4 pc
  · exact oc260_5 pc
  · exact oc260_6 pc
  · exact oc260_7 pc
  · exact oc260_8 pc
  · exact oc260_9 pc
  · exact ⟨mn_sX, ok_X⟩
theorem o261_0 : Okp RX12 cX12_stateOf 2 (some .int) "stateOf" false 0 (sK 8 2) := ok_bipush (by decide +kernel : decode cX12_stateOf 0 = .ok (.bipush 8, 2)) (by decide)
theorem o261_2 : Okp RX12 cX12_stateOf 2 (some .int) "stateOf" false 2 (sK 4 3) := ok_iconst (by decide +kernel : decode cX12_stateOf 2 = .ok (.iconst 4, 1)) (by decide)
theorem o261_3 : Okp RX12 cX12_stateOf 2 (some .int) "stateOf" false 3 (sLI 0 4) := ok_iload_n (by decide +kernel : decode cX12_stateOf 3 = .ok (.iload_n 0, 1)) rfl
theorem o261_4 : Okp RX12 cX12_stateOf 2 (some .int) "stateOf" false 4 (sB2 fMul 5) := ok_imul (by decide +kernel : decode cX12_stateOf 4 = .ok (.imul, 1))
theorem o261_5 : Okp RX12 cX12_stateOf 2 (some .int) "stateOf" false 5 (sLI 1 6) := ok_iload_n (by decide +kernel : decode cX12_stateOf 5 = .ok (.iload_n 1, 1)) rfl
theorem o261_6 : Okp RX12 cX12_stateOf 2 (some .int) "stateOf" false 6 (sCS false 225 1 9) := ok_cs (by decide +kernel : decode cX12_stateOf 6 = .ok (.invokestatic 368, 3)) mw_X12_368 wt_X12_which (by decide) rfl
theorem o261_9 : Okp RX12 cX12_stateOf 2 (some .int) "stateOf" false 9 (sB2 fAdd 10) := ok_iadd (by decide +kernel : decode cX12_stateOf 9 = .ok (.iadd, 1))
theorem o261_10 : Okp RX12 cX12_stateOf 2 (some .int) "stateOf" false 10 (sB2 fMul 11) := ok_imul (by decide +kernel : decode cX12_stateOf 10 = .ok (.imul, 1))
theorem o261_11 : Okp RX12 cX12_stateOf 2 (some .int) "stateOf" false 11 (sLI 1 12) := ok_iload_n (by decide +kernel : decode cX12_stateOf 11 = .ok (.iload_n 1, 1)) rfl
theorem o261_12 : Okp RX12 cX12_stateOf 2 (some .int) "stateOf" false 12 (sCS false 226 1 15) := ok_cs (by decide +kernel : decode cX12_stateOf 12 = .ok (.invokestatic 386, 3)) mw_X12_386 wt_X12_state (by decide) rfl
theorem o261_15 : Okp RX12 cX12_stateOf 2 (some .int) "stateOf" false 15 (sB2 fAdd 16) := ok_iadd (by decide +kernel : decode cX12_stateOf 15 = .ok (.iadd, 1))
theorem o261_16 : Okp RX12 cX12_stateOf 2 (some .int) "stateOf" false 16 sRI := ok_iret rfl (by decide +kernel : decode cX12_stateOf 16 = .ok (.ireturn, 1))
theorem oc261 : ∀ pc, Mnp (c261 pc) ∧ Okp RX12 cX12_stateOf 2 (some .int) "stateOf" false pc (c261 pc) := by
  intro pc
  unfold c261
  split
  · exact ⟨mn_sK, o261_0⟩
  · exact ⟨mn_sK, o261_2⟩
  · exact ⟨mn_sLI, o261_3⟩
  · exact ⟨mn_sB2, o261_4⟩
  · exact ⟨mn_sLI, o261_5⟩
  · exact ⟨mn_sCS, o261_6⟩
  · exact ⟨mn_sB2, o261_9⟩
  · exact ⟨mn_sB2, o261_10⟩
  · exact ⟨mn_sLI, o261_11⟩
  · exact ⟨mn_sCS, o261_12⟩
  · exact ⟨mn_sB2, o261_15⟩
  · exact ⟨mn_sRI, o261_16⟩
  · exact ⟨mn_sX, ok_X⟩
theorem o262_0 : Okp RX12 cX12_isTurn 4 (some .boolean) "isTurn" false 0 (sLR 0 1) := ok_aload_n (by decide +kernel : decode cX12_isTurn 0 = .ok (.aload_n 0, 1)) rfl
theorem o262_1 : Okp RX12 cX12_isTurn 4 (some .boolean) "isTurn" false 1 (sGR 13 12 4) := ok_getR (by decide +kernel : decode cX12_isTurn 1 = .ok (.getfield 42, 3)) fw_X12_42 rfl
theorem o262_4 : Okp RX12 cX12_isTurn 4 (some .boolean) "isTurn" false 4 (sLI 1 5) := ok_iload_n (by decide +kernel : decode cX12_isTurn 4 = .ok (.iload_n 1, 1)) rfl
theorem o262_5 : Okp RX12 cX12_isTurn 4 (some .boolean) "isTurn" false 5 (sLI 2 6) := ok_iload_n (by decide +kernel : decode cX12_isTurn 5 = .ok (.iload_n 2, 1)) rfl
theorem o262_6 : Okp RX12 cX12_isTurn 4 (some .boolean) "isTurn" false 6 (sCS false 261 2 9) := ok_cs (by decide +kernel : decode cX12_isTurn 6 = .ok (.invokestatic 393, 3)) mw_X12_393 wt_X12_stateOf (by decide) rfl
theorem o262_9 : Okp RX12 cX12_isTurn 4 (some .boolean) "isTurn" false 9 (sIA 10) := ok_iaload (by decide +kernel : decode cX12_isTurn 9 = .ok (.iaload, 1))
theorem o262_10 : Okp RX12 cX12_isTurn 4 (some .boolean) "isTurn" false 10 (sK 1 11) := ok_iconst (by decide +kernel : decode cX12_isTurn 10 = .ok (.iconst 1, 1)) (by decide)
theorem o262_11 : Okp RX12 cX12_isTurn 4 (some .boolean) "isTurn" false 11 (sLI 2 12) := ok_iload_n (by decide +kernel : decode cX12_isTurn 11 = .ok (.iload_n 2, 1)) rfl
theorem o262_12 : Okp RX12 cX12_isTurn 4 (some .boolean) "isTurn" false 12 (sCS false 227 1 15) := ok_cs (by decide +kernel : decode cX12_isTurn 12 = .ok (.invokestatic 399, 3)) mw_X12_399 wt_X12_side (by decide) rfl
theorem o262_15 : Okp RX12 cX12_isTurn 4 (some .boolean) "isTurn" false 15 (sB2 fAdd 16) := ok_iadd (by decide +kernel : decode cX12_isTurn 15 = .ok (.iadd, 1))
theorem o262_16 : Okp RX12 cX12_isTurn 4 (some .boolean) "isTurn" false 16 (sI2 1 37 19) := ok_icmp_ne (by decide +kernel : decode cX12_isTurn 16 = .ok (.if_icmp .ne 21, 3)) (by decide)
theorem o262_19 : Okp RX12 cX12_isTurn 4 (some .boolean) "isTurn" false 19 (sLI 3 20) := ok_iload_n (by decide +kernel : decode cX12_isTurn 19 = .ok (.iload_n 3, 1)) rfl
theorem o262_20 : Okp RX12 cX12_isTurn 4 (some .boolean) "isTurn" false 20 (sLR 0 21) := ok_aload_n (by decide +kernel : decode cX12_isTurn 20 = .ok (.aload_n 0, 1)) rfl
theorem o262_21 : Okp RX12 cX12_isTurn 4 (some .boolean) "isTurn" false 21 (sGR 13 13 24) := ok_getR (by decide +kernel : decode cX12_isTurn 21 = .ok (.getfield 45, 3)) fw_X12_45 rfl
theorem o262_24 : Okp RX12 cX12_isTurn 4 (some .boolean) "isTurn" false 24 (sLI 1 25) := ok_iload_n (by decide +kernel : decode cX12_isTurn 24 = .ok (.iload_n 1, 1)) rfl
theorem o262_25 : Okp RX12 cX12_isTurn 4 (some .boolean) "isTurn" false 25 (sLI 2 26) := ok_iload_n (by decide +kernel : decode cX12_isTurn 25 = .ok (.iload_n 2, 1)) rfl
theorem o262_26 : Okp RX12 cX12_isTurn 4 (some .boolean) "isTurn" false 26 (sCS false 261 2 29) := ok_cs (by decide +kernel : decode cX12_isTurn 26 = .ok (.invokestatic 393, 3)) mw_X12_393 wt_X12_stateOf (by decide) rfl
theorem o262_29 : Okp RX12 cX12_isTurn 4 (some .boolean) "isTurn" false 29 (sIA 30) := ok_iaload (by decide +kernel : decode cX12_isTurn 29 = .ok (.iaload, 1))
theorem o262_30 : Okp RX12 cX12_isTurn 4 (some .boolean) "isTurn" false 30 (sI2 3 37 33) := ok_icmp_ge (by decide +kernel : decode cX12_isTurn 30 = .ok (.if_icmp .ge 7, 3)) (by decide)
theorem o262_33 : Okp RX12 cX12_isTurn 4 (some .boolean) "isTurn" false 33 (sK 1 34) := ok_iconst (by decide +kernel : decode cX12_isTurn 33 = .ok (.iconst 1, 1)) (by decide)
theorem o262_34 : Okp RX12 cX12_isTurn 4 (some .boolean) "isTurn" false 34 (sGo 38) := ok_goto (by decide +kernel : decode cX12_isTurn 34 = .ok (.goto 4, 3)) (by decide)
theorem o262_37 : Okp RX12 cX12_isTurn 4 (some .boolean) "isTurn" false 37 (sK 0 38) := ok_iconst (by decide +kernel : decode cX12_isTurn 37 = .ok (.iconst 0, 1)) (by decide)
theorem o262_38 : Okp RX12 cX12_isTurn 4 (some .boolean) "isTurn" false 38 sRZ := ok_zret rfl (by decide +kernel : decode cX12_isTurn 38 = .ok (.ireturn, 1))
theorem oc262_0 : ∀ pc, Mnp (c262_0 pc) ∧ Okp RX12 cX12_isTurn 4 (some .boolean) "isTurn" false pc (c262_0 pc) := by
  intro pc
  unfold c262_0
  split
  · exact ⟨mn_sLR, o262_0⟩
  · exact ⟨mn_sGR, o262_1⟩
  · exact ⟨mn_sLI, o262_4⟩
  · exact ⟨mn_sLI, o262_5⟩
  · exact ⟨mn_sCS, o262_6⟩
  · exact ⟨mn_sIA, o262_9⟩
  · exact ⟨mn_sK, o262_10⟩
  · exact ⟨mn_sLI, o262_11⟩
  · exact ⟨mn_sCS, o262_12⟩
  · exact ⟨mn_sB2, o262_15⟩
  · exact ⟨mn_sI2, o262_16⟩
  · exact ⟨mn_sLI, o262_19⟩
  · exact ⟨mn_sLR, o262_20⟩
  · exact ⟨mn_sGR, o262_21⟩
  · exact ⟨mn_sX, ok_X⟩
theorem oc262_1 : ∀ pc, Mnp (c262_1 pc) ∧ Okp RX12 cX12_isTurn 4 (some .boolean) "isTurn" false pc (c262_1 pc) := by
  intro pc
  unfold c262_1
  split
  · exact ⟨mn_sLI, o262_24⟩
  · exact ⟨mn_sLI, o262_25⟩
  · exact ⟨mn_sCS, o262_26⟩
  · exact ⟨mn_sIA, o262_29⟩
  · exact ⟨mn_sI2, o262_30⟩
  · exact ⟨mn_sK, o262_33⟩
  · exact ⟨mn_sGo, o262_34⟩
  · exact ⟨mn_sK, o262_37⟩
  · exact ⟨mn_sRZ, o262_38⟩
  · exact ⟨mn_sX, ok_X⟩
theorem oc262 : ∀ pc, Mnp (c262 pc) ∧ Okp RX12 cX12_isTurn 4 (some .boolean) "isTurn" false pc (c262 pc) := by
  intro pc
  unfold c262
  split
  · exact oc262_0 pc
  · exact oc262_1 pc
  · exact ⟨mn_sX, ok_X⟩
theorem o263_0 : Okp RX12 cX12_receives 9 none "receives" false 0 (sLR 0 1) := ok_aload_n (by decide +kernel : decode cX12_receives 0 = .ok (.aload_n 0, 1)) rfl
theorem o263_1 : Okp RX12 cX12_receives 9 none "receives" false 1 (sK 5 2) := ok_iconst (by decide +kernel : decode cX12_receives 1 = .ok (.iconst 5, 1)) (by decide)
theorem o263_2 : Okp RX12 cX12_receives 9 none "receives" false 2 (sCV false 250 2 13 5) := ok_cv (by decide +kernel : decode cX12_receives 2 = .ok (.invokevirtual 380, 3)) mw_X12_380 rfl (by decide) wm_X12_popKind wse_X12_popKind (by decide) rfl
theorem o263_5 : Okp RX12 cX12_receives 9 none "receives" false 5 (sSI 5 7) := ok_istore (by decide +kernel : decode cX12_receives 5 = .ok (.istore 5, 2)) (by decide) (by decide)
theorem o263_7 : Okp RX12 cX12_receives 9 none "receives" false 7 (sLR 0 8) := ok_aload_n (by decide +kernel : decode cX12_receives 7 = .ok (.aload_n 0, 1)) rfl
theorem o263_8 : Okp RX12 cX12_receives 9 none "receives" false 8 (sLR 0 9) := ok_aload_n (by decide +kernel : decode cX12_receives 8 = .ok (.aload_n 0, 1)) rfl
theorem o263_9 : Okp RX12 cX12_receives 9 none "receives" false 9 (sGI 13 36 12) := ok_getI (by decide +kernel : decode cX12_receives 9 = .ok (.getfield 309, 3)) fw_X12_309 rfl
theorem o263_12 : Okp RX12 cX12_receives 9 none "receives" false 12 (sI1 0 56 15) := ok_if_eq (by decide +kernel : decode cX12_receives 12 = .ok (.ifCond .eq 44, 3)) (by decide)
theorem o263_15 : Okp RX12 cX12_receives 9 none "receives" false 15 (sLR 0 16) := ok_aload_n (by decide +kernel : decode cX12_receives 15 = .ok (.aload_n 0, 1)) rfl
theorem o263_16 : Okp RX12 cX12_receives 9 none "receives" false 16 (sGR 13 12 19) := ok_getR (by decide +kernel : decode cX12_receives 16 = .ok (.getfield 42, 3)) fw_X12_42 rfl
theorem o263_19 : Okp RX12 cX12_receives 9 none "receives" false 19 (sLI 1 20) := ok_iload_n (by decide +kernel : decode cX12_receives 19 = .ok (.iload_n 1, 1)) rfl
theorem o263_20 : Okp RX12 cX12_receives 9 none "receives" false 20 (sLI 5 22) := ok_iload (by decide +kernel : decode cX12_receives 20 = .ok (.iload 5, 2))
theorem o263_22 : Okp RX12 cX12_receives 9 none "receives" false 22 (sCS false 261 2 25) := ok_cs (by decide +kernel : decode cX12_receives 22 = .ok (.invokestatic 393, 3)) mw_X12_393 wt_X12_stateOf (by decide) rfl
theorem o263_25 : Okp RX12 cX12_receives 9 none "receives" false 25 (sIA 26) := ok_iaload (by decide +kernel : decode cX12_receives 25 = .ok (.iaload, 1))
theorem o263_26 : Okp RX12 cX12_receives 9 none "receives" false 26 (sK 2 27) := ok_iconst (by decide +kernel : decode cX12_receives 26 = .ok (.iconst 2, 1)) (by decide)
theorem o263_27 : Okp RX12 cX12_receives 9 none "receives" false 27 (sLI 5 29) := ok_iload (by decide +kernel : decode cX12_receives 27 = .ok (.iload 5, 2))
theorem o263_29 : Okp RX12 cX12_receives 9 none "receives" false 29 (sCS false 227 1 32) := ok_cs (by decide +kernel : decode cX12_receives 29 = .ok (.invokestatic 399, 3)) mw_X12_399 wt_X12_side (by decide) rfl
theorem o263_32 : Okp RX12 cX12_receives 9 none "receives" false 32 (sB2 fSub 33) := ok_isub (by decide +kernel : decode cX12_receives 32 = .ok (.isub, 1))
theorem o263_33 : Okp RX12 cX12_receives 9 none "receives" false 33 (sI2 1 56 36) := ok_icmp_ne (by decide +kernel : decode cX12_receives 33 = .ok (.if_icmp .ne 23, 3)) (by decide)
theorem o263_36 : Okp RX12 cX12_receives 9 none "receives" false 36 (sLR 0 37) := ok_aload_n (by decide +kernel : decode cX12_receives 36 = .ok (.aload_n 0, 1)) rfl
theorem o263_37 : Okp RX12 cX12_receives 9 none "receives" false 37 (sGR 13 13 40) := ok_getR (by decide +kernel : decode cX12_receives 37 = .ok (.getfield 45, 3)) fw_X12_45 rfl
theorem o263_40 : Okp RX12 cX12_receives 9 none "receives" false 40 (sLI 1 41) := ok_iload_n (by decide +kernel : decode cX12_receives 40 = .ok (.iload_n 1, 1)) rfl
theorem o263_41 : Okp RX12 cX12_receives 9 none "receives" false 41 (sLI 5 43) := ok_iload (by decide +kernel : decode cX12_receives 41 = .ok (.iload 5, 2))
theorem o263_43 : Okp RX12 cX12_receives 9 none "receives" false 43 (sCS false 261 2 46) := ok_cs (by decide +kernel : decode cX12_receives 43 = .ok (.invokestatic 393, 3)) mw_X12_393 wt_X12_stateOf (by decide) rfl
theorem o263_46 : Okp RX12 cX12_receives 9 none "receives" false 46 (sIA 47) := ok_iaload (by decide +kernel : decode cX12_receives 46 = .ok (.iaload, 1))
theorem o263_47 : Okp RX12 cX12_receives 9 none "receives" false 47 (sLI 4 49) := ok_iload (by decide +kernel : decode cX12_receives 47 = .ok (.iload 4, 2))
theorem o263_49 : Okp RX12 cX12_receives 9 none "receives" false 49 (sI2 1 56 52) := ok_icmp_ne (by decide +kernel : decode cX12_receives 49 = .ok (.if_icmp .ne 7, 3)) (by decide)
theorem o263_52 : Okp RX12 cX12_receives 9 none "receives" false 52 (sK 1 53) := ok_iconst (by decide +kernel : decode cX12_receives 52 = .ok (.iconst 1, 1)) (by decide)
theorem o263_53 : Okp RX12 cX12_receives 9 none "receives" false 53 (sGo 57) := ok_goto (by decide +kernel : decode cX12_receives 53 = .ok (.goto 4, 3)) (by decide)
theorem o263_56 : Okp RX12 cX12_receives 9 none "receives" false 56 (sK 0 57) := ok_iconst (by decide +kernel : decode cX12_receives 56 = .ok (.iconst 0, 1)) (by decide)
theorem o263_57 : Okp RX12 cX12_receives 9 none "receives" false 57 (sCV false 244 2 13 60) := ok_cv (by decide +kernel : decode cX12_receives 57 = .ok (.invokevirtual 325, 3)) mw_X12_325 rfl (by decide) wm_X12_wants wse_X12_wants (by decide) rfl
theorem o263_60 : Okp RX12 cX12_receives 9 none "receives" false 60 (sLR 0 61) := ok_aload_n (by decide +kernel : decode cX12_receives 60 = .ok (.aload_n 0, 1)) rfl
theorem o263_61 : Okp RX12 cX12_receives 9 none "receives" false 61 (sGI 13 35 64) := ok_getI (by decide +kernel : decode cX12_receives 61 = .ok (.getfield 315, 3)) fw_X12_315 rfl
theorem o263_64 : Okp RX12 cX12_receives 9 none "receives" false 64 (sSI 6 66) := ok_istore (by decide +kernel : decode cX12_receives 64 = .ok (.istore 6, 2)) (by decide) (by decide)
theorem o263_66 : Okp RX12 cX12_receives 9 none "receives" false 66 (sK 0 67) := ok_iconst (by decide +kernel : decode cX12_receives 66 = .ok (.iconst 0, 1)) (by decide)
theorem o263_67 : Okp RX12 cX12_receives 9 none "receives" false 67 (sSI 7 69) := ok_istore (by decide +kernel : decode cX12_receives 67 = .ok (.istore 7, 2)) (by decide) (by decide)
theorem o263_69 : Okp RX12 cX12_receives 9 none "receives" false 69 (sLI 7 71) := ok_iload (by decide +kernel : decode cX12_receives 69 = .ok (.iload 7, 2))
theorem o263_71 : Okp RX12 cX12_receives 9 none "receives" false 71 (sLI 4 73) := ok_iload (by decide +kernel : decode cX12_receives 71 = .ok (.iload 4, 2))
theorem o263_73 : Okp RX12 cX12_receives 9 none "receives" false 73 (sI2 3 162 76) := ok_icmp_ge (by decide +kernel : decode cX12_receives 73 = .ok (.if_icmp .ge 89, 3)) (by decide)
theorem o263_76 : Okp RX12 cX12_receives 9 none "receives" false 76 (sLR 0 77) := ok_aload_n (by decide +kernel : decode cX12_receives 76 = .ok (.aload_n 0, 1)) rfl
theorem o263_77 : Okp RX12 cX12_receives 9 none "receives" false 77 (sGI 13 36 80) := ok_getI (by decide +kernel : decode cX12_receives 77 = .ok (.getfield 309, 3)) fw_X12_309 rfl
theorem o263_80 : Okp RX12 cX12_receives 9 none "receives" false 80 (sI1 0 162 83) := ok_if_eq (by decide +kernel : decode cX12_receives 80 = .ok (.ifCond .eq 82, 3)) (by decide)
theorem o263_83 : Okp RX12 cX12_receives 9 none "receives" false 83 (sK 4 84) := ok_iconst (by decide +kernel : decode cX12_receives 83 = .ok (.iconst 4, 1)) (by decide)
theorem o263_84 : Okp RX12 cX12_receives 9 none "receives" false 84 (sLI 1 85) := ok_iload_n (by decide +kernel : decode cX12_receives 84 = .ok (.iload_n 1, 1)) rfl
theorem o263_85 : Okp RX12 cX12_receives 9 none "receives" false 85 (sLI 5 87) := ok_iload (by decide +kernel : decode cX12_receives 85 = .ok (.iload 5, 2))
theorem o263_87 : Okp RX12 cX12_receives 9 none "receives" false 87 (sCS false 261 2 90) := ok_cs (by decide +kernel : decode cX12_receives 87 = .ok (.invokestatic 393, 3)) mw_X12_393 wt_X12_stateOf (by decide) rfl
theorem o263_90 : Okp RX12 cX12_receives 9 none "receives" false 90 (sB2 fMul 91) := ok_imul (by decide +kernel : decode cX12_receives 90 = .ok (.imul, 1))
theorem o263_91 : Okp RX12 cX12_receives 9 none "receives" false 91 (sLI 7 93) := ok_iload (by decide +kernel : decode cX12_receives 91 = .ok (.iload 7, 2))
theorem o263_93 : Okp RX12 cX12_receives 9 none "receives" false 93 (sB2 fAdd 94) := ok_iadd (by decide +kernel : decode cX12_receives 93 = .ok (.iadd, 1))
theorem o263_94 : Okp RX12 cX12_receives 9 none "receives" false 94 (sSI 8 96) := ok_istore (by decide +kernel : decode cX12_receives 94 = .ok (.istore 8, 2)) (by decide) (by decide)
theorem o263_96 : Okp RX12 cX12_receives 9 none "receives" false 96 (sLR 0 97) := ok_aload_n (by decide +kernel : decode cX12_receives 96 = .ok (.aload_n 0, 1)) rfl
theorem o263_97 : Okp RX12 cX12_receives 9 none "receives" false 97 (sLI 6 99) := ok_iload (by decide +kernel : decode cX12_receives 97 = .ok (.iload 6, 2))
theorem o263_99 : Okp RX12 cX12_receives 9 none "receives" false 99 (sPI 13 35 102) := ok_putI (by decide +kernel : decode cX12_receives 99 = .ok (.putfield 315, 3)) fw_X12_315 ⟨⟨tyX12_ok, nmX12⟩, Or.inl rfl, rfl⟩ rfl
theorem o263_102 : Okp RX12 cX12_receives 9 none "receives" false 102 (sLR 0 103) := ok_aload_n (by decide +kernel : decode cX12_receives 102 = .ok (.aload_n 0, 1)) rfl
theorem o263_103 : Okp RX12 cX12_receives 9 none "receives" false 103 (sLI 5 105) := ok_iload (by decide +kernel : decode cX12_receives 103 = .ok (.iload 5, 2))
theorem o263_105 : Okp RX12 cX12_receives 9 none "receives" false 105 (sLR 0 106) := ok_aload_n (by decide +kernel : decode cX12_receives 105 = .ok (.aload_n 0, 1)) rfl
theorem o263_106 : Okp RX12 cX12_receives 9 none "receives" false 106 (sGR 13 15 109) := ok_getR (by decide +kernel : decode cX12_receives 106 = .ok (.getfield 51, 3)) fw_X12_51 rfl
theorem o263_109 : Okp RX12 cX12_receives 9 none "receives" false 109 (sLI 8 111) := ok_iload (by decide +kernel : decode cX12_receives 109 = .ok (.iload 8, 2))
theorem o263_111 : Okp RX12 cX12_receives 9 none "receives" false 111 (sIA 112) := ok_iaload (by decide +kernel : decode cX12_receives 111 = .ok (.iaload, 1))
theorem o263_112 : Okp RX12 cX12_receives 9 none "receives" false 112 (sCS false 259 2 115) := ok_cs (by decide +kernel : decode cX12_receives 112 = .ok (.invokestatic 396, 3)) mw_X12_396 wt_X12_inState (by decide) rfl
theorem o263_115 : Okp RX12 cX12_receives 9 none "receives" false 115 (sCV false 248 2 13 118) := ok_cv (by decide +kernel : decode cX12_receives 115 = .ok (.invokevirtual 359, 3)) mw_X12_359 rfl (by decide) wm_X12_push wse_X12_push (by decide) rfl
theorem o263_118 : Okp RX12 cX12_receives 9 none "receives" false 118 (sLR 0 119) := ok_aload_n (by decide +kernel : decode cX12_receives 118 = .ok (.aload_n 0, 1)) rfl
theorem o263_119 : Okp RX12 cX12_receives 9 none "receives" false 119 (sGR 13 14 122) := ok_getR (by decide +kernel : decode cX12_receives 119 = .ok (.getfield 48, 3)) fw_X12_48 rfl
theorem o263_122 : Okp RX12 cX12_receives 9 none "receives" false 122 (sLI 8 124) := ok_iload (by decide +kernel : decode cX12_receives 122 = .ok (.iload 8, 2))
theorem o263_124 : Okp RX12 cX12_receives 9 none "receives" false 124 (sIA 125) := ok_iaload (by decide +kernel : decode cX12_receives 124 = .ok (.iaload, 1))
theorem o263_125 : Okp RX12 cX12_receives 9 none "receives" false 125 (sK (-1) 126) := ok_iconst (by decide +kernel : decode cX12_receives 125 = .ok (.iconst (-1), 1)) (by decide)
theorem o263_126 : Okp RX12 cX12_receives 9 none "receives" false 126 (sI2 0 140 129) := ok_icmp_eq (by decide +kernel : decode cX12_receives 126 = .ok (.if_icmp .eq 14, 3)) (by decide)
theorem o263_129 : Okp RX12 cX12_receives 9 none "receives" false 129 (sLR 0 130) := ok_aload_n (by decide +kernel : decode cX12_receives 129 = .ok (.aload_n 0, 1)) rfl
theorem o263_130 : Okp RX12 cX12_receives 9 none "receives" false 130 (sLR 0 131) := ok_aload_n (by decide +kernel : decode cX12_receives 130 = .ok (.aload_n 0, 1)) rfl
theorem o263_131 : Okp RX12 cX12_receives 9 none "receives" false 131 (sGR 13 14 134) := ok_getR (by decide +kernel : decode cX12_receives 131 = .ok (.getfield 48, 3)) fw_X12_48 rfl
theorem o263_134 : Okp RX12 cX12_receives 9 none "receives" false 134 (sLI 8 136) := ok_iload (by decide +kernel : decode cX12_receives 134 = .ok (.iload 8, 2))
theorem o263_136 : Okp RX12 cX12_receives 9 none "receives" false 136 (sIA 137) := ok_iaload (by decide +kernel : decode cX12_receives 136 = .ok (.iaload, 1))
theorem o263_137 : Okp RX12 cX12_receives 9 none "receives" false 137 (sCV false 248 2 13 140) := ok_cv (by decide +kernel : decode cX12_receives 137 = .ok (.invokevirtual 359, 3)) mw_X12_359 rfl (by decide) wm_X12_push wse_X12_push (by decide) rfl
theorem o263_140 : Okp RX12 cX12_receives 9 none "receives" false 140 (sLR 0 141) := ok_aload_n (by decide +kernel : decode cX12_receives 140 = .ok (.aload_n 0, 1)) rfl
theorem o263_141 : Okp RX12 cX12_receives 9 none "receives" false 141 (sLI 2 142) := ok_iload_n (by decide +kernel : decode cX12_receives 141 = .ok (.iload_n 2, 1)) rfl
theorem o263_142 : Okp RX12 cX12_receives 9 none "receives" false 142 (sLR 0 143) := ok_aload_n (by decide +kernel : decode cX12_receives 142 = .ok (.aload_n 0, 1)) rfl
theorem o263_143 : Okp RX12 cX12_receives 9 none "receives" false 143 (sLI 1 144) := ok_iload_n (by decide +kernel : decode cX12_receives 143 = .ok (.iload_n 1, 1)) rfl
theorem o263_144 : Okp RX12 cX12_receives 9 none "receives" false 144 (sLI 3 145) := ok_iload_n (by decide +kernel : decode cX12_receives 144 = .ok (.iload_n 3, 1)) rfl
theorem o263_145 : Okp RX12 cX12_receives 9 none "receives" false 145 (sK 2 146) := ok_iconst (by decide +kernel : decode cX12_receives 145 = .ok (.iconst 2, 1)) (by decide)
theorem o263_146 : Okp RX12 cX12_receives 9 none "receives" false 146 (sB2 fAdd 147) := ok_iadd (by decide +kernel : decode cX12_receives 146 = .ok (.iadd, 1))
theorem o263_147 : Okp RX12 cX12_receives 9 none "receives" false 147 (sLI 7 149) := ok_iload (by decide +kernel : decode cX12_receives 147 = .ok (.iload 7, 2))
theorem o263_149 : Okp RX12 cX12_receives 9 none "receives" false 149 (sB2 fAdd 150) := ok_iadd (by decide +kernel : decode cX12_receives 149 = .ok (.iadd, 1))
theorem o263_150 : Okp RX12 cX12_receives 9 none "receives" false 150 (sCV false 220 3 13 153) := ok_cv (by decide +kernel : decode cX12_receives 150 = .ok (.invokevirtual 246, 3)) mw_X12_246 rfl (by decide) wm_X12_byteAt wse_X12_byteAt (by decide) rfl
theorem o263_153 : Okp RX12 cX12_receives 9 none "receives" false 153 (sCV false 245 3 13 156) := ok_cv (by decide +kernel : decode cX12_receives 153 = .ok (.invokevirtual 318, 3)) mw_X12_318 rfl (by decide) wm_X12_flow wse_X12_flow (by decide) rfl
theorem o263_156 : Okp RX12 cX12_receives 9 none "receives" false 156 (sInc 7 1 159) := ok_iinc (by decide +kernel : decode cX12_receives 156 = .ok (.iinc 7 1, 3)) (by decide) (by decide)
theorem o263_159 : Okp RX12 cX12_receives 9 none "receives" false 159 (sGo 69) := ok_goto (by decide +kernel : decode cX12_receives 159 = .ok (.goto (-90), 3)) (by decide)
theorem o263_162 : Okp RX12 cX12_receives 9 none "receives" false 162 sRV := ok_vret rfl (by decide +kernel : decode cX12_receives 162 = .ok (.return_, 1))
theorem oc263_0 : ∀ pc, Mnp (c263_0 pc) ∧ Okp RX12 cX12_receives 9 none "receives" false pc (c263_0 pc) := by
  intro pc
  unfold c263_0
  split
  · exact ⟨mn_sLR, o263_0⟩
  · exact ⟨mn_sK, o263_1⟩
  · exact ⟨mn_sCV, o263_2⟩
  · exact ⟨mn_sSI, o263_5⟩
  · exact ⟨mn_sLR, o263_7⟩
  · exact ⟨mn_sLR, o263_8⟩
  · exact ⟨mn_sGI, o263_9⟩
  · exact ⟨mn_sI1, o263_12⟩
  · exact ⟨mn_sLR, o263_15⟩
  · exact ⟨mn_sGR, o263_16⟩
  · exact ⟨mn_sLI, o263_19⟩
  · exact ⟨mn_sLI, o263_20⟩
  · exact ⟨mn_sCS, o263_22⟩
  · exact ⟨mn_sX, ok_X⟩
theorem oc263_1 : ∀ pc, Mnp (c263_1 pc) ∧ Okp RX12 cX12_receives 9 none "receives" false pc (c263_1 pc) := by
  intro pc
  unfold c263_1
  split
  · exact ⟨mn_sIA, o263_25⟩
  · exact ⟨mn_sK, o263_26⟩
  · exact ⟨mn_sLI, o263_27⟩
  · exact ⟨mn_sCS, o263_29⟩
  · exact ⟨mn_sB2, o263_32⟩
  · exact ⟨mn_sI2, o263_33⟩
  · exact ⟨mn_sLR, o263_36⟩
  · exact ⟨mn_sGR, o263_37⟩
  · exact ⟨mn_sLI, o263_40⟩
  · exact ⟨mn_sLI, o263_41⟩
  · exact ⟨mn_sCS, o263_43⟩
  · exact ⟨mn_sIA, o263_46⟩
  · exact ⟨mn_sLI, o263_47⟩
  · exact ⟨mn_sX, ok_X⟩
theorem oc263_2 : ∀ pc, Mnp (c263_2 pc) ∧ Okp RX12 cX12_receives 9 none "receives" false pc (c263_2 pc) := by
  intro pc
  unfold c263_2
  split
  · exact ⟨mn_sI2, o263_49⟩
  · exact ⟨mn_sK, o263_52⟩
  · exact ⟨mn_sGo, o263_53⟩
  · exact ⟨mn_sK, o263_56⟩
  · exact ⟨mn_sCV, o263_57⟩
  · exact ⟨mn_sLR, o263_60⟩
  · exact ⟨mn_sGI, o263_61⟩
  · exact ⟨mn_sSI, o263_64⟩
  · exact ⟨mn_sK, o263_66⟩
  · exact ⟨mn_sSI, o263_67⟩
  · exact ⟨mn_sLI, o263_69⟩
  · exact ⟨mn_sLI, o263_71⟩
  · exact ⟨mn_sX, ok_X⟩
theorem oc263_3 : ∀ pc, Mnp (c263_3 pc) ∧ Okp RX12 cX12_receives 9 none "receives" false pc (c263_3 pc) := by
  intro pc
  unfold c263_3
  split
  · exact ⟨mn_sI2, o263_73⟩
  · exact ⟨mn_sLR, o263_76⟩
  · exact ⟨mn_sGI, o263_77⟩
  · exact ⟨mn_sI1, o263_80⟩
  · exact ⟨mn_sK, o263_83⟩
  · exact ⟨mn_sLI, o263_84⟩
  · exact ⟨mn_sLI, o263_85⟩
  · exact ⟨mn_sCS, o263_87⟩
  · exact ⟨mn_sB2, o263_90⟩
  · exact ⟨mn_sLI, o263_91⟩
  · exact ⟨mn_sB2, o263_93⟩
  · exact ⟨mn_sSI, o263_94⟩
  · exact ⟨mn_sX, ok_X⟩
theorem oc263_4 : ∀ pc, Mnp (c263_4 pc) ∧ Okp RX12 cX12_receives 9 none "receives" false pc (c263_4 pc) := by
  intro pc
  unfold c263_4
  split
  · exact ⟨mn_sLR, o263_96⟩
  · exact ⟨mn_sLI, o263_97⟩
  · exact ⟨mn_sPI, o263_99⟩
  · exact ⟨mn_sLR, o263_102⟩
  · exact ⟨mn_sLI, o263_103⟩
  · exact ⟨mn_sLR, o263_105⟩
  · exact ⟨mn_sGR, o263_106⟩
  · exact ⟨mn_sLI, o263_109⟩
  · exact ⟨mn_sIA, o263_111⟩
  · exact ⟨mn_sCS, o263_112⟩
  · exact ⟨mn_sCV, o263_115⟩
  · exact ⟨mn_sLR, o263_118⟩
  · exact ⟨mn_sGR, o263_119⟩
  · exact ⟨mn_sX, ok_X⟩
theorem oc263_5 : ∀ pc, Mnp (c263_5 pc) ∧ Okp RX12 cX12_receives 9 none "receives" false pc (c263_5 pc) := by
  intro pc
  unfold c263_5
  split
  · exact ⟨mn_sLI, o263_122⟩
  · exact ⟨mn_sIA, o263_124⟩
  · exact ⟨mn_sK, o263_125⟩
  · exact ⟨mn_sI2, o263_126⟩
  · exact ⟨mn_sLR, o263_129⟩
  · exact ⟨mn_sLR, o263_130⟩
  · exact ⟨mn_sGR, o263_131⟩
  · exact ⟨mn_sLI, o263_134⟩
  · exact ⟨mn_sIA, o263_136⟩
  · exact ⟨mn_sCV, o263_137⟩
  · exact ⟨mn_sLR, o263_140⟩
  · exact ⟨mn_sLI, o263_141⟩
  · exact ⟨mn_sLR, o263_142⟩
  · exact ⟨mn_sLI, o263_143⟩
  · exact ⟨mn_sX, ok_X⟩
theorem oc263_6 : ∀ pc, Mnp (c263_6 pc) ∧ Okp RX12 cX12_receives 9 none "receives" false pc (c263_6 pc) := by
  intro pc
  unfold c263_6
  split
  · exact ⟨mn_sLI, o263_144⟩
  · exact ⟨mn_sK, o263_145⟩
  · exact ⟨mn_sB2, o263_146⟩
  · exact ⟨mn_sLI, o263_147⟩
  · exact ⟨mn_sB2, o263_149⟩
  · exact ⟨mn_sCV, o263_150⟩
  · exact ⟨mn_sCV, o263_153⟩
  · exact ⟨mn_sInc, o263_156⟩
  · exact ⟨mn_sGo, o263_159⟩
  · exact ⟨mn_sRV, o263_162⟩
  · exact ⟨mn_sX, ok_X⟩
theorem oc263 : ∀ pc, Mnp (c263 pc) ∧ Okp RX12 cX12_receives 9 none "receives" false pc (c263 pc) := by
  intro pc
  unfold c263
  split
  · exact oc263_0 pc
  · exact oc263_1 pc
  · exact oc263_2 pc
  · exact oc263_3 pc
  · exact oc263_4 pc
  · exact oc263_5 pc
  · exact oc263_6 pc
  · exact ⟨mn_sX, ok_X⟩
theorem o264_0 : Okp RX12 cX12_load 3 (some .int) "load" false 0 (sLR 0 1) := ok_aload_n (by decide +kernel : decode cX12_load 0 = .ok (.aload_n 0, 1)) rfl
theorem o264_1 : Okp RX12 cX12_load 3 (some .int) "load" false 1 (sK 0 2) := ok_iconst (by decide +kernel : decode cX12_load 1 = .ok (.iconst 0, 1)) (by decide)
theorem o264_2 : Okp RX12 cX12_load 3 (some .int) "load" false 2 (sPI 13 0 5) := ok_putI (by decide +kernel : decode cX12_load 2 = .ok (.putfield 227, 3)) fw_X12_227 ⟨⟨tyX12_ok, nmX12⟩, Or.inl rfl, rfl⟩ rfl
theorem o264_5 : Okp RX12 cX12_load 3 (some .int) "load" false 5 (sLI 1 6) := ok_iload_n (by decide +kernel : decode cX12_load 5 = .ok (.iload_n 1, 1)) rfl
theorem o264_6 : Okp RX12 cX12_load 3 (some .int) "load" false 6 (sI1 2 17 9) := ok_if_lt (by decide +kernel : decode cX12_load 6 = .ok (.ifCond .lt 11, 3)) (by decide)
theorem o264_9 : Okp RX12 cX12_load 3 (some .int) "load" false 9 (sLI 1 10) := ok_iload_n (by decide +kernel : decode cX12_load 9 = .ok (.iload_n 1, 1)) rfl
theorem o264_10 : Okp RX12 cX12_load 3 (some .int) "load" false 10 (sLR 0 11) := ok_aload_n (by decide +kernel : decode cX12_load 10 = .ok (.aload_n 0, 1)) rfl
theorem o264_11 : Okp RX12 cX12_load 3 (some .int) "load" false 11 (sGI 13 2 14) := ok_getI (by decide +kernel : decode cX12_load 11 = .ok (.getfield 230, 3)) fw_X12_230 rfl
theorem o264_14 : Okp RX12 cX12_load 3 (some .int) "load" false 14 (sI2 5 20 17) := ok_icmp_le (by decide +kernel : decode cX12_load 14 = .ok (.if_icmp .le 6, 3)) (by decide)
theorem o264_17 : Okp RX12 cX12_load 3 (some .int) "load" false 17 (sK (-2) 19) := ok_bipush (by decide +kernel : decode cX12_load 17 = .ok (.bipush (-2), 2)) (by decide)
theorem o264_19 : Okp RX12 cX12_load 3 (some .int) "load" false 19 sRI := ok_iret rfl (by decide +kernel : decode cX12_load 19 = .ok (.ireturn, 1))
theorem o264_20 : Okp RX12 cX12_load 3 (some .int) "load" false 20 (sLR 0 21) := ok_aload_n (by decide +kernel : decode cX12_load 20 = .ok (.aload_n 0, 1)) rfl
theorem o264_21 : Okp RX12 cX12_load 3 (some .int) "load" false 21 (sLI 1 22) := ok_iload_n (by decide +kernel : decode cX12_load 21 = .ok (.iload_n 1, 1)) rfl
theorem o264_22 : Okp RX12 cX12_load 3 (some .int) "load" false 22 (sCV false 265 2 13 25) := ok_cv (by decide +kernel : decode cX12_load 22 = .ok (.invokevirtual 402, 3)) mw_X12_402 rfl (by decide) wm_X12_take wse_X12_take (by decide) rfl
theorem o264_25 : Okp RX12 cX12_load 3 (some .int) "load" false 25 (sLR 0 26) := ok_aload_n (by decide +kernel : decode cX12_load 25 = .ok (.aload_n 0, 1)) rfl
theorem o264_26 : Okp RX12 cX12_load 3 (some .int) "load" false 26 (sK 12 28) := ok_bipush (by decide +kernel : decode cX12_load 26 = .ok (.bipush 12, 2)) (by decide)
theorem o264_28 : Okp RX12 cX12_load 3 (some .int) "load" false 28 (sPI 13 27 31) := ok_putI (by decide +kernel : decode cX12_load 28 = .ok (.putfield 240, 3)) fw_X12_240 ⟨⟨tyX12_ok, nmX12⟩, Or.inl rfl, rfl⟩ rfl
theorem o264_31 : Okp RX12 cX12_load 3 (some .int) "load" false 31 (sLR 0 32) := ok_aload_n (by decide +kernel : decode cX12_load 31 = .ok (.aload_n 0, 1)) rfl
theorem o264_32 : Okp RX12 cX12_load 3 (some .int) "load" false 32 (sCV false 230 1 13 35) := ok_cvT (by decide +kernel : decode cX12_load 32 = .ok (.invokevirtual 405, 3)) mw_X12_405 rfl rfl (by decide) wm_X12_module wse_X12_module (by decide)
theorem o264_35 : Okp RX12 cX12_load 3 (some .int) "load" false 35 (sLR 0 36) := ok_aload_n (by decide +kernel : decode cX12_load 35 = .ok (.aload_n 0, 1)) rfl
theorem o264_36 : Okp RX12 cX12_load 3 (some .int) "load" false 36 (sK 12 38) := ok_bipush (by decide +kernel : decode cX12_load 36 = .ok (.bipush 12, 2)) (by decide)
theorem o264_38 : Okp RX12 cX12_load 3 (some .int) "load" false 38 (sCV false 239 2 13 41) := ok_cvT (by decide +kernel : decode cX12_load 38 = .ok (.invokevirtual 408, 3)) mw_X12_408 rfl rfl (by decide) wm_X12_looksAt wse_X12_looksAt (by decide)
theorem o264_41 : Okp RX12 cX12_load 3 (some .int) "load" false 41 (sK 0 42) := ok_iconst (by decide +kernel : decode cX12_load 41 = .ok (.iconst 0, 1)) (by decide)
theorem o264_42 : Okp RX12 cX12_load 3 (some .int) "load" false 42 (sSI 2 43) := ok_istore_n (by decide +kernel : decode cX12_load 42 = .ok (.istore_n 2, 1)) rfl (by decide) (by decide)
theorem o264_43 : Okp RX12 cX12_load 3 (some .int) "load" false 43 (sLI 2 44) := ok_iload_n (by decide +kernel : decode cX12_load 43 = .ok (.iload_n 2, 1)) rfl
theorem o264_44 : Okp RX12 cX12_load 3 (some .int) "load" false 44 (sLR 0 45) := ok_aload_n (by decide +kernel : decode cX12_load 44 = .ok (.aload_n 0, 1)) rfl
theorem o264_45 : Okp RX12 cX12_load 3 (some .int) "load" false 45 (sGR 13 7 48) := ok_getR (by decide +kernel : decode cX12_load 45 = .ok (.getfield 26, 3)) fw_X12_26 rfl
theorem o264_48 : Okp RX12 cX12_load 3 (some .int) "load" false 48 (sK 12 50) := ok_bipush (by decide +kernel : decode cX12_load 48 = .ok (.bipush 12, 2)) (by decide)
theorem o264_50 : Okp RX12 cX12_load 3 (some .int) "load" false 50 (sIA 51) := ok_iaload (by decide +kernel : decode cX12_load 50 = .ok (.iaload, 1))
theorem o264_51 : Okp RX12 cX12_load 3 (some .int) "load" false 51 (sI2 3 87 54) := ok_icmp_ge (by decide +kernel : decode cX12_load 51 = .ok (.if_icmp .ge 36, 3)) (by decide)
theorem o264_54 : Okp RX12 cX12_load 3 (some .int) "load" false 54 (sLR 0 55) := ok_aload_n (by decide +kernel : decode cX12_load 54 = .ok (.aload_n 0, 1)) rfl
theorem o264_55 : Okp RX12 cX12_load 3 (some .int) "load" false 55 (sK 12 57) := ok_bipush (by decide +kernel : decode cX12_load 55 = .ok (.bipush 12, 2)) (by decide)
theorem o264_57 : Okp RX12 cX12_load 3 (some .int) "load" false 57 (sK 120 59) := ok_bipush (by decide +kernel : decode cX12_load 57 = .ok (.bipush 120, 2)) (by decide)
theorem o264_59 : Okp RX12 cX12_load 3 (some .int) "load" false 59 (sLI 2 60) := ok_iload_n (by decide +kernel : decode cX12_load 59 = .ok (.iload_n 2, 1)) rfl
theorem o264_60 : Okp RX12 cX12_load 3 (some .int) "load" false 60 (sB2 fAdd 61) := ok_iadd (by decide +kernel : decode cX12_load 60 = .ok (.iadd, 1))
theorem o264_61 : Okp RX12 cX12_load 3 (some .int) "load" false 61 (sCV false 243 3 13 64) := ok_cv (by decide +kernel : decode cX12_load 61 = .ok (.invokevirtual 411, 3)) mw_X12_411 rfl (by decide) wm_X12_right wse_X12_right (by decide) rfl
theorem o264_64 : Okp RX12 cX12_load 3 (some .int) "load" false 64 (sI1 1 81 67) := ok_if_ne (by decide +kernel : decode cX12_load 64 = .ok (.ifCond .ne 17, 3)) (by decide)
theorem o264_67 : Okp RX12 cX12_load 3 (some .int) "load" false 67 (sLR 0 68) := ok_aload_n (by decide +kernel : decode cX12_load 67 = .ok (.aload_n 0, 1)) rfl
theorem o264_68 : Okp RX12 cX12_load 3 (some .int) "load" false 68 (sK 2 69) := ok_iconst (by decide +kernel : decode cX12_load 68 = .ok (.iconst 2, 1)) (by decide)
theorem o264_69 : Okp RX12 cX12_load 3 (some .int) "load" false 69 (sLR 0 70) := ok_aload_n (by decide +kernel : decode cX12_load 69 = .ok (.aload_n 0, 1)) rfl
theorem o264_70 : Okp RX12 cX12_load 3 (some .int) "load" false 70 (sGR 13 21 73) := ok_getR (by decide +kernel : decode cX12_load 70 = .ok (.getfield 69, 3)) fw_X12_69 rfl
theorem o264_73 : Okp RX12 cX12_load 3 (some .int) "load" false 73 (sK 120 75) := ok_bipush (by decide +kernel : decode cX12_load 73 = .ok (.bipush 120, 2)) (by decide)
theorem o264_75 : Okp RX12 cX12_load 3 (some .int) "load" false 75 (sLI 2 76) := ok_iload_n (by decide +kernel : decode cX12_load 75 = .ok (.iload_n 2, 1)) rfl
theorem o264_76 : Okp RX12 cX12_load 3 (some .int) "load" false 76 (sB2 fAdd 77) := ok_iadd (by decide +kernel : decode cX12_load 76 = .ok (.iadd, 1))
theorem o264_77 : Okp RX12 cX12_load 3 (some .int) "load" false 77 (sIA 78) := ok_iaload (by decide +kernel : decode cX12_load 77 = .ok (.iaload, 1))
theorem o264_78 : Okp RX12 cX12_load 3 (some .int) "load" false 78 (sCV false 218 3 13 81) := ok_cvT (by decide +kernel : decode cX12_load 78 = .ok (.invokevirtual 250, 3)) mw_X12_250 rfl rfl (by decide) wm_X12_fails wse_X12_fails (by decide)
theorem o264_81 : Okp RX12 cX12_load 3 (some .int) "load" false 81 (sInc 2 1 84) := ok_iinc (by decide +kernel : decode cX12_load 81 = .ok (.iinc 2 1, 3)) (by decide) (by decide)
theorem o264_84 : Okp RX12 cX12_load 3 (some .int) "load" false 84 (sGo 43) := ok_goto (by decide +kernel : decode cX12_load 84 = .ok (.goto (-41), 3)) (by decide)
theorem o264_87 : Okp RX12 cX12_load 3 (some .int) "load" false 87 (sGo 93) := ok_goto (by decide +kernel : decode cX12_load 87 = .ok (.goto 6, 3)) (by decide)
theorem o264_90 : Okp RX12 cX12_load 3 (some .int) "load" false 90 (sSR 2 91) := ok_astore_n (by decide +kernel : decode cX12_load 90 = .ok (.astore_n 2, 1)) rfl (by decide) (by decide)
theorem o264_91 : Okp RX12 cX12_load 3 (some .int) "load" false 91 (sK (-1) 92) := ok_iconst (by decide +kernel : decode cX12_load 91 = .ok (.iconst (-1), 1)) (by decide)
theorem o264_92 : Okp RX12 cX12_load 3 (some .int) "load" false 92 sRI := ok_iret rfl (by decide +kernel : decode cX12_load 92 = .ok (.ireturn, 1))
theorem o264_93 : Okp RX12 cX12_load 3 (some .int) "load" false 93 (sK 0 94) := ok_iconst (by decide +kernel : decode cX12_load 93 = .ok (.iconst 0, 1)) (by decide)
theorem o264_94 : Okp RX12 cX12_load 3 (some .int) "load" false 94 (sSI 2 95) := ok_istore_n (by decide +kernel : decode cX12_load 94 = .ok (.istore_n 2, 1)) rfl (by decide) (by decide)
theorem o264_95 : Okp RX12 cX12_load 3 (some .int) "load" false 95 (sLI 2 96) := ok_iload_n (by decide +kernel : decode cX12_load 95 = .ok (.iload_n 2, 1)) rfl
theorem o264_96 : Okp RX12 cX12_load 3 (some .int) "load" false 96 (sK 6 98) := ok_bipush (by decide +kernel : decode cX12_load 96 = .ok (.bipush 6, 2)) (by decide)
theorem o264_98 : Okp RX12 cX12_load 3 (some .int) "load" false 98 (sI2 3 116 101) := ok_icmp_ge (by decide +kernel : decode cX12_load 98 = .ok (.if_icmp .ge 18, 3)) (by decide)
theorem o264_101 : Okp RX12 cX12_load 3 (some .int) "load" false 101 (sLR 0 102) := ok_aload_n (by decide +kernel : decode cX12_load 101 = .ok (.aload_n 0, 1)) rfl
theorem o264_102 : Okp RX12 cX12_load 3 (some .int) "load" false 102 (sGR 13 8 105) := ok_getR (by decide +kernel : decode cX12_load 102 = .ok (.getfield 29, 3)) fw_X12_29 rfl
theorem o264_105 : Okp RX12 cX12_load 3 (some .int) "load" false 105 (sLI 2 106) := ok_iload_n (by decide +kernel : decode cX12_load 105 = .ok (.iload_n 2, 1)) rfl
theorem o264_106 : Okp RX12 cX12_load 3 (some .int) "load" false 106 (sBA 107) := ok_baload (by decide +kernel : decode cX12_load 106 = .ok (.baload, 1))
theorem o264_107 : Okp RX12 cX12_load 3 (some .int) "load" false 107 (sI1 0 116 110) := ok_if_eq (by decide +kernel : decode cX12_load 107 = .ok (.ifCond .eq 9, 3)) (by decide)
theorem o264_110 : Okp RX12 cX12_load 3 (some .int) "load" false 110 (sInc 2 1 113) := ok_iinc (by decide +kernel : decode cX12_load 110 = .ok (.iinc 2 1, 3)) (by decide) (by decide)
theorem o264_113 : Okp RX12 cX12_load 3 (some .int) "load" false 113 (sGo 95) := ok_goto (by decide +kernel : decode cX12_load 113 = .ok (.goto (-18), 3)) (by decide)
theorem o264_116 : Okp RX12 cX12_load 3 (some .int) "load" false 116 (sLI 2 117) := ok_iload_n (by decide +kernel : decode cX12_load 116 = .ok (.iload_n 2, 1)) rfl
theorem o264_117 : Okp RX12 cX12_load 3 (some .int) "load" false 117 (sK 6 119) := ok_bipush (by decide +kernel : decode cX12_load 117 = .ok (.bipush 6, 2)) (by decide)
theorem o264_119 : Okp RX12 cX12_load 3 (some .int) "load" false 119 (sI2 1 124 122) := ok_icmp_ne (by decide +kernel : decode cX12_load 119 = .ok (.if_icmp .ne 5, 3)) (by decide)
theorem o264_122 : Okp RX12 cX12_load 3 (some .int) "load" false 122 (sK (-1) 123) := ok_iconst (by decide +kernel : decode cX12_load 122 = .ok (.iconst (-1), 1)) (by decide)
theorem o264_123 : Okp RX12 cX12_load 3 (some .int) "load" false 123 sRI := ok_iret rfl (by decide +kernel : decode cX12_load 123 = .ok (.ireturn, 1))
theorem o264_124 : Okp RX12 cX12_load 3 (some .int) "load" false 124 (sLR 0 125) := ok_aload_n (by decide +kernel : decode cX12_load 124 = .ok (.aload_n 0, 1)) rfl
theorem o264_125 : Okp RX12 cX12_load 3 (some .int) "load" false 125 (sK 12 127) := ok_bipush (by decide +kernel : decode cX12_load 125 = .ok (.bipush 12, 2)) (by decide)
theorem o264_127 : Okp RX12 cX12_load 3 (some .int) "load" false 127 (sLI 2 128) := ok_iload_n (by decide +kernel : decode cX12_load 127 = .ok (.iload_n 2, 1)) rfl
theorem o264_128 : Okp RX12 cX12_load 3 (some .int) "load" false 128 (sCV false 267 3 13 131) := ok_cv (by decide +kernel : decode cX12_load 128 = .ok (.invokevirtual 414, 3)) mw_X12_414 rfl (by decide) wm_X12_copy wse_X12_copy (by decide) rfl
theorem o264_131 : Okp RX12 cX12_load 3 (some .int) "load" false 131 (sLR 0 132) := ok_aload_n (by decide +kernel : decode cX12_load 131 = .ok (.aload_n 0, 1)) rfl
theorem o264_132 : Okp RX12 cX12_load 3 (some .int) "load" false 132 (sGR 13 8 135) := ok_getR (by decide +kernel : decode cX12_load 132 = .ok (.getfield 29, 3)) fw_X12_29 rfl
theorem o264_135 : Okp RX12 cX12_load 3 (some .int) "load" false 135 (sLI 2 136) := ok_iload_n (by decide +kernel : decode cX12_load 135 = .ok (.iload_n 2, 1)) rfl
theorem o264_136 : Okp RX12 cX12_load 3 (some .int) "load" false 136 (sK 1 137) := ok_iconst (by decide +kernel : decode cX12_load 136 = .ok (.iconst 1, 1)) (by decide)
theorem o264_137 : Okp RX12 cX12_load 3 (some .int) "load" false 137 (sBS 138) := ok_bastore (by decide +kernel : decode cX12_load 137 = .ok (.bastore, 1))
theorem o264_138 : Okp RX12 cX12_load 3 (some .int) "load" false 138 (sLI 2 139) := ok_iload_n (by decide +kernel : decode cX12_load 138 = .ok (.iload_n 2, 1)) rfl
theorem o264_139 : Okp RX12 cX12_load 3 (some .int) "load" false 139 sRI := ok_iret rfl (by decide +kernel : decode cX12_load 139 = .ok (.ireturn, 1))
theorem oc264_0 : ∀ pc, Mnp (c264_0 pc) ∧ Okp RX12 cX12_load 3 (some .int) "load" false pc (c264_0 pc) := by
  intro pc
  unfold c264_0
  split
  · exact ⟨mn_sLR, o264_0⟩
  · exact ⟨mn_sK, o264_1⟩
  · exact ⟨mn_sPI, o264_2⟩
  · exact ⟨mn_sLI, o264_5⟩
  · exact ⟨mn_sI1, o264_6⟩
  · exact ⟨mn_sLI, o264_9⟩
  · exact ⟨mn_sLR, o264_10⟩
  · exact ⟨mn_sGI, o264_11⟩
  · exact ⟨mn_sI2, o264_14⟩
  · exact ⟨mn_sK, o264_17⟩
  · exact ⟨mn_sRI, o264_19⟩
  · exact ⟨mn_sLR, o264_20⟩
  · exact ⟨mn_sLI, o264_21⟩
  · exact ⟨mn_sCV, o264_22⟩
  · exact ⟨mn_sX, ok_X⟩
theorem oc264_1 : ∀ pc, Mnp (c264_1 pc) ∧ Okp RX12 cX12_load 3 (some .int) "load" false pc (c264_1 pc) := by
  intro pc
  unfold c264_1
  split
  · exact ⟨mn_sLR, o264_25⟩
  · exact ⟨mn_sK, o264_26⟩
  · exact ⟨mn_sPI, o264_28⟩
  · exact ⟨mn_sLR, o264_31⟩
  · exact ⟨mn_sCV, o264_32⟩
  · exact ⟨mn_sLR, o264_35⟩
  · exact ⟨mn_sK, o264_36⟩
  · exact ⟨mn_sCV, o264_38⟩
  · exact ⟨mn_sK, o264_41⟩
  · exact ⟨mn_sSI, o264_42⟩
  · exact ⟨mn_sLI, o264_43⟩
  · exact ⟨mn_sLR, o264_44⟩
  · exact ⟨mn_sGR, o264_45⟩
  · exact ⟨mn_sX, ok_X⟩
theorem oc264_2 : ∀ pc, Mnp (c264_2 pc) ∧ Okp RX12 cX12_load 3 (some .int) "load" false pc (c264_2 pc) := by
  intro pc
  unfold c264_2
  split
  · exact ⟨mn_sK, o264_48⟩
  · exact ⟨mn_sIA, o264_50⟩
  · exact ⟨mn_sI2, o264_51⟩
  · exact ⟨mn_sLR, o264_54⟩
  · exact ⟨mn_sK, o264_55⟩
  · exact ⟨mn_sK, o264_57⟩
  · exact ⟨mn_sLI, o264_59⟩
  · exact ⟨mn_sB2, o264_60⟩
  · exact ⟨mn_sCV, o264_61⟩
  · exact ⟨mn_sI1, o264_64⟩
  · exact ⟨mn_sLR, o264_67⟩
  · exact ⟨mn_sK, o264_68⟩
  · exact ⟨mn_sLR, o264_69⟩
  · exact ⟨mn_sGR, o264_70⟩
  · exact ⟨mn_sX, ok_X⟩
theorem oc264_3 : ∀ pc, Mnp (c264_3 pc) ∧ Okp RX12 cX12_load 3 (some .int) "load" false pc (c264_3 pc) := by
  intro pc
  unfold c264_3
  split
  · exact ⟨mn_sK, o264_73⟩
  · exact ⟨mn_sLI, o264_75⟩
  · exact ⟨mn_sB2, o264_76⟩
  · exact ⟨mn_sIA, o264_77⟩
  · exact ⟨mn_sCV, o264_78⟩
  · exact ⟨mn_sInc, o264_81⟩
  · exact ⟨mn_sGo, o264_84⟩
  · exact ⟨mn_sGo, o264_87⟩
  · exact ⟨mn_sSR, o264_90⟩
  · exact ⟨mn_sK, o264_91⟩
  · exact ⟨mn_sRI, o264_92⟩
  · exact ⟨mn_sK, o264_93⟩
  · exact ⟨mn_sSI, o264_94⟩
  · exact ⟨mn_sLI, o264_95⟩
  · exact ⟨mn_sX, ok_X⟩
theorem oc264_4 : ∀ pc, Mnp (c264_4 pc) ∧ Okp RX12 cX12_load 3 (some .int) "load" false pc (c264_4 pc) := by
  intro pc
  unfold c264_4
  split
  · exact ⟨mn_sK, o264_96⟩
  · exact ⟨mn_sI2, o264_98⟩
  · exact ⟨mn_sLR, o264_101⟩
  · exact ⟨mn_sGR, o264_102⟩
  · exact ⟨mn_sLI, o264_105⟩
  · exact ⟨mn_sBA, o264_106⟩
  · exact ⟨mn_sI1, o264_107⟩
  · exact ⟨mn_sInc, o264_110⟩
  · exact ⟨mn_sGo, o264_113⟩
  · exact ⟨mn_sLI, o264_116⟩
  · exact ⟨mn_sK, o264_117⟩
  · exact ⟨mn_sI2, o264_119⟩
  · exact ⟨mn_sX, ok_X⟩
theorem oc264_5 : ∀ pc, Mnp (c264_5 pc) ∧ Okp RX12 cX12_load 3 (some .int) "load" false pc (c264_5 pc) := by
  intro pc
  unfold c264_5
  split
  · exact ⟨mn_sK, o264_122⟩
  · exact ⟨mn_sRI, o264_123⟩
  · exact ⟨mn_sLR, o264_124⟩
  · exact ⟨mn_sK, o264_125⟩
  · exact ⟨mn_sLI, o264_127⟩
  · exact ⟨mn_sCV, o264_128⟩
  · exact ⟨mn_sLR, o264_131⟩
  · exact ⟨mn_sGR, o264_132⟩
  · exact ⟨mn_sLI, o264_135⟩
  · exact ⟨mn_sK, o264_136⟩
  · exact ⟨mn_sBS, o264_137⟩
  · exact ⟨mn_sLI, o264_138⟩
  · exact ⟨mn_sRI, o264_139⟩
  · exact ⟨mn_sX, ok_X⟩
theorem oc264 : ∀ pc, Mnp (c264 pc) ∧ Okp RX12 cX12_load 3 (some .int) "load" false pc (c264 pc) := by
  intro pc
  unfold c264
  split
  · exact oc264_0 pc
  · exact oc264_1 pc
  · exact oc264_2 pc
  · exact oc264_3 pc
  · exact oc264_4 pc
  · exact oc264_5 pc
  · exact ⟨mn_sX, ok_X⟩
theorem o265_0 : Okp RX12 cX12_take 3 none "take" false 0 (sK 0 1) := ok_iconst (by decide +kernel : decode cX12_take 0 = .ok (.iconst 0, 1)) (by decide)
theorem o265_1 : Okp RX12 cX12_take 3 none "take" false 1 (sSI 2 2) := ok_istore_n (by decide +kernel : decode cX12_take 1 = .ok (.istore_n 2, 1)) rfl (by decide) (by decide)
theorem o265_2 : Okp RX12 cX12_take 3 none "take" false 2 (sLI 2 3) := ok_iload_n (by decide +kernel : decode cX12_take 2 = .ok (.iload_n 2, 1)) rfl
theorem o265_3 : Okp RX12 cX12_take 3 none "take" false 3 (sLI 1 4) := ok_iload_n (by decide +kernel : decode cX12_take 3 = .ok (.iload_n 1, 1)) rfl
theorem o265_4 : Okp RX12 cX12_take 3 none "take" false 4 (sI2 3 29 7) := ok_icmp_ge (by decide +kernel : decode cX12_take 4 = .ok (.if_icmp .ge 25, 3)) (by decide)
theorem o265_7 : Okp RX12 cX12_take 3 none "take" false 7 (sLR 0 8) := ok_aload_n (by decide +kernel : decode cX12_take 7 = .ok (.aload_n 0, 1)) rfl
theorem o265_8 : Okp RX12 cX12_take 3 none "take" false 8 (sGR 13 3 11) := ok_getR (by decide +kernel : decode cX12_take 8 = .ok (.getfield 13, 3)) fw_X12_13 rfl
theorem o265_11 : Okp RX12 cX12_take 3 none "take" false 11 (sK 24000 14) := ok_sipush (by decide +kernel : decode cX12_take 11 = .ok (.sipush 24000, 3)) (by decide)
theorem o265_14 : Okp RX12 cX12_take 3 none "take" false 14 (sLI 2 15) := ok_iload_n (by decide +kernel : decode cX12_take 14 = .ok (.iload_n 2, 1)) rfl
theorem o265_15 : Okp RX12 cX12_take 3 none "take" false 15 (sB2 fAdd 16) := ok_iadd (by decide +kernel : decode cX12_take 15 = .ok (.iadd, 1))
theorem o265_16 : Okp RX12 cX12_take 3 none "take" false 16 (sLR 0 17) := ok_aload_n (by decide +kernel : decode cX12_take 16 = .ok (.aload_n 0, 1)) rfl
theorem o265_17 : Okp RX12 cX12_take 3 none "take" false 17 (sGR 13 1 20) := ok_getR (by decide +kernel : decode cX12_take 17 = .ok (.getfield 7, 3)) fw_X12_7 rfl
theorem o265_20 : Okp RX12 cX12_take 3 none "take" false 20 (sLI 2 21) := ok_iload_n (by decide +kernel : decode cX12_take 20 = .ok (.iload_n 2, 1)) rfl
theorem o265_21 : Okp RX12 cX12_take 3 none "take" false 21 (sBA 22) := ok_baload (by decide +kernel : decode cX12_take 21 = .ok (.baload, 1))
theorem o265_22 : Okp RX12 cX12_take 3 none "take" false 22 (sBS 23) := ok_bastore (by decide +kernel : decode cX12_take 22 = .ok (.bastore, 1))
theorem o265_23 : Okp RX12 cX12_take 3 none "take" false 23 (sInc 2 1 26) := ok_iinc (by decide +kernel : decode cX12_take 23 = .ok (.iinc 2 1, 3)) (by decide) (by decide)
theorem o265_26 : Okp RX12 cX12_take 3 none "take" false 26 (sGo 2) := ok_goto (by decide +kernel : decode cX12_take 26 = .ok (.goto (-24), 3)) (by decide)
theorem o265_29 : Okp RX12 cX12_take 3 none "take" false 29 (sLR 0 30) := ok_aload_n (by decide +kernel : decode cX12_take 29 = .ok (.aload_n 0, 1)) rfl
theorem o265_30 : Okp RX12 cX12_take 3 none "take" false 30 (sGR 13 4 33) := ok_getR (by decide +kernel : decode cX12_take 30 = .ok (.getfield 16, 3)) fw_X12_16 rfl
theorem o265_33 : Okp RX12 cX12_take 3 none "take" false 33 (sK 12 35) := ok_bipush (by decide +kernel : decode cX12_take 33 = .ok (.bipush 12, 2)) (by decide)
theorem o265_35 : Okp RX12 cX12_take 3 none "take" false 35 (sLI 1 36) := ok_iload_n (by decide +kernel : decode cX12_take 35 = .ok (.iload_n 1, 1)) rfl
theorem o265_36 : Okp RX12 cX12_take 3 none "take" false 36 (sIS 37) := ok_iastore (by decide +kernel : decode cX12_take 36 = .ok (.iastore, 1))
theorem o265_37 : Okp RX12 cX12_take 3 none "take" false 37 (sLR 0 38) := ok_aload_n (by decide +kernel : decode cX12_take 37 = .ok (.aload_n 0, 1)) rfl
theorem o265_38 : Okp RX12 cX12_take 3 none "take" false 38 (sK 0 39) := ok_iconst (by decide +kernel : decode cX12_take 38 = .ok (.iconst 0, 1)) (by decide)
theorem o265_39 : Okp RX12 cX12_take 3 none "take" false 39 (sPI 13 2 42) := ok_putI (by decide +kernel : decode cX12_take 39 = .ok (.putfield 230, 3)) fw_X12_230 ⟨⟨tyX12_ok, nmX12⟩, Or.inl rfl, rfl⟩ rfl
theorem o265_42 : Okp RX12 cX12_take 3 none "take" false 42 (sLR 0 43) := ok_aload_n (by decide +kernel : decode cX12_take 42 = .ok (.aload_n 0, 1)) rfl
theorem o265_43 : Okp RX12 cX12_take 3 none "take" false 43 (sK 0 44) := ok_iconst (by decide +kernel : decode cX12_take 43 = .ok (.iconst 0, 1)) (by decide)
theorem o265_44 : Okp RX12 cX12_take 3 none "take" false 44 (sPI 13 26 47) := ok_putI (by decide +kernel : decode cX12_take 44 = .ok (.putfield 243, 3)) fw_X12_243 ⟨⟨tyX12_ok, nmX12⟩, Or.inl rfl, rfl⟩ rfl
theorem o265_47 : Okp RX12 cX12_take 3 none "take" false 47 (sLR 0 48) := ok_aload_n (by decide +kernel : decode cX12_take 47 = .ok (.aload_n 0, 1)) rfl
theorem o265_48 : Okp RX12 cX12_take 3 none "take" false 48 (sK 0 49) := ok_iconst (by decide +kernel : decode cX12_take 48 = .ok (.iconst 0, 1)) (by decide)
theorem o265_49 : Okp RX12 cX12_take 3 none "take" false 49 (sPI 13 22 52) := ok_putI (by decide +kernel : decode cX12_take 49 = .ok (.putfield 233, 3)) fw_X12_233 ⟨⟨tyX12_ok, nmX12⟩, Or.inl rfl, rfl⟩ rfl
theorem o265_52 : Okp RX12 cX12_take 3 none "take" false 52 (sLR 0 53) := ok_aload_n (by decide +kernel : decode cX12_take 52 = .ok (.aload_n 0, 1)) rfl
theorem o265_53 : Okp RX12 cX12_take 3 none "take" false 53 (sK (-1) 54) := ok_iconst (by decide +kernel : decode cX12_take 53 = .ok (.iconst (-1), 1)) (by decide)
theorem o265_54 : Okp RX12 cX12_take 3 none "take" false 54 (sPI 13 23 57) := ok_putI (by decide +kernel : decode cX12_take 54 = .ok (.putfield 72, 3)) fw_X12_72 ⟨⟨tyX12_ok, nmX12⟩, Or.inl rfl, rfl⟩ rfl
theorem o265_57 : Okp RX12 cX12_take 3 none "take" false 57 (sLR 0 58) := ok_aload_n (by decide +kernel : decode cX12_take 57 = .ok (.aload_n 0, 1)) rfl
theorem o265_58 : Okp RX12 cX12_take 3 none "take" false 58 (sK 1 59) := ok_iconst (by decide +kernel : decode cX12_take 58 = .ok (.iconst 1, 1)) (by decide)
theorem o265_59 : Okp RX12 cX12_take 3 none "take" false 59 (sPZ 13 24 62) := ok_putZ (by decide +kernel : decode cX12_take 59 = .ok (.putfield 236, 3)) fw_X12_236 ⟨⟨tyX12_ok, nmX12⟩, Or.inl rfl, rfl⟩ rfl
theorem o265_62 : Okp RX12 cX12_take 3 none "take" false 62 sRV := ok_vret rfl (by decide +kernel : decode cX12_take 62 = .ok (.return_, 1))
theorem oc265_0 : ∀ pc, Mnp (c265_0 pc) ∧ Okp RX12 cX12_take 3 none "take" false pc (c265_0 pc) := by
  intro pc
  unfold c265_0
  split
  · exact ⟨mn_sK, o265_0⟩
  · exact ⟨mn_sSI, o265_1⟩
  · exact ⟨mn_sLI, o265_2⟩
  · exact ⟨mn_sLI, o265_3⟩
  · exact ⟨mn_sI2, o265_4⟩
  · exact ⟨mn_sLR, o265_7⟩
  · exact ⟨mn_sGR, o265_8⟩
  · exact ⟨mn_sK, o265_11⟩
  · exact ⟨mn_sLI, o265_14⟩
  · exact ⟨mn_sB2, o265_15⟩
  · exact ⟨mn_sLR, o265_16⟩
  · exact ⟨mn_sGR, o265_17⟩
  · exact ⟨mn_sLI, o265_20⟩
  · exact ⟨mn_sBA, o265_21⟩
  · exact ⟨mn_sBS, o265_22⟩
  · exact ⟨mn_sInc, o265_23⟩
  · exact ⟨mn_sX, ok_X⟩
theorem oc265_1 : ∀ pc, Mnp (c265_1 pc) ∧ Okp RX12 cX12_take 3 none "take" false pc (c265_1 pc) := by
  intro pc
  unfold c265_1
  split
  · exact ⟨mn_sGo, o265_26⟩
  · exact ⟨mn_sLR, o265_29⟩
  · exact ⟨mn_sGR, o265_30⟩
  · exact ⟨mn_sK, o265_33⟩
  · exact ⟨mn_sLI, o265_35⟩
  · exact ⟨mn_sIS, o265_36⟩
  · exact ⟨mn_sLR, o265_37⟩
  · exact ⟨mn_sK, o265_38⟩
  · exact ⟨mn_sPI, o265_39⟩
  · exact ⟨mn_sLR, o265_42⟩
  · exact ⟨mn_sK, o265_43⟩
  · exact ⟨mn_sPI, o265_44⟩
  · exact ⟨mn_sLR, o265_47⟩
  · exact ⟨mn_sX, ok_X⟩
theorem oc265_2 : ∀ pc, Mnp (c265_2 pc) ∧ Okp RX12 cX12_take 3 none "take" false pc (c265_2 pc) := by
  intro pc
  unfold c265_2
  split
  · exact ⟨mn_sK, o265_48⟩
  · exact ⟨mn_sPI, o265_49⟩
  · exact ⟨mn_sLR, o265_52⟩
  · exact ⟨mn_sK, o265_53⟩
  · exact ⟨mn_sPI, o265_54⟩
  · exact ⟨mn_sLR, o265_57⟩
  · exact ⟨mn_sK, o265_58⟩
  · exact ⟨mn_sPZ, o265_59⟩
  · exact ⟨mn_sRV, o265_62⟩
  · exact ⟨mn_sX, ok_X⟩
theorem oc265 : ∀ pc, Mnp (c265 pc) ∧ Okp RX12 cX12_take 3 none "take" false pc (c265 pc) := by
  intro pc
  unfold c265
  split
  · exact oc265_0 pc
  · exact oc265_1 pc
  · exact oc265_2 pc
  · exact ⟨mn_sX, ok_X⟩
theorem o266_0 : Okp RX12 cX12_move 5 none "move" false 0 (sK 0 1) := ok_iconst (by decide +kernel : decode cX12_move 0 = .ok (.iconst 0, 1)) (by decide)
theorem o266_1 : Okp RX12 cX12_move 5 none "move" false 1 (sSI 4 3) := ok_istore (by decide +kernel : decode cX12_move 1 = .ok (.istore 4, 2)) (by decide) (by decide)
theorem o266_3 : Okp RX12 cX12_move 5 none "move" false 3 (sLI 4 5) := ok_iload (by decide +kernel : decode cX12_move 3 = .ok (.iload 4, 2))
theorem o266_5 : Okp RX12 cX12_move 5 none "move" false 5 (sLI 3 6) := ok_iload_n (by decide +kernel : decode cX12_move 5 = .ok (.iload_n 3, 1)) rfl
theorem o266_6 : Okp RX12 cX12_move 5 none "move" false 6 (sI2 3 31 9) := ok_icmp_ge (by decide +kernel : decode cX12_move 6 = .ok (.if_icmp .ge 25, 3)) (by decide)
theorem o266_9 : Okp RX12 cX12_move 5 none "move" false 9 (sLR 0 10) := ok_aload_n (by decide +kernel : decode cX12_move 9 = .ok (.aload_n 0, 1)) rfl
theorem o266_10 : Okp RX12 cX12_move 5 none "move" false 10 (sLI 2 11) := ok_iload_n (by decide +kernel : decode cX12_move 10 = .ok (.iload_n 2, 1)) rfl
theorem o266_11 : Okp RX12 cX12_move 5 none "move" false 11 (sLI 3 12) := ok_iload_n (by decide +kernel : decode cX12_move 11 = .ok (.iload_n 3, 1)) rfl
theorem o266_12 : Okp RX12 cX12_move 5 none "move" false 12 (sB2 fMul 13) := ok_imul (by decide +kernel : decode cX12_move 12 = .ok (.imul, 1))
theorem o266_13 : Okp RX12 cX12_move 5 none "move" false 13 (sLI 4 15) := ok_iload (by decide +kernel : decode cX12_move 13 = .ok (.iload 4, 2))
theorem o266_15 : Okp RX12 cX12_move 5 none "move" false 15 (sB2 fAdd 16) := ok_iadd (by decide +kernel : decode cX12_move 15 = .ok (.iadd, 1))
theorem o266_16 : Okp RX12 cX12_move 5 none "move" false 16 (sLR 0 17) := ok_aload_n (by decide +kernel : decode cX12_move 16 = .ok (.aload_n 0, 1)) rfl
theorem o266_17 : Okp RX12 cX12_move 5 none "move" false 17 (sLI 1 18) := ok_iload_n (by decide +kernel : decode cX12_move 17 = .ok (.iload_n 1, 1)) rfl
theorem o266_18 : Okp RX12 cX12_move 5 none "move" false 18 (sLI 3 19) := ok_iload_n (by decide +kernel : decode cX12_move 18 = .ok (.iload_n 3, 1)) rfl
theorem o266_19 : Okp RX12 cX12_move 5 none "move" false 19 (sB2 fMul 20) := ok_imul (by decide +kernel : decode cX12_move 19 = .ok (.imul, 1))
theorem o266_20 : Okp RX12 cX12_move 5 none "move" false 20 (sLI 4 22) := ok_iload (by decide +kernel : decode cX12_move 20 = .ok (.iload 4, 2))
theorem o266_22 : Okp RX12 cX12_move 5 none "move" false 22 (sB2 fAdd 23) := ok_iadd (by decide +kernel : decode cX12_move 22 = .ok (.iadd, 1))
theorem o266_23 : Okp RX12 cX12_move 5 none "move" false 23 (sIA 24) := ok_iaload (by decide +kernel : decode cX12_move 23 = .ok (.iaload, 1))
theorem o266_24 : Okp RX12 cX12_move 5 none "move" false 24 (sIS 25) := ok_iastore (by decide +kernel : decode cX12_move 24 = .ok (.iastore, 1))
theorem o266_25 : Okp RX12 cX12_move 5 none "move" false 25 (sInc 4 1 28) := ok_iinc (by decide +kernel : decode cX12_move 25 = .ok (.iinc 4 1, 3)) (by decide) (by decide)
theorem o266_28 : Okp RX12 cX12_move 5 none "move" false 28 (sGo 3) := ok_goto (by decide +kernel : decode cX12_move 28 = .ok (.goto (-25), 3)) (by decide)
theorem o266_31 : Okp RX12 cX12_move 5 none "move" false 31 sRV := ok_vret rfl (by decide +kernel : decode cX12_move 31 = .ok (.return_, 1))
theorem oc266_0 : ∀ pc, Mnp (c266_0 pc) ∧ Okp RX12 cX12_move 5 none "move" false pc (c266_0 pc) := by
  intro pc
  unfold c266_0
  split
  · exact ⟨mn_sK, o266_0⟩
  · exact ⟨mn_sSI, o266_1⟩
  · exact ⟨mn_sLI, o266_3⟩
  · exact ⟨mn_sLI, o266_5⟩
  · exact ⟨mn_sI2, o266_6⟩
  · exact ⟨mn_sLR, o266_9⟩
  · exact ⟨mn_sLI, o266_10⟩
  · exact ⟨mn_sLI, o266_11⟩
  · exact ⟨mn_sB2, o266_12⟩
  · exact ⟨mn_sLI, o266_13⟩
  · exact ⟨mn_sB2, o266_15⟩
  · exact ⟨mn_sLR, o266_16⟩
  · exact ⟨mn_sLI, o266_17⟩
  · exact ⟨mn_sLI, o266_18⟩
  · exact ⟨mn_sB2, o266_19⟩
  · exact ⟨mn_sLI, o266_20⟩
  · exact ⟨mn_sB2, o266_22⟩
  · exact ⟨mn_sIA, o266_23⟩
  · exact ⟨mn_sX, ok_X⟩
theorem oc266_1 : ∀ pc, Mnp (c266_1 pc) ∧ Okp RX12 cX12_move 5 none "move" false pc (c266_1 pc) := by
  intro pc
  unfold c266_1
  split
  · exact ⟨mn_sIS, o266_24⟩
  · exact ⟨mn_sInc, o266_25⟩
  · exact ⟨mn_sGo, o266_28⟩
  · exact ⟨mn_sRV, o266_31⟩
  · exact ⟨mn_sX, ok_X⟩
theorem oc266 : ∀ pc, Mnp (c266 pc) ∧ Okp RX12 cX12_move 5 none "move" false pc (c266 pc) := by
  intro pc
  unfold c266
  split
  · exact oc266_0 pc
  · exact oc266_1 pc
  · exact ⟨mn_sX, ok_X⟩
theorem o267_0 : Okp RX12 cX12_copy 4 none "copy" false 0 (sK 0 1) := ok_iconst (by decide +kernel : decode cX12_copy 0 = .ok (.iconst 0, 1)) (by decide)
theorem o267_1 : Okp RX12 cX12_copy 4 none "copy" false 1 (sSI 3 2) := ok_istore_n (by decide +kernel : decode cX12_copy 1 = .ok (.istore_n 3, 1)) rfl (by decide) (by decide)
theorem o267_2 : Okp RX12 cX12_copy 4 none "copy" false 2 (sLI 3 3) := ok_iload_n (by decide +kernel : decode cX12_copy 2 = .ok (.iload_n 3, 1)) rfl
theorem o267_3 : Okp RX12 cX12_copy 4 none "copy" false 3 (sLR 0 4) := ok_aload_n (by decide +kernel : decode cX12_copy 3 = .ok (.aload_n 0, 1)) rfl
theorem o267_4 : Okp RX12 cX12_copy 4 none "copy" false 4 (sGR 13 4 7) := ok_getR (by decide +kernel : decode cX12_copy 4 = .ok (.getfield 16, 3)) fw_X12_16 rfl
theorem o267_7 : Okp RX12 cX12_copy 4 none "copy" false 7 (sLI 1 8) := ok_iload_n (by decide +kernel : decode cX12_copy 7 = .ok (.iload_n 1, 1)) rfl
theorem o267_8 : Okp RX12 cX12_copy 4 none "copy" false 8 (sIA 9) := ok_iaload (by decide +kernel : decode cX12_copy 8 = .ok (.iaload, 1))
theorem o267_9 : Okp RX12 cX12_copy 4 none "copy" false 9 (sI2 3 42 12) := ok_icmp_ge (by decide +kernel : decode cX12_copy 9 = .ok (.if_icmp .ge 33, 3)) (by decide)
theorem o267_12 : Okp RX12 cX12_copy 4 none "copy" false 12 (sLR 0 13) := ok_aload_n (by decide +kernel : decode cX12_copy 12 = .ok (.aload_n 0, 1)) rfl
theorem o267_13 : Okp RX12 cX12_copy 4 none "copy" false 13 (sGR 13 3 16) := ok_getR (by decide +kernel : decode cX12_copy 13 = .ok (.getfield 13, 3)) fw_X12_13 rfl
theorem o267_16 : Okp RX12 cX12_copy 4 none "copy" false 16 (sK 2000 19) := ok_sipush (by decide +kernel : decode cX12_copy 16 = .ok (.sipush 2000, 3)) (by decide)
theorem o267_19 : Okp RX12 cX12_copy 4 none "copy" false 19 (sLI 2 20) := ok_iload_n (by decide +kernel : decode cX12_copy 19 = .ok (.iload_n 2, 1)) rfl
theorem o267_20 : Okp RX12 cX12_copy 4 none "copy" false 20 (sB2 fMul 21) := ok_imul (by decide +kernel : decode cX12_copy 20 = .ok (.imul, 1))
theorem o267_21 : Okp RX12 cX12_copy 4 none "copy" false 21 (sLI 3 22) := ok_iload_n (by decide +kernel : decode cX12_copy 21 = .ok (.iload_n 3, 1)) rfl
theorem o267_22 : Okp RX12 cX12_copy 4 none "copy" false 22 (sB2 fAdd 23) := ok_iadd (by decide +kernel : decode cX12_copy 22 = .ok (.iadd, 1))
theorem o267_23 : Okp RX12 cX12_copy 4 none "copy" false 23 (sLR 0 24) := ok_aload_n (by decide +kernel : decode cX12_copy 23 = .ok (.aload_n 0, 1)) rfl
theorem o267_24 : Okp RX12 cX12_copy 4 none "copy" false 24 (sGR 13 3 27) := ok_getR (by decide +kernel : decode cX12_copy 24 = .ok (.getfield 13, 3)) fw_X12_13 rfl
theorem o267_27 : Okp RX12 cX12_copy 4 none "copy" false 27 (sK 2000 30) := ok_sipush (by decide +kernel : decode cX12_copy 27 = .ok (.sipush 2000, 3)) (by decide)
theorem o267_30 : Okp RX12 cX12_copy 4 none "copy" false 30 (sLI 1 31) := ok_iload_n (by decide +kernel : decode cX12_copy 30 = .ok (.iload_n 1, 1)) rfl
theorem o267_31 : Okp RX12 cX12_copy 4 none "copy" false 31 (sB2 fMul 32) := ok_imul (by decide +kernel : decode cX12_copy 31 = .ok (.imul, 1))
theorem o267_32 : Okp RX12 cX12_copy 4 none "copy" false 32 (sLI 3 33) := ok_iload_n (by decide +kernel : decode cX12_copy 32 = .ok (.iload_n 3, 1)) rfl
theorem o267_33 : Okp RX12 cX12_copy 4 none "copy" false 33 (sB2 fAdd 34) := ok_iadd (by decide +kernel : decode cX12_copy 33 = .ok (.iadd, 1))
theorem o267_34 : Okp RX12 cX12_copy 4 none "copy" false 34 (sBA 35) := ok_baload (by decide +kernel : decode cX12_copy 34 = .ok (.baload, 1))
theorem o267_35 : Okp RX12 cX12_copy 4 none "copy" false 35 (sBS 36) := ok_bastore (by decide +kernel : decode cX12_copy 35 = .ok (.bastore, 1))
theorem o267_36 : Okp RX12 cX12_copy 4 none "copy" false 36 (sInc 3 1 39) := ok_iinc (by decide +kernel : decode cX12_copy 36 = .ok (.iinc 3 1, 3)) (by decide) (by decide)
theorem o267_39 : Okp RX12 cX12_copy 4 none "copy" false 39 (sGo 2) := ok_goto (by decide +kernel : decode cX12_copy 39 = .ok (.goto (-37), 3)) (by decide)
theorem o267_42 : Okp RX12 cX12_copy 4 none "copy" false 42 (sLR 0 43) := ok_aload_n (by decide +kernel : decode cX12_copy 42 = .ok (.aload_n 0, 1)) rfl
theorem o267_43 : Okp RX12 cX12_copy 4 none "copy" false 43 (sGR 13 4 46) := ok_getR (by decide +kernel : decode cX12_copy 43 = .ok (.getfield 16, 3)) fw_X12_16 rfl
theorem o267_46 : Okp RX12 cX12_copy 4 none "copy" false 46 (sLI 1 47) := ok_iload_n (by decide +kernel : decode cX12_copy 46 = .ok (.iload_n 1, 1)) rfl
theorem o267_47 : Okp RX12 cX12_copy 4 none "copy" false 47 (sLI 2 48) := ok_iload_n (by decide +kernel : decode cX12_copy 47 = .ok (.iload_n 2, 1)) rfl
theorem o267_48 : Okp RX12 cX12_copy 4 none "copy" false 48 (sK 1 49) := ok_iconst (by decide +kernel : decode cX12_copy 48 = .ok (.iconst 1, 1)) (by decide)
theorem o267_49 : Okp RX12 cX12_copy 4 none "copy" false 49 (sCS false 266 4 52) := ok_cs (by decide +kernel : decode cX12_copy 49 = .ok (.invokestatic 417, 3)) mw_X12_417 wt_X12_move (by decide) rfl
theorem o267_52 : Okp RX12 cX12_copy 4 none "copy" false 52 (sLR 0 53) := ok_aload_n (by decide +kernel : decode cX12_copy 52 = .ok (.aload_n 0, 1)) rfl
theorem o267_53 : Okp RX12 cX12_copy 4 none "copy" false 53 (sGR 13 5 56) := ok_getR (by decide +kernel : decode cX12_copy 53 = .ok (.getfield 20, 3)) fw_X12_20 rfl
theorem o267_56 : Okp RX12 cX12_copy 4 none "copy" false 56 (sLI 1 57) := ok_iload_n (by decide +kernel : decode cX12_copy 56 = .ok (.iload_n 1, 1)) rfl
theorem o267_57 : Okp RX12 cX12_copy 4 none "copy" false 57 (sLI 2 58) := ok_iload_n (by decide +kernel : decode cX12_copy 57 = .ok (.iload_n 2, 1)) rfl
theorem o267_58 : Okp RX12 cX12_copy 4 none "copy" false 58 (sK 1 59) := ok_iconst (by decide +kernel : decode cX12_copy 58 = .ok (.iconst 1, 1)) (by decide)
theorem o267_59 : Okp RX12 cX12_copy 4 none "copy" false 59 (sCS false 266 4 62) := ok_cs (by decide +kernel : decode cX12_copy 59 = .ok (.invokestatic 417, 3)) mw_X12_417 wt_X12_move (by decide) rfl
theorem o267_62 : Okp RX12 cX12_copy 4 none "copy" false 62 (sLR 0 63) := ok_aload_n (by decide +kernel : decode cX12_copy 62 = .ok (.aload_n 0, 1)) rfl
theorem o267_63 : Okp RX12 cX12_copy 4 none "copy" false 63 (sGR 13 6 66) := ok_getR (by decide +kernel : decode cX12_copy 63 = .ok (.getfield 23, 3)) fw_X12_23 rfl
theorem o267_66 : Okp RX12 cX12_copy 4 none "copy" false 66 (sLI 1 67) := ok_iload_n (by decide +kernel : decode cX12_copy 66 = .ok (.iload_n 1, 1)) rfl
theorem o267_67 : Okp RX12 cX12_copy 4 none "copy" false 67 (sLI 2 68) := ok_iload_n (by decide +kernel : decode cX12_copy 67 = .ok (.iload_n 2, 1)) rfl
theorem o267_68 : Okp RX12 cX12_copy 4 none "copy" false 68 (sK 1 69) := ok_iconst (by decide +kernel : decode cX12_copy 68 = .ok (.iconst 1, 1)) (by decide)
theorem o267_69 : Okp RX12 cX12_copy 4 none "copy" false 69 (sCS false 266 4 72) := ok_cs (by decide +kernel : decode cX12_copy 69 = .ok (.invokestatic 417, 3)) mw_X12_417 wt_X12_move (by decide) rfl
theorem o267_72 : Okp RX12 cX12_copy 4 none "copy" false 72 (sLR 0 73) := ok_aload_n (by decide +kernel : decode cX12_copy 72 = .ok (.aload_n 0, 1)) rfl
theorem o267_73 : Okp RX12 cX12_copy 4 none "copy" false 73 (sGR 13 7 76) := ok_getR (by decide +kernel : decode cX12_copy 73 = .ok (.getfield 26, 3)) fw_X12_26 rfl
theorem o267_76 : Okp RX12 cX12_copy 4 none "copy" false 76 (sLI 1 77) := ok_iload_n (by decide +kernel : decode cX12_copy 76 = .ok (.iload_n 1, 1)) rfl
theorem o267_77 : Okp RX12 cX12_copy 4 none "copy" false 77 (sLI 2 78) := ok_iload_n (by decide +kernel : decode cX12_copy 77 = .ok (.iload_n 2, 1)) rfl
theorem o267_78 : Okp RX12 cX12_copy 4 none "copy" false 78 (sK 1 79) := ok_iconst (by decide +kernel : decode cX12_copy 78 = .ok (.iconst 1, 1)) (by decide)
theorem o267_79 : Okp RX12 cX12_copy 4 none "copy" false 79 (sCS false 266 4 82) := ok_cs (by decide +kernel : decode cX12_copy 79 = .ok (.invokestatic 417, 3)) mw_X12_417 wt_X12_move (by decide) rfl
theorem o267_82 : Okp RX12 cX12_copy 4 none "copy" false 82 (sLR 0 83) := ok_aload_n (by decide +kernel : decode cX12_copy 82 = .ok (.aload_n 0, 1)) rfl
theorem o267_83 : Okp RX12 cX12_copy 4 none "copy" false 83 (sGR 13 9 86) := ok_getR (by decide +kernel : decode cX12_copy 83 = .ok (.getfield 33, 3)) fw_X12_33 rfl
theorem o267_86 : Okp RX12 cX12_copy 4 none "copy" false 86 (sLI 1 87) := ok_iload_n (by decide +kernel : decode cX12_copy 86 = .ok (.iload_n 1, 1)) rfl
theorem o267_87 : Okp RX12 cX12_copy 4 none "copy" false 87 (sLI 2 88) := ok_iload_n (by decide +kernel : decode cX12_copy 87 = .ok (.iload_n 2, 1)) rfl
theorem o267_88 : Okp RX12 cX12_copy 4 none "copy" false 88 (sK 8 90) := ok_bipush (by decide +kernel : decode cX12_copy 88 = .ok (.bipush 8, 2)) (by decide)
theorem o267_90 : Okp RX12 cX12_copy 4 none "copy" false 90 (sCS false 266 4 93) := ok_cs (by decide +kernel : decode cX12_copy 90 = .ok (.invokestatic 417, 3)) mw_X12_417 wt_X12_move (by decide) rfl
theorem o267_93 : Okp RX12 cX12_copy 4 none "copy" false 93 (sLR 0 94) := ok_aload_n (by decide +kernel : decode cX12_copy 93 = .ok (.aload_n 0, 1)) rfl
theorem o267_94 : Okp RX12 cX12_copy 4 none "copy" false 94 (sGR 13 10 97) := ok_getR (by decide +kernel : decode cX12_copy 94 = .ok (.getfield 36, 3)) fw_X12_36 rfl
theorem o267_97 : Okp RX12 cX12_copy 4 none "copy" false 97 (sLI 1 98) := ok_iload_n (by decide +kernel : decode cX12_copy 97 = .ok (.iload_n 1, 1)) rfl
theorem o267_98 : Okp RX12 cX12_copy 4 none "copy" false 98 (sLI 2 99) := ok_iload_n (by decide +kernel : decode cX12_copy 98 = .ok (.iload_n 2, 1)) rfl
theorem o267_99 : Okp RX12 cX12_copy 4 none "copy" false 99 (sK 48 101) := ok_bipush (by decide +kernel : decode cX12_copy 99 = .ok (.bipush 48, 2)) (by decide)
theorem o267_101 : Okp RX12 cX12_copy 4 none "copy" false 101 (sCS false 266 4 104) := ok_cs (by decide +kernel : decode cX12_copy 101 = .ok (.invokestatic 417, 3)) mw_X12_417 wt_X12_move (by decide) rfl
theorem o267_104 : Okp RX12 cX12_copy 4 none "copy" false 104 (sLR 0 105) := ok_aload_n (by decide +kernel : decode cX12_copy 104 = .ok (.aload_n 0, 1)) rfl
theorem o267_105 : Okp RX12 cX12_copy 4 none "copy" false 105 (sGR 13 11 108) := ok_getR (by decide +kernel : decode cX12_copy 105 = .ok (.getfield 39, 3)) fw_X12_39 rfl
theorem o267_108 : Okp RX12 cX12_copy 4 none "copy" false 108 (sLI 1 109) := ok_iload_n (by decide +kernel : decode cX12_copy 108 = .ok (.iload_n 1, 1)) rfl
theorem o267_109 : Okp RX12 cX12_copy 4 none "copy" false 109 (sLI 2 110) := ok_iload_n (by decide +kernel : decode cX12_copy 109 = .ok (.iload_n 2, 1)) rfl
theorem o267_110 : Okp RX12 cX12_copy 4 none "copy" false 110 (sK 4 111) := ok_iconst (by decide +kernel : decode cX12_copy 110 = .ok (.iconst 4, 1)) (by decide)
theorem o267_111 : Okp RX12 cX12_copy 4 none "copy" false 111 (sCS false 266 4 114) := ok_cs (by decide +kernel : decode cX12_copy 111 = .ok (.invokestatic 417, 3)) mw_X12_417 wt_X12_move (by decide) rfl
theorem o267_114 : Okp RX12 cX12_copy 4 none "copy" false 114 (sLR 0 115) := ok_aload_n (by decide +kernel : decode cX12_copy 114 = .ok (.aload_n 0, 1)) rfl
theorem o267_115 : Okp RX12 cX12_copy 4 none "copy" false 115 (sGR 13 12 118) := ok_getR (by decide +kernel : decode cX12_copy 115 = .ok (.getfield 42, 3)) fw_X12_42 rfl
theorem o267_118 : Okp RX12 cX12_copy 4 none "copy" false 118 (sLI 1 119) := ok_iload_n (by decide +kernel : decode cX12_copy 118 = .ok (.iload_n 1, 1)) rfl
theorem o267_119 : Okp RX12 cX12_copy 4 none "copy" false 119 (sLI 2 120) := ok_iload_n (by decide +kernel : decode cX12_copy 119 = .ok (.iload_n 2, 1)) rfl
theorem o267_120 : Okp RX12 cX12_copy 4 none "copy" false 120 (sK 32 122) := ok_bipush (by decide +kernel : decode cX12_copy 120 = .ok (.bipush 32, 2)) (by decide)
theorem o267_122 : Okp RX12 cX12_copy 4 none "copy" false 122 (sCS false 266 4 125) := ok_cs (by decide +kernel : decode cX12_copy 122 = .ok (.invokestatic 417, 3)) mw_X12_417 wt_X12_move (by decide) rfl
theorem o267_125 : Okp RX12 cX12_copy 4 none "copy" false 125 (sLR 0 126) := ok_aload_n (by decide +kernel : decode cX12_copy 125 = .ok (.aload_n 0, 1)) rfl
theorem o267_126 : Okp RX12 cX12_copy 4 none "copy" false 126 (sGR 13 13 129) := ok_getR (by decide +kernel : decode cX12_copy 126 = .ok (.getfield 45, 3)) fw_X12_45 rfl
theorem o267_129 : Okp RX12 cX12_copy 4 none "copy" false 129 (sLI 1 130) := ok_iload_n (by decide +kernel : decode cX12_copy 129 = .ok (.iload_n 1, 1)) rfl
theorem o267_130 : Okp RX12 cX12_copy 4 none "copy" false 130 (sLI 2 131) := ok_iload_n (by decide +kernel : decode cX12_copy 130 = .ok (.iload_n 2, 1)) rfl
theorem o267_131 : Okp RX12 cX12_copy 4 none "copy" false 131 (sK 32 133) := ok_bipush (by decide +kernel : decode cX12_copy 131 = .ok (.bipush 32, 2)) (by decide)
theorem o267_133 : Okp RX12 cX12_copy 4 none "copy" false 133 (sCS false 266 4 136) := ok_cs (by decide +kernel : decode cX12_copy 133 = .ok (.invokestatic 417, 3)) mw_X12_417 wt_X12_move (by decide) rfl
theorem o267_136 : Okp RX12 cX12_copy 4 none "copy" false 136 (sLR 0 137) := ok_aload_n (by decide +kernel : decode cX12_copy 136 = .ok (.aload_n 0, 1)) rfl
theorem o267_137 : Okp RX12 cX12_copy 4 none "copy" false 137 (sGR 13 14 140) := ok_getR (by decide +kernel : decode cX12_copy 137 = .ok (.getfield 48, 3)) fw_X12_48 rfl
theorem o267_140 : Okp RX12 cX12_copy 4 none "copy" false 140 (sLI 1 141) := ok_iload_n (by decide +kernel : decode cX12_copy 140 = .ok (.iload_n 1, 1)) rfl
theorem o267_141 : Okp RX12 cX12_copy 4 none "copy" false 141 (sLI 2 142) := ok_iload_n (by decide +kernel : decode cX12_copy 141 = .ok (.iload_n 2, 1)) rfl
theorem o267_142 : Okp RX12 cX12_copy 4 none "copy" false 142 (sK 128 145) := ok_sipush (by decide +kernel : decode cX12_copy 142 = .ok (.sipush 128, 3)) (by decide)
theorem o267_145 : Okp RX12 cX12_copy 4 none "copy" false 145 (sCS false 266 4 148) := ok_cs (by decide +kernel : decode cX12_copy 145 = .ok (.invokestatic 417, 3)) mw_X12_417 wt_X12_move (by decide) rfl
theorem o267_148 : Okp RX12 cX12_copy 4 none "copy" false 148 (sLR 0 149) := ok_aload_n (by decide +kernel : decode cX12_copy 148 = .ok (.aload_n 0, 1)) rfl
theorem o267_149 : Okp RX12 cX12_copy 4 none "copy" false 149 (sGR 13 15 152) := ok_getR (by decide +kernel : decode cX12_copy 149 = .ok (.getfield 51, 3)) fw_X12_51 rfl
theorem o267_152 : Okp RX12 cX12_copy 4 none "copy" false 152 (sLI 1 153) := ok_iload_n (by decide +kernel : decode cX12_copy 152 = .ok (.iload_n 1, 1)) rfl
theorem o267_153 : Okp RX12 cX12_copy 4 none "copy" false 153 (sLI 2 154) := ok_iload_n (by decide +kernel : decode cX12_copy 153 = .ok (.iload_n 2, 1)) rfl
theorem o267_154 : Okp RX12 cX12_copy 4 none "copy" false 154 (sK 128 157) := ok_sipush (by decide +kernel : decode cX12_copy 154 = .ok (.sipush 128, 3)) (by decide)
theorem o267_157 : Okp RX12 cX12_copy 4 none "copy" false 157 (sCS false 266 4 160) := ok_cs (by decide +kernel : decode cX12_copy 157 = .ok (.invokestatic 417, 3)) mw_X12_417 wt_X12_move (by decide) rfl
theorem o267_160 : Okp RX12 cX12_copy 4 none "copy" false 160 (sLR 0 161) := ok_aload_n (by decide +kernel : decode cX12_copy 160 = .ok (.aload_n 0, 1)) rfl
theorem o267_161 : Okp RX12 cX12_copy 4 none "copy" false 161 (sGR 13 16 164) := ok_getR (by decide +kernel : decode cX12_copy 161 = .ok (.getfield 54, 3)) fw_X12_54 rfl
theorem o267_164 : Okp RX12 cX12_copy 4 none "copy" false 164 (sLI 1 165) := ok_iload_n (by decide +kernel : decode cX12_copy 164 = .ok (.iload_n 1, 1)) rfl
theorem o267_165 : Okp RX12 cX12_copy 4 none "copy" false 165 (sLI 2 166) := ok_iload_n (by decide +kernel : decode cX12_copy 165 = .ok (.iload_n 2, 1)) rfl
theorem o267_166 : Okp RX12 cX12_copy 4 none "copy" false 166 (sK 10 168) := ok_bipush (by decide +kernel : decode cX12_copy 166 = .ok (.bipush 10, 2)) (by decide)
theorem o267_168 : Okp RX12 cX12_copy 4 none "copy" false 168 (sCS false 266 4 171) := ok_cs (by decide +kernel : decode cX12_copy 168 = .ok (.invokestatic 417, 3)) mw_X12_417 wt_X12_move (by decide) rfl
theorem o267_171 : Okp RX12 cX12_copy 4 none "copy" false 171 (sLR 0 172) := ok_aload_n (by decide +kernel : decode cX12_copy 171 = .ok (.aload_n 0, 1)) rfl
theorem o267_172 : Okp RX12 cX12_copy 4 none "copy" false 172 (sGR 13 17 175) := ok_getR (by decide +kernel : decode cX12_copy 172 = .ok (.getfield 57, 3)) fw_X12_57 rfl
theorem o267_175 : Okp RX12 cX12_copy 4 none "copy" false 175 (sLI 1 176) := ok_iload_n (by decide +kernel : decode cX12_copy 175 = .ok (.iload_n 1, 1)) rfl
theorem o267_176 : Okp RX12 cX12_copy 4 none "copy" false 176 (sLI 2 177) := ok_iload_n (by decide +kernel : decode cX12_copy 176 = .ok (.iload_n 2, 1)) rfl
theorem o267_177 : Okp RX12 cX12_copy 4 none "copy" false 177 (sK 40 179) := ok_bipush (by decide +kernel : decode cX12_copy 177 = .ok (.bipush 40, 2)) (by decide)
theorem o267_179 : Okp RX12 cX12_copy 4 none "copy" false 179 (sCS false 266 4 182) := ok_cs (by decide +kernel : decode cX12_copy 179 = .ok (.invokestatic 417, 3)) mw_X12_417 wt_X12_move (by decide) rfl
theorem o267_182 : Okp RX12 cX12_copy 4 none "copy" false 182 (sLR 0 183) := ok_aload_n (by decide +kernel : decode cX12_copy 182 = .ok (.aload_n 0, 1)) rfl
theorem o267_183 : Okp RX12 cX12_copy 4 none "copy" false 183 (sGR 13 18 186) := ok_getR (by decide +kernel : decode cX12_copy 183 = .ok (.getfield 60, 3)) fw_X12_60 rfl
theorem o267_186 : Okp RX12 cX12_copy 4 none "copy" false 186 (sLI 1 187) := ok_iload_n (by decide +kernel : decode cX12_copy 186 = .ok (.iload_n 1, 1)) rfl
theorem o267_187 : Okp RX12 cX12_copy 4 none "copy" false 187 (sLI 2 188) := ok_iload_n (by decide +kernel : decode cX12_copy 187 = .ok (.iload_n 2, 1)) rfl
theorem o267_188 : Okp RX12 cX12_copy 4 none "copy" false 188 (sK 10 190) := ok_bipush (by decide +kernel : decode cX12_copy 188 = .ok (.bipush 10, 2)) (by decide)
theorem o267_190 : Okp RX12 cX12_copy 4 none "copy" false 190 (sCS false 266 4 193) := ok_cs (by decide +kernel : decode cX12_copy 190 = .ok (.invokestatic 417, 3)) mw_X12_417 wt_X12_move (by decide) rfl
theorem o267_193 : Okp RX12 cX12_copy 4 none "copy" false 193 (sLR 0 194) := ok_aload_n (by decide +kernel : decode cX12_copy 193 = .ok (.aload_n 0, 1)) rfl
theorem o267_194 : Okp RX12 cX12_copy 4 none "copy" false 194 (sGR 13 19 197) := ok_getR (by decide +kernel : decode cX12_copy 194 = .ok (.getfield 63, 3)) fw_X12_63 rfl
theorem o267_197 : Okp RX12 cX12_copy 4 none "copy" false 197 (sLI 1 198) := ok_iload_n (by decide +kernel : decode cX12_copy 197 = .ok (.iload_n 1, 1)) rfl
theorem o267_198 : Okp RX12 cX12_copy 4 none "copy" false 198 (sLI 2 199) := ok_iload_n (by decide +kernel : decode cX12_copy 198 = .ok (.iload_n 2, 1)) rfl
theorem o267_199 : Okp RX12 cX12_copy 4 none "copy" false 199 (sK 10 201) := ok_bipush (by decide +kernel : decode cX12_copy 199 = .ok (.bipush 10, 2)) (by decide)
theorem o267_201 : Okp RX12 cX12_copy 4 none "copy" false 201 (sCS false 266 4 204) := ok_cs (by decide +kernel : decode cX12_copy 201 = .ok (.invokestatic 417, 3)) mw_X12_417 wt_X12_move (by decide) rfl
theorem o267_204 : Okp RX12 cX12_copy 4 none "copy" false 204 (sLR 0 205) := ok_aload_n (by decide +kernel : decode cX12_copy 204 = .ok (.aload_n 0, 1)) rfl
theorem o267_205 : Okp RX12 cX12_copy 4 none "copy" false 205 (sGR 13 20 208) := ok_getR (by decide +kernel : decode cX12_copy 205 = .ok (.getfield 66, 3)) fw_X12_66 rfl
theorem o267_208 : Okp RX12 cX12_copy 4 none "copy" false 208 (sLI 1 209) := ok_iload_n (by decide +kernel : decode cX12_copy 208 = .ok (.iload_n 1, 1)) rfl
theorem o267_209 : Okp RX12 cX12_copy 4 none "copy" false 209 (sLI 2 210) := ok_iload_n (by decide +kernel : decode cX12_copy 209 = .ok (.iload_n 2, 1)) rfl
theorem o267_210 : Okp RX12 cX12_copy 4 none "copy" false 210 (sK 10 212) := ok_bipush (by decide +kernel : decode cX12_copy 210 = .ok (.bipush 10, 2)) (by decide)
theorem o267_212 : Okp RX12 cX12_copy 4 none "copy" false 212 (sCS false 266 4 215) := ok_cs (by decide +kernel : decode cX12_copy 212 = .ok (.invokestatic 417, 3)) mw_X12_417 wt_X12_move (by decide) rfl
theorem o267_215 : Okp RX12 cX12_copy 4 none "copy" false 215 (sLR 0 216) := ok_aload_n (by decide +kernel : decode cX12_copy 215 = .ok (.aload_n 0, 1)) rfl
theorem o267_216 : Okp RX12 cX12_copy 4 none "copy" false 216 (sGR 13 21 219) := ok_getR (by decide +kernel : decode cX12_copy 216 = .ok (.getfield 69, 3)) fw_X12_69 rfl
theorem o267_219 : Okp RX12 cX12_copy 4 none "copy" false 219 (sLI 1 220) := ok_iload_n (by decide +kernel : decode cX12_copy 219 = .ok (.iload_n 1, 1)) rfl
theorem o267_220 : Okp RX12 cX12_copy 4 none "copy" false 220 (sLI 2 221) := ok_iload_n (by decide +kernel : decode cX12_copy 220 = .ok (.iload_n 2, 1)) rfl
theorem o267_221 : Okp RX12 cX12_copy 4 none "copy" false 221 (sK 10 223) := ok_bipush (by decide +kernel : decode cX12_copy 221 = .ok (.bipush 10, 2)) (by decide)
theorem o267_223 : Okp RX12 cX12_copy 4 none "copy" false 223 (sCS false 266 4 226) := ok_cs (by decide +kernel : decode cX12_copy 223 = .ok (.invokestatic 417, 3)) mw_X12_417 wt_X12_move (by decide) rfl
theorem o267_226 : Okp RX12 cX12_copy 4 none "copy" false 226 sRV := ok_vret rfl (by decide +kernel : decode cX12_copy 226 = .ok (.return_, 1))
theorem oc267_0 : ∀ pc, Mnp (c267_0 pc) ∧ Okp RX12 cX12_copy 4 none "copy" false pc (c267_0 pc) := by
  intro pc
  unfold c267_0
  split
  · exact ⟨mn_sK, o267_0⟩
  · exact ⟨mn_sSI, o267_1⟩
  · exact ⟨mn_sLI, o267_2⟩
  · exact ⟨mn_sLR, o267_3⟩
  · exact ⟨mn_sGR, o267_4⟩
  · exact ⟨mn_sLI, o267_7⟩
  · exact ⟨mn_sIA, o267_8⟩
  · exact ⟨mn_sI2, o267_9⟩
  · exact ⟨mn_sLR, o267_12⟩
  · exact ⟨mn_sGR, o267_13⟩
  · exact ⟨mn_sK, o267_16⟩
  · exact ⟨mn_sLI, o267_19⟩
  · exact ⟨mn_sB2, o267_20⟩
  · exact ⟨mn_sLI, o267_21⟩
  · exact ⟨mn_sB2, o267_22⟩
  · exact ⟨mn_sLR, o267_23⟩
  · exact ⟨mn_sX, ok_X⟩
theorem oc267_1 : ∀ pc, Mnp (c267_1 pc) ∧ Okp RX12 cX12_copy 4 none "copy" false pc (c267_1 pc) := by
  intro pc
  unfold c267_1
  split
  · exact ⟨mn_sGR, o267_24⟩
  · exact ⟨mn_sK, o267_27⟩
  · exact ⟨mn_sLI, o267_30⟩
  · exact ⟨mn_sB2, o267_31⟩
  · exact ⟨mn_sLI, o267_32⟩
  · exact ⟨mn_sB2, o267_33⟩
  · exact ⟨mn_sBA, o267_34⟩
  · exact ⟨mn_sBS, o267_35⟩
  · exact ⟨mn_sInc, o267_36⟩
  · exact ⟨mn_sGo, o267_39⟩
  · exact ⟨mn_sLR, o267_42⟩
  · exact ⟨mn_sGR, o267_43⟩
  · exact ⟨mn_sLI, o267_46⟩
  · exact ⟨mn_sLI, o267_47⟩
  · exact ⟨mn_sX, ok_X⟩
theorem oc267_2 : ∀ pc, Mnp (c267_2 pc) ∧ Okp RX12 cX12_copy 4 none "copy" false pc (c267_2 pc) := by
  intro pc
  unfold c267_2
  split
  · exact ⟨mn_sK, o267_48⟩
  · exact ⟨mn_sCS, o267_49⟩
  · exact ⟨mn_sLR, o267_52⟩
  · exact ⟨mn_sGR, o267_53⟩
  · exact ⟨mn_sLI, o267_56⟩
  · exact ⟨mn_sLI, o267_57⟩
  · exact ⟨mn_sK, o267_58⟩
  · exact ⟨mn_sCS, o267_59⟩
  · exact ⟨mn_sLR, o267_62⟩
  · exact ⟨mn_sGR, o267_63⟩
  · exact ⟨mn_sLI, o267_66⟩
  · exact ⟨mn_sLI, o267_67⟩
  · exact ⟨mn_sK, o267_68⟩
  · exact ⟨mn_sCS, o267_69⟩
  · exact ⟨mn_sX, ok_X⟩
theorem oc267_3 : ∀ pc, Mnp (c267_3 pc) ∧ Okp RX12 cX12_copy 4 none "copy" false pc (c267_3 pc) := by
  intro pc
  unfold c267_3
  split
  · exact ⟨mn_sLR, o267_72⟩
  · exact ⟨mn_sGR, o267_73⟩
  · exact ⟨mn_sLI, o267_76⟩
  · exact ⟨mn_sLI, o267_77⟩
  · exact ⟨mn_sK, o267_78⟩
  · exact ⟨mn_sCS, o267_79⟩
  · exact ⟨mn_sLR, o267_82⟩
  · exact ⟨mn_sGR, o267_83⟩
  · exact ⟨mn_sLI, o267_86⟩
  · exact ⟨mn_sLI, o267_87⟩
  · exact ⟨mn_sK, o267_88⟩
  · exact ⟨mn_sCS, o267_90⟩
  · exact ⟨mn_sLR, o267_93⟩
  · exact ⟨mn_sGR, o267_94⟩
  · exact ⟨mn_sX, ok_X⟩
theorem oc267_4 : ∀ pc, Mnp (c267_4 pc) ∧ Okp RX12 cX12_copy 4 none "copy" false pc (c267_4 pc) := by
  intro pc
  unfold c267_4
  split
  · exact ⟨mn_sLI, o267_97⟩
  · exact ⟨mn_sLI, o267_98⟩
  · exact ⟨mn_sK, o267_99⟩
  · exact ⟨mn_sCS, o267_101⟩
  · exact ⟨mn_sLR, o267_104⟩
  · exact ⟨mn_sGR, o267_105⟩
  · exact ⟨mn_sLI, o267_108⟩
  · exact ⟨mn_sLI, o267_109⟩
  · exact ⟨mn_sK, o267_110⟩
  · exact ⟨mn_sCS, o267_111⟩
  · exact ⟨mn_sLR, o267_114⟩
  · exact ⟨mn_sGR, o267_115⟩
  · exact ⟨mn_sLI, o267_118⟩
  · exact ⟨mn_sLI, o267_119⟩
  · exact ⟨mn_sX, ok_X⟩
theorem oc267_5 : ∀ pc, Mnp (c267_5 pc) ∧ Okp RX12 cX12_copy 4 none "copy" false pc (c267_5 pc) := by
  intro pc
  unfold c267_5
  split
  · exact ⟨mn_sK, o267_120⟩
  · exact ⟨mn_sCS, o267_122⟩
  · exact ⟨mn_sLR, o267_125⟩
  · exact ⟨mn_sGR, o267_126⟩
  · exact ⟨mn_sLI, o267_129⟩
  · exact ⟨mn_sLI, o267_130⟩
  · exact ⟨mn_sK, o267_131⟩
  · exact ⟨mn_sCS, o267_133⟩
  · exact ⟨mn_sLR, o267_136⟩
  · exact ⟨mn_sGR, o267_137⟩
  · exact ⟨mn_sLI, o267_140⟩
  · exact ⟨mn_sLI, o267_141⟩
  · exact ⟨mn_sK, o267_142⟩
  · exact ⟨mn_sX, ok_X⟩
theorem oc267_6 : ∀ pc, Mnp (c267_6 pc) ∧ Okp RX12 cX12_copy 4 none "copy" false pc (c267_6 pc) := by
  intro pc
  unfold c267_6
  split
  · exact ⟨mn_sCS, o267_145⟩
  · exact ⟨mn_sLR, o267_148⟩
  · exact ⟨mn_sGR, o267_149⟩
  · exact ⟨mn_sLI, o267_152⟩
  · exact ⟨mn_sLI, o267_153⟩
  · exact ⟨mn_sK, o267_154⟩
  · exact ⟨mn_sCS, o267_157⟩
  · exact ⟨mn_sLR, o267_160⟩
  · exact ⟨mn_sGR, o267_161⟩
  · exact ⟨mn_sLI, o267_164⟩
  · exact ⟨mn_sLI, o267_165⟩
  · exact ⟨mn_sK, o267_166⟩
  · exact ⟨mn_sX, ok_X⟩
theorem oc267_7 : ∀ pc, Mnp (c267_7 pc) ∧ Okp RX12 cX12_copy 4 none "copy" false pc (c267_7 pc) := by
  intro pc
  unfold c267_7
  split
  · exact ⟨mn_sCS, o267_168⟩
  · exact ⟨mn_sLR, o267_171⟩
  · exact ⟨mn_sGR, o267_172⟩
  · exact ⟨mn_sLI, o267_175⟩
  · exact ⟨mn_sLI, o267_176⟩
  · exact ⟨mn_sK, o267_177⟩
  · exact ⟨mn_sCS, o267_179⟩
  · exact ⟨mn_sLR, o267_182⟩
  · exact ⟨mn_sGR, o267_183⟩
  · exact ⟨mn_sLI, o267_186⟩
  · exact ⟨mn_sLI, o267_187⟩
  · exact ⟨mn_sK, o267_188⟩
  · exact ⟨mn_sCS, o267_190⟩
  · exact ⟨mn_sX, ok_X⟩
theorem oc267_8 : ∀ pc, Mnp (c267_8 pc) ∧ Okp RX12 cX12_copy 4 none "copy" false pc (c267_8 pc) := by
  intro pc
  unfold c267_8
  split
  · exact ⟨mn_sLR, o267_193⟩
  · exact ⟨mn_sGR, o267_194⟩
  · exact ⟨mn_sLI, o267_197⟩
  · exact ⟨mn_sLI, o267_198⟩
  · exact ⟨mn_sK, o267_199⟩
  · exact ⟨mn_sCS, o267_201⟩
  · exact ⟨mn_sLR, o267_204⟩
  · exact ⟨mn_sGR, o267_205⟩
  · exact ⟨mn_sLI, o267_208⟩
  · exact ⟨mn_sLI, o267_209⟩
  · exact ⟨mn_sK, o267_210⟩
  · exact ⟨mn_sCS, o267_212⟩
  · exact ⟨mn_sLR, o267_215⟩
  · exact ⟨mn_sX, ok_X⟩
theorem oc267_9 : ∀ pc, Mnp (c267_9 pc) ∧ Okp RX12 cX12_copy 4 none "copy" false pc (c267_9 pc) := by
  intro pc
  unfold c267_9
  split
  · exact ⟨mn_sGR, o267_216⟩
  · exact ⟨mn_sLI, o267_219⟩
  · exact ⟨mn_sLI, o267_220⟩
  · exact ⟨mn_sK, o267_221⟩
  · exact ⟨mn_sCS, o267_223⟩
  · exact ⟨mn_sRV, o267_226⟩
  · exact ⟨mn_sX, ok_X⟩
theorem oc267 : ∀ pc, Mnp (c267 pc) ∧ Okp RX12 cX12_copy 4 none "copy" false pc (c267 pc) := by
  intro pc
  unfold c267
  split
  · exact oc267_0 pc
  · exact oc267_1 pc
  · exact oc267_2 pc
  · exact oc267_3 pc
  · exact oc267_4 pc
  · exact oc267_5 pc
  · exact oc267_6 pc
  · exact oc267_7 pc
  · exact oc267_8 pc
  · exact oc267_9 pc
  · exact ⟨mn_sX, ok_X⟩
theorem o268_0 : Okp RX12 cX12_isModule 2 (some .boolean) "isModule" false 0 (sLI 1 1) := ok_iload_n (by decide +kernel : decode cX12_isModule 0 = .ok (.iload_n 1, 1)) rfl
theorem o268_1 : Okp RX12 cX12_isModule 2 (some .boolean) "isModule" false 1 (sI1 2 23 4) := ok_if_lt (by decide +kernel : decode cX12_isModule 1 = .ok (.ifCond .lt 22, 3)) (by decide)
theorem o268_4 : Okp RX12 cX12_isModule 2 (some .boolean) "isModule" false 4 (sLI 1 5) := ok_iload_n (by decide +kernel : decode cX12_isModule 4 = .ok (.iload_n 1, 1)) rfl
theorem o268_5 : Okp RX12 cX12_isModule 2 (some .boolean) "isModule" false 5 (sK 6 7) := ok_bipush (by decide +kernel : decode cX12_isModule 5 = .ok (.bipush 6, 2)) (by decide)
theorem o268_7 : Okp RX12 cX12_isModule 2 (some .boolean) "isModule" false 7 (sI2 3 23 10) := ok_icmp_ge (by decide +kernel : decode cX12_isModule 7 = .ok (.if_icmp .ge 16, 3)) (by decide)
theorem o268_10 : Okp RX12 cX12_isModule 2 (some .boolean) "isModule" false 10 (sLR 0 11) := ok_aload_n (by decide +kernel : decode cX12_isModule 10 = .ok (.aload_n 0, 1)) rfl
theorem o268_11 : Okp RX12 cX12_isModule 2 (some .boolean) "isModule" false 11 (sGR 13 8 14) := ok_getR (by decide +kernel : decode cX12_isModule 11 = .ok (.getfield 29, 3)) fw_X12_29 rfl
theorem o268_14 : Okp RX12 cX12_isModule 2 (some .boolean) "isModule" false 14 (sLI 1 15) := ok_iload_n (by decide +kernel : decode cX12_isModule 14 = .ok (.iload_n 1, 1)) rfl
theorem o268_15 : Okp RX12 cX12_isModule 2 (some .boolean) "isModule" false 15 (sBA 16) := ok_baload (by decide +kernel : decode cX12_isModule 15 = .ok (.baload, 1))
theorem o268_16 : Okp RX12 cX12_isModule 2 (some .boolean) "isModule" false 16 (sI1 0 23 19) := ok_if_eq (by decide +kernel : decode cX12_isModule 16 = .ok (.ifCond .eq 7, 3)) (by decide)
theorem o268_19 : Okp RX12 cX12_isModule 2 (some .boolean) "isModule" false 19 (sK 1 20) := ok_iconst (by decide +kernel : decode cX12_isModule 19 = .ok (.iconst 1, 1)) (by decide)
theorem o268_20 : Okp RX12 cX12_isModule 2 (some .boolean) "isModule" false 20 (sGo 24) := ok_goto (by decide +kernel : decode cX12_isModule 20 = .ok (.goto 4, 3)) (by decide)
theorem o268_23 : Okp RX12 cX12_isModule 2 (some .boolean) "isModule" false 23 (sK 0 24) := ok_iconst (by decide +kernel : decode cX12_isModule 23 = .ok (.iconst 0, 1)) (by decide)
theorem o268_24 : Okp RX12 cX12_isModule 2 (some .boolean) "isModule" false 24 sRZ := ok_zret rfl (by decide +kernel : decode cX12_isModule 24 = .ok (.ireturn, 1))
theorem oc268_0 : ∀ pc, Mnp (c268_0 pc) ∧ Okp RX12 cX12_isModule 2 (some .boolean) "isModule" false pc (c268_0 pc) := by
  intro pc
  unfold c268_0
  split
  · exact ⟨mn_sLI, o268_0⟩
  · exact ⟨mn_sI1, o268_1⟩
  · exact ⟨mn_sLI, o268_4⟩
  · exact ⟨mn_sK, o268_5⟩
  · exact ⟨mn_sI2, o268_7⟩
  · exact ⟨mn_sLR, o268_10⟩
  · exact ⟨mn_sGR, o268_11⟩
  · exact ⟨mn_sLI, o268_14⟩
  · exact ⟨mn_sBA, o268_15⟩
  · exact ⟨mn_sI1, o268_16⟩
  · exact ⟨mn_sK, o268_19⟩
  · exact ⟨mn_sGo, o268_20⟩
  · exact ⟨mn_sK, o268_23⟩
  · exact ⟨mn_sX, ok_X⟩
theorem oc268_1 : ∀ pc, Mnp (c268_1 pc) ∧ Okp RX12 cX12_isModule 2 (some .boolean) "isModule" false pc (c268_1 pc) := by
  intro pc
  unfold c268_1
  split
  · exact ⟨mn_sRZ, o268_24⟩
  · exact ⟨mn_sX, ok_X⟩
theorem oc268 : ∀ pc, Mnp (c268 pc) ∧ Okp RX12 cX12_isModule 2 (some .boolean) "isModule" false pc (c268 pc) := by
  intro pc
  unfold c268
  split
  · exact oc268_0 pc
  · exact oc268_1 pc
  · exact ⟨mn_sX, ok_X⟩
theorem o269_0 : Okp RX12 cX12_discard 2 (some .boolean) "discard" false 0 (sLR 0 1) := ok_aload_n (by decide +kernel : decode cX12_discard 0 = .ok (.aload_n 0, 1)) rfl
theorem o269_1 : Okp RX12 cX12_discard 2 (some .boolean) "discard" false 1 (sK 0 2) := ok_iconst (by decide +kernel : decode cX12_discard 1 = .ok (.iconst 0, 1)) (by decide)
theorem o269_2 : Okp RX12 cX12_discard 2 (some .boolean) "discard" false 2 (sPI 13 0 5) := ok_putI (by decide +kernel : decode cX12_discard 2 = .ok (.putfield 227, 3)) fw_X12_227 ⟨⟨tyX12_ok, nmX12⟩, Or.inl rfl, rfl⟩ rfl
theorem o269_5 : Okp RX12 cX12_discard 2 (some .boolean) "discard" false 5 (sLR 0 6) := ok_aload_n (by decide +kernel : decode cX12_discard 5 = .ok (.aload_n 0, 1)) rfl
theorem o269_6 : Okp RX12 cX12_discard 2 (some .boolean) "discard" false 6 (sLI 1 7) := ok_iload_n (by decide +kernel : decode cX12_discard 6 = .ok (.iload_n 1, 1)) rfl
theorem o269_7 : Okp RX12 cX12_discard 2 (some .boolean) "discard" false 7 (sCV false 268 2 13 10) := ok_cv (by decide +kernel : decode cX12_discard 7 = .ok (.invokevirtual 421, 3)) mw_X12_421 rfl (by decide) wm_X12_isModule wse_X12_isModule (by decide) rfl
theorem o269_10 : Okp RX12 cX12_discard 2 (some .boolean) "discard" false 10 (sI1 1 15 13) := ok_if_ne (by decide +kernel : decode cX12_discard 10 = .ok (.ifCond .ne 5, 3)) (by decide)
theorem o269_13 : Okp RX12 cX12_discard 2 (some .boolean) "discard" false 13 (sK 0 14) := ok_iconst (by decide +kernel : decode cX12_discard 13 = .ok (.iconst 0, 1)) (by decide)
theorem o269_14 : Okp RX12 cX12_discard 2 (some .boolean) "discard" false 14 sRZ := ok_zret rfl (by decide +kernel : decode cX12_discard 14 = .ok (.ireturn, 1))
theorem o269_15 : Okp RX12 cX12_discard 2 (some .boolean) "discard" false 15 (sLR 0 16) := ok_aload_n (by decide +kernel : decode cX12_discard 15 = .ok (.aload_n 0, 1)) rfl
theorem o269_16 : Okp RX12 cX12_discard 2 (some .boolean) "discard" false 16 (sGR 13 8 19) := ok_getR (by decide +kernel : decode cX12_discard 16 = .ok (.getfield 29, 3)) fw_X12_29 rfl
theorem o269_19 : Okp RX12 cX12_discard 2 (some .boolean) "discard" false 19 (sLI 1 20) := ok_iload_n (by decide +kernel : decode cX12_discard 19 = .ok (.iload_n 1, 1)) rfl
theorem o269_20 : Okp RX12 cX12_discard 2 (some .boolean) "discard" false 20 (sK 0 21) := ok_iconst (by decide +kernel : decode cX12_discard 20 = .ok (.iconst 0, 1)) (by decide)
theorem o269_21 : Okp RX12 cX12_discard 2 (some .boolean) "discard" false 21 (sBS 22) := ok_bastore (by decide +kernel : decode cX12_discard 21 = .ok (.bastore, 1))
theorem o269_22 : Okp RX12 cX12_discard 2 (some .boolean) "discard" false 22 (sK 1 23) := ok_iconst (by decide +kernel : decode cX12_discard 22 = .ok (.iconst 1, 1)) (by decide)
theorem o269_23 : Okp RX12 cX12_discard 2 (some .boolean) "discard" false 23 sRZ := ok_zret rfl (by decide +kernel : decode cX12_discard 23 = .ok (.ireturn, 1))
theorem oc269 : ∀ pc, Mnp (c269 pc) ∧ Okp RX12 cX12_discard 2 (some .boolean) "discard" false pc (c269 pc) := by
  intro pc
  unfold c269
  split
  · exact ⟨mn_sLR, o269_0⟩
  · exact ⟨mn_sK, o269_1⟩
  · exact ⟨mn_sPI, o269_2⟩
  · exact ⟨mn_sLR, o269_5⟩
  · exact ⟨mn_sLI, o269_6⟩
  · exact ⟨mn_sCV, o269_7⟩
  · exact ⟨mn_sI1, o269_10⟩
  · exact ⟨mn_sK, o269_13⟩
  · exact ⟨mn_sRZ, o269_14⟩
  · exact ⟨mn_sLR, o269_15⟩
  · exact ⟨mn_sGR, o269_16⟩
  · exact ⟨mn_sLI, o269_19⟩
  · exact ⟨mn_sK, o269_20⟩
  · exact ⟨mn_sBS, o269_21⟩
  · exact ⟨mn_sK, o269_22⟩
  · exact ⟨mn_sRZ, o269_23⟩
  · exact ⟨mn_sX, ok_X⟩
theorem o270_0 : Okp RX12 cX12_module_ 5 (some .int) "module" false 0 (sLR 0 1) := ok_aload_n (by decide +kernel : decode cX12_module_ 0 = .ok (.aload_n 0, 1)) rfl
theorem o270_1 : Okp RX12 cX12_module_ 5 (some .int) "module" false 1 (sK 0 2) := ok_iconst (by decide +kernel : decode cX12_module_ 1 = .ok (.iconst 0, 1)) (by decide)
theorem o270_2 : Okp RX12 cX12_module_ 5 (some .int) "module" false 2 (sPI 13 0 5) := ok_putI (by decide +kernel : decode cX12_module_ 2 = .ok (.putfield 227, 3)) fw_X12_227 ⟨⟨tyX12_ok, nmX12⟩, Or.inl rfl, rfl⟩ rfl
theorem o270_5 : Okp RX12 cX12_module_ 5 (some .int) "module" false 5 (sLR 0 6) := ok_aload_n (by decide +kernel : decode cX12_module_ 5 = .ok (.aload_n 0, 1)) rfl
theorem o270_6 : Okp RX12 cX12_module_ 5 (some .int) "module" false 6 (sLI 1 7) := ok_iload_n (by decide +kernel : decode cX12_module_ 6 = .ok (.iload_n 1, 1)) rfl
theorem o270_7 : Okp RX12 cX12_module_ 5 (some .int) "module" false 7 (sCV false 268 2 13 10) := ok_cv (by decide +kernel : decode cX12_module_ 7 = .ok (.invokevirtual 421, 3)) mw_X12_421 rfl (by decide) wm_X12_isModule wse_X12_isModule (by decide) rfl
theorem o270_10 : Okp RX12 cX12_module_ 5 (some .int) "module" false 10 (sI1 1 15 13) := ok_if_ne (by decide +kernel : decode cX12_module_ 10 = .ok (.ifCond .ne 5, 3)) (by decide)
theorem o270_13 : Okp RX12 cX12_module_ 5 (some .int) "module" false 13 (sK (-1) 14) := ok_iconst (by decide +kernel : decode cX12_module_ 13 = .ok (.iconst (-1), 1)) (by decide)
theorem o270_14 : Okp RX12 cX12_module_ 5 (some .int) "module" false 14 sRI := ok_iret rfl (by decide +kernel : decode cX12_module_ 14 = .ok (.ireturn, 1))
theorem o270_15 : Okp RX12 cX12_module_ 5 (some .int) "module" false 15 (sLI 3 16) := ok_iload_n (by decide +kernel : decode cX12_module_ 15 = .ok (.iload_n 3, 1)) rfl
theorem o270_16 : Okp RX12 cX12_module_ 5 (some .int) "module" false 16 (sSw [(0, 48), (1, 55), (2, 62), (3, 69)] 76) := ok_tsw (by decide +kernel : decode cX12_module_ 16 = .ok (.tableswitch 60 0 3 #[32, 39, 46, 53], 32)) (by decide) (by decide) (by decide)
theorem o270_48 : Okp RX12 cX12_module_ 5 (some .int) "module" false 48 (sLR 0 49) := ok_aload_n (by decide +kernel : decode cX12_module_ 48 = .ok (.aload_n 0, 1)) rfl
theorem o270_49 : Okp RX12 cX12_module_ 5 (some .int) "module" false 49 (sGR 13 5 52) := ok_getR (by decide +kernel : decode cX12_module_ 49 = .ok (.getfield 20, 3)) fw_X12_20 rfl
theorem o270_52 : Okp RX12 cX12_module_ 5 (some .int) "module" false 52 (sLI 1 53) := ok_iload_n (by decide +kernel : decode cX12_module_ 52 = .ok (.iload_n 1, 1)) rfl
theorem o270_53 : Okp RX12 cX12_module_ 5 (some .int) "module" false 53 (sIA 54) := ok_iaload (by decide +kernel : decode cX12_module_ 53 = .ok (.iaload, 1))
theorem o270_54 : Okp RX12 cX12_module_ 5 (some .int) "module" false 54 sRI := ok_iret rfl (by decide +kernel : decode cX12_module_ 54 = .ok (.ireturn, 1))
theorem o270_55 : Okp RX12 cX12_module_ 5 (some .int) "module" false 55 (sLR 0 56) := ok_aload_n (by decide +kernel : decode cX12_module_ 55 = .ok (.aload_n 0, 1)) rfl
theorem o270_56 : Okp RX12 cX12_module_ 5 (some .int) "module" false 56 (sGR 13 6 59) := ok_getR (by decide +kernel : decode cX12_module_ 56 = .ok (.getfield 23, 3)) fw_X12_23 rfl
theorem o270_59 : Okp RX12 cX12_module_ 5 (some .int) "module" false 59 (sLI 1 60) := ok_iload_n (by decide +kernel : decode cX12_module_ 59 = .ok (.iload_n 1, 1)) rfl
theorem o270_60 : Okp RX12 cX12_module_ 5 (some .int) "module" false 60 (sIA 61) := ok_iaload (by decide +kernel : decode cX12_module_ 60 = .ok (.iaload, 1))
theorem o270_61 : Okp RX12 cX12_module_ 5 (some .int) "module" false 61 sRI := ok_iret rfl (by decide +kernel : decode cX12_module_ 61 = .ok (.ireturn, 1))
theorem o270_62 : Okp RX12 cX12_module_ 5 (some .int) "module" false 62 (sLR 0 63) := ok_aload_n (by decide +kernel : decode cX12_module_ 62 = .ok (.aload_n 0, 1)) rfl
theorem o270_63 : Okp RX12 cX12_module_ 5 (some .int) "module" false 63 (sGR 13 7 66) := ok_getR (by decide +kernel : decode cX12_module_ 63 = .ok (.getfield 26, 3)) fw_X12_26 rfl
theorem o270_66 : Okp RX12 cX12_module_ 5 (some .int) "module" false 66 (sLI 1 67) := ok_iload_n (by decide +kernel : decode cX12_module_ 66 = .ok (.iload_n 1, 1)) rfl
theorem o270_67 : Okp RX12 cX12_module_ 5 (some .int) "module" false 67 (sIA 68) := ok_iaload (by decide +kernel : decode cX12_module_ 67 = .ok (.iaload, 1))
theorem o270_68 : Okp RX12 cX12_module_ 5 (some .int) "module" false 68 sRI := ok_iret rfl (by decide +kernel : decode cX12_module_ 68 = .ok (.ireturn, 1))
theorem o270_69 : Okp RX12 cX12_module_ 5 (some .int) "module" false 69 (sLR 0 70) := ok_aload_n (by decide +kernel : decode cX12_module_ 69 = .ok (.aload_n 0, 1)) rfl
theorem o270_70 : Okp RX12 cX12_module_ 5 (some .int) "module" false 70 (sGR 13 4 73) := ok_getR (by decide +kernel : decode cX12_module_ 70 = .ok (.getfield 16, 3)) fw_X12_16 rfl
theorem o270_73 : Okp RX12 cX12_module_ 5 (some .int) "module" false 73 (sLI 1 74) := ok_iload_n (by decide +kernel : decode cX12_module_ 73 = .ok (.iload_n 1, 1)) rfl
theorem o270_74 : Okp RX12 cX12_module_ 5 (some .int) "module" false 74 (sIA 75) := ok_iaload (by decide +kernel : decode cX12_module_ 74 = .ok (.iaload, 1))
theorem o270_75 : Okp RX12 cX12_module_ 5 (some .int) "module" false 75 sRI := ok_iret rfl (by decide +kernel : decode cX12_module_ 75 = .ok (.ireturn, 1))
theorem o270_76 : Okp RX12 cX12_module_ 5 (some .int) "module" false 76 (sLI 2 77) := ok_iload_n (by decide +kernel : decode cX12_module_ 76 = .ok (.iload_n 2, 1)) rfl
theorem o270_77 : Okp RX12 cX12_module_ 5 (some .int) "module" false 77 (sI1 2 90 80) := ok_if_lt (by decide +kernel : decode cX12_module_ 77 = .ok (.ifCond .lt 13, 3)) (by decide)
theorem o270_80 : Okp RX12 cX12_module_ 5 (some .int) "module" false 80 (sLI 2 81) := ok_iload_n (by decide +kernel : decode cX12_module_ 80 = .ok (.iload_n 2, 1)) rfl
theorem o270_81 : Okp RX12 cX12_module_ 5 (some .int) "module" false 81 (sLR 0 82) := ok_aload_n (by decide +kernel : decode cX12_module_ 81 = .ok (.aload_n 0, 1)) rfl
theorem o270_82 : Okp RX12 cX12_module_ 5 (some .int) "module" false 82 (sGR 13 7 85) := ok_getR (by decide +kernel : decode cX12_module_ 82 = .ok (.getfield 26, 3)) fw_X12_26 rfl
theorem o270_85 : Okp RX12 cX12_module_ 5 (some .int) "module" false 85 (sLI 1 86) := ok_iload_n (by decide +kernel : decode cX12_module_ 85 = .ok (.iload_n 1, 1)) rfl
theorem o270_86 : Okp RX12 cX12_module_ 5 (some .int) "module" false 86 (sIA 87) := ok_iaload (by decide +kernel : decode cX12_module_ 86 = .ok (.iaload, 1))
theorem o270_87 : Okp RX12 cX12_module_ 5 (some .int) "module" false 87 (sI2 2 92 90) := ok_icmp_lt (by decide +kernel : decode cX12_module_ 87 = .ok (.if_icmp .lt 5, 3)) (by decide)
theorem o270_90 : Okp RX12 cX12_module_ 5 (some .int) "module" false 90 (sK (-1) 91) := ok_iconst (by decide +kernel : decode cX12_module_ 90 = .ok (.iconst (-1), 1)) (by decide)
theorem o270_91 : Okp RX12 cX12_module_ 5 (some .int) "module" false 91 sRI := ok_iret rfl (by decide +kernel : decode cX12_module_ 91 = .ok (.ireturn, 1))
theorem o270_92 : Okp RX12 cX12_module_ 5 (some .int) "module" false 92 (sK 10 94) := ok_bipush (by decide +kernel : decode cX12_module_ 92 = .ok (.bipush 10, 2)) (by decide)
theorem o270_94 : Okp RX12 cX12_module_ 5 (some .int) "module" false 94 (sLI 1 95) := ok_iload_n (by decide +kernel : decode cX12_module_ 94 = .ok (.iload_n 1, 1)) rfl
theorem o270_95 : Okp RX12 cX12_module_ 5 (some .int) "module" false 95 (sB2 fMul 96) := ok_imul (by decide +kernel : decode cX12_module_ 95 = .ok (.imul, 1))
theorem o270_96 : Okp RX12 cX12_module_ 5 (some .int) "module" false 96 (sLI 2 97) := ok_iload_n (by decide +kernel : decode cX12_module_ 96 = .ok (.iload_n 2, 1)) rfl
theorem o270_97 : Okp RX12 cX12_module_ 5 (some .int) "module" false 97 (sB2 fAdd 98) := ok_iadd (by decide +kernel : decode cX12_module_ 97 = .ok (.iadd, 1))
theorem o270_98 : Okp RX12 cX12_module_ 5 (some .int) "module" false 98 (sSI 4 100) := ok_istore (by decide +kernel : decode cX12_module_ 98 = .ok (.istore 4, 2)) (by decide) (by decide)
theorem o270_100 : Okp RX12 cX12_module_ 5 (some .int) "module" false 100 (sLI 3 101) := ok_iload_n (by decide +kernel : decode cX12_module_ 100 = .ok (.iload_n 3, 1)) rfl
theorem o270_101 : Okp RX12 cX12_module_ 5 (some .int) "module" false 101 (sSw [(10, 136), (11, 144), (12, 152), (13, 160), (14, 168)] 176) := ok_tsw (by decide +kernel : decode cX12_module_ 101 = .ok (.tableswitch 75 10 14 #[35, 43, 51, 59, 67], 35)) (by decide) (by decide) (by decide)
theorem o270_136 : Okp RX12 cX12_module_ 5 (some .int) "module" false 136 (sLR 0 137) := ok_aload_n (by decide +kernel : decode cX12_module_ 136 = .ok (.aload_n 0, 1)) rfl
theorem o270_137 : Okp RX12 cX12_module_ 5 (some .int) "module" false 137 (sGR 13 16 140) := ok_getR (by decide +kernel : decode cX12_module_ 137 = .ok (.getfield 54, 3)) fw_X12_54 rfl
theorem o270_140 : Okp RX12 cX12_module_ 5 (some .int) "module" false 140 (sLI 4 142) := ok_iload (by decide +kernel : decode cX12_module_ 140 = .ok (.iload 4, 2))
theorem o270_142 : Okp RX12 cX12_module_ 5 (some .int) "module" false 142 (sIA 143) := ok_iaload (by decide +kernel : decode cX12_module_ 142 = .ok (.iaload, 1))
theorem o270_143 : Okp RX12 cX12_module_ 5 (some .int) "module" false 143 sRI := ok_iret rfl (by decide +kernel : decode cX12_module_ 143 = .ok (.ireturn, 1))
theorem o270_144 : Okp RX12 cX12_module_ 5 (some .int) "module" false 144 (sLR 0 145) := ok_aload_n (by decide +kernel : decode cX12_module_ 144 = .ok (.aload_n 0, 1)) rfl
theorem o270_145 : Okp RX12 cX12_module_ 5 (some .int) "module" false 145 (sGR 13 19 148) := ok_getR (by decide +kernel : decode cX12_module_ 145 = .ok (.getfield 63, 3)) fw_X12_63 rfl
theorem o270_148 : Okp RX12 cX12_module_ 5 (some .int) "module" false 148 (sLI 4 150) := ok_iload (by decide +kernel : decode cX12_module_ 148 = .ok (.iload 4, 2))
theorem o270_150 : Okp RX12 cX12_module_ 5 (some .int) "module" false 150 (sIA 151) := ok_iaload (by decide +kernel : decode cX12_module_ 150 = .ok (.iaload, 1))
theorem o270_151 : Okp RX12 cX12_module_ 5 (some .int) "module" false 151 sRI := ok_iret rfl (by decide +kernel : decode cX12_module_ 151 = .ok (.ireturn, 1))
theorem o270_152 : Okp RX12 cX12_module_ 5 (some .int) "module" false 152 (sLR 0 153) := ok_aload_n (by decide +kernel : decode cX12_module_ 152 = .ok (.aload_n 0, 1)) rfl
theorem o270_153 : Okp RX12 cX12_module_ 5 (some .int) "module" false 153 (sGR 13 20 156) := ok_getR (by decide +kernel : decode cX12_module_ 153 = .ok (.getfield 66, 3)) fw_X12_66 rfl
theorem o270_156 : Okp RX12 cX12_module_ 5 (some .int) "module" false 156 (sLI 4 158) := ok_iload (by decide +kernel : decode cX12_module_ 156 = .ok (.iload 4, 2))
theorem o270_158 : Okp RX12 cX12_module_ 5 (some .int) "module" false 158 (sIA 159) := ok_iaload (by decide +kernel : decode cX12_module_ 158 = .ok (.iaload, 1))
theorem o270_159 : Okp RX12 cX12_module_ 5 (some .int) "module" false 159 sRI := ok_iret rfl (by decide +kernel : decode cX12_module_ 159 = .ok (.ireturn, 1))
theorem o270_160 : Okp RX12 cX12_module_ 5 (some .int) "module" false 160 (sLR 0 161) := ok_aload_n (by decide +kernel : decode cX12_module_ 160 = .ok (.aload_n 0, 1)) rfl
theorem o270_161 : Okp RX12 cX12_module_ 5 (some .int) "module" false 161 (sGR 13 21 164) := ok_getR (by decide +kernel : decode cX12_module_ 161 = .ok (.getfield 69, 3)) fw_X12_69 rfl
theorem o270_164 : Okp RX12 cX12_module_ 5 (some .int) "module" false 164 (sLI 4 166) := ok_iload (by decide +kernel : decode cX12_module_ 164 = .ok (.iload 4, 2))
theorem o270_166 : Okp RX12 cX12_module_ 5 (some .int) "module" false 166 (sIA 167) := ok_iaload (by decide +kernel : decode cX12_module_ 166 = .ok (.iaload, 1))
theorem o270_167 : Okp RX12 cX12_module_ 5 (some .int) "module" false 167 sRI := ok_iret rfl (by decide +kernel : decode cX12_module_ 167 = .ok (.ireturn, 1))
theorem o270_168 : Okp RX12 cX12_module_ 5 (some .int) "module" false 168 (sLR 0 169) := ok_aload_n (by decide +kernel : decode cX12_module_ 168 = .ok (.aload_n 0, 1)) rfl
theorem o270_169 : Okp RX12 cX12_module_ 5 (some .int) "module" false 169 (sLI 1 170) := ok_iload_n (by decide +kernel : decode cX12_module_ 169 = .ok (.iload_n 1, 1)) rfl
theorem o270_170 : Okp RX12 cX12_module_ 5 (some .int) "module" false 170 (sLI 4 172) := ok_iload (by decide +kernel : decode cX12_module_ 170 = .ok (.iload 4, 2))
theorem o270_172 : Okp RX12 cX12_module_ 5 (some .int) "module" false 172 (sCV false 271 3 13 175) := ok_cv (by decide +kernel : decode cX12_module_ 172 = .ok (.invokevirtual 424, 3)) mw_X12_424 rfl (by decide) wm_X12_highest wse_X12_highest (by decide) rfl
theorem o270_175 : Okp RX12 cX12_module_ 5 (some .int) "module" false 175 sRI := ok_iret rfl (by decide +kernel : decode cX12_module_ 175 = .ok (.ireturn, 1))
theorem o270_176 : Okp RX12 cX12_module_ 5 (some .int) "module" false 176 (sK (-1) 177) := ok_iconst (by decide +kernel : decode cX12_module_ 176 = .ok (.iconst (-1), 1)) (by decide)
theorem o270_177 : Okp RX12 cX12_module_ 5 (some .int) "module" false 177 sRI := ok_iret rfl (by decide +kernel : decode cX12_module_ 177 = .ok (.ireturn, 1))
theorem oc270_0 : ∀ pc, Mnp (c270_0 pc) ∧ Okp RX12 cX12_module_ 5 (some .int) "module" false pc (c270_0 pc) := by
  intro pc
  unfold c270_0
  split
  · exact ⟨mn_sLR, o270_0⟩
  · exact ⟨mn_sK, o270_1⟩
  · exact ⟨mn_sPI, o270_2⟩
  · exact ⟨mn_sLR, o270_5⟩
  · exact ⟨mn_sLI, o270_6⟩
  · exact ⟨mn_sCV, o270_7⟩
  · exact ⟨mn_sI1, o270_10⟩
  · exact ⟨mn_sK, o270_13⟩
  · exact ⟨mn_sRI, o270_14⟩
  · exact ⟨mn_sLI, o270_15⟩
  · exact ⟨mn_sSw, o270_16⟩
  · exact ⟨mn_sX, ok_X⟩
theorem oc270_2 : ∀ pc, Mnp (c270_2 pc) ∧ Okp RX12 cX12_module_ 5 (some .int) "module" false pc (c270_2 pc) := by
  intro pc
  unfold c270_2
  split
  · exact ⟨mn_sLR, o270_48⟩
  · exact ⟨mn_sGR, o270_49⟩
  · exact ⟨mn_sLI, o270_52⟩
  · exact ⟨mn_sIA, o270_53⟩
  · exact ⟨mn_sRI, o270_54⟩
  · exact ⟨mn_sLR, o270_55⟩
  · exact ⟨mn_sGR, o270_56⟩
  · exact ⟨mn_sLI, o270_59⟩
  · exact ⟨mn_sIA, o270_60⟩
  · exact ⟨mn_sRI, o270_61⟩
  · exact ⟨mn_sLR, o270_62⟩
  · exact ⟨mn_sGR, o270_63⟩
  · exact ⟨mn_sLI, o270_66⟩
  · exact ⟨mn_sIA, o270_67⟩
  · exact ⟨mn_sRI, o270_68⟩
  · exact ⟨mn_sLR, o270_69⟩
  · exact ⟨mn_sGR, o270_70⟩
  · exact ⟨mn_sX, ok_X⟩
theorem oc270_3 : ∀ pc, Mnp (c270_3 pc) ∧ Okp RX12 cX12_module_ 5 (some .int) "module" false pc (c270_3 pc) := by
  intro pc
  unfold c270_3
  split
  · exact ⟨mn_sLI, o270_73⟩
  · exact ⟨mn_sIA, o270_74⟩
  · exact ⟨mn_sRI, o270_75⟩
  · exact ⟨mn_sLI, o270_76⟩
  · exact ⟨mn_sI1, o270_77⟩
  · exact ⟨mn_sLI, o270_80⟩
  · exact ⟨mn_sLR, o270_81⟩
  · exact ⟨mn_sGR, o270_82⟩
  · exact ⟨mn_sLI, o270_85⟩
  · exact ⟨mn_sIA, o270_86⟩
  · exact ⟨mn_sI2, o270_87⟩
  · exact ⟨mn_sK, o270_90⟩
  · exact ⟨mn_sRI, o270_91⟩
  · exact ⟨mn_sK, o270_92⟩
  · exact ⟨mn_sLI, o270_94⟩
  · exact ⟨mn_sB2, o270_95⟩
  · exact ⟨mn_sX, ok_X⟩
theorem oc270_4 : ∀ pc, Mnp (c270_4 pc) ∧ Okp RX12 cX12_module_ 5 (some .int) "module" false pc (c270_4 pc) := by
  intro pc
  unfold c270_4
  split
  · exact ⟨mn_sLI, o270_96⟩
  · exact ⟨mn_sB2, o270_97⟩
  · exact ⟨mn_sSI, o270_98⟩
  · exact ⟨mn_sLI, o270_100⟩
  · exact ⟨mn_sSw, o270_101⟩
  · exact ⟨mn_sX, ok_X⟩
theorem oc270_5 : ∀ pc, Mnp (c270_5 pc) ∧ Okp RX12 cX12_module_ 5 (some .int) "module" false pc (c270_5 pc) := by
  intro pc
  unfold c270_5
  split
  · exact ⟨mn_sLR, o270_136⟩
  · exact ⟨mn_sGR, o270_137⟩
  · exact ⟨mn_sLI, o270_140⟩
  · exact ⟨mn_sIA, o270_142⟩
  · exact ⟨mn_sRI, o270_143⟩
  · exact ⟨mn_sX, ok_X⟩
theorem oc270_6 : ∀ pc, Mnp (c270_6 pc) ∧ Okp RX12 cX12_module_ 5 (some .int) "module" false pc (c270_6 pc) := by
  intro pc
  unfold c270_6
  split
  · exact ⟨mn_sLR, o270_144⟩
  · exact ⟨mn_sGR, o270_145⟩
  · exact ⟨mn_sLI, o270_148⟩
  · exact ⟨mn_sIA, o270_150⟩
  · exact ⟨mn_sRI, o270_151⟩
  · exact ⟨mn_sLR, o270_152⟩
  · exact ⟨mn_sGR, o270_153⟩
  · exact ⟨mn_sLI, o270_156⟩
  · exact ⟨mn_sIA, o270_158⟩
  · exact ⟨mn_sRI, o270_159⟩
  · exact ⟨mn_sLR, o270_160⟩
  · exact ⟨mn_sGR, o270_161⟩
  · exact ⟨mn_sLI, o270_164⟩
  · exact ⟨mn_sIA, o270_166⟩
  · exact ⟨mn_sRI, o270_167⟩
  · exact ⟨mn_sX, ok_X⟩
theorem oc270_7 : ∀ pc, Mnp (c270_7 pc) ∧ Okp RX12 cX12_module_ 5 (some .int) "module" false pc (c270_7 pc) := by
  intro pc
  unfold c270_7
  split
  · exact ⟨mn_sLR, o270_168⟩
  · exact ⟨mn_sLI, o270_169⟩
  · exact ⟨mn_sLI, o270_170⟩
  · exact ⟨mn_sCV, o270_172⟩
  · exact ⟨mn_sRI, o270_175⟩
  · exact ⟨mn_sK, o270_176⟩
  · exact ⟨mn_sRI, o270_177⟩
  · exact ⟨mn_sX, ok_X⟩
theorem oc270 : ∀ pc, Mnp (c270 pc) ∧ Okp RX12 cX12_module_ 5 (some .int) "module" false pc (c270 pc) := by
  intro pc
  unfold c270
  split
  · exact oc270_0 pc
  · exact oc270_2 pc
  · exact oc270_3 pc
  · exact oc270_4 pc
  · exact oc270_5 pc
  · exact oc270_6 pc
  · exact oc270_7 pc
  · exact ⟨mn_sX, ok_X⟩
theorem o271_0 : Okp RX12 cX12_highest 6 (some .int) "highest" false 0 (sLR 0 1) := ok_aload_n (by decide +kernel : decode cX12_highest 0 = .ok (.aload_n 0, 1)) rfl
theorem o271_1 : Okp RX12 cX12_highest 6 (some .int) "highest" false 1 (sLI 1 2) := ok_iload_n (by decide +kernel : decode cX12_highest 1 = .ok (.iload_n 1, 1)) rfl
theorem o271_2 : Okp RX12 cX12_highest 6 (some .int) "highest" false 2 (sLI 2 3) := ok_iload_n (by decide +kernel : decode cX12_highest 2 = .ok (.iload_n 2, 1)) rfl
theorem o271_3 : Okp RX12 cX12_highest 6 (some .int) "highest" false 3 (sCV false 243 3 13 6) := ok_cv (by decide +kernel : decode cX12_highest 3 = .ok (.invokevirtual 411, 3)) mw_X12_411 rfl (by decide) wm_X12_right wse_X12_right (by decide) rfl
theorem o271_6 : Okp RX12 cX12_highest 6 (some .int) "highest" false 6 (sSI 3 7) := ok_istore_n (by decide +kernel : decode cX12_highest 6 = .ok (.istore_n 3, 1)) rfl (by decide) (by decide)
theorem o271_7 : Okp RX12 cX12_highest 6 (some .int) "highest" false 7 (sK 0 8) := ok_iconst (by decide +kernel : decode cX12_highest 7 = .ok (.iconst 0, 1)) (by decide)
theorem o271_8 : Okp RX12 cX12_highest 6 (some .int) "highest" false 8 (sSI 4 10) := ok_istore (by decide +kernel : decode cX12_highest 8 = .ok (.istore 4, 2)) (by decide) (by decide)
theorem o271_10 : Okp RX12 cX12_highest 6 (some .int) "highest" false 10 (sK 0 11) := ok_iconst (by decide +kernel : decode cX12_highest 10 = .ok (.iconst 0, 1)) (by decide)
theorem o271_11 : Okp RX12 cX12_highest 6 (some .int) "highest" false 11 (sSI 5 13) := ok_istore (by decide +kernel : decode cX12_highest 11 = .ok (.istore 5, 2)) (by decide) (by decide)
theorem o271_13 : Okp RX12 cX12_highest 6 (some .int) "highest" false 13 (sLI 5 15) := ok_iload (by decide +kernel : decode cX12_highest 13 = .ok (.iload 5, 2))
theorem o271_15 : Okp RX12 cX12_highest 6 (some .int) "highest" false 15 (sLR 0 16) := ok_aload_n (by decide +kernel : decode cX12_highest 15 = .ok (.aload_n 0, 1)) rfl
theorem o271_16 : Okp RX12 cX12_highest 6 (some .int) "highest" false 16 (sGR 13 20 19) := ok_getR (by decide +kernel : decode cX12_highest 16 = .ok (.getfield 66, 3)) fw_X12_66 rfl
theorem o271_19 : Okp RX12 cX12_highest 6 (some .int) "highest" false 19 (sLI 2 20) := ok_iload_n (by decide +kernel : decode cX12_highest 19 = .ok (.iload_n 2, 1)) rfl
theorem o271_20 : Okp RX12 cX12_highest 6 (some .int) "highest" false 20 (sIA 21) := ok_iaload (by decide +kernel : decode cX12_highest 20 = .ok (.iaload, 1))
theorem o271_21 : Okp RX12 cX12_highest 6 (some .int) "highest" false 21 (sI2 3 54 24) := ok_icmp_ge (by decide +kernel : decode cX12_highest 21 = .ok (.if_icmp .ge 33, 3)) (by decide)
theorem o271_24 : Okp RX12 cX12_highest 6 (some .int) "highest" false 24 (sLR 0 25) := ok_aload_n (by decide +kernel : decode cX12_highest 24 = .ok (.aload_n 0, 1)) rfl
theorem o271_25 : Okp RX12 cX12_highest 6 (some .int) "highest" false 25 (sGR 13 29 28) := ok_getR (by decide +kernel : decode cX12_highest 25 = .ok (.getfield 83, 3)) fw_X12_83 rfl
theorem o271_28 : Okp RX12 cX12_highest 6 (some .int) "highest" false 28 (sLI 5 30) := ok_iload (by decide +kernel : decode cX12_highest 28 = .ok (.iload 5, 2))
theorem o271_30 : Okp RX12 cX12_highest 6 (some .int) "highest" false 30 (sBA 31) := ok_baload (by decide +kernel : decode cX12_highest 30 = .ok (.baload, 1))
theorem o271_31 : Okp RX12 cX12_highest 6 (some .int) "highest" false 31 (sI1 0 48 34) := ok_if_eq (by decide +kernel : decode cX12_highest 31 = .ok (.ifCond .eq 17, 3)) (by decide)
theorem o271_34 : Okp RX12 cX12_highest 6 (some .int) "highest" false 34 (sLI 4 36) := ok_iload (by decide +kernel : decode cX12_highest 34 = .ok (.iload 4, 2))
theorem o271_36 : Okp RX12 cX12_highest 6 (some .int) "highest" false 36 (sLR 0 37) := ok_aload_n (by decide +kernel : decode cX12_highest 36 = .ok (.aload_n 0, 1)) rfl
theorem o271_37 : Okp RX12 cX12_highest 6 (some .int) "highest" false 37 (sGR 13 30 40) := ok_getR (by decide +kernel : decode cX12_highest 37 = .ok (.getfield 86, 3)) fw_X12_86 rfl
theorem o271_40 : Okp RX12 cX12_highest 6 (some .int) "highest" false 40 (sLI 5 42) := ok_iload (by decide +kernel : decode cX12_highest 40 = .ok (.iload 5, 2))
theorem o271_42 : Okp RX12 cX12_highest 6 (some .int) "highest" false 42 (sIA 43) := ok_iaload (by decide +kernel : decode cX12_highest 42 = .ok (.iaload, 1))
theorem o271_43 : Okp RX12 cX12_highest 6 (some .int) "highest" false 43 (sM2 fMax 46) := ok_max (by decide +kernel : decode cX12_highest 43 = .ok (.invokestatic 427, 3)) wq_X12_427 wq_smax wq_im wq_cmax
theorem o271_46 : Okp RX12 cX12_highest 6 (some .int) "highest" false 46 (sSI 4 48) := ok_istore (by decide +kernel : decode cX12_highest 46 = .ok (.istore 4, 2)) (by decide) (by decide)
theorem o271_48 : Okp RX12 cX12_highest 6 (some .int) "highest" false 48 (sInc 5 1 51) := ok_iinc (by decide +kernel : decode cX12_highest 48 = .ok (.iinc 5 1, 3)) (by decide) (by decide)
theorem o271_51 : Okp RX12 cX12_highest 6 (some .int) "highest" false 51 (sGo 13) := ok_goto (by decide +kernel : decode cX12_highest 51 = .ok (.goto (-38), 3)) (by decide)
theorem o271_54 : Okp RX12 cX12_highest 6 (some .int) "highest" false 54 (sLI 4 56) := ok_iload (by decide +kernel : decode cX12_highest 54 = .ok (.iload 4, 2))
theorem o271_56 : Okp RX12 cX12_highest 6 (some .int) "highest" false 56 sRI := ok_iret rfl (by decide +kernel : decode cX12_highest 56 = .ok (.ireturn, 1))
theorem oc271_0 : ∀ pc, Mnp (c271_0 pc) ∧ Okp RX12 cX12_highest 6 (some .int) "highest" false pc (c271_0 pc) := by
  intro pc
  unfold c271_0
  split
  · exact ⟨mn_sLR, o271_0⟩
  · exact ⟨mn_sLI, o271_1⟩
  · exact ⟨mn_sLI, o271_2⟩
  · exact ⟨mn_sCV, o271_3⟩
  · exact ⟨mn_sSI, o271_6⟩
  · exact ⟨mn_sK, o271_7⟩
  · exact ⟨mn_sSI, o271_8⟩
  · exact ⟨mn_sK, o271_10⟩
  · exact ⟨mn_sSI, o271_11⟩
  · exact ⟨mn_sLI, o271_13⟩
  · exact ⟨mn_sLR, o271_15⟩
  · exact ⟨mn_sGR, o271_16⟩
  · exact ⟨mn_sLI, o271_19⟩
  · exact ⟨mn_sIA, o271_20⟩
  · exact ⟨mn_sI2, o271_21⟩
  · exact ⟨mn_sX, ok_X⟩
theorem oc271_1 : ∀ pc, Mnp (c271_1 pc) ∧ Okp RX12 cX12_highest 6 (some .int) "highest" false pc (c271_1 pc) := by
  intro pc
  unfold c271_1
  split
  · exact ⟨mn_sLR, o271_24⟩
  · exact ⟨mn_sGR, o271_25⟩
  · exact ⟨mn_sLI, o271_28⟩
  · exact ⟨mn_sBA, o271_30⟩
  · exact ⟨mn_sI1, o271_31⟩
  · exact ⟨mn_sLI, o271_34⟩
  · exact ⟨mn_sLR, o271_36⟩
  · exact ⟨mn_sGR, o271_37⟩
  · exact ⟨mn_sLI, o271_40⟩
  · exact ⟨mn_sIA, o271_42⟩
  · exact ⟨mn_sM2, o271_43⟩
  · exact ⟨mn_sSI, o271_46⟩
  · exact ⟨mn_sX, ok_X⟩
theorem oc271_2 : ∀ pc, Mnp (c271_2 pc) ∧ Okp RX12 cX12_highest 6 (some .int) "highest" false pc (c271_2 pc) := by
  intro pc
  unfold c271_2
  split
  · exact ⟨mn_sInc, o271_48⟩
  · exact ⟨mn_sGo, o271_51⟩
  · exact ⟨mn_sLI, o271_54⟩
  · exact ⟨mn_sRI, o271_56⟩
  · exact ⟨mn_sX, ok_X⟩
theorem oc271 : ∀ pc, Mnp (c271 pc) ∧ Okp RX12 cX12_highest 6 (some .int) "highest" false pc (c271 pc) := by
  intro pc
  unfold c271
  split
  · exact oc271_0 pc
  · exact oc271_1 pc
  · exact oc271_2 pc
  · exact ⟨mn_sX, ok_X⟩
theorem o272_0 : Okp RX12 cX12_typeAt 7 (some .int) "typeAt" false 0 (sLR 0 1) := ok_aload_n (by decide +kernel : decode cX12_typeAt 0 = .ok (.aload_n 0, 1)) rfl
theorem o272_1 : Okp RX12 cX12_typeAt 7 (some .int) "typeAt" false 1 (sK 0 2) := ok_iconst (by decide +kernel : decode cX12_typeAt 1 = .ok (.iconst 0, 1)) (by decide)
theorem o272_2 : Okp RX12 cX12_typeAt 7 (some .int) "typeAt" false 2 (sPI 13 0 5) := ok_putI (by decide +kernel : decode cX12_typeAt 2 = .ok (.putfield 227, 3)) fw_X12_227 ⟨⟨tyX12_ok, nmX12⟩, Or.inl rfl, rfl⟩ rfl
theorem o272_5 : Okp RX12 cX12_typeAt 7 (some .int) "typeAt" false 5 (sLR 0 6) := ok_aload_n (by decide +kernel : decode cX12_typeAt 5 = .ok (.aload_n 0, 1)) rfl
theorem o272_6 : Okp RX12 cX12_typeAt 7 (some .int) "typeAt" false 6 (sLI 1 7) := ok_iload_n (by decide +kernel : decode cX12_typeAt 6 = .ok (.iload_n 1, 1)) rfl
theorem o272_7 : Okp RX12 cX12_typeAt 7 (some .int) "typeAt" false 7 (sCV false 268 2 13 10) := ok_cv (by decide +kernel : decode cX12_typeAt 7 = .ok (.invokevirtual 421, 3)) mw_X12_421 rfl (by decide) wm_X12_isModule wse_X12_isModule (by decide) rfl
theorem o272_10 : Okp RX12 cX12_typeAt 7 (some .int) "typeAt" false 10 (sI1 0 62 13) := ok_if_eq (by decide +kernel : decode cX12_typeAt 10 = .ok (.ifCond .eq 52, 3)) (by decide)
theorem o272_13 : Okp RX12 cX12_typeAt 7 (some .int) "typeAt" false 13 (sLI 2 14) := ok_iload_n (by decide +kernel : decode cX12_typeAt 13 = .ok (.iload_n 2, 1)) rfl
theorem o272_14 : Okp RX12 cX12_typeAt 7 (some .int) "typeAt" false 14 (sI1 2 62 17) := ok_if_lt (by decide +kernel : decode cX12_typeAt 14 = .ok (.ifCond .lt 48, 3)) (by decide)
theorem o272_17 : Okp RX12 cX12_typeAt 7 (some .int) "typeAt" false 17 (sLI 2 18) := ok_iload_n (by decide +kernel : decode cX12_typeAt 17 = .ok (.iload_n 2, 1)) rfl
theorem o272_18 : Okp RX12 cX12_typeAt 7 (some .int) "typeAt" false 18 (sLR 0 19) := ok_aload_n (by decide +kernel : decode cX12_typeAt 18 = .ok (.aload_n 0, 1)) rfl
theorem o272_19 : Okp RX12 cX12_typeAt 7 (some .int) "typeAt" false 19 (sGR 13 7 22) := ok_getR (by decide +kernel : decode cX12_typeAt 19 = .ok (.getfield 26, 3)) fw_X12_26 rfl
theorem o272_22 : Okp RX12 cX12_typeAt 7 (some .int) "typeAt" false 22 (sLI 1 23) := ok_iload_n (by decide +kernel : decode cX12_typeAt 22 = .ok (.iload_n 1, 1)) rfl
theorem o272_23 : Okp RX12 cX12_typeAt 7 (some .int) "typeAt" false 23 (sIA 24) := ok_iaload (by decide +kernel : decode cX12_typeAt 23 = .ok (.iaload, 1))
theorem o272_24 : Okp RX12 cX12_typeAt 7 (some .int) "typeAt" false 24 (sI2 3 62 27) := ok_icmp_ge (by decide +kernel : decode cX12_typeAt 24 = .ok (.if_icmp .ge 38, 3)) (by decide)
theorem o272_27 : Okp RX12 cX12_typeAt 7 (some .int) "typeAt" false 27 (sLI 3 28) := ok_iload_n (by decide +kernel : decode cX12_typeAt 27 = .ok (.iload_n 3, 1)) rfl
theorem o272_28 : Okp RX12 cX12_typeAt 7 (some .int) "typeAt" false 28 (sI1 2 62 31) := ok_if_lt (by decide +kernel : decode cX12_typeAt 28 = .ok (.ifCond .lt 34, 3)) (by decide)
theorem o272_31 : Okp RX12 cX12_typeAt 7 (some .int) "typeAt" false 31 (sLI 3 32) := ok_iload_n (by decide +kernel : decode cX12_typeAt 31 = .ok (.iload_n 3, 1)) rfl
theorem o272_32 : Okp RX12 cX12_typeAt 7 (some .int) "typeAt" false 32 (sLR 0 33) := ok_aload_n (by decide +kernel : decode cX12_typeAt 32 = .ok (.aload_n 0, 1)) rfl
theorem o272_33 : Okp RX12 cX12_typeAt 7 (some .int) "typeAt" false 33 (sGR 13 20 36) := ok_getR (by decide +kernel : decode cX12_typeAt 33 = .ok (.getfield 66, 3)) fw_X12_66 rfl
theorem o272_36 : Okp RX12 cX12_typeAt 7 (some .int) "typeAt" false 36 (sK 10 38) := ok_bipush (by decide +kernel : decode cX12_typeAt 36 = .ok (.bipush 10, 2)) (by decide)
theorem o272_38 : Okp RX12 cX12_typeAt 7 (some .int) "typeAt" false 38 (sLI 1 39) := ok_iload_n (by decide +kernel : decode cX12_typeAt 38 = .ok (.iload_n 1, 1)) rfl
theorem o272_39 : Okp RX12 cX12_typeAt 7 (some .int) "typeAt" false 39 (sB2 fMul 40) := ok_imul (by decide +kernel : decode cX12_typeAt 39 = .ok (.imul, 1))
theorem o272_40 : Okp RX12 cX12_typeAt 7 (some .int) "typeAt" false 40 (sLI 2 41) := ok_iload_n (by decide +kernel : decode cX12_typeAt 40 = .ok (.iload_n 2, 1)) rfl
theorem o272_41 : Okp RX12 cX12_typeAt 7 (some .int) "typeAt" false 41 (sB2 fAdd 42) := ok_iadd (by decide +kernel : decode cX12_typeAt 41 = .ok (.iadd, 1))
theorem o272_42 : Okp RX12 cX12_typeAt 7 (some .int) "typeAt" false 42 (sIA 43) := ok_iaload (by decide +kernel : decode cX12_typeAt 42 = .ok (.iaload, 1))
theorem o272_43 : Okp RX12 cX12_typeAt 7 (some .int) "typeAt" false 43 (sI2 3 62 46) := ok_icmp_ge (by decide +kernel : decode cX12_typeAt 43 = .ok (.if_icmp .ge 19, 3)) (by decide)
theorem o272_46 : Okp RX12 cX12_typeAt 7 (some .int) "typeAt" false 46 (sLI 5 48) := ok_iload (by decide +kernel : decode cX12_typeAt 46 = .ok (.iload 5, 2))
theorem o272_48 : Okp RX12 cX12_typeAt 7 (some .int) "typeAt" false 48 (sI1 2 62 51) := ok_if_lt (by decide +kernel : decode cX12_typeAt 48 = .ok (.ifCond .lt 14, 3)) (by decide)
theorem o272_51 : Okp RX12 cX12_typeAt 7 (some .int) "typeAt" false 51 (sLI 4 53) := ok_iload (by decide +kernel : decode cX12_typeAt 51 = .ok (.iload 4, 2))
theorem o272_53 : Okp RX12 cX12_typeAt 7 (some .int) "typeAt" false 53 (sI1 0 64 56) := ok_if_eq (by decide +kernel : decode cX12_typeAt 53 = .ok (.ifCond .eq 11, 3)) (by decide)
theorem o272_56 : Okp RX12 cX12_typeAt 7 (some .int) "typeAt" false 56 (sLI 4 58) := ok_iload (by decide +kernel : decode cX12_typeAt 56 = .ok (.iload 4, 2))
theorem o272_58 : Okp RX12 cX12_typeAt 7 (some .int) "typeAt" false 58 (sK 1 59) := ok_iconst (by decide +kernel : decode cX12_typeAt 58 = .ok (.iconst 1, 1)) (by decide)
theorem o272_59 : Okp RX12 cX12_typeAt 7 (some .int) "typeAt" false 59 (sI2 0 64 62) := ok_icmp_eq (by decide +kernel : decode cX12_typeAt 59 = .ok (.if_icmp .eq 5, 3)) (by decide)
theorem o272_62 : Okp RX12 cX12_typeAt 7 (some .int) "typeAt" false 62 (sK (-1) 63) := ok_iconst (by decide +kernel : decode cX12_typeAt 62 = .ok (.iconst (-1), 1)) (by decide)
theorem o272_63 : Okp RX12 cX12_typeAt 7 (some .int) "typeAt" false 63 sRI := ok_iret rfl (by decide +kernel : decode cX12_typeAt 63 = .ok (.ireturn, 1))
theorem o272_64 : Okp RX12 cX12_typeAt 7 (some .int) "typeAt" false 64 (sK 10 66) := ok_bipush (by decide +kernel : decode cX12_typeAt 64 = .ok (.bipush 10, 2)) (by decide)
theorem o272_66 : Okp RX12 cX12_typeAt 7 (some .int) "typeAt" false 66 (sLI 1 67) := ok_iload_n (by decide +kernel : decode cX12_typeAt 66 = .ok (.iload_n 1, 1)) rfl
theorem o272_67 : Okp RX12 cX12_typeAt 7 (some .int) "typeAt" false 67 (sB2 fMul 68) := ok_imul (by decide +kernel : decode cX12_typeAt 67 = .ok (.imul, 1))
theorem o272_68 : Okp RX12 cX12_typeAt 7 (some .int) "typeAt" false 68 (sLI 2 69) := ok_iload_n (by decide +kernel : decode cX12_typeAt 68 = .ok (.iload_n 2, 1)) rfl
theorem o272_69 : Okp RX12 cX12_typeAt 7 (some .int) "typeAt" false 69 (sB2 fAdd 70) := ok_iadd (by decide +kernel : decode cX12_typeAt 69 = .ok (.iadd, 1))
theorem o272_70 : Okp RX12 cX12_typeAt 7 (some .int) "typeAt" false 70 (sSI 6 72) := ok_istore (by decide +kernel : decode cX12_typeAt 70 = .ok (.istore 6, 2)) (by decide) (by decide)
theorem o272_72 : Okp RX12 cX12_typeAt 7 (some .int) "typeAt" false 72 (sLR 0 73) := ok_aload_n (by decide +kernel : decode cX12_typeAt 72 = .ok (.aload_n 0, 1)) rfl
theorem o272_73 : Okp RX12 cX12_typeAt 7 (some .int) "typeAt" false 73 (sLI 1 74) := ok_iload_n (by decide +kernel : decode cX12_typeAt 73 = .ok (.iload_n 1, 1)) rfl
theorem o272_74 : Okp RX12 cX12_typeAt 7 (some .int) "typeAt" false 74 (sLI 6 76) := ok_iload (by decide +kernel : decode cX12_typeAt 74 = .ok (.iload 6, 2))
theorem o272_76 : Okp RX12 cX12_typeAt 7 (some .int) "typeAt" false 76 (sCV false 243 3 13 79) := ok_cv (by decide +kernel : decode cX12_typeAt 76 = .ok (.invokevirtual 411, 3)) mw_X12_411 rfl (by decide) wm_X12_right wse_X12_right (by decide) rfl
theorem o272_79 : Okp RX12 cX12_typeAt 7 (some .int) "typeAt" false 79 (sI1 0 91 82) := ok_if_eq (by decide +kernel : decode cX12_typeAt 79 = .ok (.ifCond .eq 12, 3)) (by decide)
theorem o272_82 : Okp RX12 cX12_typeAt 7 (some .int) "typeAt" false 82 (sLR 0 83) := ok_aload_n (by decide +kernel : decode cX12_typeAt 82 = .ok (.aload_n 0, 1)) rfl
theorem o272_83 : Okp RX12 cX12_typeAt 7 (some .int) "typeAt" false 83 (sGR 13 29 86) := ok_getR (by decide +kernel : decode cX12_typeAt 83 = .ok (.getfield 83, 3)) fw_X12_83 rfl
theorem o272_86 : Okp RX12 cX12_typeAt 7 (some .int) "typeAt" false 86 (sLI 3 87) := ok_iload_n (by decide +kernel : decode cX12_typeAt 86 = .ok (.iload_n 3, 1)) rfl
theorem o272_87 : Okp RX12 cX12_typeAt 7 (some .int) "typeAt" false 87 (sBA 88) := ok_baload (by decide +kernel : decode cX12_typeAt 87 = .ok (.baload, 1))
theorem o272_88 : Okp RX12 cX12_typeAt 7 (some .int) "typeAt" false 88 (sI1 1 93 91) := ok_if_ne (by decide +kernel : decode cX12_typeAt 88 = .ok (.ifCond .ne 5, 3)) (by decide)
theorem o272_91 : Okp RX12 cX12_typeAt 7 (some .int) "typeAt" false 91 (sK (-1) 92) := ok_iconst (by decide +kernel : decode cX12_typeAt 91 = .ok (.iconst (-1), 1)) (by decide)
theorem o272_92 : Okp RX12 cX12_typeAt 7 (some .int) "typeAt" false 92 sRI := ok_iret rfl (by decide +kernel : decode cX12_typeAt 92 = .ok (.ireturn, 1))
theorem o272_93 : Okp RX12 cX12_typeAt 7 (some .int) "typeAt" false 93 (sLI 4 95) := ok_iload (by decide +kernel : decode cX12_typeAt 93 = .ok (.iload 4, 2))
theorem o272_95 : Okp RX12 cX12_typeAt 7 (some .int) "typeAt" false 95 (sI1 1 129 98) := ok_if_ne (by decide +kernel : decode cX12_typeAt 95 = .ok (.ifCond .ne 34, 3)) (by decide)
theorem o272_98 : Okp RX12 cX12_typeAt 7 (some .int) "typeAt" false 98 (sLI 5 100) := ok_iload (by decide +kernel : decode cX12_typeAt 98 = .ok (.iload 5, 2))
theorem o272_100 : Okp RX12 cX12_typeAt 7 (some .int) "typeAt" false 100 (sLR 0 101) := ok_aload_n (by decide +kernel : decode cX12_typeAt 100 = .ok (.aload_n 0, 1)) rfl
theorem o272_101 : Okp RX12 cX12_typeAt 7 (some .int) "typeAt" false 101 (sGR 13 30 104) := ok_getR (by decide +kernel : decode cX12_typeAt 101 = .ok (.getfield 86, 3)) fw_X12_86 rfl
theorem o272_104 : Okp RX12 cX12_typeAt 7 (some .int) "typeAt" false 104 (sLI 3 105) := ok_iload_n (by decide +kernel : decode cX12_typeAt 104 = .ok (.iload_n 3, 1)) rfl
theorem o272_105 : Okp RX12 cX12_typeAt 7 (some .int) "typeAt" false 105 (sIA 106) := ok_iaload (by decide +kernel : decode cX12_typeAt 105 = .ok (.iaload, 1))
theorem o272_106 : Okp RX12 cX12_typeAt 7 (some .int) "typeAt" false 106 (sI2 3 127 109) := ok_icmp_ge (by decide +kernel : decode cX12_typeAt 106 = .ok (.if_icmp .ge 21, 3)) (by decide)
theorem o272_109 : Okp RX12 cX12_typeAt 7 (some .int) "typeAt" false 109 (sLR 0 110) := ok_aload_n (by decide +kernel : decode cX12_typeAt 109 = .ok (.aload_n 0, 1)) rfl
theorem o272_110 : Okp RX12 cX12_typeAt 7 (some .int) "typeAt" false 110 (sGR 13 31 113) := ok_getR (by decide +kernel : decode cX12_typeAt 110 = .ok (.getfield 89, 3)) fw_X12_89 rfl
theorem o272_113 : Okp RX12 cX12_typeAt 7 (some .int) "typeAt" false 113 (sK 17 115) := ok_bipush (by decide +kernel : decode cX12_typeAt 113 = .ok (.bipush 17, 2)) (by decide)
theorem o272_115 : Okp RX12 cX12_typeAt 7 (some .int) "typeAt" false 115 (sLI 3 116) := ok_iload_n (by decide +kernel : decode cX12_typeAt 115 = .ok (.iload_n 3, 1)) rfl
theorem o272_116 : Okp RX12 cX12_typeAt 7 (some .int) "typeAt" false 116 (sB2 fMul 117) := ok_imul (by decide +kernel : decode cX12_typeAt 116 = .ok (.imul, 1))
theorem o272_117 : Okp RX12 cX12_typeAt 7 (some .int) "typeAt" false 117 (sLI 5 119) := ok_iload (by decide +kernel : decode cX12_typeAt 117 = .ok (.iload 5, 2))
theorem o272_119 : Okp RX12 cX12_typeAt 7 (some .int) "typeAt" false 119 (sB2 fAdd 120) := ok_iadd (by decide +kernel : decode cX12_typeAt 119 = .ok (.iadd, 1))
theorem o272_120 : Okp RX12 cX12_typeAt 7 (some .int) "typeAt" false 120 (sIA 121) := ok_iaload (by decide +kernel : decode cX12_typeAt 120 = .ok (.iaload, 1))
theorem o272_121 : Okp RX12 cX12_typeAt 7 (some .int) "typeAt" false 121 (sCS false 224 1 124) := ok_cs (by decide +kernel : decode cX12_typeAt 121 = .ok (.invokestatic 258, 3)) mw_X12_258 wt_X12_kind (by decide) rfl
theorem o272_124 : Okp RX12 cX12_typeAt 7 (some .int) "typeAt" false 124 (sGo 128) := ok_goto (by decide +kernel : decode cX12_typeAt 124 = .ok (.goto 4, 3)) (by decide)
theorem o272_127 : Okp RX12 cX12_typeAt 7 (some .int) "typeAt" false 127 (sK (-1) 128) := ok_iconst (by decide +kernel : decode cX12_typeAt 127 = .ok (.iconst (-1), 1)) (by decide)
theorem o272_128 : Okp RX12 cX12_typeAt 7 (some .int) "typeAt" false 128 sRI := ok_iret rfl (by decide +kernel : decode cX12_typeAt 128 = .ok (.ireturn, 1))
theorem o272_129 : Okp RX12 cX12_typeAt 7 (some .int) "typeAt" false 129 (sLI 5 131) := ok_iload (by decide +kernel : decode cX12_typeAt 129 = .ok (.iload 5, 2))
theorem o272_131 : Okp RX12 cX12_typeAt 7 (some .int) "typeAt" false 131 (sLR 0 132) := ok_aload_n (by decide +kernel : decode cX12_typeAt 131 = .ok (.aload_n 0, 1)) rfl
theorem o272_132 : Okp RX12 cX12_typeAt 7 (some .int) "typeAt" false 132 (sGR 13 19 135) := ok_getR (by decide +kernel : decode cX12_typeAt 132 = .ok (.getfield 63, 3)) fw_X12_63 rfl
theorem o272_135 : Okp RX12 cX12_typeAt 7 (some .int) "typeAt" false 135 (sLI 6 137) := ok_iload (by decide +kernel : decode cX12_typeAt 135 = .ok (.iload 6, 2))
theorem o272_137 : Okp RX12 cX12_typeAt 7 (some .int) "typeAt" false 137 (sIA 138) := ok_iaload (by decide +kernel : decode cX12_typeAt 137 = .ok (.iaload, 1))
theorem o272_138 : Okp RX12 cX12_typeAt 7 (some .int) "typeAt" false 138 (sI2 3 159 141) := ok_icmp_ge (by decide +kernel : decode cX12_typeAt 138 = .ok (.if_icmp .ge 21, 3)) (by decide)
theorem o272_141 : Okp RX12 cX12_typeAt 7 (some .int) "typeAt" false 141 (sLR 0 142) := ok_aload_n (by decide +kernel : decode cX12_typeAt 141 = .ok (.aload_n 0, 1)) rfl
theorem o272_142 : Okp RX12 cX12_typeAt 7 (some .int) "typeAt" false 142 (sGR 13 32 145) := ok_getR (by decide +kernel : decode cX12_typeAt 142 = .ok (.getfield 92, 3)) fw_X12_92 rfl
theorem o272_145 : Okp RX12 cX12_typeAt 7 (some .int) "typeAt" false 145 (sK 10 147) := ok_bipush (by decide +kernel : decode cX12_typeAt 145 = .ok (.bipush 10, 2)) (by decide)
theorem o272_147 : Okp RX12 cX12_typeAt 7 (some .int) "typeAt" false 147 (sLI 3 148) := ok_iload_n (by decide +kernel : decode cX12_typeAt 147 = .ok (.iload_n 3, 1)) rfl
theorem o272_148 : Okp RX12 cX12_typeAt 7 (some .int) "typeAt" false 148 (sB2 fMul 149) := ok_imul (by decide +kernel : decode cX12_typeAt 148 = .ok (.imul, 1))
theorem o272_149 : Okp RX12 cX12_typeAt 7 (some .int) "typeAt" false 149 (sLI 5 151) := ok_iload (by decide +kernel : decode cX12_typeAt 149 = .ok (.iload 5, 2))
theorem o272_151 : Okp RX12 cX12_typeAt 7 (some .int) "typeAt" false 151 (sB2 fAdd 152) := ok_iadd (by decide +kernel : decode cX12_typeAt 151 = .ok (.iadd, 1))
theorem o272_152 : Okp RX12 cX12_typeAt 7 (some .int) "typeAt" false 152 (sIA 153) := ok_iaload (by decide +kernel : decode cX12_typeAt 152 = .ok (.iaload, 1))
theorem o272_153 : Okp RX12 cX12_typeAt 7 (some .int) "typeAt" false 153 (sCS false 224 1 156) := ok_cs (by decide +kernel : decode cX12_typeAt 153 = .ok (.invokestatic 258, 3)) mw_X12_258 wt_X12_kind (by decide) rfl
theorem o272_156 : Okp RX12 cX12_typeAt 7 (some .int) "typeAt" false 156 (sGo 160) := ok_goto (by decide +kernel : decode cX12_typeAt 156 = .ok (.goto 4, 3)) (by decide)
theorem o272_159 : Okp RX12 cX12_typeAt 7 (some .int) "typeAt" false 159 (sK (-1) 160) := ok_iconst (by decide +kernel : decode cX12_typeAt 159 = .ok (.iconst (-1), 1)) (by decide)
theorem o272_160 : Okp RX12 cX12_typeAt 7 (some .int) "typeAt" false 160 sRI := ok_iret rfl (by decide +kernel : decode cX12_typeAt 160 = .ok (.ireturn, 1))
theorem oc272_0 : ∀ pc, Mnp (c272_0 pc) ∧ Okp RX12 cX12_typeAt 7 (some .int) "typeAt" false pc (c272_0 pc) := by
  intro pc
  unfold c272_0
  split
  · exact ⟨mn_sLR, o272_0⟩
  · exact ⟨mn_sK, o272_1⟩
  · exact ⟨mn_sPI, o272_2⟩
  · exact ⟨mn_sLR, o272_5⟩
  · exact ⟨mn_sLI, o272_6⟩
  · exact ⟨mn_sCV, o272_7⟩
  · exact ⟨mn_sI1, o272_10⟩
  · exact ⟨mn_sLI, o272_13⟩
  · exact ⟨mn_sI1, o272_14⟩
  · exact ⟨mn_sLI, o272_17⟩
  · exact ⟨mn_sLR, o272_18⟩
  · exact ⟨mn_sGR, o272_19⟩
  · exact ⟨mn_sLI, o272_22⟩
  · exact ⟨mn_sIA, o272_23⟩
  · exact ⟨mn_sX, ok_X⟩
theorem oc272_1 : ∀ pc, Mnp (c272_1 pc) ∧ Okp RX12 cX12_typeAt 7 (some .int) "typeAt" false pc (c272_1 pc) := by
  intro pc
  unfold c272_1
  split
  · exact ⟨mn_sI2, o272_24⟩
  · exact ⟨mn_sLI, o272_27⟩
  · exact ⟨mn_sI1, o272_28⟩
  · exact ⟨mn_sLI, o272_31⟩
  · exact ⟨mn_sLR, o272_32⟩
  · exact ⟨mn_sGR, o272_33⟩
  · exact ⟨mn_sK, o272_36⟩
  · exact ⟨mn_sLI, o272_38⟩
  · exact ⟨mn_sB2, o272_39⟩
  · exact ⟨mn_sLI, o272_40⟩
  · exact ⟨mn_sB2, o272_41⟩
  · exact ⟨mn_sIA, o272_42⟩
  · exact ⟨mn_sI2, o272_43⟩
  · exact ⟨mn_sLI, o272_46⟩
  · exact ⟨mn_sX, ok_X⟩
theorem oc272_2 : ∀ pc, Mnp (c272_2 pc) ∧ Okp RX12 cX12_typeAt 7 (some .int) "typeAt" false pc (c272_2 pc) := by
  intro pc
  unfold c272_2
  split
  · exact ⟨mn_sI1, o272_48⟩
  · exact ⟨mn_sLI, o272_51⟩
  · exact ⟨mn_sI1, o272_53⟩
  · exact ⟨mn_sLI, o272_56⟩
  · exact ⟨mn_sK, o272_58⟩
  · exact ⟨mn_sI2, o272_59⟩
  · exact ⟨mn_sK, o272_62⟩
  · exact ⟨mn_sRI, o272_63⟩
  · exact ⟨mn_sK, o272_64⟩
  · exact ⟨mn_sLI, o272_66⟩
  · exact ⟨mn_sB2, o272_67⟩
  · exact ⟨mn_sLI, o272_68⟩
  · exact ⟨mn_sB2, o272_69⟩
  · exact ⟨mn_sSI, o272_70⟩
  · exact ⟨mn_sX, ok_X⟩
theorem oc272_3 : ∀ pc, Mnp (c272_3 pc) ∧ Okp RX12 cX12_typeAt 7 (some .int) "typeAt" false pc (c272_3 pc) := by
  intro pc
  unfold c272_3
  split
  · exact ⟨mn_sLR, o272_72⟩
  · exact ⟨mn_sLI, o272_73⟩
  · exact ⟨mn_sLI, o272_74⟩
  · exact ⟨mn_sCV, o272_76⟩
  · exact ⟨mn_sI1, o272_79⟩
  · exact ⟨mn_sLR, o272_82⟩
  · exact ⟨mn_sGR, o272_83⟩
  · exact ⟨mn_sLI, o272_86⟩
  · exact ⟨mn_sBA, o272_87⟩
  · exact ⟨mn_sI1, o272_88⟩
  · exact ⟨mn_sK, o272_91⟩
  · exact ⟨mn_sRI, o272_92⟩
  · exact ⟨mn_sLI, o272_93⟩
  · exact ⟨mn_sI1, o272_95⟩
  · exact ⟨mn_sX, ok_X⟩
theorem oc272_4 : ∀ pc, Mnp (c272_4 pc) ∧ Okp RX12 cX12_typeAt 7 (some .int) "typeAt" false pc (c272_4 pc) := by
  intro pc
  unfold c272_4
  split
  · exact ⟨mn_sLI, o272_98⟩
  · exact ⟨mn_sLR, o272_100⟩
  · exact ⟨mn_sGR, o272_101⟩
  · exact ⟨mn_sLI, o272_104⟩
  · exact ⟨mn_sIA, o272_105⟩
  · exact ⟨mn_sI2, o272_106⟩
  · exact ⟨mn_sLR, o272_109⟩
  · exact ⟨mn_sGR, o272_110⟩
  · exact ⟨mn_sK, o272_113⟩
  · exact ⟨mn_sLI, o272_115⟩
  · exact ⟨mn_sB2, o272_116⟩
  · exact ⟨mn_sLI, o272_117⟩
  · exact ⟨mn_sB2, o272_119⟩
  · exact ⟨mn_sX, ok_X⟩
theorem oc272_5 : ∀ pc, Mnp (c272_5 pc) ∧ Okp RX12 cX12_typeAt 7 (some .int) "typeAt" false pc (c272_5 pc) := by
  intro pc
  unfold c272_5
  split
  · exact ⟨mn_sIA, o272_120⟩
  · exact ⟨mn_sCS, o272_121⟩
  · exact ⟨mn_sGo, o272_124⟩
  · exact ⟨mn_sK, o272_127⟩
  · exact ⟨mn_sRI, o272_128⟩
  · exact ⟨mn_sLI, o272_129⟩
  · exact ⟨mn_sLR, o272_131⟩
  · exact ⟨mn_sGR, o272_132⟩
  · exact ⟨mn_sLI, o272_135⟩
  · exact ⟨mn_sIA, o272_137⟩
  · exact ⟨mn_sI2, o272_138⟩
  · exact ⟨mn_sLR, o272_141⟩
  · exact ⟨mn_sGR, o272_142⟩
  · exact ⟨mn_sX, ok_X⟩
theorem oc272_6 : ∀ pc, Mnp (c272_6 pc) ∧ Okp RX12 cX12_typeAt 7 (some .int) "typeAt" false pc (c272_6 pc) := by
  intro pc
  unfold c272_6
  split
  · exact ⟨mn_sK, o272_145⟩
  · exact ⟨mn_sLI, o272_147⟩
  · exact ⟨mn_sB2, o272_148⟩
  · exact ⟨mn_sLI, o272_149⟩
  · exact ⟨mn_sB2, o272_151⟩
  · exact ⟨mn_sIA, o272_152⟩
  · exact ⟨mn_sCS, o272_153⟩
  · exact ⟨mn_sGo, o272_156⟩
  · exact ⟨mn_sK, o272_159⟩
  · exact ⟨mn_sRI, o272_160⟩
  · exact ⟨mn_sX, ok_X⟩
theorem oc272 : ∀ pc, Mnp (c272 pc) ∧ Okp RX12 cX12_typeAt 7 (some .int) "typeAt" false pc (c272 pc) := by
  intro pc
  unfold c272
  split
  · exact oc272_0 pc
  · exact oc272_1 pc
  · exact oc272_2 pc
  · exact oc272_3 pc
  · exact oc272_4 pc
  · exact oc272_5 pc
  · exact oc272_6 pc
  · exact ⟨mn_sX, ok_X⟩
