theorem o222_0 : Okp RX12 cX12_must 2 none "must" false 0 (sLR 0 1) := ok_aload_n (by decide +kernel : decode cX12_must 0 = .ok (.aload_n 0, 1)) rfl
theorem o222_1 : Okp RX12 cX12_must 2 none "must" false 1 (sLI 1 2) := ok_iload_n (by decide +kernel : decode cX12_must 1 = .ok (.iload_n 1, 1)) rfl
theorem o222_2 : Okp RX12 cX12_must 2 none "must" false 2 (sLI 1 3) := ok_iload_n (by decide +kernel : decode cX12_must 2 = .ok (.iload_n 1, 1)) rfl
theorem o222_3 : Okp RX12 cX12_must 2 none "must" false 3 (sCV false 221 3 13 6) := ok_cvT (by decide +kernel : decode cX12_must 3 = .ok (.invokevirtual 254, 3)) mw_X12_254 rfl rfl (by decide) wm_X12_number wse_X12_number (by decide)
theorem o222_6 : Okp RX12 cX12_must 2 none "must" false 6 (sPop 7) := ok_pop (by decide +kernel : decode cX12_must 6 = .ok (.pop, 1))
theorem o222_7 : Okp RX12 cX12_must 2 none "must" false 7 sRV := ok_vret rfl (by decide +kernel : decode cX12_must 7 = .ok (.return_, 1))
theorem oc222 : ∀ pc, Mnp (c222 pc) ∧ Okp RX12 cX12_must 2 none "must" false pc (c222 pc) := by
  intro pc
  unfold c222
  split
  · exact ⟨mn_sLR, o222_0⟩
  · exact ⟨mn_sLI, o222_1⟩
  · exact ⟨mn_sLI, o222_2⟩
  · exact ⟨mn_sCV, o222_3⟩
  · exact ⟨mn_sPop, o222_6⟩
  · exact ⟨mn_sRV, o222_7⟩
  · exact ⟨mn_sX, ok_X⟩
theorem o223_0 : Okp RX12 cX12_type 6 (some .int) "type" false 0 (sLR 0 1) := ok_aload_n (by decide +kernel : decode cX12_type 0 = .ok (.aload_n 0, 1)) rfl
theorem o223_1 : Okp RX12 cX12_type 6 (some .int) "type" false 1 (sLR 0 2) := ok_aload_n (by decide +kernel : decode cX12_type 1 = .ok (.aload_n 0, 1)) rfl
theorem o223_2 : Okp RX12 cX12_type 6 (some .int) "type" false 2 (sGI 13 27 5) := ok_getI (by decide +kernel : decode cX12_type 2 = .ok (.getfield 240, 3)) fw_X12_240 rfl
theorem o223_5 : Okp RX12 cX12_type 6 (some .int) "type" false 5 (sLR 0 6) := ok_aload_n (by decide +kernel : decode cX12_type 5 = .ok (.aload_n 0, 1)) rfl
theorem o223_6 : Okp RX12 cX12_type 6 (some .int) "type" false 6 (sGI 13 26 9) := ok_getI (by decide +kernel : decode cX12_type 6 = .ok (.getfield 243, 3)) fw_X12_243 rfl
theorem o223_9 : Okp RX12 cX12_type 6 (some .int) "type" false 9 (sCV false 220 3 13 12) := ok_cv (by decide +kernel : decode cX12_type 9 = .ok (.invokevirtual 246, 3)) mw_X12_246 rfl (by decide) wm_X12_byteAt wse_X12_byteAt (by decide) rfl
theorem o223_12 : Okp RX12 cX12_type 6 (some .int) "type" false 12 (sSI 3 13) := ok_istore_n (by decide +kernel : decode cX12_type 12 = .ok (.istore_n 3, 1)) rfl (by decide) (by decide)
theorem o223_13 : Okp RX12 cX12_type 6 (some .int) "type" false 13 (sLI 2 14) := ok_iload_n (by decide +kernel : decode cX12_type 13 = .ok (.iload_n 2, 1)) rfl
theorem o223_14 : Okp RX12 cX12_type 6 (some .int) "type" false 14 (sI1 0 36 17) := ok_if_eq (by decide +kernel : decode cX12_type 14 = .ok (.ifCond .eq 22, 3)) (by decide)
theorem o223_17 : Okp RX12 cX12_type 6 (some .int) "type" false 17 (sLI 3 18) := ok_iload_n (by decide +kernel : decode cX12_type 17 = .ok (.iload_n 3, 1)) rfl
theorem o223_18 : Okp RX12 cX12_type 6 (some .int) "type" false 18 (sK 255 21) := ok_sipush (by decide +kernel : decode cX12_type 18 = .ok (.sipush 255, 3)) (by decide)
theorem o223_21 : Okp RX12 cX12_type 6 (some .int) "type" false 21 (sI2 1 36 24) := ok_icmp_ne (by decide +kernel : decode cX12_type 21 = .ok (.if_icmp .ne 15, 3)) (by decide)
theorem o223_24 : Okp RX12 cX12_type 6 (some .int) "type" false 24 (sLR 0 25) := ok_aload_n (by decide +kernel : decode cX12_type 24 = .ok (.aload_n 0, 1)) rfl
theorem o223_25 : Okp RX12 cX12_type 6 (some .int) "type" false 25 (sDup 26) := ok_dup (by decide +kernel : decode cX12_type 25 = .ok (.dup, 1))
theorem o223_26 : Okp RX12 cX12_type 6 (some .int) "type" false 26 (sGI 13 26 29) := ok_getI (by decide +kernel : decode cX12_type 26 = .ok (.getfield 243, 3)) fw_X12_243 rfl
theorem o223_29 : Okp RX12 cX12_type 6 (some .int) "type" false 29 (sK 1 30) := ok_iconst (by decide +kernel : decode cX12_type 29 = .ok (.iconst 1, 1)) (by decide)
theorem o223_30 : Okp RX12 cX12_type 6 (some .int) "type" false 30 (sB2 fAdd 31) := ok_iadd (by decide +kernel : decode cX12_type 30 = .ok (.iadd, 1))
theorem o223_31 : Okp RX12 cX12_type 6 (some .int) "type" false 31 (sPI 13 26 34) := ok_putI (by decide +kernel : decode cX12_type 31 = .ok (.putfield 243, 3)) fw_X12_243 ⟨⟨tyX12_ok, nmX12⟩, Or.inl rfl, rfl⟩ rfl
theorem o223_34 : Okp RX12 cX12_type 6 (some .int) "type" false 34 (sK (-1) 35) := ok_iconst (by decide +kernel : decode cX12_type 34 = .ok (.iconst (-1), 1)) (by decide)
theorem o223_35 : Okp RX12 cX12_type 6 (some .int) "type" false 35 sRI := ok_iret rfl (by decide +kernel : decode cX12_type 35 = .ok (.ireturn, 1))
theorem o223_36 : Okp RX12 cX12_type 6 (some .int) "type" false 36 (sLI 3 37) := ok_iload_n (by decide +kernel : decode cX12_type 36 = .ok (.iload_n 3, 1)) rfl
theorem o223_37 : Okp RX12 cX12_type 6 (some .int) "type" false 37 (sI1 2 53 40) := ok_if_lt (by decide +kernel : decode cX12_type 37 = .ok (.ifCond .lt 16, 3)) (by decide)
theorem o223_40 : Okp RX12 cX12_type 6 (some .int) "type" false 40 (sLI 3 41) := ok_iload_n (by decide +kernel : decode cX12_type 40 = .ok (.iload_n 3, 1)) rfl
theorem o223_41 : Okp RX12 cX12_type 6 (some .int) "type" false 41 (sK 5 42) := ok_iconst (by decide +kernel : decode cX12_type 41 = .ok (.iconst 5, 1)) (by decide)
theorem o223_42 : Okp RX12 cX12_type 6 (some .int) "type" false 42 (sI2 4 53 45) := ok_icmp_gt (by decide +kernel : decode cX12_type 42 = .ok (.if_icmp .gt 11, 3)) (by decide)
theorem o223_45 : Okp RX12 cX12_type 6 (some .int) "type" false 45 (sLI 1 46) := ok_iload_n (by decide +kernel : decode cX12_type 45 = .ok (.iload_n 1, 1)) rfl
theorem o223_46 : Okp RX12 cX12_type 6 (some .int) "type" false 46 (sLI 3 47) := ok_iload_n (by decide +kernel : decode cX12_type 46 = .ok (.iload_n 3, 1)) rfl
theorem o223_47 : Okp RX12 cX12_type 6 (some .int) "type" false 47 (sB2 fShr 48) := ok_ishr (by decide +kernel : decode cX12_type 47 = .ok (.ishr, 1))
theorem o223_48 : Okp RX12 cX12_type 6 (some .int) "type" false 48 (sK 1 49) := ok_iconst (by decide +kernel : decode cX12_type 48 = .ok (.iconst 1, 1)) (by decide)
theorem o223_49 : Okp RX12 cX12_type 6 (some .int) "type" false 49 (sB2 fAnd 50) := ok_iand (by decide +kernel : decode cX12_type 49 = .ok (.iand, 1))
theorem o223_50 : Okp RX12 cX12_type 6 (some .int) "type" false 50 (sI1 1 62 53) := ok_if_ne (by decide +kernel : decode cX12_type 50 = .ok (.ifCond .ne 12, 3)) (by decide)
theorem o223_53 : Okp RX12 cX12_type 6 (some .int) "type" false 53 (sLR 0 54) := ok_aload_n (by decide +kernel : decode cX12_type 53 = .ok (.aload_n 0, 1)) rfl
theorem o223_54 : Okp RX12 cX12_type 6 (some .int) "type" false 54 (sK 1 55) := ok_iconst (by decide +kernel : decode cX12_type 54 = .ok (.iconst 1, 1)) (by decide)
theorem o223_55 : Okp RX12 cX12_type 6 (some .int) "type" false 55 (sLR 0 56) := ok_aload_n (by decide +kernel : decode cX12_type 55 = .ok (.aload_n 0, 1)) rfl
theorem o223_56 : Okp RX12 cX12_type 6 (some .int) "type" false 56 (sGI 13 26 59) := ok_getI (by decide +kernel : decode cX12_type 56 = .ok (.getfield 243, 3)) fw_X12_243 rfl
theorem o223_59 : Okp RX12 cX12_type 6 (some .int) "type" false 59 (sCV false 218 3 13 62) := ok_cvT (by decide +kernel : decode cX12_type 59 = .ok (.invokevirtual 250, 3)) mw_X12_250 rfl rfl (by decide) wm_X12_fails wse_X12_fails (by decide)
theorem o223_62 : Okp RX12 cX12_type 6 (some .int) "type" false 62 (sLR 0 63) := ok_aload_n (by decide +kernel : decode cX12_type 62 = .ok (.aload_n 0, 1)) rfl
theorem o223_63 : Okp RX12 cX12_type 6 (some .int) "type" false 63 (sDup 64) := ok_dup (by decide +kernel : decode cX12_type 63 = .ok (.dup, 1))
theorem o223_64 : Okp RX12 cX12_type 6 (some .int) "type" false 64 (sGI 13 26 67) := ok_getI (by decide +kernel : decode cX12_type 64 = .ok (.getfield 243, 3)) fw_X12_243 rfl
theorem o223_67 : Okp RX12 cX12_type 6 (some .int) "type" false 67 (sK 1 68) := ok_iconst (by decide +kernel : decode cX12_type 67 = .ok (.iconst 1, 1)) (by decide)
theorem o223_68 : Okp RX12 cX12_type 6 (some .int) "type" false 68 (sB2 fAdd 69) := ok_iadd (by decide +kernel : decode cX12_type 68 = .ok (.iadd, 1))
theorem o223_69 : Okp RX12 cX12_type 6 (some .int) "type" false 69 (sPI 13 26 72) := ok_putI (by decide +kernel : decode cX12_type 69 = .ok (.putfield 243, 3)) fw_X12_243 ⟨⟨tyX12_ok, nmX12⟩, Or.inl rfl, rfl⟩ rfl
theorem o223_72 : Okp RX12 cX12_type 6 (some .int) "type" false 72 (sLI 3 73) := ok_iload_n (by decide +kernel : decode cX12_type 72 = .ok (.iload_n 3, 1)) rfl
theorem o223_73 : Okp RX12 cX12_type 6 (some .int) "type" false 73 (sI1 0 81 76) := ok_if_eq (by decide +kernel : decode cX12_type 73 = .ok (.ifCond .eq 8, 3)) (by decide)
theorem o223_76 : Okp RX12 cX12_type 6 (some .int) "type" false 76 (sLI 3 77) := ok_iload_n (by decide +kernel : decode cX12_type 76 = .ok (.iload_n 3, 1)) rfl
theorem o223_77 : Okp RX12 cX12_type 6 (some .int) "type" false 77 (sK 2 78) := ok_iconst (by decide +kernel : decode cX12_type 77 = .ok (.iconst 2, 1)) (by decide)
theorem o223_78 : Okp RX12 cX12_type 6 (some .int) "type" false 78 (sI2 1 83 81) := ok_icmp_ne (by decide +kernel : decode cX12_type 78 = .ok (.if_icmp .ne 5, 3)) (by decide)
theorem o223_81 : Okp RX12 cX12_type 6 (some .int) "type" false 81 (sLI 3 82) := ok_iload_n (by decide +kernel : decode cX12_type 81 = .ok (.iload_n 3, 1)) rfl
theorem o223_82 : Okp RX12 cX12_type 6 (some .int) "type" false 82 sRI := ok_iret rfl (by decide +kernel : decode cX12_type 82 = .ok (.ireturn, 1))
theorem o223_83 : Okp RX12 cX12_type 6 (some .int) "type" false 83 (sLR 0 84) := ok_aload_n (by decide +kernel : decode cX12_type 83 = .ok (.aload_n 0, 1)) rfl
theorem o223_84 : Okp RX12 cX12_type 6 (some .int) "type" false 84 (sK 0 85) := ok_iconst (by decide +kernel : decode cX12_type 84 = .ok (.iconst 0, 1)) (by decide)
theorem o223_85 : Okp RX12 cX12_type 6 (some .int) "type" false 85 (sK 255 88) := ok_sipush (by decide +kernel : decode cX12_type 85 = .ok (.sipush 255, 3)) (by decide)
theorem o223_88 : Okp RX12 cX12_type 6 (some .int) "type" false 88 (sCV false 221 3 13 91) := ok_cvT (by decide +kernel : decode cX12_type 88 = .ok (.invokevirtual 254, 3)) mw_X12_254 rfl rfl (by decide) wm_X12_number wse_X12_number (by decide)
theorem o223_91 : Okp RX12 cX12_type 6 (some .int) "type" false 91 (sSI 4 93) := ok_istore (by decide +kernel : decode cX12_type 91 = .ok (.istore 4, 2)) (by decide) (by decide)
theorem o223_93 : Okp RX12 cX12_type 6 (some .int) "type" false 93 (sLI 3 94) := ok_iload_n (by decide +kernel : decode cX12_type 93 = .ok (.iload_n 3, 1)) rfl
theorem o223_94 : Okp RX12 cX12_type 6 (some .int) "type" false 94 (sK 5 95) := ok_iconst (by decide +kernel : decode cX12_type 94 = .ok (.iconst 5, 1)) (by decide)
theorem o223_95 : Okp RX12 cX12_type 6 (some .int) "type" false 95 (sI2 0 106 98) := ok_icmp_eq (by decide +kernel : decode cX12_type 95 = .ok (.if_icmp .eq 11, 3)) (by decide)
theorem o223_98 : Okp RX12 cX12_type 6 (some .int) "type" false 98 (sLI 3 99) := ok_iload_n (by decide +kernel : decode cX12_type 98 = .ok (.iload_n 3, 1)) rfl
theorem o223_99 : Okp RX12 cX12_type 6 (some .int) "type" false 99 (sK 8 101) := ok_bipush (by decide +kernel : decode cX12_type 99 = .ok (.bipush 8, 2)) (by decide)
theorem o223_101 : Okp RX12 cX12_type 6 (some .int) "type" false 101 (sLI 4 103) := ok_iload (by decide +kernel : decode cX12_type 101 = .ok (.iload 4, 2))
theorem o223_103 : Okp RX12 cX12_type 6 (some .int) "type" false 103 (sB2 fMul 104) := ok_imul (by decide +kernel : decode cX12_type 103 = .ok (.imul, 1))
theorem o223_104 : Okp RX12 cX12_type 6 (some .int) "type" false 104 (sB2 fAdd 105) := ok_iadd (by decide +kernel : decode cX12_type 104 = .ok (.iadd, 1))
theorem o223_105 : Okp RX12 cX12_type 6 (some .int) "type" false 105 sRI := ok_iret rfl (by decide +kernel : decode cX12_type 105 = .ok (.ireturn, 1))
theorem o223_106 : Okp RX12 cX12_type 6 (some .int) "type" false 106 (sLR 0 107) := ok_aload_n (by decide +kernel : decode cX12_type 106 = .ok (.aload_n 0, 1)) rfl
theorem o223_107 : Okp RX12 cX12_type 6 (some .int) "type" false 107 (sK 0 108) := ok_iconst (by decide +kernel : decode cX12_type 107 = .ok (.iconst 0, 1)) (by decide)
theorem o223_108 : Okp RX12 cX12_type 6 (some .int) "type" false 108 (sK 255 111) := ok_sipush (by decide +kernel : decode cX12_type 108 = .ok (.sipush 255, 3)) (by decide)
theorem o223_111 : Okp RX12 cX12_type 6 (some .int) "type" false 111 (sCV false 221 3 13 114) := ok_cvT (by decide +kernel : decode cX12_type 111 = .ok (.invokevirtual 254, 3)) mw_X12_254 rfl rfl (by decide) wm_X12_number wse_X12_number (by decide)
theorem o223_114 : Okp RX12 cX12_type 6 (some .int) "type" false 114 (sSI 5 116) := ok_istore (by decide +kernel : decode cX12_type 114 = .ok (.istore 5, 2)) (by decide) (by decide)
theorem o223_116 : Okp RX12 cX12_type 6 (some .int) "type" false 116 (sLI 3 117) := ok_iload_n (by decide +kernel : decode cX12_type 116 = .ok (.iload_n 3, 1)) rfl
theorem o223_117 : Okp RX12 cX12_type 6 (some .int) "type" false 117 (sK 8 119) := ok_bipush (by decide +kernel : decode cX12_type 117 = .ok (.bipush 8, 2)) (by decide)
theorem o223_119 : Okp RX12 cX12_type 6 (some .int) "type" false 119 (sLI 4 121) := ok_iload (by decide +kernel : decode cX12_type 119 = .ok (.iload 4, 2))
theorem o223_121 : Okp RX12 cX12_type 6 (some .int) "type" false 121 (sB2 fMul 122) := ok_imul (by decide +kernel : decode cX12_type 121 = .ok (.imul, 1))
theorem o223_122 : Okp RX12 cX12_type 6 (some .int) "type" false 122 (sB2 fAdd 123) := ok_iadd (by decide +kernel : decode cX12_type 122 = .ok (.iadd, 1))
theorem o223_123 : Okp RX12 cX12_type 6 (some .int) "type" false 123 (sK 2048 126) := ok_sipush (by decide +kernel : decode cX12_type 123 = .ok (.sipush 2048, 3)) (by decide)
theorem o223_126 : Okp RX12 cX12_type 6 (some .int) "type" false 126 (sLI 5 128) := ok_iload (by decide +kernel : decode cX12_type 126 = .ok (.iload 5, 2))
theorem o223_128 : Okp RX12 cX12_type 6 (some .int) "type" false 128 (sB2 fMul 129) := ok_imul (by decide +kernel : decode cX12_type 128 = .ok (.imul, 1))
theorem o223_129 : Okp RX12 cX12_type 6 (some .int) "type" false 129 (sB2 fAdd 130) := ok_iadd (by decide +kernel : decode cX12_type 129 = .ok (.iadd, 1))
theorem o223_130 : Okp RX12 cX12_type 6 (some .int) "type" false 130 (sK 524288 133) := ok_ldcw (by decide +kernel : decode cX12_type 130 = .ok (.ldc_w 257, 3)) wk_X12_257 (by decide)
theorem o223_133 : Okp RX12 cX12_type 6 (some .int) "type" false 133 (sLR 0 134) := ok_aload_n (by decide +kernel : decode cX12_type 133 = .ok (.aload_n 0, 1)) rfl
theorem o223_134 : Okp RX12 cX12_type 6 (some .int) "type" false 134 (sK 0 135) := ok_iconst (by decide +kernel : decode cX12_type 134 = .ok (.iconst 0, 1)) (by decide)
theorem o223_135 : Okp RX12 cX12_type 6 (some .int) "type" false 135 (sK 1 136) := ok_iconst (by decide +kernel : decode cX12_type 135 = .ok (.iconst 1, 1)) (by decide)
theorem o223_136 : Okp RX12 cX12_type 6 (some .int) "type" false 136 (sCV false 221 3 13 139) := ok_cvT (by decide +kernel : decode cX12_type 136 = .ok (.invokevirtual 254, 3)) mw_X12_254 rfl rfl (by decide) wm_X12_number wse_X12_number (by decide)
theorem o223_139 : Okp RX12 cX12_type 6 (some .int) "type" false 139 (sB2 fMul 140) := ok_imul (by decide +kernel : decode cX12_type 139 = .ok (.imul, 1))
theorem o223_140 : Okp RX12 cX12_type 6 (some .int) "type" false 140 (sB2 fAdd 141) := ok_iadd (by decide +kernel : decode cX12_type 140 = .ok (.iadd, 1))
theorem o223_141 : Okp RX12 cX12_type 6 (some .int) "type" false 141 sRI := ok_iret rfl (by decide +kernel : decode cX12_type 141 = .ok (.ireturn, 1))
theorem oc223_0 : ∀ pc, Mnp (c223_0 pc) ∧ Okp RX12 cX12_type 6 (some .int) "type" false pc (c223_0 pc) := by
  intro pc
  unfold c223_0
  split
  · exact ⟨mn_sLR, o223_0⟩
  · exact ⟨mn_sLR, o223_1⟩
  · exact ⟨mn_sGI, o223_2⟩
  · exact ⟨mn_sLR, o223_5⟩
  · exact ⟨mn_sGI, o223_6⟩
  · exact ⟨mn_sCV, o223_9⟩
  · exact ⟨mn_sSI, o223_12⟩
  · exact ⟨mn_sLI, o223_13⟩
  · exact ⟨mn_sI1, o223_14⟩
  · exact ⟨mn_sLI, o223_17⟩
  · exact ⟨mn_sK, o223_18⟩
  · exact ⟨mn_sI2, o223_21⟩
  · exact ⟨mn_sX, ok_X⟩
theorem oc223_1 : ∀ pc, Mnp (c223_1 pc) ∧ Okp RX12 cX12_type 6 (some .int) "type" false pc (c223_1 pc) := by
  intro pc
  unfold c223_1
  split
  · exact ⟨mn_sLR, o223_24⟩
  · exact ⟨mn_sDup, o223_25⟩
  · exact ⟨mn_sGI, o223_26⟩
  · exact ⟨mn_sK, o223_29⟩
  · exact ⟨mn_sB2, o223_30⟩
  · exact ⟨mn_sPI, o223_31⟩
  · exact ⟨mn_sK, o223_34⟩
  · exact ⟨mn_sRI, o223_35⟩
  · exact ⟨mn_sLI, o223_36⟩
  · exact ⟨mn_sI1, o223_37⟩
  · exact ⟨mn_sLI, o223_40⟩
  · exact ⟨mn_sK, o223_41⟩
  · exact ⟨mn_sI2, o223_42⟩
  · exact ⟨mn_sLI, o223_45⟩
  · exact ⟨mn_sLI, o223_46⟩
  · exact ⟨mn_sB2, o223_47⟩
  · exact ⟨mn_sX, ok_X⟩
theorem oc223_2 : ∀ pc, Mnp (c223_2 pc) ∧ Okp RX12 cX12_type 6 (some .int) "type" false pc (c223_2 pc) := by
  intro pc
  unfold c223_2
  split
  · exact ⟨mn_sK, o223_48⟩
  · exact ⟨mn_sB2, o223_49⟩
  · exact ⟨mn_sI1, o223_50⟩
  · exact ⟨mn_sLR, o223_53⟩
  · exact ⟨mn_sK, o223_54⟩
  · exact ⟨mn_sLR, o223_55⟩
  · exact ⟨mn_sGI, o223_56⟩
  · exact ⟨mn_sCV, o223_59⟩
  · exact ⟨mn_sLR, o223_62⟩
  · exact ⟨mn_sDup, o223_63⟩
  · exact ⟨mn_sGI, o223_64⟩
  · exact ⟨mn_sK, o223_67⟩
  · exact ⟨mn_sB2, o223_68⟩
  · exact ⟨mn_sPI, o223_69⟩
  · exact ⟨mn_sX, ok_X⟩
theorem oc223_3 : ∀ pc, Mnp (c223_3 pc) ∧ Okp RX12 cX12_type 6 (some .int) "type" false pc (c223_3 pc) := by
  intro pc
  unfold c223_3
  split
  · exact ⟨mn_sLI, o223_72⟩
  · exact ⟨mn_sI1, o223_73⟩
  · exact ⟨mn_sLI, o223_76⟩
  · exact ⟨mn_sK, o223_77⟩
  · exact ⟨mn_sI2, o223_78⟩
  · exact ⟨mn_sLI, o223_81⟩
  · exact ⟨mn_sRI, o223_82⟩
  · exact ⟨mn_sLR, o223_83⟩
  · exact ⟨mn_sK, o223_84⟩
  · exact ⟨mn_sK, o223_85⟩
  · exact ⟨mn_sCV, o223_88⟩
  · exact ⟨mn_sSI, o223_91⟩
  · exact ⟨mn_sLI, o223_93⟩
  · exact ⟨mn_sK, o223_94⟩
  · exact ⟨mn_sI2, o223_95⟩
  · exact ⟨mn_sX, ok_X⟩
theorem oc223_4 : ∀ pc, Mnp (c223_4 pc) ∧ Okp RX12 cX12_type 6 (some .int) "type" false pc (c223_4 pc) := by
  intro pc
  unfold c223_4
  split
  · exact ⟨mn_sLI, o223_98⟩
  · exact ⟨mn_sK, o223_99⟩
  · exact ⟨mn_sLI, o223_101⟩
  · exact ⟨mn_sB2, o223_103⟩
  · exact ⟨mn_sB2, o223_104⟩
  · exact ⟨mn_sRI, o223_105⟩
  · exact ⟨mn_sLR, o223_106⟩
  · exact ⟨mn_sK, o223_107⟩
  · exact ⟨mn_sK, o223_108⟩
  · exact ⟨mn_sCV, o223_111⟩
  · exact ⟨mn_sSI, o223_114⟩
  · exact ⟨mn_sLI, o223_116⟩
  · exact ⟨mn_sK, o223_117⟩
  · exact ⟨mn_sLI, o223_119⟩
  · exact ⟨mn_sX, ok_X⟩
theorem oc223_5 : ∀ pc, Mnp (c223_5 pc) ∧ Okp RX12 cX12_type 6 (some .int) "type" false pc (c223_5 pc) := by
  intro pc
  unfold c223_5
  split
  · exact ⟨mn_sB2, o223_121⟩
  · exact ⟨mn_sB2, o223_122⟩
  · exact ⟨mn_sK, o223_123⟩
  · exact ⟨mn_sLI, o223_126⟩
  · exact ⟨mn_sB2, o223_128⟩
  · exact ⟨mn_sB2, o223_129⟩
  · exact ⟨mn_sK, o223_130⟩
  · exact ⟨mn_sLR, o223_133⟩
  · exact ⟨mn_sK, o223_134⟩
  · exact ⟨mn_sK, o223_135⟩
  · exact ⟨mn_sCV, o223_136⟩
  · exact ⟨mn_sB2, o223_139⟩
  · exact ⟨mn_sB2, o223_140⟩
  · exact ⟨mn_sRI, o223_141⟩
  · exact ⟨mn_sX, ok_X⟩
theorem oc223 : ∀ pc, Mnp (c223 pc) ∧ Okp RX12 cX12_type 6 (some .int) "type" false pc (c223 pc) := by
  intro pc
  unfold c223
  split
  · exact oc223_0 pc
  · exact oc223_1 pc
  · exact oc223_2 pc
  · exact oc223_3 pc
  · exact oc223_4 pc
  · exact oc223_5 pc
  · exact ⟨mn_sX, ok_X⟩
theorem o224_0 : Okp RX12 cX12_kind 1 (some .int) "kind" false 0 (sLI 0 1) := ok_iload_n (by decide +kernel : decode cX12_kind 0 = .ok (.iload_n 0, 1)) rfl
theorem o224_1 : Okp RX12 cX12_kind 1 (some .int) "kind" false 1 (sI1 3 8 4) := ok_if_ge (by decide +kernel : decode cX12_kind 1 = .ok (.ifCond .ge 7, 3)) (by decide)
theorem o224_4 : Okp RX12 cX12_kind 1 (some .int) "kind" false 4 (sK (-1) 5) := ok_iconst (by decide +kernel : decode cX12_kind 4 = .ok (.iconst (-1), 1)) (by decide)
theorem o224_5 : Okp RX12 cX12_kind 1 (some .int) "kind" false 5 (sGo 12) := ok_goto (by decide +kernel : decode cX12_kind 5 = .ok (.goto 7, 3)) (by decide)
theorem o224_8 : Okp RX12 cX12_kind 1 (some .int) "kind" false 8 (sLI 0 9) := ok_iload_n (by decide +kernel : decode cX12_kind 8 = .ok (.iload_n 0, 1)) rfl
theorem o224_9 : Okp RX12 cX12_kind 1 (some .int) "kind" false 9 (sK 7 11) := ok_bipush (by decide +kernel : decode cX12_kind 9 = .ok (.bipush 7, 2)) (by decide)
theorem o224_11 : Okp RX12 cX12_kind 1 (some .int) "kind" false 11 (sB2 fAnd 12) := ok_iand (by decide +kernel : decode cX12_kind 11 = .ok (.iand, 1))
theorem o224_12 : Okp RX12 cX12_kind 1 (some .int) "kind" false 12 sRI := ok_iret rfl (by decide +kernel : decode cX12_kind 12 = .ok (.ireturn, 1))
theorem oc224 : ∀ pc, Mnp (c224 pc) ∧ Okp RX12 cX12_kind 1 (some .int) "kind" false pc (c224 pc) := by
  intro pc
  unfold c224
  split
  · exact ⟨mn_sLI, o224_0⟩
  · exact ⟨mn_sI1, o224_1⟩
  · exact ⟨mn_sK, o224_4⟩
  · exact ⟨mn_sGo, o224_5⟩
  · exact ⟨mn_sLI, o224_8⟩
  · exact ⟨mn_sK, o224_9⟩
  · exact ⟨mn_sB2, o224_11⟩
  · exact ⟨mn_sRI, o224_12⟩
  · exact ⟨mn_sX, ok_X⟩
theorem o225_0 : Okp RX12 cX12_which 1 (some .int) "which" false 0 (sLI 0 1) := ok_iload_n (by decide +kernel : decode cX12_which 0 = .ok (.iload_n 0, 1)) rfl
theorem o225_1 : Okp RX12 cX12_which 1 (some .int) "which" false 1 (sK 3 2) := ok_iconst (by decide +kernel : decode cX12_which 1 = .ok (.iconst 3, 1)) (by decide)
theorem o225_2 : Okp RX12 cX12_which 1 (some .int) "which" false 2 (sB2 fShr 3) := ok_ishr (by decide +kernel : decode cX12_which 2 = .ok (.ishr, 1))
theorem o225_3 : Okp RX12 cX12_which 1 (some .int) "which" false 3 (sK 255 6) := ok_sipush (by decide +kernel : decode cX12_which 3 = .ok (.sipush 255, 3)) (by decide)
theorem o225_6 : Okp RX12 cX12_which 1 (some .int) "which" false 6 (sB2 fAnd 7) := ok_iand (by decide +kernel : decode cX12_which 6 = .ok (.iand, 1))
theorem o225_7 : Okp RX12 cX12_which 1 (some .int) "which" false 7 sRI := ok_iret rfl (by decide +kernel : decode cX12_which 7 = .ok (.ireturn, 1))
theorem oc225 : ∀ pc, Mnp (c225 pc) ∧ Okp RX12 cX12_which 1 (some .int) "which" false pc (c225 pc) := by
  intro pc
  unfold c225
  split
  · exact ⟨mn_sLI, o225_0⟩
  · exact ⟨mn_sK, o225_1⟩
  · exact ⟨mn_sB2, o225_2⟩
  · exact ⟨mn_sK, o225_3⟩
  · exact ⟨mn_sB2, o225_6⟩
  · exact ⟨mn_sRI, o225_7⟩
  · exact ⟨mn_sX, ok_X⟩
theorem o226_0 : Okp RX12 cX12_state 1 (some .int) "state" false 0 (sLI 0 1) := ok_iload_n (by decide +kernel : decode cX12_state 0 = .ok (.iload_n 0, 1)) rfl
theorem o226_1 : Okp RX12 cX12_state 1 (some .int) "state" false 1 (sK 11 3) := ok_bipush (by decide +kernel : decode cX12_state 1 = .ok (.bipush 11, 2)) (by decide)
theorem o226_3 : Okp RX12 cX12_state 1 (some .int) "state" false 3 (sB2 fShr 4) := ok_ishr (by decide +kernel : decode cX12_state 3 = .ok (.ishr, 1))
theorem o226_4 : Okp RX12 cX12_state 1 (some .int) "state" false 4 (sK 255 7) := ok_sipush (by decide +kernel : decode cX12_state 4 = .ok (.sipush 255, 3)) (by decide)
theorem o226_7 : Okp RX12 cX12_state 1 (some .int) "state" false 7 (sB2 fAnd 8) := ok_iand (by decide +kernel : decode cX12_state 7 = .ok (.iand, 1))
theorem o226_8 : Okp RX12 cX12_state 1 (some .int) "state" false 8 sRI := ok_iret rfl (by decide +kernel : decode cX12_state 8 = .ok (.ireturn, 1))
theorem oc226 : ∀ pc, Mnp (c226 pc) ∧ Okp RX12 cX12_state 1 (some .int) "state" false pc (c226 pc) := by
  intro pc
  unfold c226
  split
  · exact ⟨mn_sLI, o226_0⟩
  · exact ⟨mn_sK, o226_1⟩
  · exact ⟨mn_sB2, o226_3⟩
  · exact ⟨mn_sK, o226_4⟩
  · exact ⟨mn_sB2, o226_7⟩
  · exact ⟨mn_sRI, o226_8⟩
  · exact ⟨mn_sX, ok_X⟩
theorem o227_0 : Okp RX12 cX12_side 1 (some .int) "side" false 0 (sLI 0 1) := ok_iload_n (by decide +kernel : decode cX12_side 0 = .ok (.iload_n 0, 1)) rfl
theorem o227_1 : Okp RX12 cX12_side 1 (some .int) "side" false 1 (sK 19 3) := ok_bipush (by decide +kernel : decode cX12_side 1 = .ok (.bipush 19, 2)) (by decide)
theorem o227_3 : Okp RX12 cX12_side 1 (some .int) "side" false 3 (sB2 fShr 4) := ok_ishr (by decide +kernel : decode cX12_side 3 = .ok (.ishr, 1))
theorem o227_4 : Okp RX12 cX12_side 1 (some .int) "side" false 4 (sK 1 5) := ok_iconst (by decide +kernel : decode cX12_side 4 = .ok (.iconst 1, 1)) (by decide)
theorem o227_5 : Okp RX12 cX12_side 1 (some .int) "side" false 5 (sB2 fAnd 6) := ok_iand (by decide +kernel : decode cX12_side 5 = .ok (.iand, 1))
theorem o227_6 : Okp RX12 cX12_side 1 (some .int) "side" false 6 sRI := ok_iret rfl (by decide +kernel : decode cX12_side 6 = .ok (.ireturn, 1))
theorem oc227 : ∀ pc, Mnp (c227 pc) ∧ Okp RX12 cX12_side 1 (some .int) "side" false pc (c227 pc) := by
  intro pc
  unfold c227
  split
  · exact ⟨mn_sLI, o227_0⟩
  · exact ⟨mn_sK, o227_1⟩
  · exact ⟨mn_sB2, o227_3⟩
  · exact ⟨mn_sK, o227_4⟩
  · exact ⟨mn_sB2, o227_5⟩
  · exact ⟨mn_sRI, o227_6⟩
  · exact ⟨mn_sX, ok_X⟩
theorem o228_0 : Okp RX12 cX12_isLinear 1 (some .boolean) "isLinear" false 0 (sLI 0 1) := ok_iload_n (by decide +kernel : decode cX12_isLinear 0 = .ok (.iload_n 0, 1)) rfl
theorem o228_1 : Okp RX12 cX12_isLinear 1 (some .boolean) "isLinear" false 1 (sI1 2 24 4) := ok_if_lt (by decide +kernel : decode cX12_isLinear 1 = .ok (.ifCond .lt 23, 3)) (by decide)
theorem o228_4 : Okp RX12 cX12_isLinear 1 (some .boolean) "isLinear" false 4 (sLI 0 5) := ok_iload_n (by decide +kernel : decode cX12_isLinear 4 = .ok (.iload_n 0, 1)) rfl
theorem o228_5 : Okp RX12 cX12_isLinear 1 (some .boolean) "isLinear" false 5 (sCS false 224 1 8) := ok_cs (by decide +kernel : decode cX12_isLinear 5 = .ok (.invokestatic 258, 3)) mw_X12_258 wt_X12_kind (by decide) rfl
theorem o228_8 : Okp RX12 cX12_isLinear 1 (some .boolean) "isLinear" false 8 (sK 4 9) := ok_iconst (by decide +kernel : decode cX12_isLinear 8 = .ok (.iconst 4, 1)) (by decide)
theorem o228_9 : Okp RX12 cX12_isLinear 1 (some .boolean) "isLinear" false 9 (sI2 0 20 12) := ok_icmp_eq (by decide +kernel : decode cX12_isLinear 9 = .ok (.if_icmp .eq 11, 3)) (by decide)
theorem o228_12 : Okp RX12 cX12_isLinear 1 (some .boolean) "isLinear" false 12 (sLI 0 13) := ok_iload_n (by decide +kernel : decode cX12_isLinear 12 = .ok (.iload_n 0, 1)) rfl
theorem o228_13 : Okp RX12 cX12_isLinear 1 (some .boolean) "isLinear" false 13 (sCS false 224 1 16) := ok_cs (by decide +kernel : decode cX12_isLinear 13 = .ok (.invokestatic 258, 3)) mw_X12_258 wt_X12_kind (by decide) rfl
theorem o228_16 : Okp RX12 cX12_isLinear 1 (some .boolean) "isLinear" false 16 (sK 5 17) := ok_iconst (by decide +kernel : decode cX12_isLinear 16 = .ok (.iconst 5, 1)) (by decide)
theorem o228_17 : Okp RX12 cX12_isLinear 1 (some .boolean) "isLinear" false 17 (sI2 1 24 20) := ok_icmp_ne (by decide +kernel : decode cX12_isLinear 17 = .ok (.if_icmp .ne 7, 3)) (by decide)
theorem o228_20 : Okp RX12 cX12_isLinear 1 (some .boolean) "isLinear" false 20 (sK 1 21) := ok_iconst (by decide +kernel : decode cX12_isLinear 20 = .ok (.iconst 1, 1)) (by decide)
theorem o228_21 : Okp RX12 cX12_isLinear 1 (some .boolean) "isLinear" false 21 (sGo 25) := ok_goto (by decide +kernel : decode cX12_isLinear 21 = .ok (.goto 4, 3)) (by decide)
theorem o228_24 : Okp RX12 cX12_isLinear 1 (some .boolean) "isLinear" false 24 (sK 0 25) := ok_iconst (by decide +kernel : decode cX12_isLinear 24 = .ok (.iconst 0, 1)) (by decide)
theorem o228_25 : Okp RX12 cX12_isLinear 1 (some .boolean) "isLinear" false 25 sRZ := ok_zret rfl (by decide +kernel : decode cX12_isLinear 25 = .ok (.ireturn, 1))
theorem oc228_0 : ∀ pc, Mnp (c228_0 pc) ∧ Okp RX12 cX12_isLinear 1 (some .boolean) "isLinear" false pc (c228_0 pc) := by
  intro pc
  unfold c228_0
  split
  · exact ⟨mn_sLI, o228_0⟩
  · exact ⟨mn_sI1, o228_1⟩
  · exact ⟨mn_sLI, o228_4⟩
  · exact ⟨mn_sCS, o228_5⟩
  · exact ⟨mn_sK, o228_8⟩
  · exact ⟨mn_sI2, o228_9⟩
  · exact ⟨mn_sLI, o228_12⟩
  · exact ⟨mn_sCS, o228_13⟩
  · exact ⟨mn_sK, o228_16⟩
  · exact ⟨mn_sI2, o228_17⟩
  · exact ⟨mn_sK, o228_20⟩
  · exact ⟨mn_sGo, o228_21⟩
  · exact ⟨mn_sX, ok_X⟩
theorem oc228_1 : ∀ pc, Mnp (c228_1 pc) ∧ Okp RX12 cX12_isLinear 1 (some .boolean) "isLinear" false pc (c228_1 pc) := by
  intro pc
  unfold c228_1
  split
  · exact ⟨mn_sK, o228_24⟩
  · exact ⟨mn_sRZ, o228_25⟩
  · exact ⟨mn_sX, ok_X⟩
theorem oc228 : ∀ pc, Mnp (c228 pc) ∧ Okp RX12 cX12_isLinear 1 (some .boolean) "isLinear" false pc (c228 pc) := by
  intro pc
  unfold c228
  split
  · exact oc228_0 pc
  · exact oc228_1 pc
  · exact ⟨mn_sX, ok_X⟩
theorem o229_0 : Okp RX12 cX12_isHeap 1 (some .boolean) "isHeap" false 0 (sLI 0 1) := ok_iload_n (by decide +kernel : decode cX12_isHeap 0 = .ok (.iload_n 0, 1)) rfl
theorem o229_1 : Okp RX12 cX12_isHeap 1 (some .boolean) "isHeap" false 1 (sI1 2 24 4) := ok_if_lt (by decide +kernel : decode cX12_isHeap 1 = .ok (.ifCond .lt 23, 3)) (by decide)
theorem o229_4 : Okp RX12 cX12_isHeap 1 (some .boolean) "isHeap" false 4 (sLI 0 5) := ok_iload_n (by decide +kernel : decode cX12_isHeap 4 = .ok (.iload_n 0, 1)) rfl
theorem o229_5 : Okp RX12 cX12_isHeap 1 (some .boolean) "isHeap" false 5 (sCS false 224 1 8) := ok_cs (by decide +kernel : decode cX12_isHeap 5 = .ok (.invokestatic 258, 3)) mw_X12_258 wt_X12_kind (by decide) rfl
theorem o229_8 : Okp RX12 cX12_isHeap 1 (some .boolean) "isHeap" false 8 (sK 1 9) := ok_iconst (by decide +kernel : decode cX12_isHeap 8 = .ok (.iconst 1, 1)) (by decide)
theorem o229_9 : Okp RX12 cX12_isHeap 1 (some .boolean) "isHeap" false 9 (sI2 2 24 12) := ok_icmp_lt (by decide +kernel : decode cX12_isHeap 9 = .ok (.if_icmp .lt 15, 3)) (by decide)
theorem o229_12 : Okp RX12 cX12_isHeap 1 (some .boolean) "isHeap" false 12 (sLI 0 13) := ok_iload_n (by decide +kernel : decode cX12_isHeap 12 = .ok (.iload_n 0, 1)) rfl
theorem o229_13 : Okp RX12 cX12_isHeap 1 (some .boolean) "isHeap" false 13 (sCS false 224 1 16) := ok_cs (by decide +kernel : decode cX12_isHeap 13 = .ok (.invokestatic 258, 3)) mw_X12_258 wt_X12_kind (by decide) rfl
theorem o229_16 : Okp RX12 cX12_isHeap 1 (some .boolean) "isHeap" false 16 (sK 3 17) := ok_iconst (by decide +kernel : decode cX12_isHeap 16 = .ok (.iconst 3, 1)) (by decide)
theorem o229_17 : Okp RX12 cX12_isHeap 1 (some .boolean) "isHeap" false 17 (sI2 4 24 20) := ok_icmp_gt (by decide +kernel : decode cX12_isHeap 17 = .ok (.if_icmp .gt 7, 3)) (by decide)
theorem o229_20 : Okp RX12 cX12_isHeap 1 (some .boolean) "isHeap" false 20 (sK 1 21) := ok_iconst (by decide +kernel : decode cX12_isHeap 20 = .ok (.iconst 1, 1)) (by decide)
theorem o229_21 : Okp RX12 cX12_isHeap 1 (some .boolean) "isHeap" false 21 (sGo 25) := ok_goto (by decide +kernel : decode cX12_isHeap 21 = .ok (.goto 4, 3)) (by decide)
theorem o229_24 : Okp RX12 cX12_isHeap 1 (some .boolean) "isHeap" false 24 (sK 0 25) := ok_iconst (by decide +kernel : decode cX12_isHeap 24 = .ok (.iconst 0, 1)) (by decide)
theorem o229_25 : Okp RX12 cX12_isHeap 1 (some .boolean) "isHeap" false 25 sRZ := ok_zret rfl (by decide +kernel : decode cX12_isHeap 25 = .ok (.ireturn, 1))
theorem oc229_0 : ∀ pc, Mnp (c229_0 pc) ∧ Okp RX12 cX12_isHeap 1 (some .boolean) "isHeap" false pc (c229_0 pc) := by
  intro pc
  unfold c229_0
  split
  · exact ⟨mn_sLI, o229_0⟩
  · exact ⟨mn_sI1, o229_1⟩
  · exact ⟨mn_sLI, o229_4⟩
  · exact ⟨mn_sCS, o229_5⟩
  · exact ⟨mn_sK, o229_8⟩
  · exact ⟨mn_sI2, o229_9⟩
  · exact ⟨mn_sLI, o229_12⟩
  · exact ⟨mn_sCS, o229_13⟩
  · exact ⟨mn_sK, o229_16⟩
  · exact ⟨mn_sI2, o229_17⟩
  · exact ⟨mn_sK, o229_20⟩
  · exact ⟨mn_sGo, o229_21⟩
  · exact ⟨mn_sX, ok_X⟩
theorem oc229_1 : ∀ pc, Mnp (c229_1 pc) ∧ Okp RX12 cX12_isHeap 1 (some .boolean) "isHeap" false pc (c229_1 pc) := by
  intro pc
  unfold c229_1
  split
  · exact ⟨mn_sK, o229_24⟩
  · exact ⟨mn_sRZ, o229_25⟩
  · exact ⟨mn_sX, ok_X⟩
theorem oc229 : ∀ pc, Mnp (c229 pc) ∧ Okp RX12 cX12_isHeap 1 (some .boolean) "isHeap" false pc (c229 pc) := by
  intro pc
  unfold c229
  split
  · exact oc229_0 pc
  · exact oc229_1 pc
  · exact ⟨mn_sX, ok_X⟩
theorem o230_0 : Okp RX12 cX12_module 5 none "module" false 0 (sLR 0 1) := ok_aload_n (by decide +kernel : decode cX12_module 0 = .ok (.aload_n 0, 1)) rfl
theorem o230_1 : Okp RX12 cX12_module 5 none "module" false 1 (sGI 13 27 4) := ok_getI (by decide +kernel : decode cX12_module 1 = .ok (.getfield 240, 3)) fw_X12_240 rfl
theorem o230_4 : Okp RX12 cX12_module 5 none "module" false 4 (sSI 1 5) := ok_istore_n (by decide +kernel : decode cX12_module 4 = .ok (.istore_n 1, 1)) rfl (by decide) (by decide)
theorem o230_5 : Okp RX12 cX12_module 5 none "module" false 5 (sLR 0 6) := ok_aload_n (by decide +kernel : decode cX12_module 5 = .ok (.aload_n 0, 1)) rfl
theorem o230_6 : Okp RX12 cX12_module 5 none "module" false 6 (sK 83 8) := ok_bipush (by decide +kernel : decode cX12_module 6 = .ok (.bipush 83, 2)) (by decide)
theorem o230_8 : Okp RX12 cX12_module 5 none "module" false 8 (sCV false 222 2 13 11) := ok_cvT (by decide +kernel : decode cX12_module 8 = .ok (.invokevirtual 262, 3)) mw_X12_262 rfl rfl (by decide) wm_X12_must wse_X12_must (by decide)
theorem o230_11 : Okp RX12 cX12_module 5 none "module" false 11 (sLR 0 12) := ok_aload_n (by decide +kernel : decode cX12_module 11 = .ok (.aload_n 0, 1)) rfl
theorem o230_12 : Okp RX12 cX12_module 5 none "module" false 12 (sK 77 14) := ok_bipush (by decide +kernel : decode cX12_module 12 = .ok (.bipush 77, 2)) (by decide)
theorem o230_14 : Okp RX12 cX12_module 5 none "module" false 14 (sCV false 222 2 13 17) := ok_cvT (by decide +kernel : decode cX12_module 14 = .ok (.invokevirtual 262, 3)) mw_X12_262 rfl rfl (by decide) wm_X12_must wse_X12_must (by decide)
theorem o230_17 : Okp RX12 cX12_module 5 none "module" false 17 (sLR 0 18) := ok_aload_n (by decide +kernel : decode cX12_module 17 = .ok (.aload_n 0, 1)) rfl
theorem o230_18 : Okp RX12 cX12_module 5 none "module" false 18 (sGR 13 5 21) := ok_getR (by decide +kernel : decode cX12_module 18 = .ok (.getfield 20, 3)) fw_X12_20 rfl
theorem o230_21 : Okp RX12 cX12_module 5 none "module" false 21 (sLI 1 22) := ok_iload_n (by decide +kernel : decode cX12_module 21 = .ok (.iload_n 1, 1)) rfl
theorem o230_22 : Okp RX12 cX12_module 5 none "module" false 22 (sLR 0 23) := ok_aload_n (by decide +kernel : decode cX12_module 22 = .ok (.aload_n 0, 1)) rfl
theorem o230_23 : Okp RX12 cX12_module 5 none "module" false 23 (sK 0 24) := ok_iconst (by decide +kernel : decode cX12_module 23 = .ok (.iconst 0, 1)) (by decide)
theorem o230_24 : Okp RX12 cX12_module 5 none "module" false 24 (sK 8 26) := ok_bipush (by decide +kernel : decode cX12_module 24 = .ok (.bipush 8, 2)) (by decide)
theorem o230_26 : Okp RX12 cX12_module 5 none "module" false 26 (sCV false 221 3 13 29) := ok_cvT (by decide +kernel : decode cX12_module 26 = .ok (.invokevirtual 254, 3)) mw_X12_254 rfl rfl (by decide) wm_X12_number wse_X12_number (by decide)
theorem o230_29 : Okp RX12 cX12_module 5 none "module" false 29 (sIS 30) := ok_iastore (by decide +kernel : decode cX12_module 29 = .ok (.iastore, 1))
theorem o230_30 : Okp RX12 cX12_module 5 none "module" false 30 (sK 0 31) := ok_iconst (by decide +kernel : decode cX12_module 30 = .ok (.iconst 0, 1)) (by decide)
theorem o230_31 : Okp RX12 cX12_module 5 none "module" false 31 (sSI 2 32) := ok_istore_n (by decide +kernel : decode cX12_module 31 = .ok (.istore_n 2, 1)) rfl (by decide) (by decide)
theorem o230_32 : Okp RX12 cX12_module 5 none "module" false 32 (sLI 2 33) := ok_iload_n (by decide +kernel : decode cX12_module 32 = .ok (.iload_n 2, 1)) rfl
theorem o230_33 : Okp RX12 cX12_module 5 none "module" false 33 (sLR 0 34) := ok_aload_n (by decide +kernel : decode cX12_module 33 = .ok (.aload_n 0, 1)) rfl
theorem o230_34 : Okp RX12 cX12_module 5 none "module" false 34 (sGR 13 5 37) := ok_getR (by decide +kernel : decode cX12_module 34 = .ok (.getfield 20, 3)) fw_X12_20 rfl
theorem o230_37 : Okp RX12 cX12_module 5 none "module" false 37 (sLI 1 38) := ok_iload_n (by decide +kernel : decode cX12_module 37 = .ok (.iload_n 1, 1)) rfl
theorem o230_38 : Okp RX12 cX12_module 5 none "module" false 38 (sIA 39) := ok_iaload (by decide +kernel : decode cX12_module 38 = .ok (.iaload, 1))
theorem o230_39 : Okp RX12 cX12_module 5 none "module" false 39 (sI2 3 107 42) := ok_icmp_ge (by decide +kernel : decode cX12_module 39 = .ok (.if_icmp .ge 68, 3)) (by decide)
theorem o230_42 : Okp RX12 cX12_module 5 none "module" false 42 (sLR 0 43) := ok_aload_n (by decide +kernel : decode cX12_module 42 = .ok (.aload_n 0, 1)) rfl
theorem o230_43 : Okp RX12 cX12_module 5 none "module" false 43 (sK 1 44) := ok_iconst (by decide +kernel : decode cX12_module 43 = .ok (.iconst 1, 1)) (by decide)
theorem o230_44 : Okp RX12 cX12_module 5 none "module" false 44 (sK 6 46) := ok_bipush (by decide +kernel : decode cX12_module 44 = .ok (.bipush 6, 2)) (by decide)
theorem o230_46 : Okp RX12 cX12_module 5 none "module" false 46 (sCV false 221 3 13 49) := ok_cvT (by decide +kernel : decode cX12_module 46 = .ok (.invokevirtual 254, 3)) mw_X12_254 rfl rfl (by decide) wm_X12_number wse_X12_number (by decide)
theorem o230_49 : Okp RX12 cX12_module 5 none "module" false 49 (sSI 3 50) := ok_istore_n (by decide +kernel : decode cX12_module 49 = .ok (.istore_n 3, 1)) rfl (by decide) (by decide)
theorem o230_50 : Okp RX12 cX12_module 5 none "module" false 50 (sLR 0 51) := ok_aload_n (by decide +kernel : decode cX12_module 50 = .ok (.aload_n 0, 1)) rfl
theorem o230_51 : Okp RX12 cX12_module 5 none "module" false 51 (sGR 13 9 54) := ok_getR (by decide +kernel : decode cX12_module 51 = .ok (.getfield 33, 3)) fw_X12_33 rfl
theorem o230_54 : Okp RX12 cX12_module 5 none "module" false 54 (sK 8 56) := ok_bipush (by decide +kernel : decode cX12_module 54 = .ok (.bipush 8, 2)) (by decide)
theorem o230_56 : Okp RX12 cX12_module 5 none "module" false 56 (sLI 1 57) := ok_iload_n (by decide +kernel : decode cX12_module 56 = .ok (.iload_n 1, 1)) rfl
theorem o230_57 : Okp RX12 cX12_module 5 none "module" false 57 (sB2 fMul 58) := ok_imul (by decide +kernel : decode cX12_module 57 = .ok (.imul, 1))
theorem o230_58 : Okp RX12 cX12_module 5 none "module" false 58 (sLI 2 59) := ok_iload_n (by decide +kernel : decode cX12_module 58 = .ok (.iload_n 2, 1)) rfl
theorem o230_59 : Okp RX12 cX12_module 5 none "module" false 59 (sB2 fAdd 60) := ok_iadd (by decide +kernel : decode cX12_module 59 = .ok (.iadd, 1))
theorem o230_60 : Okp RX12 cX12_module 5 none "module" false 60 (sLI 3 61) := ok_iload_n (by decide +kernel : decode cX12_module 60 = .ok (.iload_n 3, 1)) rfl
theorem o230_61 : Okp RX12 cX12_module 5 none "module" false 61 (sIS 62) := ok_iastore (by decide +kernel : decode cX12_module 61 = .ok (.iastore, 1))
theorem o230_62 : Okp RX12 cX12_module 5 none "module" false 62 (sK 0 63) := ok_iconst (by decide +kernel : decode cX12_module 62 = .ok (.iconst 0, 1)) (by decide)
theorem o230_63 : Okp RX12 cX12_module 5 none "module" false 63 (sSI 4 65) := ok_istore (by decide +kernel : decode cX12_module 63 = .ok (.istore 4, 2)) (by decide) (by decide)
theorem o230_65 : Okp RX12 cX12_module 5 none "module" false 65 (sLI 4 67) := ok_iload (by decide +kernel : decode cX12_module 65 = .ok (.iload 4, 2))
theorem o230_67 : Okp RX12 cX12_module 5 none "module" false 67 (sLI 3 68) := ok_iload_n (by decide +kernel : decode cX12_module 67 = .ok (.iload_n 3, 1)) rfl
theorem o230_68 : Okp RX12 cX12_module 5 none "module" false 68 (sI2 3 101 71) := ok_icmp_ge (by decide +kernel : decode cX12_module 68 = .ok (.if_icmp .ge 33, 3)) (by decide)
theorem o230_71 : Okp RX12 cX12_module 5 none "module" false 71 (sLR 0 72) := ok_aload_n (by decide +kernel : decode cX12_module 71 = .ok (.aload_n 0, 1)) rfl
theorem o230_72 : Okp RX12 cX12_module 5 none "module" false 72 (sGR 13 10 75) := ok_getR (by decide +kernel : decode cX12_module 72 = .ok (.getfield 36, 3)) fw_X12_36 rfl
theorem o230_75 : Okp RX12 cX12_module 5 none "module" false 75 (sK 48 77) := ok_bipush (by decide +kernel : decode cX12_module 75 = .ok (.bipush 48, 2)) (by decide)
theorem o230_77 : Okp RX12 cX12_module 5 none "module" false 77 (sLI 1 78) := ok_iload_n (by decide +kernel : decode cX12_module 77 = .ok (.iload_n 1, 1)) rfl
theorem o230_78 : Okp RX12 cX12_module 5 none "module" false 78 (sB2 fMul 79) := ok_imul (by decide +kernel : decode cX12_module 78 = .ok (.imul, 1))
theorem o230_79 : Okp RX12 cX12_module 5 none "module" false 79 (sK 6 81) := ok_bipush (by decide +kernel : decode cX12_module 79 = .ok (.bipush 6, 2)) (by decide)
theorem o230_81 : Okp RX12 cX12_module 5 none "module" false 81 (sLI 2 82) := ok_iload_n (by decide +kernel : decode cX12_module 81 = .ok (.iload_n 2, 1)) rfl
theorem o230_82 : Okp RX12 cX12_module 5 none "module" false 82 (sB2 fMul 83) := ok_imul (by decide +kernel : decode cX12_module 82 = .ok (.imul, 1))
theorem o230_83 : Okp RX12 cX12_module 5 none "module" false 83 (sB2 fAdd 84) := ok_iadd (by decide +kernel : decode cX12_module 83 = .ok (.iadd, 1))
theorem o230_84 : Okp RX12 cX12_module 5 none "module" false 84 (sLI 4 86) := ok_iload (by decide +kernel : decode cX12_module 84 = .ok (.iload 4, 2))
theorem o230_86 : Okp RX12 cX12_module 5 none "module" false 86 (sB2 fAdd 87) := ok_iadd (by decide +kernel : decode cX12_module 86 = .ok (.iadd, 1))
theorem o230_87 : Okp RX12 cX12_module 5 none "module" false 87 (sLR 0 88) := ok_aload_n (by decide +kernel : decode cX12_module 87 = .ok (.aload_n 0, 1)) rfl
theorem o230_88 : Okp RX12 cX12_module 5 none "module" false 88 (sK 15 90) := ok_bipush (by decide +kernel : decode cX12_module 88 = .ok (.bipush 15, 2)) (by decide)
theorem o230_90 : Okp RX12 cX12_module 5 none "module" false 90 (sK 0 91) := ok_iconst (by decide +kernel : decode cX12_module 90 = .ok (.iconst 0, 1)) (by decide)
theorem o230_91 : Okp RX12 cX12_module 5 none "module" false 91 (sCV false 223 3 13 94) := ok_cvT (by decide +kernel : decode cX12_module 91 = .ok (.invokevirtual 266, 3)) mw_X12_266 rfl rfl (by decide) wm_X12_type wse_X12_type (by decide)
theorem o230_94 : Okp RX12 cX12_module 5 none "module" false 94 (sIS 95) := ok_iastore (by decide +kernel : decode cX12_module 94 = .ok (.iastore, 1))
theorem o230_95 : Okp RX12 cX12_module 5 none "module" false 95 (sInc 4 1 98) := ok_iinc (by decide +kernel : decode cX12_module 95 = .ok (.iinc 4 1, 3)) (by decide) (by decide)
theorem o230_98 : Okp RX12 cX12_module 5 none "module" false 98 (sGo 65) := ok_goto (by decide +kernel : decode cX12_module 98 = .ok (.goto (-33), 3)) (by decide)
theorem o230_101 : Okp RX12 cX12_module 5 none "module" false 101 (sInc 2 1 104) := ok_iinc (by decide +kernel : decode cX12_module 101 = .ok (.iinc 2 1, 3)) (by decide) (by decide)
theorem o230_104 : Okp RX12 cX12_module 5 none "module" false 104 (sGo 32) := ok_goto (by decide +kernel : decode cX12_module 104 = .ok (.goto (-72), 3)) (by decide)
theorem o230_107 : Okp RX12 cX12_module 5 none "module" false 107 (sLR 0 108) := ok_aload_n (by decide +kernel : decode cX12_module 107 = .ok (.aload_n 0, 1)) rfl
theorem o230_108 : Okp RX12 cX12_module 5 none "module" false 108 (sGR 13 6 111) := ok_getR (by decide +kernel : decode cX12_module 108 = .ok (.getfield 23, 3)) fw_X12_23 rfl
theorem o230_111 : Okp RX12 cX12_module 5 none "module" false 111 (sLI 1 112) := ok_iload_n (by decide +kernel : decode cX12_module 111 = .ok (.iload_n 1, 1)) rfl
theorem o230_112 : Okp RX12 cX12_module 5 none "module" false 112 (sLR 0 113) := ok_aload_n (by decide +kernel : decode cX12_module 112 = .ok (.aload_n 0, 1)) rfl
theorem o230_113 : Okp RX12 cX12_module 5 none "module" false 113 (sK 0 114) := ok_iconst (by decide +kernel : decode cX12_module 113 = .ok (.iconst 0, 1)) (by decide)
theorem o230_114 : Okp RX12 cX12_module 5 none "module" false 114 (sK 4 115) := ok_iconst (by decide +kernel : decode cX12_module 114 = .ok (.iconst 4, 1)) (by decide)
theorem o230_115 : Okp RX12 cX12_module 5 none "module" false 115 (sCV false 221 3 13 118) := ok_cvT (by decide +kernel : decode cX12_module 115 = .ok (.invokevirtual 254, 3)) mw_X12_254 rfl rfl (by decide) wm_X12_number wse_X12_number (by decide)
theorem o230_118 : Okp RX12 cX12_module 5 none "module" false 118 (sIS 119) := ok_iastore (by decide +kernel : decode cX12_module 118 = .ok (.iastore, 1))
theorem o230_119 : Okp RX12 cX12_module 5 none "module" false 119 (sK 0 120) := ok_iconst (by decide +kernel : decode cX12_module 119 = .ok (.iconst 0, 1)) (by decide)
theorem o230_120 : Okp RX12 cX12_module 5 none "module" false 120 (sSI 2 121) := ok_istore_n (by decide +kernel : decode cX12_module 120 = .ok (.istore_n 2, 1)) rfl (by decide) (by decide)
theorem o230_121 : Okp RX12 cX12_module 5 none "module" false 121 (sLI 2 122) := ok_iload_n (by decide +kernel : decode cX12_module 121 = .ok (.iload_n 2, 1)) rfl
theorem o230_122 : Okp RX12 cX12_module 5 none "module" false 122 (sLR 0 123) := ok_aload_n (by decide +kernel : decode cX12_module 122 = .ok (.aload_n 0, 1)) rfl
theorem o230_123 : Okp RX12 cX12_module 5 none "module" false 123 (sGR 13 6 126) := ok_getR (by decide +kernel : decode cX12_module 123 = .ok (.getfield 23, 3)) fw_X12_23 rfl
theorem o230_126 : Okp RX12 cX12_module 5 none "module" false 126 (sLI 1 127) := ok_iload_n (by decide +kernel : decode cX12_module 126 = .ok (.iload_n 1, 1)) rfl
theorem o230_127 : Okp RX12 cX12_module 5 none "module" false 127 (sIA 128) := ok_iaload (by decide +kernel : decode cX12_module 127 = .ok (.iaload, 1))
theorem o230_128 : Okp RX12 cX12_module 5 none "module" false 128 (sI2 3 146 131) := ok_icmp_ge (by decide +kernel : decode cX12_module 128 = .ok (.if_icmp .ge 18, 3)) (by decide)
theorem o230_131 : Okp RX12 cX12_module 5 none "module" false 131 (sLR 0 132) := ok_aload_n (by decide +kernel : decode cX12_module 131 = .ok (.aload_n 0, 1)) rfl
theorem o230_132 : Okp RX12 cX12_module 5 none "module" false 132 (sK 4 133) := ok_iconst (by decide +kernel : decode cX12_module 132 = .ok (.iconst 4, 1)) (by decide)
theorem o230_133 : Okp RX12 cX12_module 5 none "module" false 133 (sLI 1 134) := ok_iload_n (by decide +kernel : decode cX12_module 133 = .ok (.iload_n 1, 1)) rfl
theorem o230_134 : Okp RX12 cX12_module 5 none "module" false 134 (sB2 fMul 135) := ok_imul (by decide +kernel : decode cX12_module 134 = .ok (.imul, 1))
theorem o230_135 : Okp RX12 cX12_module 5 none "module" false 135 (sLI 2 136) := ok_iload_n (by decide +kernel : decode cX12_module 135 = .ok (.iload_n 2, 1)) rfl
theorem o230_136 : Okp RX12 cX12_module 5 none "module" false 136 (sB2 fAdd 137) := ok_iadd (by decide +kernel : decode cX12_module 136 = .ok (.iadd, 1))
theorem o230_137 : Okp RX12 cX12_module 5 none "module" false 137 (sCV false 231 2 13 140) := ok_cvT (by decide +kernel : decode cX12_module 137 = .ok (.invokevirtual 270, 3)) mw_X12_270 rfl rfl (by decide) wm_X12_contract wse_X12_contract (by decide)
theorem o230_140 : Okp RX12 cX12_module 5 none "module" false 140 (sInc 2 1 143) := ok_iinc (by decide +kernel : decode cX12_module 140 = .ok (.iinc 2 1, 3)) (by decide) (by decide)
theorem o230_143 : Okp RX12 cX12_module 5 none "module" false 143 (sGo 121) := ok_goto (by decide +kernel : decode cX12_module 143 = .ok (.goto (-22), 3)) (by decide)
theorem o230_146 : Okp RX12 cX12_module 5 none "module" false 146 (sLR 0 147) := ok_aload_n (by decide +kernel : decode cX12_module 146 = .ok (.aload_n 0, 1)) rfl
theorem o230_147 : Okp RX12 cX12_module 5 none "module" false 147 (sGR 13 7 150) := ok_getR (by decide +kernel : decode cX12_module 147 = .ok (.getfield 26, 3)) fw_X12_26 rfl
theorem o230_150 : Okp RX12 cX12_module 5 none "module" false 150 (sLI 1 151) := ok_iload_n (by decide +kernel : decode cX12_module 150 = .ok (.iload_n 1, 1)) rfl
theorem o230_151 : Okp RX12 cX12_module 5 none "module" false 151 (sLR 0 152) := ok_aload_n (by decide +kernel : decode cX12_module 151 = .ok (.aload_n 0, 1)) rfl
theorem o230_152 : Okp RX12 cX12_module 5 none "module" false 152 (sK 1 153) := ok_iconst (by decide +kernel : decode cX12_module 152 = .ok (.iconst 1, 1)) (by decide)
theorem o230_153 : Okp RX12 cX12_module 5 none "module" false 153 (sK 10 155) := ok_bipush (by decide +kernel : decode cX12_module 153 = .ok (.bipush 10, 2)) (by decide)
theorem o230_155 : Okp RX12 cX12_module 5 none "module" false 155 (sCV false 221 3 13 158) := ok_cvT (by decide +kernel : decode cX12_module 155 = .ok (.invokevirtual 254, 3)) mw_X12_254 rfl rfl (by decide) wm_X12_number wse_X12_number (by decide)
theorem o230_158 : Okp RX12 cX12_module 5 none "module" false 158 (sIS 159) := ok_iastore (by decide +kernel : decode cX12_module 158 = .ok (.iastore, 1))
theorem o230_159 : Okp RX12 cX12_module 5 none "module" false 159 (sK 0 160) := ok_iconst (by decide +kernel : decode cX12_module 159 = .ok (.iconst 0, 1)) (by decide)
theorem o230_160 : Okp RX12 cX12_module 5 none "module" false 160 (sSI 2 161) := ok_istore_n (by decide +kernel : decode cX12_module 160 = .ok (.istore_n 2, 1)) rfl (by decide) (by decide)
theorem o230_161 : Okp RX12 cX12_module 5 none "module" false 161 (sLI 2 162) := ok_iload_n (by decide +kernel : decode cX12_module 161 = .ok (.iload_n 2, 1)) rfl
theorem o230_162 : Okp RX12 cX12_module 5 none "module" false 162 (sLR 0 163) := ok_aload_n (by decide +kernel : decode cX12_module 162 = .ok (.aload_n 0, 1)) rfl
theorem o230_163 : Okp RX12 cX12_module 5 none "module" false 163 (sGR 13 7 166) := ok_getR (by decide +kernel : decode cX12_module 163 = .ok (.getfield 26, 3)) fw_X12_26 rfl
theorem o230_166 : Okp RX12 cX12_module 5 none "module" false 166 (sLI 1 167) := ok_iload_n (by decide +kernel : decode cX12_module 166 = .ok (.iload_n 1, 1)) rfl
theorem o230_167 : Okp RX12 cX12_module 5 none "module" false 167 (sIA 168) := ok_iaload (by decide +kernel : decode cX12_module 167 = .ok (.iaload, 1))
theorem o230_168 : Okp RX12 cX12_module 5 none "module" false 168 (sI2 3 187 171) := ok_icmp_ge (by decide +kernel : decode cX12_module 168 = .ok (.if_icmp .ge 19, 3)) (by decide)
theorem o230_171 : Okp RX12 cX12_module 5 none "module" false 171 (sLR 0 172) := ok_aload_n (by decide +kernel : decode cX12_module 171 = .ok (.aload_n 0, 1)) rfl
theorem o230_172 : Okp RX12 cX12_module 5 none "module" false 172 (sK 10 174) := ok_bipush (by decide +kernel : decode cX12_module 172 = .ok (.bipush 10, 2)) (by decide)
theorem o230_174 : Okp RX12 cX12_module 5 none "module" false 174 (sLI 1 175) := ok_iload_n (by decide +kernel : decode cX12_module 174 = .ok (.iload_n 1, 1)) rfl
theorem o230_175 : Okp RX12 cX12_module 5 none "module" false 175 (sB2 fMul 176) := ok_imul (by decide +kernel : decode cX12_module 175 = .ok (.imul, 1))
theorem o230_176 : Okp RX12 cX12_module 5 none "module" false 176 (sLI 2 177) := ok_iload_n (by decide +kernel : decode cX12_module 176 = .ok (.iload_n 2, 1)) rfl
theorem o230_177 : Okp RX12 cX12_module 5 none "module" false 177 (sB2 fAdd 178) := ok_iadd (by decide +kernel : decode cX12_module 177 = .ok (.iadd, 1))
theorem o230_178 : Okp RX12 cX12_module 5 none "module" false 178 (sCV false 232 2 13 181) := ok_cvT (by decide +kernel : decode cX12_module 178 = .ok (.invokevirtual 273, 3)) mw_X12_273 rfl rfl (by decide) wm_X12_functionText wse_X12_functionText (by decide)
theorem o230_181 : Okp RX12 cX12_module 5 none "module" false 181 (sInc 2 1 184) := ok_iinc (by decide +kernel : decode cX12_module 181 = .ok (.iinc 2 1, 3)) (by decide) (by decide)
theorem o230_184 : Okp RX12 cX12_module 5 none "module" false 184 (sGo 161) := ok_goto (by decide +kernel : decode cX12_module 184 = .ok (.goto (-23), 3)) (by decide)
theorem o230_187 : Okp RX12 cX12_module 5 none "module" false 187 (sLR 0 188) := ok_aload_n (by decide +kernel : decode cX12_module 187 = .ok (.aload_n 0, 1)) rfl
theorem o230_188 : Okp RX12 cX12_module 5 none "module" false 188 (sGI 13 26 191) := ok_getI (by decide +kernel : decode cX12_module 188 = .ok (.getfield 243, 3)) fw_X12_243 rfl
theorem o230_191 : Okp RX12 cX12_module 5 none "module" false 191 (sLR 0 192) := ok_aload_n (by decide +kernel : decode cX12_module 191 = .ok (.aload_n 0, 1)) rfl
theorem o230_192 : Okp RX12 cX12_module 5 none "module" false 192 (sGR 13 4 195) := ok_getR (by decide +kernel : decode cX12_module 192 = .ok (.getfield 16, 3)) fw_X12_16 rfl
theorem o230_195 : Okp RX12 cX12_module 5 none "module" false 195 (sLI 1 196) := ok_iload_n (by decide +kernel : decode cX12_module 195 = .ok (.iload_n 1, 1)) rfl
theorem o230_196 : Okp RX12 cX12_module 5 none "module" false 196 (sIA 197) := ok_iaload (by decide +kernel : decode cX12_module 196 = .ok (.iaload, 1))
theorem o230_197 : Okp RX12 cX12_module 5 none "module" false 197 (sI2 3 209 200) := ok_icmp_ge (by decide +kernel : decode cX12_module 197 = .ok (.if_icmp .ge 12, 3)) (by decide)
theorem o230_200 : Okp RX12 cX12_module 5 none "module" false 200 (sLR 0 201) := ok_aload_n (by decide +kernel : decode cX12_module 200 = .ok (.aload_n 0, 1)) rfl
theorem o230_201 : Okp RX12 cX12_module 5 none "module" false 201 (sK 1 202) := ok_iconst (by decide +kernel : decode cX12_module 201 = .ok (.iconst 1, 1)) (by decide)
theorem o230_202 : Okp RX12 cX12_module 5 none "module" false 202 (sLR 0 203) := ok_aload_n (by decide +kernel : decode cX12_module 202 = .ok (.aload_n 0, 1)) rfl
theorem o230_203 : Okp RX12 cX12_module 5 none "module" false 203 (sGI 13 26 206) := ok_getI (by decide +kernel : decode cX12_module 203 = .ok (.getfield 243, 3)) fw_X12_243 rfl
theorem o230_206 : Okp RX12 cX12_module 5 none "module" false 206 (sCV false 218 3 13 209) := ok_cvT (by decide +kernel : decode cX12_module 206 = .ok (.invokevirtual 250, 3)) mw_X12_250 rfl rfl (by decide) wm_X12_fails wse_X12_fails (by decide)
theorem o230_209 : Okp RX12 cX12_module 5 none "module" false 209 sRV := ok_vret rfl (by decide +kernel : decode cX12_module 209 = .ok (.return_, 1))
theorem oc230_0 : ∀ pc, Mnp (c230_0 pc) ∧ Okp RX12 cX12_module 5 none "module" false pc (c230_0 pc) := by
  intro pc
  unfold c230_0
  split
  · exact ⟨mn_sLR, o230_0⟩
  · exact ⟨mn_sGI, o230_1⟩
  · exact ⟨mn_sSI, o230_4⟩
  · exact ⟨mn_sLR, o230_5⟩
  · exact ⟨mn_sK, o230_6⟩
  · exact ⟨mn_sCV, o230_8⟩
  · exact ⟨mn_sLR, o230_11⟩
  · exact ⟨mn_sK, o230_12⟩
  · exact ⟨mn_sCV, o230_14⟩
  · exact ⟨mn_sLR, o230_17⟩
  · exact ⟨mn_sGR, o230_18⟩
  · exact ⟨mn_sLI, o230_21⟩
  · exact ⟨mn_sLR, o230_22⟩
  · exact ⟨mn_sK, o230_23⟩
  · exact ⟨mn_sX, ok_X⟩
theorem oc230_1 : ∀ pc, Mnp (c230_1 pc) ∧ Okp RX12 cX12_module 5 none "module" false pc (c230_1 pc) := by
  intro pc
  unfold c230_1
  split
  · exact ⟨mn_sK, o230_24⟩
  · exact ⟨mn_sCV, o230_26⟩
  · exact ⟨mn_sIS, o230_29⟩
  · exact ⟨mn_sK, o230_30⟩
  · exact ⟨mn_sSI, o230_31⟩
  · exact ⟨mn_sLI, o230_32⟩
  · exact ⟨mn_sLR, o230_33⟩
  · exact ⟨mn_sGR, o230_34⟩
  · exact ⟨mn_sLI, o230_37⟩
  · exact ⟨mn_sIA, o230_38⟩
  · exact ⟨mn_sI2, o230_39⟩
  · exact ⟨mn_sLR, o230_42⟩
  · exact ⟨mn_sK, o230_43⟩
  · exact ⟨mn_sK, o230_44⟩
  · exact ⟨mn_sCV, o230_46⟩
  · exact ⟨mn_sX, ok_X⟩
theorem oc230_2 : ∀ pc, Mnp (c230_2 pc) ∧ Okp RX12 cX12_module 5 none "module" false pc (c230_2 pc) := by
  intro pc
  unfold c230_2
  split
  · exact ⟨mn_sSI, o230_49⟩
  · exact ⟨mn_sLR, o230_50⟩
  · exact ⟨mn_sGR, o230_51⟩
  · exact ⟨mn_sK, o230_54⟩
  · exact ⟨mn_sLI, o230_56⟩
  · exact ⟨mn_sB2, o230_57⟩
  · exact ⟨mn_sLI, o230_58⟩
  · exact ⟨mn_sB2, o230_59⟩
  · exact ⟨mn_sLI, o230_60⟩
  · exact ⟨mn_sIS, o230_61⟩
  · exact ⟨mn_sK, o230_62⟩
  · exact ⟨mn_sSI, o230_63⟩
  · exact ⟨mn_sLI, o230_65⟩
  · exact ⟨mn_sLI, o230_67⟩
  · exact ⟨mn_sI2, o230_68⟩
  · exact ⟨mn_sLR, o230_71⟩
  · exact ⟨mn_sX, ok_X⟩
theorem oc230_3 : ∀ pc, Mnp (c230_3 pc) ∧ Okp RX12 cX12_module 5 none "module" false pc (c230_3 pc) := by
  intro pc
  unfold c230_3
  split
  · exact ⟨mn_sGR, o230_72⟩
  · exact ⟨mn_sK, o230_75⟩
  · exact ⟨mn_sLI, o230_77⟩
  · exact ⟨mn_sB2, o230_78⟩
  · exact ⟨mn_sK, o230_79⟩
  · exact ⟨mn_sLI, o230_81⟩
  · exact ⟨mn_sB2, o230_82⟩
  · exact ⟨mn_sB2, o230_83⟩
  · exact ⟨mn_sLI, o230_84⟩
  · exact ⟨mn_sB2, o230_86⟩
  · exact ⟨mn_sLR, o230_87⟩
  · exact ⟨mn_sK, o230_88⟩
  · exact ⟨mn_sK, o230_90⟩
  · exact ⟨mn_sCV, o230_91⟩
  · exact ⟨mn_sIS, o230_94⟩
  · exact ⟨mn_sInc, o230_95⟩
  · exact ⟨mn_sX, ok_X⟩
theorem oc230_4 : ∀ pc, Mnp (c230_4 pc) ∧ Okp RX12 cX12_module 5 none "module" false pc (c230_4 pc) := by
  intro pc
  unfold c230_4
  split
  · exact ⟨mn_sGo, o230_98⟩
  · exact ⟨mn_sInc, o230_101⟩
  · exact ⟨mn_sGo, o230_104⟩
  · exact ⟨mn_sLR, o230_107⟩
  · exact ⟨mn_sGR, o230_108⟩
  · exact ⟨mn_sLI, o230_111⟩
  · exact ⟨mn_sLR, o230_112⟩
  · exact ⟨mn_sK, o230_113⟩
  · exact ⟨mn_sK, o230_114⟩
  · exact ⟨mn_sCV, o230_115⟩
  · exact ⟨mn_sIS, o230_118⟩
  · exact ⟨mn_sK, o230_119⟩
  · exact ⟨mn_sX, ok_X⟩
theorem oc230_5 : ∀ pc, Mnp (c230_5 pc) ∧ Okp RX12 cX12_module 5 none "module" false pc (c230_5 pc) := by
  intro pc
  unfold c230_5
  split
  · exact ⟨mn_sSI, o230_120⟩
  · exact ⟨mn_sLI, o230_121⟩
  · exact ⟨mn_sLR, o230_122⟩
  · exact ⟨mn_sGR, o230_123⟩
  · exact ⟨mn_sLI, o230_126⟩
  · exact ⟨mn_sIA, o230_127⟩
  · exact ⟨mn_sI2, o230_128⟩
  · exact ⟨mn_sLR, o230_131⟩
  · exact ⟨mn_sK, o230_132⟩
  · exact ⟨mn_sLI, o230_133⟩
  · exact ⟨mn_sB2, o230_134⟩
  · exact ⟨mn_sLI, o230_135⟩
  · exact ⟨mn_sB2, o230_136⟩
  · exact ⟨mn_sCV, o230_137⟩
  · exact ⟨mn_sInc, o230_140⟩
  · exact ⟨mn_sGo, o230_143⟩
  · exact ⟨mn_sX, ok_X⟩
theorem oc230_6 : ∀ pc, Mnp (c230_6 pc) ∧ Okp RX12 cX12_module 5 none "module" false pc (c230_6 pc) := by
  intro pc
  unfold c230_6
  split
  · exact ⟨mn_sLR, o230_146⟩
  · exact ⟨mn_sGR, o230_147⟩
  · exact ⟨mn_sLI, o230_150⟩
  · exact ⟨mn_sLR, o230_151⟩
  · exact ⟨mn_sK, o230_152⟩
  · exact ⟨mn_sK, o230_153⟩
  · exact ⟨mn_sCV, o230_155⟩
  · exact ⟨mn_sIS, o230_158⟩
  · exact ⟨mn_sK, o230_159⟩
  · exact ⟨mn_sSI, o230_160⟩
  · exact ⟨mn_sLI, o230_161⟩
  · exact ⟨mn_sLR, o230_162⟩
  · exact ⟨mn_sGR, o230_163⟩
  · exact ⟨mn_sLI, o230_166⟩
  · exact ⟨mn_sIA, o230_167⟩
  · exact ⟨mn_sX, ok_X⟩
theorem oc230_7 : ∀ pc, Mnp (c230_7 pc) ∧ Okp RX12 cX12_module 5 none "module" false pc (c230_7 pc) := by
  intro pc
  unfold c230_7
  split
  · exact ⟨mn_sI2, o230_168⟩
  · exact ⟨mn_sLR, o230_171⟩
  · exact ⟨mn_sK, o230_172⟩
  · exact ⟨mn_sLI, o230_174⟩
  · exact ⟨mn_sB2, o230_175⟩
  · exact ⟨mn_sLI, o230_176⟩
  · exact ⟨mn_sB2, o230_177⟩
  · exact ⟨mn_sCV, o230_178⟩
  · exact ⟨mn_sInc, o230_181⟩
  · exact ⟨mn_sGo, o230_184⟩
  · exact ⟨mn_sLR, o230_187⟩
  · exact ⟨mn_sGI, o230_188⟩
  · exact ⟨mn_sLR, o230_191⟩
  · exact ⟨mn_sX, ok_X⟩
theorem oc230_8 : ∀ pc, Mnp (c230_8 pc) ∧ Okp RX12 cX12_module 5 none "module" false pc (c230_8 pc) := by
  intro pc
  unfold c230_8
  split
  · exact ⟨mn_sGR, o230_192⟩
  · exact ⟨mn_sLI, o230_195⟩
  · exact ⟨mn_sIA, o230_196⟩
  · exact ⟨mn_sI2, o230_197⟩
  · exact ⟨mn_sLR, o230_200⟩
  · exact ⟨mn_sK, o230_201⟩
  · exact ⟨mn_sLR, o230_202⟩
  · exact ⟨mn_sGI, o230_203⟩
  · exact ⟨mn_sCV, o230_206⟩
  · exact ⟨mn_sRV, o230_209⟩
  · exact ⟨mn_sX, ok_X⟩
theorem oc230 : ∀ pc, Mnp (c230 pc) ∧ Okp RX12 cX12_module 5 none "module" false pc (c230 pc) := by
  intro pc
  unfold c230
  split
  · exact oc230_0 pc
  · exact oc230_1 pc
  · exact oc230_2 pc
  · exact oc230_3 pc
  · exact oc230_4 pc
  · exact oc230_5 pc
  · exact oc230_6 pc
  · exact oc230_7 pc
  · exact oc230_8 pc
  · exact ⟨mn_sX, ok_X⟩
theorem o231_0 : Okp RX12 cX12_contract 5 none "contract" false 0 (sLR 0 1) := ok_aload_n (by decide +kernel : decode cX12_contract 0 = .ok (.aload_n 0, 1)) rfl
theorem o231_1 : Okp RX12 cX12_contract 5 none "contract" false 1 (sGR 13 11 4) := ok_getR (by decide +kernel : decode cX12_contract 1 = .ok (.getfield 39, 3)) fw_X12_39 rfl
theorem o231_4 : Okp RX12 cX12_contract 5 none "contract" false 4 (sLI 1 5) := ok_iload_n (by decide +kernel : decode cX12_contract 4 = .ok (.iload_n 1, 1)) rfl
theorem o231_5 : Okp RX12 cX12_contract 5 none "contract" false 5 (sLR 0 6) := ok_aload_n (by decide +kernel : decode cX12_contract 5 = .ok (.aload_n 0, 1)) rfl
theorem o231_6 : Okp RX12 cX12_contract 5 none "contract" false 6 (sK 1 7) := ok_iconst (by decide +kernel : decode cX12_contract 6 = .ok (.iconst 1, 1)) (by decide)
theorem o231_7 : Okp RX12 cX12_contract 5 none "contract" false 7 (sK 8 9) := ok_bipush (by decide +kernel : decode cX12_contract 7 = .ok (.bipush 8, 2)) (by decide)
theorem o231_9 : Okp RX12 cX12_contract 5 none "contract" false 9 (sCV false 221 3 13 12) := ok_cvT (by decide +kernel : decode cX12_contract 9 = .ok (.invokevirtual 254, 3)) mw_X12_254 rfl rfl (by decide) wm_X12_number wse_X12_number (by decide)
theorem o231_12 : Okp RX12 cX12_contract 5 none "contract" false 12 (sIS 13) := ok_iastore (by decide +kernel : decode cX12_contract 12 = .ok (.iastore, 1))
theorem o231_13 : Okp RX12 cX12_contract 5 none "contract" false 13 (sK 0 14) := ok_iconst (by decide +kernel : decode cX12_contract 13 = .ok (.iconst 0, 1)) (by decide)
theorem o231_14 : Okp RX12 cX12_contract 5 none "contract" false 14 (sSI 2 15) := ok_istore_n (by decide +kernel : decode cX12_contract 14 = .ok (.istore_n 2, 1)) rfl (by decide) (by decide)
theorem o231_15 : Okp RX12 cX12_contract 5 none "contract" false 15 (sLI 2 16) := ok_iload_n (by decide +kernel : decode cX12_contract 15 = .ok (.iload_n 2, 1)) rfl
theorem o231_16 : Okp RX12 cX12_contract 5 none "contract" false 16 (sLR 0 17) := ok_aload_n (by decide +kernel : decode cX12_contract 16 = .ok (.aload_n 0, 1)) rfl
theorem o231_17 : Okp RX12 cX12_contract 5 none "contract" false 17 (sGR 13 11 20) := ok_getR (by decide +kernel : decode cX12_contract 17 = .ok (.getfield 39, 3)) fw_X12_39 rfl
theorem o231_20 : Okp RX12 cX12_contract 5 none "contract" false 20 (sLI 1 21) := ok_iload_n (by decide +kernel : decode cX12_contract 20 = .ok (.iload_n 1, 1)) rfl
theorem o231_21 : Okp RX12 cX12_contract 5 none "contract" false 21 (sIA 22) := ok_iaload (by decide +kernel : decode cX12_contract 21 = .ok (.iaload, 1))
theorem o231_22 : Okp RX12 cX12_contract 5 none "contract" false 22 (sI2 3 137 25) := ok_icmp_ge (by decide +kernel : decode cX12_contract 22 = .ok (.if_icmp .ge 115, 3)) (by decide)
theorem o231_25 : Okp RX12 cX12_contract 5 none "contract" false 25 (sK 8 27) := ok_bipush (by decide +kernel : decode cX12_contract 25 = .ok (.bipush 8, 2)) (by decide)
theorem o231_27 : Okp RX12 cX12_contract 5 none "contract" false 27 (sLI 1 28) := ok_iload_n (by decide +kernel : decode cX12_contract 27 = .ok (.iload_n 1, 1)) rfl
theorem o231_28 : Okp RX12 cX12_contract 5 none "contract" false 28 (sB2 fMul 29) := ok_imul (by decide +kernel : decode cX12_contract 28 = .ok (.imul, 1))
theorem o231_29 : Okp RX12 cX12_contract 5 none "contract" false 29 (sLI 2 30) := ok_iload_n (by decide +kernel : decode cX12_contract 29 = .ok (.iload_n 2, 1)) rfl
theorem o231_30 : Okp RX12 cX12_contract 5 none "contract" false 30 (sB2 fAdd 31) := ok_iadd (by decide +kernel : decode cX12_contract 30 = .ok (.iadd, 1))
theorem o231_31 : Okp RX12 cX12_contract 5 none "contract" false 31 (sSI 3 32) := ok_istore_n (by decide +kernel : decode cX12_contract 31 = .ok (.istore_n 3, 1)) rfl (by decide) (by decide)
theorem o231_32 : Okp RX12 cX12_contract 5 none "contract" false 32 (sLR 0 33) := ok_aload_n (by decide +kernel : decode cX12_contract 32 = .ok (.aload_n 0, 1)) rfl
theorem o231_33 : Okp RX12 cX12_contract 5 none "contract" false 33 (sGR 13 12 36) := ok_getR (by decide +kernel : decode cX12_contract 33 = .ok (.getfield 42, 3)) fw_X12_42 rfl
theorem o231_36 : Okp RX12 cX12_contract 5 none "contract" false 36 (sLI 3 37) := ok_iload_n (by decide +kernel : decode cX12_contract 36 = .ok (.iload_n 3, 1)) rfl
theorem o231_37 : Okp RX12 cX12_contract 5 none "contract" false 37 (sLR 0 38) := ok_aload_n (by decide +kernel : decode cX12_contract 37 = .ok (.aload_n 0, 1)) rfl
theorem o231_38 : Okp RX12 cX12_contract 5 none "contract" false 38 (sK 0 39) := ok_iconst (by decide +kernel : decode cX12_contract 38 = .ok (.iconst 0, 1)) (by decide)
theorem o231_39 : Okp RX12 cX12_contract 5 none "contract" false 39 (sK 2 40) := ok_iconst (by decide +kernel : decode cX12_contract 39 = .ok (.iconst 2, 1)) (by decide)
theorem o231_40 : Okp RX12 cX12_contract 5 none "contract" false 40 (sCV false 221 3 13 43) := ok_cvT (by decide +kernel : decode cX12_contract 40 = .ok (.invokevirtual 254, 3)) mw_X12_254 rfl rfl (by decide) wm_X12_number wse_X12_number (by decide)
theorem o231_43 : Okp RX12 cX12_contract 5 none "contract" false 43 (sIS 44) := ok_iastore (by decide +kernel : decode cX12_contract 43 = .ok (.iastore, 1))
theorem o231_44 : Okp RX12 cX12_contract 5 none "contract" false 44 (sLR 0 45) := ok_aload_n (by decide +kernel : decode cX12_contract 44 = .ok (.aload_n 0, 1)) rfl
theorem o231_45 : Okp RX12 cX12_contract 5 none "contract" false 45 (sGR 13 13 48) := ok_getR (by decide +kernel : decode cX12_contract 45 = .ok (.getfield 45, 3)) fw_X12_45 rfl
theorem o231_48 : Okp RX12 cX12_contract 5 none "contract" false 48 (sLI 3 49) := ok_iload_n (by decide +kernel : decode cX12_contract 48 = .ok (.iload_n 3, 1)) rfl
theorem o231_49 : Okp RX12 cX12_contract 5 none "contract" false 49 (sLR 0 50) := ok_aload_n (by decide +kernel : decode cX12_contract 49 = .ok (.aload_n 0, 1)) rfl
theorem o231_50 : Okp RX12 cX12_contract 5 none "contract" false 50 (sGR 13 12 53) := ok_getR (by decide +kernel : decode cX12_contract 50 = .ok (.getfield 42, 3)) fw_X12_42 rfl
theorem o231_53 : Okp RX12 cX12_contract 5 none "contract" false 53 (sLI 3 54) := ok_iload_n (by decide +kernel : decode cX12_contract 53 = .ok (.iload_n 3, 1)) rfl
theorem o231_54 : Okp RX12 cX12_contract 5 none "contract" false 54 (sIA 55) := ok_iaload (by decide +kernel : decode cX12_contract 54 = .ok (.iaload, 1))
theorem o231_55 : Okp RX12 cX12_contract 5 none "contract" false 55 (sI1 1 67 58) := ok_if_ne (by decide +kernel : decode cX12_contract 55 = .ok (.ifCond .ne 12, 3)) (by decide)
theorem o231_58 : Okp RX12 cX12_contract 5 none "contract" false 58 (sLR 0 59) := ok_aload_n (by decide +kernel : decode cX12_contract 58 = .ok (.aload_n 0, 1)) rfl
theorem o231_59 : Okp RX12 cX12_contract 5 none "contract" false 59 (sK 0 60) := ok_iconst (by decide +kernel : decode cX12_contract 59 = .ok (.iconst 0, 1)) (by decide)
theorem o231_60 : Okp RX12 cX12_contract 5 none "contract" false 60 (sK 0 61) := ok_iconst (by decide +kernel : decode cX12_contract 60 = .ok (.iconst 0, 1)) (by decide)
theorem o231_61 : Okp RX12 cX12_contract 5 none "contract" false 61 (sCV false 221 3 13 64) := ok_cvT (by decide +kernel : decode cX12_contract 61 = .ok (.invokevirtual 254, 3)) mw_X12_254 rfl rfl (by decide) wm_X12_number wse_X12_number (by decide)
theorem o231_64 : Okp RX12 cX12_contract 5 none "contract" false 64 (sGo 73) := ok_goto (by decide +kernel : decode cX12_contract 64 = .ok (.goto 9, 3)) (by decide)
theorem o231_67 : Okp RX12 cX12_contract 5 none "contract" false 67 (sLR 0 68) := ok_aload_n (by decide +kernel : decode cX12_contract 67 = .ok (.aload_n 0, 1)) rfl
theorem o231_68 : Okp RX12 cX12_contract 5 none "contract" false 68 (sK 1 69) := ok_iconst (by decide +kernel : decode cX12_contract 68 = .ok (.iconst 1, 1)) (by decide)
theorem o231_69 : Okp RX12 cX12_contract 5 none "contract" false 69 (sK 4 70) := ok_iconst (by decide +kernel : decode cX12_contract 69 = .ok (.iconst 4, 1)) (by decide)
theorem o231_70 : Okp RX12 cX12_contract 5 none "contract" false 70 (sCV false 221 3 13 73) := ok_cvT (by decide +kernel : decode cX12_contract 70 = .ok (.invokevirtual 254, 3)) mw_X12_254 rfl rfl (by decide) wm_X12_number wse_X12_number (by decide)
theorem o231_73 : Okp RX12 cX12_contract 5 none "contract" false 73 (sIS 74) := ok_iastore (by decide +kernel : decode cX12_contract 73 = .ok (.iastore, 1))
theorem o231_74 : Okp RX12 cX12_contract 5 none "contract" false 74 (sK 0 75) := ok_iconst (by decide +kernel : decode cX12_contract 74 = .ok (.iconst 0, 1)) (by decide)
theorem o231_75 : Okp RX12 cX12_contract 5 none "contract" false 75 (sSI 4 77) := ok_istore (by decide +kernel : decode cX12_contract 75 = .ok (.istore 4, 2)) (by decide) (by decide)
theorem o231_77 : Okp RX12 cX12_contract 5 none "contract" false 77 (sLI 4 79) := ok_iload (by decide +kernel : decode cX12_contract 77 = .ok (.iload 4, 2))
theorem o231_79 : Okp RX12 cX12_contract 5 none "contract" false 79 (sLR 0 80) := ok_aload_n (by decide +kernel : decode cX12_contract 79 = .ok (.aload_n 0, 1)) rfl
theorem o231_80 : Okp RX12 cX12_contract 5 none "contract" false 80 (sGR 13 13 83) := ok_getR (by decide +kernel : decode cX12_contract 80 = .ok (.getfield 45, 3)) fw_X12_45 rfl
theorem o231_83 : Okp RX12 cX12_contract 5 none "contract" false 83 (sLI 3 84) := ok_iload_n (by decide +kernel : decode cX12_contract 83 = .ok (.iload_n 3, 1)) rfl
theorem o231_84 : Okp RX12 cX12_contract 5 none "contract" false 84 (sIA 85) := ok_iaload (by decide +kernel : decode cX12_contract 84 = .ok (.iaload, 1))
theorem o231_85 : Okp RX12 cX12_contract 5 none "contract" false 85 (sI2 3 131 88) := ok_icmp_ge (by decide +kernel : decode cX12_contract 85 = .ok (.if_icmp .ge 46, 3)) (by decide)
theorem o231_88 : Okp RX12 cX12_contract 5 none "contract" false 88 (sLR 0 89) := ok_aload_n (by decide +kernel : decode cX12_contract 88 = .ok (.aload_n 0, 1)) rfl
theorem o231_89 : Okp RX12 cX12_contract 5 none "contract" false 89 (sGR 13 14 92) := ok_getR (by decide +kernel : decode cX12_contract 89 = .ok (.getfield 48, 3)) fw_X12_48 rfl
theorem o231_92 : Okp RX12 cX12_contract 5 none "contract" false 92 (sK 4 93) := ok_iconst (by decide +kernel : decode cX12_contract 92 = .ok (.iconst 4, 1)) (by decide)
theorem o231_93 : Okp RX12 cX12_contract 5 none "contract" false 93 (sLI 3 94) := ok_iload_n (by decide +kernel : decode cX12_contract 93 = .ok (.iload_n 3, 1)) rfl
theorem o231_94 : Okp RX12 cX12_contract 5 none "contract" false 94 (sB2 fMul 95) := ok_imul (by decide +kernel : decode cX12_contract 94 = .ok (.imul, 1))
theorem o231_95 : Okp RX12 cX12_contract 5 none "contract" false 95 (sLI 4 97) := ok_iload (by decide +kernel : decode cX12_contract 95 = .ok (.iload 4, 2))
theorem o231_97 : Okp RX12 cX12_contract 5 none "contract" false 97 (sB2 fAdd 98) := ok_iadd (by decide +kernel : decode cX12_contract 97 = .ok (.iadd, 1))
theorem o231_98 : Okp RX12 cX12_contract 5 none "contract" false 98 (sLR 0 99) := ok_aload_n (by decide +kernel : decode cX12_contract 98 = .ok (.aload_n 0, 1)) rfl
theorem o231_99 : Okp RX12 cX12_contract 5 none "contract" false 99 (sK 49 101) := ok_bipush (by decide +kernel : decode cX12_contract 99 = .ok (.bipush 49, 2)) (by decide)
theorem o231_101 : Okp RX12 cX12_contract 5 none "contract" false 101 (sK 1 102) := ok_iconst (by decide +kernel : decode cX12_contract 101 = .ok (.iconst 1, 1)) (by decide)
theorem o231_102 : Okp RX12 cX12_contract 5 none "contract" false 102 (sCV false 223 3 13 105) := ok_cvT (by decide +kernel : decode cX12_contract 102 = .ok (.invokevirtual 266, 3)) mw_X12_266 rfl rfl (by decide) wm_X12_type wse_X12_type (by decide)
theorem o231_105 : Okp RX12 cX12_contract 5 none "contract" false 105 (sIS 106) := ok_iastore (by decide +kernel : decode cX12_contract 105 = .ok (.iastore, 1))
theorem o231_106 : Okp RX12 cX12_contract 5 none "contract" false 106 (sLR 0 107) := ok_aload_n (by decide +kernel : decode cX12_contract 106 = .ok (.aload_n 0, 1)) rfl
theorem o231_107 : Okp RX12 cX12_contract 5 none "contract" false 107 (sGR 13 15 110) := ok_getR (by decide +kernel : decode cX12_contract 107 = .ok (.getfield 51, 3)) fw_X12_51 rfl
theorem o231_110 : Okp RX12 cX12_contract 5 none "contract" false 110 (sK 4 111) := ok_iconst (by decide +kernel : decode cX12_contract 110 = .ok (.iconst 4, 1)) (by decide)
theorem o231_111 : Okp RX12 cX12_contract 5 none "contract" false 111 (sLI 3 112) := ok_iload_n (by decide +kernel : decode cX12_contract 111 = .ok (.iload_n 3, 1)) rfl
theorem o231_112 : Okp RX12 cX12_contract 5 none "contract" false 112 (sB2 fMul 113) := ok_imul (by decide +kernel : decode cX12_contract 112 = .ok (.imul, 1))
theorem o231_113 : Okp RX12 cX12_contract 5 none "contract" false 113 (sLI 4 115) := ok_iload (by decide +kernel : decode cX12_contract 113 = .ok (.iload 4, 2))
theorem o231_115 : Okp RX12 cX12_contract 5 none "contract" false 115 (sB2 fAdd 116) := ok_iadd (by decide +kernel : decode cX12_contract 115 = .ok (.iadd, 1))
theorem o231_116 : Okp RX12 cX12_contract 5 none "contract" false 116 (sLR 0 117) := ok_aload_n (by decide +kernel : decode cX12_contract 116 = .ok (.aload_n 0, 1)) rfl
theorem o231_117 : Okp RX12 cX12_contract 5 none "contract" false 117 (sK 0 118) := ok_iconst (by decide +kernel : decode cX12_contract 117 = .ok (.iconst 0, 1)) (by decide)
theorem o231_118 : Okp RX12 cX12_contract 5 none "contract" false 118 (sK 255 121) := ok_sipush (by decide +kernel : decode cX12_contract 118 = .ok (.sipush 255, 3)) (by decide)
theorem o231_121 : Okp RX12 cX12_contract 5 none "contract" false 121 (sCV false 221 3 13 124) := ok_cvT (by decide +kernel : decode cX12_contract 121 = .ok (.invokevirtual 254, 3)) mw_X12_254 rfl rfl (by decide) wm_X12_number wse_X12_number (by decide)
theorem o231_124 : Okp RX12 cX12_contract 5 none "contract" false 124 (sIS 125) := ok_iastore (by decide +kernel : decode cX12_contract 124 = .ok (.iastore, 1))
theorem o231_125 : Okp RX12 cX12_contract 5 none "contract" false 125 (sInc 4 1 128) := ok_iinc (by decide +kernel : decode cX12_contract 125 = .ok (.iinc 4 1, 3)) (by decide) (by decide)
theorem o231_128 : Okp RX12 cX12_contract 5 none "contract" false 128 (sGo 77) := ok_goto (by decide +kernel : decode cX12_contract 128 = .ok (.goto (-51), 3)) (by decide)
theorem o231_131 : Okp RX12 cX12_contract 5 none "contract" false 131 (sInc 2 1 134) := ok_iinc (by decide +kernel : decode cX12_contract 131 = .ok (.iinc 2 1, 3)) (by decide) (by decide)
theorem o231_134 : Okp RX12 cX12_contract 5 none "contract" false 134 (sGo 15) := ok_goto (by decide +kernel : decode cX12_contract 134 = .ok (.goto (-119), 3)) (by decide)
theorem o231_137 : Okp RX12 cX12_contract 5 none "contract" false 137 sRV := ok_vret rfl (by decide +kernel : decode cX12_contract 137 = .ok (.return_, 1))
theorem oc231_0 : ∀ pc, Mnp (c231_0 pc) ∧ Okp RX12 cX12_contract 5 none "contract" false pc (c231_0 pc) := by
  intro pc
  unfold c231_0
  split
  · exact ⟨mn_sLR, o231_0⟩
  · exact ⟨mn_sGR, o231_1⟩
  · exact ⟨mn_sLI, o231_4⟩
  · exact ⟨mn_sLR, o231_5⟩
  · exact ⟨mn_sK, o231_6⟩
  · exact ⟨mn_sK, o231_7⟩
  · exact ⟨mn_sCV, o231_9⟩
  · exact ⟨mn_sIS, o231_12⟩
  · exact ⟨mn_sK, o231_13⟩
  · exact ⟨mn_sSI, o231_14⟩
  · exact ⟨mn_sLI, o231_15⟩
  · exact ⟨mn_sLR, o231_16⟩
  · exact ⟨mn_sGR, o231_17⟩
  · exact ⟨mn_sLI, o231_20⟩
  · exact ⟨mn_sIA, o231_21⟩
  · exact ⟨mn_sI2, o231_22⟩
  · exact ⟨mn_sX, ok_X⟩
theorem oc231_1 : ∀ pc, Mnp (c231_1 pc) ∧ Okp RX12 cX12_contract 5 none "contract" false pc (c231_1 pc) := by
  intro pc
  unfold c231_1
  split
  · exact ⟨mn_sK, o231_25⟩
  · exact ⟨mn_sLI, o231_27⟩
  · exact ⟨mn_sB2, o231_28⟩
  · exact ⟨mn_sLI, o231_29⟩
  · exact ⟨mn_sB2, o231_30⟩
  · exact ⟨mn_sSI, o231_31⟩
  · exact ⟨mn_sLR, o231_32⟩
  · exact ⟨mn_sGR, o231_33⟩
  · exact ⟨mn_sLI, o231_36⟩
  · exact ⟨mn_sLR, o231_37⟩
  · exact ⟨mn_sK, o231_38⟩
  · exact ⟨mn_sK, o231_39⟩
  · exact ⟨mn_sCV, o231_40⟩
  · exact ⟨mn_sIS, o231_43⟩
  · exact ⟨mn_sLR, o231_44⟩
  · exact ⟨mn_sGR, o231_45⟩
  · exact ⟨mn_sX, ok_X⟩
theorem oc231_2 : ∀ pc, Mnp (c231_2 pc) ∧ Okp RX12 cX12_contract 5 none "contract" false pc (c231_2 pc) := by
  intro pc
  unfold c231_2
  split
  · exact ⟨mn_sLI, o231_48⟩
  · exact ⟨mn_sLR, o231_49⟩
  · exact ⟨mn_sGR, o231_50⟩
  · exact ⟨mn_sLI, o231_53⟩
  · exact ⟨mn_sIA, o231_54⟩
  · exact ⟨mn_sI1, o231_55⟩
  · exact ⟨mn_sLR, o231_58⟩
  · exact ⟨mn_sK, o231_59⟩
  · exact ⟨mn_sK, o231_60⟩
  · exact ⟨mn_sCV, o231_61⟩
  · exact ⟨mn_sGo, o231_64⟩
  · exact ⟨mn_sLR, o231_67⟩
  · exact ⟨mn_sK, o231_68⟩
  · exact ⟨mn_sK, o231_69⟩
  · exact ⟨mn_sCV, o231_70⟩
  · exact ⟨mn_sX, ok_X⟩
theorem oc231_3 : ∀ pc, Mnp (c231_3 pc) ∧ Okp RX12 cX12_contract 5 none "contract" false pc (c231_3 pc) := by
  intro pc
  unfold c231_3
  split
  · exact ⟨mn_sIS, o231_73⟩
  · exact ⟨mn_sK, o231_74⟩
  · exact ⟨mn_sSI, o231_75⟩
  · exact ⟨mn_sLI, o231_77⟩
  · exact ⟨mn_sLR, o231_79⟩
  · exact ⟨mn_sGR, o231_80⟩
  · exact ⟨mn_sLI, o231_83⟩
  · exact ⟨mn_sIA, o231_84⟩
  · exact ⟨mn_sI2, o231_85⟩
  · exact ⟨mn_sLR, o231_88⟩
  · exact ⟨mn_sGR, o231_89⟩
  · exact ⟨mn_sK, o231_92⟩
  · exact ⟨mn_sLI, o231_93⟩
  · exact ⟨mn_sB2, o231_94⟩
  · exact ⟨mn_sLI, o231_95⟩
  · exact ⟨mn_sX, ok_X⟩
theorem oc231_4 : ∀ pc, Mnp (c231_4 pc) ∧ Okp RX12 cX12_contract 5 none "contract" false pc (c231_4 pc) := by
  intro pc
  unfold c231_4
  split
  · exact ⟨mn_sB2, o231_97⟩
  · exact ⟨mn_sLR, o231_98⟩
  · exact ⟨mn_sK, o231_99⟩
  · exact ⟨mn_sK, o231_101⟩
  · exact ⟨mn_sCV, o231_102⟩
  · exact ⟨mn_sIS, o231_105⟩
  · exact ⟨mn_sLR, o231_106⟩
  · exact ⟨mn_sGR, o231_107⟩
  · exact ⟨mn_sK, o231_110⟩
  · exact ⟨mn_sLI, o231_111⟩
  · exact ⟨mn_sB2, o231_112⟩
  · exact ⟨mn_sLI, o231_113⟩
  · exact ⟨mn_sB2, o231_115⟩
  · exact ⟨mn_sLR, o231_116⟩
  · exact ⟨mn_sK, o231_117⟩
  · exact ⟨mn_sK, o231_118⟩
  · exact ⟨mn_sX, ok_X⟩
theorem oc231_5 : ∀ pc, Mnp (c231_5 pc) ∧ Okp RX12 cX12_contract 5 none "contract" false pc (c231_5 pc) := by
  intro pc
  unfold c231_5
  split
  · exact ⟨mn_sCV, o231_121⟩
  · exact ⟨mn_sIS, o231_124⟩
  · exact ⟨mn_sInc, o231_125⟩
  · exact ⟨mn_sGo, o231_128⟩
  · exact ⟨mn_sInc, o231_131⟩
  · exact ⟨mn_sGo, o231_134⟩
  · exact ⟨mn_sRV, o231_137⟩
  · exact ⟨mn_sX, ok_X⟩
theorem oc231 : ∀ pc, Mnp (c231 pc) ∧ Okp RX12 cX12_contract 5 none "contract" false pc (c231 pc) := by
  intro pc
  unfold c231
  split
  · exact oc231_0 pc
  · exact oc231_1 pc
  · exact oc231_2 pc
  · exact oc231_3 pc
  · exact oc231_4 pc
  · exact oc231_5 pc
  · exact ⟨mn_sX, ok_X⟩
theorem o232_0 : Okp RX12 cX12_functionText 3 none "functionText" false 0 (sLR 0 1) := ok_aload_n (by decide +kernel : decode cX12_functionText 0 = .ok (.aload_n 0, 1)) rfl
theorem o232_1 : Okp RX12 cX12_functionText 3 none "functionText" false 1 (sGR 13 16 4) := ok_getR (by decide +kernel : decode cX12_functionText 1 = .ok (.getfield 54, 3)) fw_X12_54 rfl
theorem o232_4 : Okp RX12 cX12_functionText 3 none "functionText" false 4 (sLI 1 5) := ok_iload_n (by decide +kernel : decode cX12_functionText 4 = .ok (.iload_n 1, 1)) rfl
theorem o232_5 : Okp RX12 cX12_functionText 3 none "functionText" false 5 (sLR 0 6) := ok_aload_n (by decide +kernel : decode cX12_functionText 5 = .ok (.aload_n 0, 1)) rfl
theorem o232_6 : Okp RX12 cX12_functionText 3 none "functionText" false 6 (sK 0 7) := ok_iconst (by decide +kernel : decode cX12_functionText 6 = .ok (.iconst 0, 1)) (by decide)
theorem o232_7 : Okp RX12 cX12_functionText 3 none "functionText" false 7 (sK 4 8) := ok_iconst (by decide +kernel : decode cX12_functionText 7 = .ok (.iconst 4, 1)) (by decide)
theorem o232_8 : Okp RX12 cX12_functionText 3 none "functionText" false 8 (sCV false 221 3 13 11) := ok_cvT (by decide +kernel : decode cX12_functionText 8 = .ok (.invokevirtual 254, 3)) mw_X12_254 rfl rfl (by decide) wm_X12_number wse_X12_number (by decide)
theorem o232_11 : Okp RX12 cX12_functionText 3 none "functionText" false 11 (sIS 12) := ok_iastore (by decide +kernel : decode cX12_functionText 11 = .ok (.iastore, 1))
theorem o232_12 : Okp RX12 cX12_functionText 3 none "functionText" false 12 (sK 0 13) := ok_iconst (by decide +kernel : decode cX12_functionText 12 = .ok (.iconst 0, 1)) (by decide)
theorem o232_13 : Okp RX12 cX12_functionText 3 none "functionText" false 13 (sSI 2 14) := ok_istore_n (by decide +kernel : decode cX12_functionText 13 = .ok (.istore_n 2, 1)) rfl (by decide) (by decide)
theorem o232_14 : Okp RX12 cX12_functionText 3 none "functionText" false 14 (sLI 2 15) := ok_iload_n (by decide +kernel : decode cX12_functionText 14 = .ok (.iload_n 2, 1)) rfl
theorem o232_15 : Okp RX12 cX12_functionText 3 none "functionText" false 15 (sLR 0 16) := ok_aload_n (by decide +kernel : decode cX12_functionText 15 = .ok (.aload_n 0, 1)) rfl
theorem o232_16 : Okp RX12 cX12_functionText 3 none "functionText" false 16 (sGR 13 16 19) := ok_getR (by decide +kernel : decode cX12_functionText 16 = .ok (.getfield 54, 3)) fw_X12_54 rfl
theorem o232_19 : Okp RX12 cX12_functionText 3 none "functionText" false 19 (sLI 1 20) := ok_iload_n (by decide +kernel : decode cX12_functionText 19 = .ok (.iload_n 1, 1)) rfl
theorem o232_20 : Okp RX12 cX12_functionText 3 none "functionText" false 20 (sIA 21) := ok_iaload (by decide +kernel : decode cX12_functionText 20 = .ok (.iaload, 1))
theorem o232_21 : Okp RX12 cX12_functionText 3 none "functionText" false 21 (sI2 3 47 24) := ok_icmp_ge (by decide +kernel : decode cX12_functionText 21 = .ok (.if_icmp .ge 26, 3)) (by decide)
theorem o232_24 : Okp RX12 cX12_functionText 3 none "functionText" false 24 (sLR 0 25) := ok_aload_n (by decide +kernel : decode cX12_functionText 24 = .ok (.aload_n 0, 1)) rfl
theorem o232_25 : Okp RX12 cX12_functionText 3 none "functionText" false 25 (sGR 13 17 28) := ok_getR (by decide +kernel : decode cX12_functionText 25 = .ok (.getfield 57, 3)) fw_X12_57 rfl
theorem o232_28 : Okp RX12 cX12_functionText 3 none "functionText" false 28 (sK 4 29) := ok_iconst (by decide +kernel : decode cX12_functionText 28 = .ok (.iconst 4, 1)) (by decide)
theorem o232_29 : Okp RX12 cX12_functionText 3 none "functionText" false 29 (sLI 1 30) := ok_iload_n (by decide +kernel : decode cX12_functionText 29 = .ok (.iload_n 1, 1)) rfl
theorem o232_30 : Okp RX12 cX12_functionText 3 none "functionText" false 30 (sB2 fMul 31) := ok_imul (by decide +kernel : decode cX12_functionText 30 = .ok (.imul, 1))
theorem o232_31 : Okp RX12 cX12_functionText 3 none "functionText" false 31 (sLI 2 32) := ok_iload_n (by decide +kernel : decode cX12_functionText 31 = .ok (.iload_n 2, 1)) rfl
theorem o232_32 : Okp RX12 cX12_functionText 3 none "functionText" false 32 (sB2 fAdd 33) := ok_iadd (by decide +kernel : decode cX12_functionText 32 = .ok (.iadd, 1))
theorem o232_33 : Okp RX12 cX12_functionText 3 none "functionText" false 33 (sLR 0 34) := ok_aload_n (by decide +kernel : decode cX12_functionText 33 = .ok (.aload_n 0, 1)) rfl
theorem o232_34 : Okp RX12 cX12_functionText 3 none "functionText" false 34 (sK 63 36) := ok_bipush (by decide +kernel : decode cX12_functionText 34 = .ok (.bipush 63, 2)) (by decide)
theorem o232_36 : Okp RX12 cX12_functionText 3 none "functionText" false 36 (sK 0 37) := ok_iconst (by decide +kernel : decode cX12_functionText 36 = .ok (.iconst 0, 1)) (by decide)
theorem o232_37 : Okp RX12 cX12_functionText 3 none "functionText" false 37 (sCV false 223 3 13 40) := ok_cvT (by decide +kernel : decode cX12_functionText 37 = .ok (.invokevirtual 266, 3)) mw_X12_266 rfl rfl (by decide) wm_X12_type wse_X12_type (by decide)
theorem o232_40 : Okp RX12 cX12_functionText 3 none "functionText" false 40 (sIS 41) := ok_iastore (by decide +kernel : decode cX12_functionText 40 = .ok (.iastore, 1))
theorem o232_41 : Okp RX12 cX12_functionText 3 none "functionText" false 41 (sInc 2 1 44) := ok_iinc (by decide +kernel : decode cX12_functionText 41 = .ok (.iinc 2 1, 3)) (by decide) (by decide)
theorem o232_44 : Okp RX12 cX12_functionText 3 none "functionText" false 44 (sGo 14) := ok_goto (by decide +kernel : decode cX12_functionText 44 = .ok (.goto (-30), 3)) (by decide)
theorem o232_47 : Okp RX12 cX12_functionText 3 none "functionText" false 47 (sLR 0 48) := ok_aload_n (by decide +kernel : decode cX12_functionText 47 = .ok (.aload_n 0, 1)) rfl
theorem o232_48 : Okp RX12 cX12_functionText 3 none "functionText" false 48 (sGR 13 18 51) := ok_getR (by decide +kernel : decode cX12_functionText 48 = .ok (.getfield 60, 3)) fw_X12_60 rfl
theorem o232_51 : Okp RX12 cX12_functionText 3 none "functionText" false 51 (sLI 1 52) := ok_iload_n (by decide +kernel : decode cX12_functionText 51 = .ok (.iload_n 1, 1)) rfl
theorem o232_52 : Okp RX12 cX12_functionText 3 none "functionText" false 52 (sLR 0 53) := ok_aload_n (by decide +kernel : decode cX12_functionText 52 = .ok (.aload_n 0, 1)) rfl
theorem o232_53 : Okp RX12 cX12_functionText 3 none "functionText" false 53 (sK 63 55) := ok_bipush (by decide +kernel : decode cX12_functionText 53 = .ok (.bipush 63, 2)) (by decide)
theorem o232_55 : Okp RX12 cX12_functionText 3 none "functionText" false 55 (sK 1 56) := ok_iconst (by decide +kernel : decode cX12_functionText 55 = .ok (.iconst 1, 1)) (by decide)
theorem o232_56 : Okp RX12 cX12_functionText 3 none "functionText" false 56 (sCV false 223 3 13 59) := ok_cvT (by decide +kernel : decode cX12_functionText 56 = .ok (.invokevirtual 266, 3)) mw_X12_266 rfl rfl (by decide) wm_X12_type wse_X12_type (by decide)
theorem o232_59 : Okp RX12 cX12_functionText 3 none "functionText" false 59 (sIS 60) := ok_iastore (by decide +kernel : decode cX12_functionText 59 = .ok (.iastore, 1))
theorem o232_60 : Okp RX12 cX12_functionText 3 none "functionText" false 60 (sLR 0 61) := ok_aload_n (by decide +kernel : decode cX12_functionText 60 = .ok (.aload_n 0, 1)) rfl
theorem o232_61 : Okp RX12 cX12_functionText 3 none "functionText" false 61 (sGR 13 19 64) := ok_getR (by decide +kernel : decode cX12_functionText 61 = .ok (.getfield 63, 3)) fw_X12_63 rfl
theorem o232_64 : Okp RX12 cX12_functionText 3 none "functionText" false 64 (sLI 1 65) := ok_iload_n (by decide +kernel : decode cX12_functionText 64 = .ok (.iload_n 1, 1)) rfl
theorem o232_65 : Okp RX12 cX12_functionText 3 none "functionText" false 65 (sLR 0 66) := ok_aload_n (by decide +kernel : decode cX12_functionText 65 = .ok (.aload_n 0, 1)) rfl
theorem o232_66 : Okp RX12 cX12_functionText 3 none "functionText" false 66 (sLR 0 67) := ok_aload_n (by decide +kernel : decode cX12_functionText 66 = .ok (.aload_n 0, 1)) rfl
theorem o232_67 : Okp RX12 cX12_functionText 3 none "functionText" false 67 (sGR 13 16 70) := ok_getR (by decide +kernel : decode cX12_functionText 67 = .ok (.getfield 54, 3)) fw_X12_54 rfl
theorem o232_70 : Okp RX12 cX12_functionText 3 none "functionText" false 70 (sLI 1 71) := ok_iload_n (by decide +kernel : decode cX12_functionText 70 = .ok (.iload_n 1, 1)) rfl
theorem o232_71 : Okp RX12 cX12_functionText 3 none "functionText" false 71 (sIA 72) := ok_iaload (by decide +kernel : decode cX12_functionText 71 = .ok (.iaload, 1))
theorem o232_72 : Okp RX12 cX12_functionText 3 none "functionText" false 72 (sK 10 74) := ok_bipush (by decide +kernel : decode cX12_functionText 72 = .ok (.bipush 10, 2)) (by decide)
theorem o232_74 : Okp RX12 cX12_functionText 3 none "functionText" false 74 (sCV false 221 3 13 77) := ok_cvT (by decide +kernel : decode cX12_functionText 74 = .ok (.invokevirtual 254, 3)) mw_X12_254 rfl rfl (by decide) wm_X12_number wse_X12_number (by decide)
theorem o232_77 : Okp RX12 cX12_functionText 3 none "functionText" false 77 (sIS 78) := ok_iastore (by decide +kernel : decode cX12_functionText 77 = .ok (.iastore, 1))
theorem o232_78 : Okp RX12 cX12_functionText 3 none "functionText" false 78 (sLR 0 79) := ok_aload_n (by decide +kernel : decode cX12_functionText 78 = .ok (.aload_n 0, 1)) rfl
theorem o232_79 : Okp RX12 cX12_functionText 3 none "functionText" false 79 (sGR 13 20 82) := ok_getR (by decide +kernel : decode cX12_functionText 79 = .ok (.getfield 66, 3)) fw_X12_66 rfl
theorem o232_82 : Okp RX12 cX12_functionText 3 none "functionText" false 82 (sLI 1 83) := ok_iload_n (by decide +kernel : decode cX12_functionText 82 = .ok (.iload_n 1, 1)) rfl
theorem o232_83 : Okp RX12 cX12_functionText 3 none "functionText" false 83 (sLR 0 84) := ok_aload_n (by decide +kernel : decode cX12_functionText 83 = .ok (.aload_n 0, 1)) rfl
theorem o232_84 : Okp RX12 cX12_functionText 3 none "functionText" false 84 (sK 1 85) := ok_iconst (by decide +kernel : decode cX12_functionText 84 = .ok (.iconst 1, 1)) (by decide)
theorem o232_85 : Okp RX12 cX12_functionText 3 none "functionText" false 85 (sK 240 88) := ok_sipush (by decide +kernel : decode cX12_functionText 85 = .ok (.sipush 240, 3)) (by decide)
theorem o232_88 : Okp RX12 cX12_functionText 3 none "functionText" false 88 (sCV false 221 3 13 91) := ok_cvT (by decide +kernel : decode cX12_functionText 88 = .ok (.invokevirtual 254, 3)) mw_X12_254 rfl rfl (by decide) wm_X12_number wse_X12_number (by decide)
theorem o232_91 : Okp RX12 cX12_functionText 3 none "functionText" false 91 (sIS 92) := ok_iastore (by decide +kernel : decode cX12_functionText 91 = .ok (.iastore, 1))
theorem o232_92 : Okp RX12 cX12_functionText 3 none "functionText" false 92 (sLR 0 93) := ok_aload_n (by decide +kernel : decode cX12_functionText 92 = .ok (.aload_n 0, 1)) rfl
theorem o232_93 : Okp RX12 cX12_functionText 3 none "functionText" false 93 (sGR 13 21 96) := ok_getR (by decide +kernel : decode cX12_functionText 93 = .ok (.getfield 69, 3)) fw_X12_69 rfl
theorem o232_96 : Okp RX12 cX12_functionText 3 none "functionText" false 96 (sLI 1 97) := ok_iload_n (by decide +kernel : decode cX12_functionText 96 = .ok (.iload_n 1, 1)) rfl
theorem o232_97 : Okp RX12 cX12_functionText 3 none "functionText" false 97 (sLR 0 98) := ok_aload_n (by decide +kernel : decode cX12_functionText 97 = .ok (.aload_n 0, 1)) rfl
theorem o232_98 : Okp RX12 cX12_functionText 3 none "functionText" false 98 (sGI 13 26 101) := ok_getI (by decide +kernel : decode cX12_functionText 98 = .ok (.getfield 243, 3)) fw_X12_243 rfl
theorem o232_101 : Okp RX12 cX12_functionText 3 none "functionText" false 101 (sIS 102) := ok_iastore (by decide +kernel : decode cX12_functionText 101 = .ok (.iastore, 1))
theorem o232_102 : Okp RX12 cX12_functionText 3 none "functionText" false 102 (sLR 0 103) := ok_aload_n (by decide +kernel : decode cX12_functionText 102 = .ok (.aload_n 0, 1)) rfl
theorem o232_103 : Okp RX12 cX12_functionText 3 none "functionText" false 103 (sGI 13 26 106) := ok_getI (by decide +kernel : decode cX12_functionText 103 = .ok (.getfield 243, 3)) fw_X12_243 rfl
theorem o232_106 : Okp RX12 cX12_functionText 3 none "functionText" false 106 (sLR 0 107) := ok_aload_n (by decide +kernel : decode cX12_functionText 106 = .ok (.aload_n 0, 1)) rfl
theorem o232_107 : Okp RX12 cX12_functionText 3 none "functionText" false 107 (sGR 13 20 110) := ok_getR (by decide +kernel : decode cX12_functionText 107 = .ok (.getfield 66, 3)) fw_X12_66 rfl
theorem o232_110 : Okp RX12 cX12_functionText 3 none "functionText" false 110 (sLI 1 111) := ok_iload_n (by decide +kernel : decode cX12_functionText 110 = .ok (.iload_n 1, 1)) rfl
theorem o232_111 : Okp RX12 cX12_functionText 3 none "functionText" false 111 (sIA 112) := ok_iaload (by decide +kernel : decode cX12_functionText 111 = .ok (.iaload, 1))
theorem o232_112 : Okp RX12 cX12_functionText 3 none "functionText" false 112 (sB2 fAdd 113) := ok_iadd (by decide +kernel : decode cX12_functionText 112 = .ok (.iadd, 1))
theorem o232_113 : Okp RX12 cX12_functionText 3 none "functionText" false 113 (sSI 2 114) := ok_istore_n (by decide +kernel : decode cX12_functionText 113 = .ok (.istore_n 2, 1)) rfl (by decide) (by decide)
theorem o232_114 : Okp RX12 cX12_functionText 3 none "functionText" false 114 (sLR 0 115) := ok_aload_n (by decide +kernel : decode cX12_functionText 114 = .ok (.aload_n 0, 1)) rfl
theorem o232_115 : Okp RX12 cX12_functionText 3 none "functionText" false 115 (sGI 13 26 118) := ok_getI (by decide +kernel : decode cX12_functionText 115 = .ok (.getfield 243, 3)) fw_X12_243 rfl
theorem o232_118 : Okp RX12 cX12_functionText 3 none "functionText" false 118 (sLI 2 119) := ok_iload_n (by decide +kernel : decode cX12_functionText 118 = .ok (.iload_n 2, 1)) rfl
theorem o232_119 : Okp RX12 cX12_functionText 3 none "functionText" false 119 (sI2 3 131 122) := ok_icmp_ge (by decide +kernel : decode cX12_functionText 119 = .ok (.if_icmp .ge 12, 3)) (by decide)
theorem o232_122 : Okp RX12 cX12_functionText 3 none "functionText" false 122 (sLR 0 123) := ok_aload_n (by decide +kernel : decode cX12_functionText 122 = .ok (.aload_n 0, 1)) rfl
theorem o232_123 : Okp RX12 cX12_functionText 3 none "functionText" false 123 (sLI 1 124) := ok_iload_n (by decide +kernel : decode cX12_functionText 123 = .ok (.iload_n 1, 1)) rfl
theorem o232_124 : Okp RX12 cX12_functionText 3 none "functionText" false 124 (sLI 2 125) := ok_iload_n (by decide +kernel : decode cX12_functionText 124 = .ok (.iload_n 2, 1)) rfl
theorem o232_125 : Okp RX12 cX12_functionText 3 none "functionText" false 125 (sCV false 234 3 13 128) := ok_cvT (by decide +kernel : decode cX12_functionText 125 = .ok (.invokevirtual 276, 3)) mw_X12_276 rfl rfl (by decide) wm_X12_instruction wse_X12_instruction (by decide)
theorem o232_128 : Okp RX12 cX12_functionText 3 none "functionText" false 128 (sGo 114) := ok_goto (by decide +kernel : decode cX12_functionText 128 = .ok (.goto (-14), 3)) (by decide)
theorem o232_131 : Okp RX12 cX12_functionText 3 none "functionText" false 131 sRV := ok_vret rfl (by decide +kernel : decode cX12_functionText 131 = .ok (.return_, 1))
theorem oc232_0 : ∀ pc, Mnp (c232_0 pc) ∧ Okp RX12 cX12_functionText 3 none "functionText" false pc (c232_0 pc) := by
  intro pc
  unfold c232_0
  split
  · exact ⟨mn_sLR, o232_0⟩
  · exact ⟨mn_sGR, o232_1⟩
  · exact ⟨mn_sLI, o232_4⟩
  · exact ⟨mn_sLR, o232_5⟩
  · exact ⟨mn_sK, o232_6⟩
  · exact ⟨mn_sK, o232_7⟩
  · exact ⟨mn_sCV, o232_8⟩
  · exact ⟨mn_sIS, o232_11⟩
  · exact ⟨mn_sK, o232_12⟩
  · exact ⟨mn_sSI, o232_13⟩
  · exact ⟨mn_sLI, o232_14⟩
  · exact ⟨mn_sLR, o232_15⟩
  · exact ⟨mn_sGR, o232_16⟩
  · exact ⟨mn_sLI, o232_19⟩
  · exact ⟨mn_sIA, o232_20⟩
  · exact ⟨mn_sI2, o232_21⟩
  · exact ⟨mn_sX, ok_X⟩
theorem oc232_1 : ∀ pc, Mnp (c232_1 pc) ∧ Okp RX12 cX12_functionText 3 none "functionText" false pc (c232_1 pc) := by
  intro pc
  unfold c232_1
  split
  · exact ⟨mn_sLR, o232_24⟩
  · exact ⟨mn_sGR, o232_25⟩
  · exact ⟨mn_sK, o232_28⟩
  · exact ⟨mn_sLI, o232_29⟩
  · exact ⟨mn_sB2, o232_30⟩
  · exact ⟨mn_sLI, o232_31⟩
  · exact ⟨mn_sB2, o232_32⟩
  · exact ⟨mn_sLR, o232_33⟩
  · exact ⟨mn_sK, o232_34⟩
  · exact ⟨mn_sK, o232_36⟩
  · exact ⟨mn_sCV, o232_37⟩
  · exact ⟨mn_sIS, o232_40⟩
  · exact ⟨mn_sInc, o232_41⟩
  · exact ⟨mn_sGo, o232_44⟩
  · exact ⟨mn_sLR, o232_47⟩
  · exact ⟨mn_sX, ok_X⟩
theorem oc232_2 : ∀ pc, Mnp (c232_2 pc) ∧ Okp RX12 cX12_functionText 3 none "functionText" false pc (c232_2 pc) := by
  intro pc
  unfold c232_2
  split
  · exact ⟨mn_sGR, o232_48⟩
  · exact ⟨mn_sLI, o232_51⟩
  · exact ⟨mn_sLR, o232_52⟩
  · exact ⟨mn_sK, o232_53⟩
  · exact ⟨mn_sK, o232_55⟩
  · exact ⟨mn_sCV, o232_56⟩
  · exact ⟨mn_sIS, o232_59⟩
  · exact ⟨mn_sLR, o232_60⟩
  · exact ⟨mn_sGR, o232_61⟩
  · exact ⟨mn_sLI, o232_64⟩
  · exact ⟨mn_sLR, o232_65⟩
  · exact ⟨mn_sLR, o232_66⟩
  · exact ⟨mn_sGR, o232_67⟩
  · exact ⟨mn_sLI, o232_70⟩
  · exact ⟨mn_sIA, o232_71⟩
  · exact ⟨mn_sX, ok_X⟩
theorem oc232_3 : ∀ pc, Mnp (c232_3 pc) ∧ Okp RX12 cX12_functionText 3 none "functionText" false pc (c232_3 pc) := by
  intro pc
  unfold c232_3
  split
  · exact ⟨mn_sK, o232_72⟩
  · exact ⟨mn_sCV, o232_74⟩
  · exact ⟨mn_sIS, o232_77⟩
  · exact ⟨mn_sLR, o232_78⟩
  · exact ⟨mn_sGR, o232_79⟩
  · exact ⟨mn_sLI, o232_82⟩
  · exact ⟨mn_sLR, o232_83⟩
  · exact ⟨mn_sK, o232_84⟩
  · exact ⟨mn_sK, o232_85⟩
  · exact ⟨mn_sCV, o232_88⟩
  · exact ⟨mn_sIS, o232_91⟩
  · exact ⟨mn_sLR, o232_92⟩
  · exact ⟨mn_sGR, o232_93⟩
  · exact ⟨mn_sX, ok_X⟩
theorem oc232_4 : ∀ pc, Mnp (c232_4 pc) ∧ Okp RX12 cX12_functionText 3 none "functionText" false pc (c232_4 pc) := by
  intro pc
  unfold c232_4
  split
  · exact ⟨mn_sLI, o232_96⟩
  · exact ⟨mn_sLR, o232_97⟩
  · exact ⟨mn_sGI, o232_98⟩
  · exact ⟨mn_sIS, o232_101⟩
  · exact ⟨mn_sLR, o232_102⟩
  · exact ⟨mn_sGI, o232_103⟩
  · exact ⟨mn_sLR, o232_106⟩
  · exact ⟨mn_sGR, o232_107⟩
  · exact ⟨mn_sLI, o232_110⟩
  · exact ⟨mn_sIA, o232_111⟩
  · exact ⟨mn_sB2, o232_112⟩
  · exact ⟨mn_sSI, o232_113⟩
  · exact ⟨mn_sLR, o232_114⟩
  · exact ⟨mn_sGI, o232_115⟩
  · exact ⟨mn_sLI, o232_118⟩
  · exact ⟨mn_sI2, o232_119⟩
  · exact ⟨mn_sX, ok_X⟩
theorem oc232_5 : ∀ pc, Mnp (c232_5 pc) ∧ Okp RX12 cX12_functionText 3 none "functionText" false pc (c232_5 pc) := by
  intro pc
  unfold c232_5
  split
  · exact ⟨mn_sLR, o232_122⟩
  · exact ⟨mn_sLI, o232_123⟩
  · exact ⟨mn_sLI, o232_124⟩
  · exact ⟨mn_sCV, o232_125⟩
  · exact ⟨mn_sGo, o232_128⟩
  · exact ⟨mn_sRV, o232_131⟩
  · exact ⟨mn_sX, ok_X⟩
theorem oc232 : ∀ pc, Mnp (c232 pc) ∧ Okp RX12 cX12_functionText 3 none "functionText" false pc (c232 pc) := by
  intro pc
  unfold c232
  split
  · exact oc232_0 pc
  · exact oc232_1 pc
  · exact oc232_2 pc
  · exact oc232_3 pc
  · exact oc232_4 pc
  · exact oc232_5 pc
  · exact ⟨mn_sX, ok_X⟩
theorem o233_0 : Okp RX12 cX12_part 4 (some .int) "part" false 0 (sLR 0 1) := ok_aload_n (by decide +kernel : decode cX12_part 0 = .ok (.aload_n 0, 1)) rfl
theorem o233_1 : Okp RX12 cX12_part 4 (some .int) "part" false 1 (sGI 13 26 4) := ok_getI (by decide +kernel : decode cX12_part 1 = .ok (.getfield 243, 3)) fw_X12_243 rfl
theorem o233_4 : Okp RX12 cX12_part 4 (some .int) "part" false 4 (sLI 3 5) := ok_iload_n (by decide +kernel : decode cX12_part 4 = .ok (.iload_n 3, 1)) rfl
theorem o233_5 : Okp RX12 cX12_part 4 (some .int) "part" false 5 (sI2 1 17 8) := ok_icmp_ne (by decide +kernel : decode cX12_part 5 = .ok (.if_icmp .ne 12, 3)) (by decide)
theorem o233_8 : Okp RX12 cX12_part 4 (some .int) "part" false 8 (sLR 0 9) := ok_aload_n (by decide +kernel : decode cX12_part 8 = .ok (.aload_n 0, 1)) rfl
theorem o233_9 : Okp RX12 cX12_part 4 (some .int) "part" false 9 (sK 1 10) := ok_iconst (by decide +kernel : decode cX12_part 9 = .ok (.iconst 1, 1)) (by decide)
theorem o233_10 : Okp RX12 cX12_part 4 (some .int) "part" false 10 (sLR 0 11) := ok_aload_n (by decide +kernel : decode cX12_part 10 = .ok (.aload_n 0, 1)) rfl
theorem o233_11 : Okp RX12 cX12_part 4 (some .int) "part" false 11 (sGI 13 26 14) := ok_getI (by decide +kernel : decode cX12_part 11 = .ok (.getfield 243, 3)) fw_X12_243 rfl
theorem o233_14 : Okp RX12 cX12_part 4 (some .int) "part" false 14 (sCV false 218 3 13 17) := ok_cvT (by decide +kernel : decode cX12_part 14 = .ok (.invokevirtual 250, 3)) mw_X12_250 rfl rfl (by decide) wm_X12_fails wse_X12_fails (by decide)
theorem o233_17 : Okp RX12 cX12_part 4 (some .int) "part" false 17 (sLR 0 18) := ok_aload_n (by decide +kernel : decode cX12_part 17 = .ok (.aload_n 0, 1)) rfl
theorem o233_18 : Okp RX12 cX12_part 4 (some .int) "part" false 18 (sLI 1 19) := ok_iload_n (by decide +kernel : decode cX12_part 18 = .ok (.iload_n 1, 1)) rfl
theorem o233_19 : Okp RX12 cX12_part 4 (some .int) "part" false 19 (sLI 2 20) := ok_iload_n (by decide +kernel : decode cX12_part 19 = .ok (.iload_n 2, 1)) rfl
theorem o233_20 : Okp RX12 cX12_part 4 (some .int) "part" false 20 (sCV false 221 3 13 23) := ok_cvT (by decide +kernel : decode cX12_part 20 = .ok (.invokevirtual 254, 3)) mw_X12_254 rfl rfl (by decide) wm_X12_number wse_X12_number (by decide)
theorem o233_23 : Okp RX12 cX12_part 4 (some .int) "part" false 23 sRI := ok_iret rfl (by decide +kernel : decode cX12_part 23 = .ok (.ireturn, 1))
theorem oc233 : ∀ pc, Mnp (c233 pc) ∧ Okp RX12 cX12_part 4 (some .int) "part" false pc (c233 pc) := by
  intro pc
  unfold c233
  split
  · exact ⟨mn_sLR, o233_0⟩
  · exact ⟨mn_sGI, o233_1⟩
  · exact ⟨mn_sLI, o233_4⟩
  · exact ⟨mn_sI2, o233_5⟩
  · exact ⟨mn_sLR, o233_8⟩
  · exact ⟨mn_sK, o233_9⟩
  · exact ⟨mn_sLR, o233_10⟩
  · exact ⟨mn_sGI, o233_11⟩
  · exact ⟨mn_sCV, o233_14⟩
  · exact ⟨mn_sLR, o233_17⟩
  · exact ⟨mn_sLI, o233_18⟩
  · exact ⟨mn_sLI, o233_19⟩
  · exact ⟨mn_sCV, o233_20⟩
  · exact ⟨mn_sRI, o233_23⟩
  · exact ⟨mn_sX, ok_X⟩
theorem o234_0 : Okp RX12 cX12_instruction 6 none "instruction" false 0 (sLR 0 1) := ok_aload_n (by decide +kernel : decode cX12_instruction 0 = .ok (.aload_n 0, 1)) rfl
theorem o234_1 : Okp RX12 cX12_instruction 6 none "instruction" false 1 (sK 0 2) := ok_iconst (by decide +kernel : decode cX12_instruction 1 = .ok (.iconst 0, 1)) (by decide)
theorem o234_2 : Okp RX12 cX12_instruction 6 none "instruction" false 2 (sK 43 4) := ok_bipush (by decide +kernel : decode cX12_instruction 2 = .ok (.bipush 43, 2)) (by decide)
theorem o234_4 : Okp RX12 cX12_instruction 6 none "instruction" false 4 (sLI 2 5) := ok_iload_n (by decide +kernel : decode cX12_instruction 4 = .ok (.iload_n 2, 1)) rfl
theorem o234_5 : Okp RX12 cX12_instruction 6 none "instruction" false 5 (sCV false 233 4 13 8) := ok_cvT (by decide +kernel : decode cX12_instruction 5 = .ok (.invokevirtual 279, 3)) mw_X12_279 rfl rfl (by decide) wm_X12_part wse_X12_part (by decide)
theorem o234_8 : Okp RX12 cX12_instruction 6 none "instruction" false 8 (sSI 3 9) := ok_istore_n (by decide +kernel : decode cX12_instruction 8 = .ok (.istore_n 3, 1)) rfl (by decide) (by decide)
theorem o234_9 : Okp RX12 cX12_instruction 6 none "instruction" false 9 (sLI 3 10) := ok_iload_n (by decide +kernel : decode cX12_instruction 9 = .ok (.iload_n 3, 1)) rfl
theorem o234_10 : Okp RX12 cX12_instruction 6 none "instruction" false 10 (sSw [(0, 188), (1, 324), (2, 216), (3, 216), (4, 324), (5, 324), (6, 324), (7, 324), (8, 324), (9, 324), (10, 324), (11, 324), (12, 324), (13, 324), (14, 324), (15, 324), (16, 324), (17, 324), (18, 324), (19, 324), (20, 251), (21, 251), (22, 251), (23, 264), (24, 264), (25, 324), (26, 251), (27, 324), (28, 324), (29, 324), (30, 251), (31, 324), (32, 251), (33, 264), (34, 264), (35, 324), (36, 251), (37, 275), (38, 286), (39, 324), (40, 251)] 324) := ok_tsw (by decide +kernel : decode cX12_instruction 10 = .ok (.tableswitch 314 0 40 #[178, 314, 206, 206, 314, 314, 314, 314, 314, 314, 314, 314, 314, 314, 314, 314, 314, 314, 314, 314, 241, 241, 241, 254, 254, 314, 241, 314, 314, 314, 241, 314, 241, 254, 254, 314, 241, 265, 276, 314, 241], 178)) (by decide) (by decide) (by decide)
theorem o234_188 : Okp RX12 cX12_instruction 6 none "instruction" false 188 (sK 0 189) := ok_iconst (by decide +kernel : decode cX12_instruction 188 = .ok (.iconst 0, 1)) (by decide)
theorem o234_189 : Okp RX12 cX12_instruction 6 none "instruction" false 189 (sSI 4 191) := ok_istore (by decide +kernel : decode cX12_instruction 189 = .ok (.istore 4, 2)) (by decide) (by decide)
theorem o234_191 : Okp RX12 cX12_instruction 6 none "instruction" false 191 (sLI 4 193) := ok_iload (by decide +kernel : decode cX12_instruction 191 = .ok (.iload 4, 2))
theorem o234_193 : Okp RX12 cX12_instruction 6 none "instruction" false 193 (sK 4 194) := ok_iconst (by decide +kernel : decode cX12_instruction 193 = .ok (.iconst 4, 1)) (by decide)
theorem o234_194 : Okp RX12 cX12_instruction 6 none "instruction" false 194 (sI2 3 213 197) := ok_icmp_ge (by decide +kernel : decode cX12_instruction 194 = .ok (.if_icmp .ge 19, 3)) (by decide)
theorem o234_197 : Okp RX12 cX12_instruction 6 none "instruction" false 197 (sLR 0 198) := ok_aload_n (by decide +kernel : decode cX12_instruction 197 = .ok (.aload_n 0, 1)) rfl
theorem o234_198 : Okp RX12 cX12_instruction 6 none "instruction" false 198 (sK 0 199) := ok_iconst (by decide +kernel : decode cX12_instruction 198 = .ok (.iconst 0, 1)) (by decide)
theorem o234_199 : Okp RX12 cX12_instruction 6 none "instruction" false 199 (sK 255 202) := ok_sipush (by decide +kernel : decode cX12_instruction 199 = .ok (.sipush 255, 3)) (by decide)
theorem o234_202 : Okp RX12 cX12_instruction 6 none "instruction" false 202 (sLI 2 203) := ok_iload_n (by decide +kernel : decode cX12_instruction 202 = .ok (.iload_n 2, 1)) rfl
theorem o234_203 : Okp RX12 cX12_instruction 6 none "instruction" false 203 (sCV false 233 4 13 206) := ok_cvT (by decide +kernel : decode cX12_instruction 203 = .ok (.invokevirtual 279, 3)) mw_X12_279 rfl rfl (by decide) wm_X12_part wse_X12_part (by decide)
theorem o234_206 : Okp RX12 cX12_instruction 6 none "instruction" false 206 (sSI 3 207) := ok_istore_n (by decide +kernel : decode cX12_instruction 206 = .ok (.istore_n 3, 1)) rfl (by decide) (by decide)
theorem o234_207 : Okp RX12 cX12_instruction 6 none "instruction" false 207 (sInc 4 1 210) := ok_iinc (by decide +kernel : decode cX12_instruction 207 = .ok (.iinc 4 1, 3)) (by decide) (by decide)
theorem o234_210 : Okp RX12 cX12_instruction 6 none "instruction" false 210 (sGo 191) := ok_goto (by decide +kernel : decode cX12_instruction 210 = .ok (.goto (-19), 3)) (by decide)
theorem o234_213 : Okp RX12 cX12_instruction 6 none "instruction" false 213 (sGo 324) := ok_goto (by decide +kernel : decode cX12_instruction 213 = .ok (.goto 111, 3)) (by decide)
theorem o234_216 : Okp RX12 cX12_instruction 6 none "instruction" false 216 (sLR 0 217) := ok_aload_n (by decide +kernel : decode cX12_instruction 216 = .ok (.aload_n 0, 1)) rfl
theorem o234_217 : Okp RX12 cX12_instruction 6 none "instruction" false 217 (sGR 13 19 220) := ok_getR (by decide +kernel : decode cX12_instruction 217 = .ok (.getfield 63, 3)) fw_X12_63 rfl
theorem o234_220 : Okp RX12 cX12_instruction 6 none "instruction" false 220 (sLI 1 221) := ok_iload_n (by decide +kernel : decode cX12_instruction 220 = .ok (.iload_n 1, 1)) rfl
theorem o234_221 : Okp RX12 cX12_instruction 6 none "instruction" false 221 (sIA 222) := ok_iaload (by decide +kernel : decode cX12_instruction 221 = .ok (.iaload, 1))
theorem o234_222 : Okp RX12 cX12_instruction 6 none "instruction" false 222 (sI1 1 233 225) := ok_if_ne (by decide +kernel : decode cX12_instruction 222 = .ok (.ifCond .ne 11, 3)) (by decide)
theorem o234_225 : Okp RX12 cX12_instruction 6 none "instruction" false 225 (sLR 0 226) := ok_aload_n (by decide +kernel : decode cX12_instruction 225 = .ok (.aload_n 0, 1)) rfl
theorem o234_226 : Okp RX12 cX12_instruction 6 none "instruction" false 226 (sLI 2 227) := ok_iload_n (by decide +kernel : decode cX12_instruction 226 = .ok (.iload_n 2, 1)) rfl
theorem o234_227 : Okp RX12 cX12_instruction 6 none "instruction" false 227 (sCV false 235 2 13 230) := ok_cvT (by decide +kernel : decode cX12_instruction 227 = .ok (.invokevirtual 283, 3)) mw_X12_283 rfl rfl (by decide) wm_X12_noLocal wse_X12_noLocal (by decide)
theorem o234_230 : Okp RX12 cX12_instruction 6 none "instruction" false 230 (sGo 247) := ok_goto (by decide +kernel : decode cX12_instruction 230 = .ok (.goto 17, 3)) (by decide)
theorem o234_233 : Okp RX12 cX12_instruction 6 none "instruction" false 233 (sLR 0 234) := ok_aload_n (by decide +kernel : decode cX12_instruction 233 = .ok (.aload_n 0, 1)) rfl
theorem o234_234 : Okp RX12 cX12_instruction 6 none "instruction" false 234 (sK 0 235) := ok_iconst (by decide +kernel : decode cX12_instruction 234 = .ok (.iconst 0, 1)) (by decide)
theorem o234_235 : Okp RX12 cX12_instruction 6 none "instruction" false 235 (sLR 0 236) := ok_aload_n (by decide +kernel : decode cX12_instruction 235 = .ok (.aload_n 0, 1)) rfl
theorem o234_236 : Okp RX12 cX12_instruction 6 none "instruction" false 236 (sGR 13 19 239) := ok_getR (by decide +kernel : decode cX12_instruction 236 = .ok (.getfield 63, 3)) fw_X12_63 rfl
theorem o234_239 : Okp RX12 cX12_instruction 6 none "instruction" false 239 (sLI 1 240) := ok_iload_n (by decide +kernel : decode cX12_instruction 239 = .ok (.iload_n 1, 1)) rfl
theorem o234_240 : Okp RX12 cX12_instruction 6 none "instruction" false 240 (sIA 241) := ok_iaload (by decide +kernel : decode cX12_instruction 240 = .ok (.iaload, 1))
theorem o234_241 : Okp RX12 cX12_instruction 6 none "instruction" false 241 (sK 1 242) := ok_iconst (by decide +kernel : decode cX12_instruction 241 = .ok (.iconst 1, 1)) (by decide)
theorem o234_242 : Okp RX12 cX12_instruction 6 none "instruction" false 242 (sB2 fSub 243) := ok_isub (by decide +kernel : decode cX12_instruction 242 = .ok (.isub, 1))
theorem o234_243 : Okp RX12 cX12_instruction 6 none "instruction" false 243 (sLI 2 244) := ok_iload_n (by decide +kernel : decode cX12_instruction 243 = .ok (.iload_n 2, 1)) rfl
theorem o234_244 : Okp RX12 cX12_instruction 6 none "instruction" false 244 (sCV false 233 4 13 247) := ok_cvT (by decide +kernel : decode cX12_instruction 244 = .ok (.invokevirtual 279, 3)) mw_X12_279 rfl rfl (by decide) wm_X12_part wse_X12_part (by decide)
theorem o234_247 : Okp RX12 cX12_instruction 6 none "instruction" false 247 (sSI 3 248) := ok_istore_n (by decide +kernel : decode cX12_instruction 247 = .ok (.istore_n 3, 1)) rfl (by decide) (by decide)
theorem o234_248 : Okp RX12 cX12_instruction 6 none "instruction" false 248 (sGo 324) := ok_goto (by decide +kernel : decode cX12_instruction 248 = .ok (.goto 76, 3)) (by decide)
theorem o234_251 : Okp RX12 cX12_instruction 6 none "instruction" false 251 (sLR 0 252) := ok_aload_n (by decide +kernel : decode cX12_instruction 251 = .ok (.aload_n 0, 1)) rfl
theorem o234_252 : Okp RX12 cX12_instruction 6 none "instruction" false 252 (sK 0 253) := ok_iconst (by decide +kernel : decode cX12_instruction 252 = .ok (.iconst 0, 1)) (by decide)
theorem o234_253 : Okp RX12 cX12_instruction 6 none "instruction" false 253 (sK 255 256) := ok_sipush (by decide +kernel : decode cX12_instruction 253 = .ok (.sipush 255, 3)) (by decide)
theorem o234_256 : Okp RX12 cX12_instruction 6 none "instruction" false 256 (sLI 2 257) := ok_iload_n (by decide +kernel : decode cX12_instruction 256 = .ok (.iload_n 2, 1)) rfl
theorem o234_257 : Okp RX12 cX12_instruction 6 none "instruction" false 257 (sCV false 233 4 13 260) := ok_cvT (by decide +kernel : decode cX12_instruction 257 = .ok (.invokevirtual 279, 3)) mw_X12_279 rfl rfl (by decide) wm_X12_part wse_X12_part (by decide)
theorem o234_260 : Okp RX12 cX12_instruction 6 none "instruction" false 260 (sSI 3 261) := ok_istore_n (by decide +kernel : decode cX12_instruction 260 = .ok (.istore_n 3, 1)) rfl (by decide) (by decide)
theorem o234_261 : Okp RX12 cX12_instruction 6 none "instruction" false 261 (sGo 324) := ok_goto (by decide +kernel : decode cX12_instruction 261 = .ok (.goto 63, 3)) (by decide)
theorem o234_264 : Okp RX12 cX12_instruction 6 none "instruction" false 264 (sLR 0 265) := ok_aload_n (by decide +kernel : decode cX12_instruction 264 = .ok (.aload_n 0, 1)) rfl
theorem o234_265 : Okp RX12 cX12_instruction 6 none "instruction" false 265 (sK 0 266) := ok_iconst (by decide +kernel : decode cX12_instruction 265 = .ok (.iconst 0, 1)) (by decide)
theorem o234_266 : Okp RX12 cX12_instruction 6 none "instruction" false 266 (sK 5 267) := ok_iconst (by decide +kernel : decode cX12_instruction 266 = .ok (.iconst 5, 1)) (by decide)
theorem o234_267 : Okp RX12 cX12_instruction 6 none "instruction" false 267 (sLI 2 268) := ok_iload_n (by decide +kernel : decode cX12_instruction 267 = .ok (.iload_n 2, 1)) rfl
theorem o234_268 : Okp RX12 cX12_instruction 6 none "instruction" false 268 (sCV false 233 4 13 271) := ok_cvT (by decide +kernel : decode cX12_instruction 268 = .ok (.invokevirtual 279, 3)) mw_X12_279 rfl rfl (by decide) wm_X12_part wse_X12_part (by decide)
theorem o234_271 : Okp RX12 cX12_instruction 6 none "instruction" false 271 (sSI 3 272) := ok_istore_n (by decide +kernel : decode cX12_instruction 271 = .ok (.istore_n 3, 1)) rfl (by decide) (by decide)
theorem o234_272 : Okp RX12 cX12_instruction 6 none "instruction" false 272 (sGo 324) := ok_goto (by decide +kernel : decode cX12_instruction 272 = .ok (.goto 52, 3)) (by decide)
theorem o234_275 : Okp RX12 cX12_instruction 6 none "instruction" false 275 (sLR 0 276) := ok_aload_n (by decide +kernel : decode cX12_instruction 275 = .ok (.aload_n 0, 1)) rfl
theorem o234_276 : Okp RX12 cX12_instruction 6 none "instruction" false 276 (sK 0 277) := ok_iconst (by decide +kernel : decode cX12_instruction 276 = .ok (.iconst 0, 1)) (by decide)
theorem o234_277 : Okp RX12 cX12_instruction 6 none "instruction" false 277 (sK 3 278) := ok_iconst (by decide +kernel : decode cX12_instruction 277 = .ok (.iconst 3, 1)) (by decide)
theorem o234_278 : Okp RX12 cX12_instruction 6 none "instruction" false 278 (sLI 2 279) := ok_iload_n (by decide +kernel : decode cX12_instruction 278 = .ok (.iload_n 2, 1)) rfl
theorem o234_279 : Okp RX12 cX12_instruction 6 none "instruction" false 279 (sCV false 233 4 13 282) := ok_cvT (by decide +kernel : decode cX12_instruction 279 = .ok (.invokevirtual 279, 3)) mw_X12_279 rfl rfl (by decide) wm_X12_part wse_X12_part (by decide)
theorem o234_282 : Okp RX12 cX12_instruction 6 none "instruction" false 282 (sSI 3 283) := ok_istore_n (by decide +kernel : decode cX12_instruction 282 = .ok (.istore_n 3, 1)) rfl (by decide) (by decide)
theorem o234_283 : Okp RX12 cX12_instruction 6 none "instruction" false 283 (sGo 324) := ok_goto (by decide +kernel : decode cX12_instruction 283 = .ok (.goto 41, 3)) (by decide)
theorem o234_286 : Okp RX12 cX12_instruction 6 none "instruction" false 286 (sLR 0 287) := ok_aload_n (by decide +kernel : decode cX12_instruction 286 = .ok (.aload_n 0, 1)) rfl
theorem o234_287 : Okp RX12 cX12_instruction 6 none "instruction" false 287 (sK 1 288) := ok_iconst (by decide +kernel : decode cX12_instruction 287 = .ok (.iconst 1, 1)) (by decide)
theorem o234_288 : Okp RX12 cX12_instruction 6 none "instruction" false 288 (sK 4 289) := ok_iconst (by decide +kernel : decode cX12_instruction 288 = .ok (.iconst 4, 1)) (by decide)
theorem o234_289 : Okp RX12 cX12_instruction 6 none "instruction" false 289 (sLI 2 290) := ok_iload_n (by decide +kernel : decode cX12_instruction 289 = .ok (.iload_n 2, 1)) rfl
theorem o234_290 : Okp RX12 cX12_instruction 6 none "instruction" false 290 (sCV false 233 4 13 293) := ok_cvT (by decide +kernel : decode cX12_instruction 290 = .ok (.invokevirtual 279, 3)) mw_X12_279 rfl rfl (by decide) wm_X12_part wse_X12_part (by decide)
theorem o234_293 : Okp RX12 cX12_instruction 6 none "instruction" false 293 (sSI 4 295) := ok_istore (by decide +kernel : decode cX12_instruction 293 = .ok (.istore 4, 2)) (by decide) (by decide)
theorem o234_295 : Okp RX12 cX12_instruction 6 none "instruction" false 295 (sK 0 296) := ok_iconst (by decide +kernel : decode cX12_instruction 295 = .ok (.iconst 0, 1)) (by decide)
theorem o234_296 : Okp RX12 cX12_instruction 6 none "instruction" false 296 (sSI 5 298) := ok_istore (by decide +kernel : decode cX12_instruction 296 = .ok (.istore 5, 2)) (by decide) (by decide)
theorem o234_298 : Okp RX12 cX12_instruction 6 none "instruction" false 298 (sLI 5 300) := ok_iload (by decide +kernel : decode cX12_instruction 298 = .ok (.iload 5, 2))
theorem o234_300 : Okp RX12 cX12_instruction 6 none "instruction" false 300 (sLI 4 302) := ok_iload (by decide +kernel : decode cX12_instruction 300 = .ok (.iload 4, 2))
theorem o234_302 : Okp RX12 cX12_instruction 6 none "instruction" false 302 (sI2 3 321 305) := ok_icmp_ge (by decide +kernel : decode cX12_instruction 302 = .ok (.if_icmp .ge 19, 3)) (by decide)
theorem o234_305 : Okp RX12 cX12_instruction 6 none "instruction" false 305 (sLR 0 306) := ok_aload_n (by decide +kernel : decode cX12_instruction 305 = .ok (.aload_n 0, 1)) rfl
theorem o234_306 : Okp RX12 cX12_instruction 6 none "instruction" false 306 (sK 0 307) := ok_iconst (by decide +kernel : decode cX12_instruction 306 = .ok (.iconst 0, 1)) (by decide)
theorem o234_307 : Okp RX12 cX12_instruction 6 none "instruction" false 307 (sK 255 310) := ok_sipush (by decide +kernel : decode cX12_instruction 307 = .ok (.sipush 255, 3)) (by decide)
theorem o234_310 : Okp RX12 cX12_instruction 6 none "instruction" false 310 (sLI 2 311) := ok_iload_n (by decide +kernel : decode cX12_instruction 310 = .ok (.iload_n 2, 1)) rfl
theorem o234_311 : Okp RX12 cX12_instruction 6 none "instruction" false 311 (sCV false 233 4 13 314) := ok_cvT (by decide +kernel : decode cX12_instruction 311 = .ok (.invokevirtual 279, 3)) mw_X12_279 rfl rfl (by decide) wm_X12_part wse_X12_part (by decide)
theorem o234_314 : Okp RX12 cX12_instruction 6 none "instruction" false 314 (sSI 3 315) := ok_istore_n (by decide +kernel : decode cX12_instruction 314 = .ok (.istore_n 3, 1)) rfl (by decide) (by decide)
theorem o234_315 : Okp RX12 cX12_instruction 6 none "instruction" false 315 (sInc 5 1 318) := ok_iinc (by decide +kernel : decode cX12_instruction 315 = .ok (.iinc 5 1, 3)) (by decide) (by decide)
theorem o234_318 : Okp RX12 cX12_instruction 6 none "instruction" false 318 (sGo 298) := ok_goto (by decide +kernel : decode cX12_instruction 318 = .ok (.goto (-20), 3)) (by decide)
theorem o234_321 : Okp RX12 cX12_instruction 6 none "instruction" false 321 (sGo 324) := ok_goto (by decide +kernel : decode cX12_instruction 321 = .ok (.goto 3, 3)) (by decide)
theorem o234_324 : Okp RX12 cX12_instruction 6 none "instruction" false 324 sRV := ok_vret rfl (by decide +kernel : decode cX12_instruction 324 = .ok (.return_, 1))
theorem oc234_0 : ∀ pc, Mnp (c234_0 pc) ∧ Okp RX12 cX12_instruction 6 none "instruction" false pc (c234_0 pc) := by
  intro pc
  unfold c234_0
  split
  · exact ⟨mn_sLR, o234_0⟩
  · exact ⟨mn_sK, o234_1⟩
  · exact ⟨mn_sK, o234_2⟩
  · exact ⟨mn_sLI, o234_4⟩
  · exact ⟨mn_sCV, o234_5⟩
  · exact ⟨mn_sSI, o234_8⟩
  · exact ⟨mn_sLI, o234_9⟩
  · exact ⟨mn_sSw, o234_10⟩
  · exact ⟨mn_sX, ok_X⟩
theorem oc234_7 : ∀ pc, Mnp (c234_7 pc) ∧ Okp RX12 cX12_instruction 6 none "instruction" false pc (c234_7 pc) := by
  intro pc
  unfold c234_7
  split
  · exact ⟨mn_sK, o234_188⟩
  · exact ⟨mn_sSI, o234_189⟩
  · exact ⟨mn_sLI, o234_191⟩
  · exact ⟨mn_sX, ok_X⟩
theorem oc234_8 : ∀ pc, Mnp (c234_8 pc) ∧ Okp RX12 cX12_instruction 6 none "instruction" false pc (c234_8 pc) := by
  intro pc
  unfold c234_8
  split
  · exact ⟨mn_sK, o234_193⟩
  · exact ⟨mn_sI2, o234_194⟩
  · exact ⟨mn_sLR, o234_197⟩
  · exact ⟨mn_sK, o234_198⟩
  · exact ⟨mn_sK, o234_199⟩
  · exact ⟨mn_sLI, o234_202⟩
  · exact ⟨mn_sCV, o234_203⟩
  · exact ⟨mn_sSI, o234_206⟩
  · exact ⟨mn_sInc, o234_207⟩
  · exact ⟨mn_sGo, o234_210⟩
  · exact ⟨mn_sGo, o234_213⟩
  · exact ⟨mn_sX, ok_X⟩
theorem oc234_9 : ∀ pc, Mnp (c234_9 pc) ∧ Okp RX12 cX12_instruction 6 none "instruction" false pc (c234_9 pc) := by
  intro pc
  unfold c234_9
  split
  · exact ⟨mn_sLR, o234_216⟩
  · exact ⟨mn_sGR, o234_217⟩
  · exact ⟨mn_sLI, o234_220⟩
  · exact ⟨mn_sIA, o234_221⟩
  · exact ⟨mn_sI1, o234_222⟩
  · exact ⟨mn_sLR, o234_225⟩
  · exact ⟨mn_sLI, o234_226⟩
  · exact ⟨mn_sCV, o234_227⟩
  · exact ⟨mn_sGo, o234_230⟩
  · exact ⟨mn_sLR, o234_233⟩
  · exact ⟨mn_sK, o234_234⟩
  · exact ⟨mn_sLR, o234_235⟩
  · exact ⟨mn_sGR, o234_236⟩
  · exact ⟨mn_sLI, o234_239⟩
  · exact ⟨mn_sX, ok_X⟩
theorem oc234_10 : ∀ pc, Mnp (c234_10 pc) ∧ Okp RX12 cX12_instruction 6 none "instruction" false pc (c234_10 pc) := by
  intro pc
  unfold c234_10
  split
  · exact ⟨mn_sIA, o234_240⟩
  · exact ⟨mn_sK, o234_241⟩
  · exact ⟨mn_sB2, o234_242⟩
  · exact ⟨mn_sLI, o234_243⟩
  · exact ⟨mn_sCV, o234_244⟩
  · exact ⟨mn_sSI, o234_247⟩
  · exact ⟨mn_sGo, o234_248⟩
  · exact ⟨mn_sLR, o234_251⟩
  · exact ⟨mn_sK, o234_252⟩
  · exact ⟨mn_sK, o234_253⟩
  · exact ⟨mn_sLI, o234_256⟩
  · exact ⟨mn_sCV, o234_257⟩
  · exact ⟨mn_sSI, o234_260⟩
  · exact ⟨mn_sGo, o234_261⟩
  · exact ⟨mn_sX, ok_X⟩
theorem oc234_11 : ∀ pc, Mnp (c234_11 pc) ∧ Okp RX12 cX12_instruction 6 none "instruction" false pc (c234_11 pc) := by
  intro pc
  unfold c234_11
  split
  · exact ⟨mn_sLR, o234_264⟩
  · exact ⟨mn_sK, o234_265⟩
  · exact ⟨mn_sK, o234_266⟩
  · exact ⟨mn_sLI, o234_267⟩
  · exact ⟨mn_sCV, o234_268⟩
  · exact ⟨mn_sSI, o234_271⟩
  · exact ⟨mn_sGo, o234_272⟩
  · exact ⟨mn_sLR, o234_275⟩
  · exact ⟨mn_sK, o234_276⟩
  · exact ⟨mn_sK, o234_277⟩
  · exact ⟨mn_sLI, o234_278⟩
  · exact ⟨mn_sCV, o234_279⟩
  · exact ⟨mn_sSI, o234_282⟩
  · exact ⟨mn_sGo, o234_283⟩
  · exact ⟨mn_sLR, o234_286⟩
  · exact ⟨mn_sK, o234_287⟩
  · exact ⟨mn_sX, ok_X⟩
theorem oc234_12 : ∀ pc, Mnp (c234_12 pc) ∧ Okp RX12 cX12_instruction 6 none "instruction" false pc (c234_12 pc) := by
  intro pc
  unfold c234_12
  split
  · exact ⟨mn_sK, o234_288⟩
  · exact ⟨mn_sLI, o234_289⟩
  · exact ⟨mn_sCV, o234_290⟩
  · exact ⟨mn_sSI, o234_293⟩
  · exact ⟨mn_sK, o234_295⟩
  · exact ⟨mn_sSI, o234_296⟩
  · exact ⟨mn_sLI, o234_298⟩
  · exact ⟨mn_sLI, o234_300⟩
  · exact ⟨mn_sI2, o234_302⟩
  · exact ⟨mn_sLR, o234_305⟩
  · exact ⟨mn_sK, o234_306⟩
  · exact ⟨mn_sK, o234_307⟩
  · exact ⟨mn_sLI, o234_310⟩
  · exact ⟨mn_sCV, o234_311⟩
  · exact ⟨mn_sX, ok_X⟩
theorem oc234_13 : ∀ pc, Mnp (c234_13 pc) ∧ Okp RX12 cX12_instruction 6 none "instruction" false pc (c234_13 pc) := by
  intro pc
  unfold c234_13
  split
  · exact ⟨mn_sSI, o234_314⟩
  · exact ⟨mn_sInc, o234_315⟩
  · exact ⟨mn_sGo, o234_318⟩
  · exact ⟨mn_sGo, o234_321⟩
  · exact ⟨mn_sRV, o234_324⟩
  · exact ⟨mn_sX, ok_X⟩
theorem oc234 : ∀ pc, Mnp (c234 pc) ∧ Okp RX12 cX12_instruction 6 none "instruction" false pc (c234 pc) := by
  intro pc
  unfold c234
  split
  · exact oc234_0 pc
  · exact oc234_7 pc
  · exact oc234_8 pc
  · exact oc234_9 pc
  · exact oc234_10 pc
  · exact oc234_11 pc
  · exact oc234_12 pc
  · exact oc234_13 pc
  · exact ⟨mn_sX, ok_X⟩
theorem o235_0 : Okp RX12 cX12_noLocal 2 (some .int) "noLocal" false 0 (sLR 0 1) := ok_aload_n (by decide +kernel : decode cX12_noLocal 0 = .ok (.aload_n 0, 1)) rfl
theorem o235_1 : Okp RX12 cX12_noLocal 2 (some .int) "noLocal" false 1 (sK 1 2) := ok_iconst (by decide +kernel : decode cX12_noLocal 1 = .ok (.iconst 1, 1)) (by decide)
theorem o235_2 : Okp RX12 cX12_noLocal 2 (some .int) "noLocal" false 2 (sLR 0 3) := ok_aload_n (by decide +kernel : decode cX12_noLocal 2 = .ok (.aload_n 0, 1)) rfl
theorem o235_3 : Okp RX12 cX12_noLocal 2 (some .int) "noLocal" false 3 (sGI 13 26 6) := ok_getI (by decide +kernel : decode cX12_noLocal 3 = .ok (.getfield 243, 3)) fw_X12_243 rfl
theorem o235_6 : Okp RX12 cX12_noLocal 2 (some .int) "noLocal" false 6 (sCV false 218 3 13 9) := ok_cvT (by decide +kernel : decode cX12_noLocal 6 = .ok (.invokevirtual 250, 3)) mw_X12_250 rfl rfl (by decide) wm_X12_fails wse_X12_fails (by decide)
theorem o235_9 : Okp RX12 cX12_noLocal 2 (some .int) "noLocal" false 9 (sK 0 10) := ok_iconst (by decide +kernel : decode cX12_noLocal 9 = .ok (.iconst 0, 1)) (by decide)
theorem o235_10 : Okp RX12 cX12_noLocal 2 (some .int) "noLocal" false 10 sRI := ok_iret rfl (by decide +kernel : decode cX12_noLocal 10 = .ok (.ireturn, 1))
theorem oc235 : ∀ pc, Mnp (c235 pc) ∧ Okp RX12 cX12_noLocal 2 (some .int) "noLocal" false pc (c235 pc) := by
  intro pc
  unfold c235
  split
  · exact ⟨mn_sLR, o235_0⟩
  · exact ⟨mn_sK, o235_1⟩
  · exact ⟨mn_sLR, o235_2⟩
  · exact ⟨mn_sGI, o235_3⟩
  · exact ⟨mn_sCV, o235_6⟩
  · exact ⟨mn_sK, o235_9⟩
  · exact ⟨mn_sRI, o235_10⟩
  · exact ⟨mn_sX, ok_X⟩
theorem o236_0 : Okp RX12 cX12_missing 2 none "missing" false 0 (sLR 0 1) := ok_aload_n (by decide +kernel : decode cX12_missing 0 = .ok (.aload_n 0, 1)) rfl
theorem o236_1 : Okp RX12 cX12_missing 2 none "missing" false 1 (sLR 0 2) := ok_aload_n (by decide +kernel : decode cX12_missing 1 = .ok (.aload_n 0, 1)) rfl
theorem o236_2 : Okp RX12 cX12_missing 2 none "missing" false 2 (sGI 13 28 5) := ok_getI (by decide +kernel : decode cX12_missing 2 = .ok (.getfield 286, 3)) fw_X12_286 rfl
theorem o236_5 : Okp RX12 cX12_missing 2 none "missing" false 5 (sK (-1) 6) := ok_iconst (by decide +kernel : decode cX12_missing 5 = .ok (.iconst (-1), 1)) (by decide)
theorem o236_6 : Okp RX12 cX12_missing 2 none "missing" false 6 (sI2 0 17 9) := ok_icmp_eq (by decide +kernel : decode cX12_missing 6 = .ok (.if_icmp .eq 11, 3)) (by decide)
theorem o236_9 : Okp RX12 cX12_missing 2 none "missing" false 9 (sLI 1 10) := ok_iload_n (by decide +kernel : decode cX12_missing 9 = .ok (.iload_n 1, 1)) rfl
theorem o236_10 : Okp RX12 cX12_missing 2 none "missing" false 10 (sLR 0 11) := ok_aload_n (by decide +kernel : decode cX12_missing 10 = .ok (.aload_n 0, 1)) rfl
theorem o236_11 : Okp RX12 cX12_missing 2 none "missing" false 11 (sGI 13 28 14) := ok_getI (by decide +kernel : decode cX12_missing 11 = .ok (.getfield 286, 3)) fw_X12_286 rfl
theorem o236_14 : Okp RX12 cX12_missing 2 none "missing" false 14 (sI2 3 21 17) := ok_icmp_ge (by decide +kernel : decode cX12_missing 14 = .ok (.if_icmp .ge 7, 3)) (by decide)
theorem o236_17 : Okp RX12 cX12_missing 2 none "missing" false 17 (sLI 1 18) := ok_iload_n (by decide +kernel : decode cX12_missing 17 = .ok (.iload_n 1, 1)) rfl
theorem o236_18 : Okp RX12 cX12_missing 2 none "missing" false 18 (sGo 25) := ok_goto (by decide +kernel : decode cX12_missing 18 = .ok (.goto 7, 3)) (by decide)
theorem o236_21 : Okp RX12 cX12_missing 2 none "missing" false 21 (sLR 0 22) := ok_aload_n (by decide +kernel : decode cX12_missing 21 = .ok (.aload_n 0, 1)) rfl
theorem o236_22 : Okp RX12 cX12_missing 2 none "missing" false 22 (sGI 13 28 25) := ok_getI (by decide +kernel : decode cX12_missing 22 = .ok (.getfield 286, 3)) fw_X12_286 rfl
theorem o236_25 : Okp RX12 cX12_missing 2 none "missing" false 25 (sPI 13 28 28) := ok_putI (by decide +kernel : decode cX12_missing 25 = .ok (.putfield 286, 3)) fw_X12_286 ⟨⟨tyX12_ok, nmX12⟩, Or.inl rfl, rfl⟩ rfl
theorem o236_28 : Okp RX12 cX12_missing 2 none "missing" false 28 sRV := ok_vret rfl (by decide +kernel : decode cX12_missing 28 = .ok (.return_, 1))
theorem oc236_0 : ∀ pc, Mnp (c236_0 pc) ∧ Okp RX12 cX12_missing 2 none "missing" false pc (c236_0 pc) := by
  intro pc
  unfold c236_0
  split
  · exact ⟨mn_sLR, o236_0⟩
  · exact ⟨mn_sLR, o236_1⟩
  · exact ⟨mn_sGI, o236_2⟩
  · exact ⟨mn_sK, o236_5⟩
  · exact ⟨mn_sI2, o236_6⟩
  · exact ⟨mn_sLI, o236_9⟩
  · exact ⟨mn_sLR, o236_10⟩
  · exact ⟨mn_sGI, o236_11⟩
  · exact ⟨mn_sI2, o236_14⟩
  · exact ⟨mn_sLI, o236_17⟩
  · exact ⟨mn_sGo, o236_18⟩
  · exact ⟨mn_sLR, o236_21⟩
  · exact ⟨mn_sGI, o236_22⟩
  · exact ⟨mn_sX, ok_X⟩
theorem oc236_1 : ∀ pc, Mnp (c236_1 pc) ∧ Okp RX12 cX12_missing 2 none "missing" false pc (c236_1 pc) := by
  intro pc
  unfold c236_1
  split
  · exact ⟨mn_sPI, o236_25⟩
  · exact ⟨mn_sRV, o236_28⟩
  · exact ⟨mn_sX, ok_X⟩
theorem oc236 : ∀ pc, Mnp (c236 pc) ∧ Okp RX12 cX12_missing 2 none "missing" false pc (c236 pc) := by
  intro pc
  unfold c236
  split
  · exact oc236_0 pc
  · exact oc236_1 pc
  · exact ⟨mn_sX, ok_X⟩
theorem o237_0 : Okp RX12 cX12_names 5 (some .int) "names" false 0 (sLR 0 1) := ok_aload_n (by decide +kernel : decode cX12_names 0 = .ok (.aload_n 0, 1)) rfl
theorem o237_1 : Okp RX12 cX12_names 5 (some .int) "names" false 1 (sLI 1 2) := ok_iload_n (by decide +kernel : decode cX12_names 1 = .ok (.iload_n 1, 1)) rfl
theorem o237_2 : Okp RX12 cX12_names 5 (some .int) "names" false 2 (sLI 2 3) := ok_iload_n (by decide +kernel : decode cX12_names 2 = .ok (.iload_n 2, 1)) rfl
theorem o237_3 : Okp RX12 cX12_names 5 (some .int) "names" false 3 (sCV false 220 3 13 6) := ok_cv (by decide +kernel : decode cX12_names 3 = .ok (.invokevirtual 246, 3)) mw_X12_246 rfl (by decide) wm_X12_byteAt wse_X12_byteAt (by decide) rfl
theorem o237_6 : Okp RX12 cX12_names 5 (some .int) "names" false 6 (sSI 3 7) := ok_istore_n (by decide +kernel : decode cX12_names 6 = .ok (.istore_n 3, 1)) rfl (by decide) (by decide)
theorem o237_7 : Okp RX12 cX12_names 5 (some .int) "names" false 7 (sLI 3 8) := ok_iload_n (by decide +kernel : decode cX12_names 7 = .ok (.iload_n 3, 1)) rfl
theorem o237_8 : Okp RX12 cX12_names 5 (some .int) "names" false 8 (sK 255 11) := ok_sipush (by decide +kernel : decode cX12_names 8 = .ok (.sipush 255, 3)) (by decide)
theorem o237_11 : Okp RX12 cX12_names 5 (some .int) "names" false 11 (sI2 0 23 14) := ok_icmp_eq (by decide +kernel : decode cX12_names 11 = .ok (.if_icmp .eq 12, 3)) (by decide)
theorem o237_14 : Okp RX12 cX12_names 5 (some .int) "names" false 14 (sLI 3 15) := ok_iload_n (by decide +kernel : decode cX12_names 14 = .ok (.iload_n 3, 1)) rfl
theorem o237_15 : Okp RX12 cX12_names 5 (some .int) "names" false 15 (sI1 0 23 18) := ok_if_eq (by decide +kernel : decode cX12_names 15 = .ok (.ifCond .eq 8, 3)) (by decide)
theorem o237_18 : Okp RX12 cX12_names 5 (some .int) "names" false 18 (sLI 3 19) := ok_iload_n (by decide +kernel : decode cX12_names 18 = .ok (.iload_n 3, 1)) rfl
theorem o237_19 : Okp RX12 cX12_names 5 (some .int) "names" false 19 (sK 2 20) := ok_iconst (by decide +kernel : decode cX12_names 19 = .ok (.iconst 2, 1)) (by decide)
theorem o237_20 : Okp RX12 cX12_names 5 (some .int) "names" false 20 (sI2 1 27 23) := ok_icmp_ne (by decide +kernel : decode cX12_names 20 = .ok (.if_icmp .ne 7, 3)) (by decide)
theorem o237_23 : Okp RX12 cX12_names 5 (some .int) "names" false 23 (sLI 2 24) := ok_iload_n (by decide +kernel : decode cX12_names 23 = .ok (.iload_n 2, 1)) rfl
theorem o237_24 : Okp RX12 cX12_names 5 (some .int) "names" false 24 (sK 1 25) := ok_iconst (by decide +kernel : decode cX12_names 24 = .ok (.iconst 1, 1)) (by decide)
theorem o237_25 : Okp RX12 cX12_names 5 (some .int) "names" false 25 (sB2 fAdd 26) := ok_iadd (by decide +kernel : decode cX12_names 25 = .ok (.iadd, 1))
theorem o237_26 : Okp RX12 cX12_names 5 (some .int) "names" false 26 sRI := ok_iret rfl (by decide +kernel : decode cX12_names 26 = .ok (.ireturn, 1))
theorem o237_27 : Okp RX12 cX12_names 5 (some .int) "names" false 27 (sLR 0 28) := ok_aload_n (by decide +kernel : decode cX12_names 27 = .ok (.aload_n 0, 1)) rfl
theorem o237_28 : Okp RX12 cX12_names 5 (some .int) "names" false 28 (sLI 1 29) := ok_iload_n (by decide +kernel : decode cX12_names 28 = .ok (.iload_n 1, 1)) rfl
theorem o237_29 : Okp RX12 cX12_names 5 (some .int) "names" false 29 (sLI 2 30) := ok_iload_n (by decide +kernel : decode cX12_names 29 = .ok (.iload_n 2, 1)) rfl
theorem o237_30 : Okp RX12 cX12_names 5 (some .int) "names" false 30 (sK 1 31) := ok_iconst (by decide +kernel : decode cX12_names 30 = .ok (.iconst 1, 1)) (by decide)
theorem o237_31 : Okp RX12 cX12_names 5 (some .int) "names" false 31 (sB2 fAdd 32) := ok_iadd (by decide +kernel : decode cX12_names 31 = .ok (.iadd, 1))
theorem o237_32 : Okp RX12 cX12_names 5 (some .int) "names" false 32 (sCV false 220 3 13 35) := ok_cv (by decide +kernel : decode cX12_names 32 = .ok (.invokevirtual 246, 3)) mw_X12_246 rfl (by decide) wm_X12_byteAt wse_X12_byteAt (by decide) rfl
theorem o237_35 : Okp RX12 cX12_names 5 (some .int) "names" false 35 (sSI 4 37) := ok_istore (by decide +kernel : decode cX12_names 35 = .ok (.istore 4, 2)) (by decide) (by decide)
theorem o237_37 : Okp RX12 cX12_names 5 (some .int) "names" false 37 (sLI 3 38) := ok_iload_n (by decide +kernel : decode cX12_names 37 = .ok (.iload_n 3, 1)) rfl
theorem o237_38 : Okp RX12 cX12_names 5 (some .int) "names" false 38 (sK 5 39) := ok_iconst (by decide +kernel : decode cX12_names 38 = .ok (.iconst 5, 1)) (by decide)
theorem o237_39 : Okp RX12 cX12_names 5 (some .int) "names" false 39 (sI2 0 79 42) := ok_icmp_eq (by decide +kernel : decode cX12_names 39 = .ok (.if_icmp .eq 40, 3)) (by decide)
theorem o237_42 : Okp RX12 cX12_names 5 (some .int) "names" false 42 (sLI 4 44) := ok_iload (by decide +kernel : decode cX12_names 42 = .ok (.iload 4, 2))
theorem o237_44 : Okp RX12 cX12_names 5 (some .int) "names" false 44 (sLR 0 45) := ok_aload_n (by decide +kernel : decode cX12_names 44 = .ok (.aload_n 0, 1)) rfl
theorem o237_45 : Okp RX12 cX12_names 5 (some .int) "names" false 45 (sGR 13 5 48) := ok_getR (by decide +kernel : decode cX12_names 45 = .ok (.getfield 20, 3)) fw_X12_20 rfl
theorem o237_48 : Okp RX12 cX12_names 5 (some .int) "names" false 48 (sLI 1 49) := ok_iload_n (by decide +kernel : decode cX12_names 48 = .ok (.iload_n 1, 1)) rfl
theorem o237_49 : Okp RX12 cX12_names 5 (some .int) "names" false 49 (sIA 50) := ok_iaload (by decide +kernel : decode cX12_names 49 = .ok (.iaload, 1))
theorem o237_50 : Okp RX12 cX12_names 5 (some .int) "names" false 50 (sI2 3 68 53) := ok_icmp_ge (by decide +kernel : decode cX12_names 50 = .ok (.if_icmp .ge 18, 3)) (by decide)
theorem o237_53 : Okp RX12 cX12_names 5 (some .int) "names" false 53 (sLI 3 54) := ok_iload_n (by decide +kernel : decode cX12_names 53 = .ok (.iload_n 3, 1)) rfl
theorem o237_54 : Okp RX12 cX12_names 5 (some .int) "names" false 54 (sK 4 55) := ok_iconst (by decide +kernel : decode cX12_names 54 = .ok (.iconst 4, 1)) (by decide)
theorem o237_55 : Okp RX12 cX12_names 5 (some .int) "names" false 55 (sI2 1 75 58) := ok_icmp_ne (by decide +kernel : decode cX12_names 55 = .ok (.if_icmp .ne 20, 3)) (by decide)
theorem o237_58 : Okp RX12 cX12_names 5 (some .int) "names" false 58 (sLR 0 59) := ok_aload_n (by decide +kernel : decode cX12_names 58 = .ok (.aload_n 0, 1)) rfl
theorem o237_59 : Okp RX12 cX12_names 5 (some .int) "names" false 59 (sLI 1 60) := ok_iload_n (by decide +kernel : decode cX12_names 59 = .ok (.iload_n 1, 1)) rfl
theorem o237_60 : Okp RX12 cX12_names 5 (some .int) "names" false 60 (sLI 4 62) := ok_iload (by decide +kernel : decode cX12_names 60 = .ok (.iload 4, 2))
theorem o237_62 : Okp RX12 cX12_names 5 (some .int) "names" false 62 (sCV false 238 3 13 65) := ok_cv (by decide +kernel : decode cX12_names 62 = .ok (.invokevirtual 289, 3)) mw_X12_289 rfl (by decide) wm_X12_isPlain wse_X12_isPlain (by decide) rfl
theorem o237_65 : Okp RX12 cX12_names 5 (some .int) "names" false 65 (sI1 1 75 68) := ok_if_ne (by decide +kernel : decode cX12_names 65 = .ok (.ifCond .ne 10, 3)) (by decide)
theorem o237_68 : Okp RX12 cX12_names 5 (some .int) "names" false 68 (sLR 0 69) := ok_aload_n (by decide +kernel : decode cX12_names 68 = .ok (.aload_n 0, 1)) rfl
theorem o237_69 : Okp RX12 cX12_names 5 (some .int) "names" false 69 (sLI 2 70) := ok_iload_n (by decide +kernel : decode cX12_names 69 = .ok (.iload_n 2, 1)) rfl
theorem o237_70 : Okp RX12 cX12_names 5 (some .int) "names" false 70 (sK 1 71) := ok_iconst (by decide +kernel : decode cX12_names 70 = .ok (.iconst 1, 1)) (by decide)
theorem o237_71 : Okp RX12 cX12_names 5 (some .int) "names" false 71 (sB2 fAdd 72) := ok_iadd (by decide +kernel : decode cX12_names 71 = .ok (.iadd, 1))
theorem o237_72 : Okp RX12 cX12_names 5 (some .int) "names" false 72 (sCV false 236 2 13 75) := ok_cv (by decide +kernel : decode cX12_names 72 = .ok (.invokevirtual 293, 3)) mw_X12_293 rfl (by decide) wm_X12_missing wse_X12_missing (by decide) rfl
theorem o237_75 : Okp RX12 cX12_names 5 (some .int) "names" false 75 (sLI 2 76) := ok_iload_n (by decide +kernel : decode cX12_names 75 = .ok (.iload_n 2, 1)) rfl
theorem o237_76 : Okp RX12 cX12_names 5 (some .int) "names" false 76 (sK 2 77) := ok_iconst (by decide +kernel : decode cX12_names 76 = .ok (.iconst 2, 1)) (by decide)
theorem o237_77 : Okp RX12 cX12_names 5 (some .int) "names" false 77 (sB2 fAdd 78) := ok_iadd (by decide +kernel : decode cX12_names 77 = .ok (.iadd, 1))
theorem o237_78 : Okp RX12 cX12_names 5 (some .int) "names" false 78 sRI := ok_iret rfl (by decide +kernel : decode cX12_names 78 = .ok (.ireturn, 1))
theorem o237_79 : Okp RX12 cX12_names 5 (some .int) "names" false 79 (sLI 4 81) := ok_iload (by decide +kernel : decode cX12_names 79 = .ok (.iload 4, 2))
theorem o237_81 : Okp RX12 cX12_names 5 (some .int) "names" false 81 (sLR 0 82) := ok_aload_n (by decide +kernel : decode cX12_names 81 = .ok (.aload_n 0, 1)) rfl
theorem o237_82 : Okp RX12 cX12_names 5 (some .int) "names" false 82 (sGR 13 6 85) := ok_getR (by decide +kernel : decode cX12_names 82 = .ok (.getfield 23, 3)) fw_X12_23 rfl
theorem o237_85 : Okp RX12 cX12_names 5 (some .int) "names" false 85 (sLI 1 86) := ok_iload_n (by decide +kernel : decode cX12_names 85 = .ok (.iload_n 1, 1)) rfl
theorem o237_86 : Okp RX12 cX12_names 5 (some .int) "names" false 86 (sIA 87) := ok_iaload (by decide +kernel : decode cX12_names 86 = .ok (.iaload, 1))
theorem o237_87 : Okp RX12 cX12_names 5 (some .int) "names" false 87 (sI2 2 100 90) := ok_icmp_lt (by decide +kernel : decode cX12_names 87 = .ok (.if_icmp .lt 13, 3)) (by decide)
theorem o237_90 : Okp RX12 cX12_names 5 (some .int) "names" false 90 (sLR 0 91) := ok_aload_n (by decide +kernel : decode cX12_names 90 = .ok (.aload_n 0, 1)) rfl
theorem o237_91 : Okp RX12 cX12_names 5 (some .int) "names" false 91 (sLI 2 92) := ok_iload_n (by decide +kernel : decode cX12_names 91 = .ok (.iload_n 2, 1)) rfl
theorem o237_92 : Okp RX12 cX12_names 5 (some .int) "names" false 92 (sK 1 93) := ok_iconst (by decide +kernel : decode cX12_names 92 = .ok (.iconst 1, 1)) (by decide)
theorem o237_93 : Okp RX12 cX12_names 5 (some .int) "names" false 93 (sB2 fAdd 94) := ok_iadd (by decide +kernel : decode cX12_names 93 = .ok (.iadd, 1))
theorem o237_94 : Okp RX12 cX12_names 5 (some .int) "names" false 94 (sCV false 236 2 13 97) := ok_cv (by decide +kernel : decode cX12_names 94 = .ok (.invokevirtual 293, 3)) mw_X12_293 rfl (by decide) wm_X12_missing wse_X12_missing (by decide) rfl
theorem o237_97 : Okp RX12 cX12_names 5 (some .int) "names" false 97 (sGo 129) := ok_goto (by decide +kernel : decode cX12_names 97 = .ok (.goto 32, 3)) (by decide)
theorem o237_100 : Okp RX12 cX12_names 5 (some .int) "names" false 100 (sLR 0 101) := ok_aload_n (by decide +kernel : decode cX12_names 100 = .ok (.aload_n 0, 1)) rfl
theorem o237_101 : Okp RX12 cX12_names 5 (some .int) "names" false 101 (sLI 1 102) := ok_iload_n (by decide +kernel : decode cX12_names 101 = .ok (.iload_n 1, 1)) rfl
theorem o237_102 : Okp RX12 cX12_names 5 (some .int) "names" false 102 (sLI 2 103) := ok_iload_n (by decide +kernel : decode cX12_names 102 = .ok (.iload_n 2, 1)) rfl
theorem o237_103 : Okp RX12 cX12_names 5 (some .int) "names" false 103 (sK 2 104) := ok_iconst (by decide +kernel : decode cX12_names 103 = .ok (.iconst 2, 1)) (by decide)
theorem o237_104 : Okp RX12 cX12_names 5 (some .int) "names" false 104 (sB2 fAdd 105) := ok_iadd (by decide +kernel : decode cX12_names 104 = .ok (.iadd, 1))
theorem o237_105 : Okp RX12 cX12_names 5 (some .int) "names" false 105 (sCV false 220 3 13 108) := ok_cv (by decide +kernel : decode cX12_names 105 = .ok (.invokevirtual 246, 3)) mw_X12_246 rfl (by decide) wm_X12_byteAt wse_X12_byteAt (by decide) rfl
theorem o237_108 : Okp RX12 cX12_names 5 (some .int) "names" false 108 (sLR 0 109) := ok_aload_n (by decide +kernel : decode cX12_names 108 = .ok (.aload_n 0, 1)) rfl
theorem o237_109 : Okp RX12 cX12_names 5 (some .int) "names" false 109 (sGR 13 11 112) := ok_getR (by decide +kernel : decode cX12_names 109 = .ok (.getfield 39, 3)) fw_X12_39 rfl
theorem o237_112 : Okp RX12 cX12_names 5 (some .int) "names" false 112 (sK 4 113) := ok_iconst (by decide +kernel : decode cX12_names 112 = .ok (.iconst 4, 1)) (by decide)
theorem o237_113 : Okp RX12 cX12_names 5 (some .int) "names" false 113 (sLI 1 114) := ok_iload_n (by decide +kernel : decode cX12_names 113 = .ok (.iload_n 1, 1)) rfl
theorem o237_114 : Okp RX12 cX12_names 5 (some .int) "names" false 114 (sB2 fMul 115) := ok_imul (by decide +kernel : decode cX12_names 114 = .ok (.imul, 1))
theorem o237_115 : Okp RX12 cX12_names 5 (some .int) "names" false 115 (sLI 4 117) := ok_iload (by decide +kernel : decode cX12_names 115 = .ok (.iload 4, 2))
theorem o237_117 : Okp RX12 cX12_names 5 (some .int) "names" false 117 (sB2 fAdd 118) := ok_iadd (by decide +kernel : decode cX12_names 117 = .ok (.iadd, 1))
theorem o237_118 : Okp RX12 cX12_names 5 (some .int) "names" false 118 (sIA 119) := ok_iaload (by decide +kernel : decode cX12_names 118 = .ok (.iaload, 1))
theorem o237_119 : Okp RX12 cX12_names 5 (some .int) "names" false 119 (sI2 2 129 122) := ok_icmp_lt (by decide +kernel : decode cX12_names 119 = .ok (.if_icmp .lt 10, 3)) (by decide)
theorem o237_122 : Okp RX12 cX12_names 5 (some .int) "names" false 122 (sLR 0 123) := ok_aload_n (by decide +kernel : decode cX12_names 122 = .ok (.aload_n 0, 1)) rfl
theorem o237_123 : Okp RX12 cX12_names 5 (some .int) "names" false 123 (sLI 2 124) := ok_iload_n (by decide +kernel : decode cX12_names 123 = .ok (.iload_n 2, 1)) rfl
theorem o237_124 : Okp RX12 cX12_names 5 (some .int) "names" false 124 (sK 2 125) := ok_iconst (by decide +kernel : decode cX12_names 124 = .ok (.iconst 2, 1)) (by decide)
theorem o237_125 : Okp RX12 cX12_names 5 (some .int) "names" false 125 (sB2 fAdd 126) := ok_iadd (by decide +kernel : decode cX12_names 125 = .ok (.iadd, 1))
theorem o237_126 : Okp RX12 cX12_names 5 (some .int) "names" false 126 (sCV false 236 2 13 129) := ok_cv (by decide +kernel : decode cX12_names 126 = .ok (.invokevirtual 293, 3)) mw_X12_293 rfl (by decide) wm_X12_missing wse_X12_missing (by decide) rfl
theorem o237_129 : Okp RX12 cX12_names 5 (some .int) "names" false 129 (sLI 2 130) := ok_iload_n (by decide +kernel : decode cX12_names 129 = .ok (.iload_n 2, 1)) rfl
theorem o237_130 : Okp RX12 cX12_names 5 (some .int) "names" false 130 (sK 4 131) := ok_iconst (by decide +kernel : decode cX12_names 130 = .ok (.iconst 4, 1)) (by decide)
theorem o237_131 : Okp RX12 cX12_names 5 (some .int) "names" false 131 (sB2 fAdd 132) := ok_iadd (by decide +kernel : decode cX12_names 131 = .ok (.iadd, 1))
theorem o237_132 : Okp RX12 cX12_names 5 (some .int) "names" false 132 sRI := ok_iret rfl (by decide +kernel : decode cX12_names 132 = .ok (.ireturn, 1))
theorem oc237_0 : ∀ pc, Mnp (c237_0 pc) ∧ Okp RX12 cX12_names 5 (some .int) "names" false pc (c237_0 pc) := by
  intro pc
  unfold c237_0
  split
  · exact ⟨mn_sLR, o237_0⟩
  · exact ⟨mn_sLI, o237_1⟩
  · exact ⟨mn_sLI, o237_2⟩
  · exact ⟨mn_sCV, o237_3⟩
  · exact ⟨mn_sSI, o237_6⟩
  · exact ⟨mn_sLI, o237_7⟩
  · exact ⟨mn_sK, o237_8⟩
  · exact ⟨mn_sI2, o237_11⟩
  · exact ⟨mn_sLI, o237_14⟩
  · exact ⟨mn_sI1, o237_15⟩
  · exact ⟨mn_sLI, o237_18⟩
  · exact ⟨mn_sK, o237_19⟩
  · exact ⟨mn_sI2, o237_20⟩
  · exact ⟨mn_sLI, o237_23⟩
  · exact ⟨mn_sX, ok_X⟩
theorem oc237_1 : ∀ pc, Mnp (c237_1 pc) ∧ Okp RX12 cX12_names 5 (some .int) "names" false pc (c237_1 pc) := by
  intro pc
  unfold c237_1
  split
  · exact ⟨mn_sK, o237_24⟩
  · exact ⟨mn_sB2, o237_25⟩
  · exact ⟨mn_sRI, o237_26⟩
  · exact ⟨mn_sLR, o237_27⟩
  · exact ⟨mn_sLI, o237_28⟩
  · exact ⟨mn_sLI, o237_29⟩
  · exact ⟨mn_sK, o237_30⟩
  · exact ⟨mn_sB2, o237_31⟩
  · exact ⟨mn_sCV, o237_32⟩
  · exact ⟨mn_sSI, o237_35⟩
  · exact ⟨mn_sLI, o237_37⟩
  · exact ⟨mn_sK, o237_38⟩
  · exact ⟨mn_sI2, o237_39⟩
  · exact ⟨mn_sLI, o237_42⟩
  · exact ⟨mn_sLR, o237_44⟩
  · exact ⟨mn_sGR, o237_45⟩
  · exact ⟨mn_sX, ok_X⟩
theorem oc237_2 : ∀ pc, Mnp (c237_2 pc) ∧ Okp RX12 cX12_names 5 (some .int) "names" false pc (c237_2 pc) := by
  intro pc
  unfold c237_2
  split
  · exact ⟨mn_sLI, o237_48⟩
  · exact ⟨mn_sIA, o237_49⟩
  · exact ⟨mn_sI2, o237_50⟩
  · exact ⟨mn_sLI, o237_53⟩
  · exact ⟨mn_sK, o237_54⟩
  · exact ⟨mn_sI2, o237_55⟩
  · exact ⟨mn_sLR, o237_58⟩
  · exact ⟨mn_sLI, o237_59⟩
  · exact ⟨mn_sLI, o237_60⟩
  · exact ⟨mn_sCV, o237_62⟩
  · exact ⟨mn_sI1, o237_65⟩
  · exact ⟨mn_sLR, o237_68⟩
  · exact ⟨mn_sLI, o237_69⟩
  · exact ⟨mn_sK, o237_70⟩
  · exact ⟨mn_sB2, o237_71⟩
  · exact ⟨mn_sX, ok_X⟩
theorem oc237_3 : ∀ pc, Mnp (c237_3 pc) ∧ Okp RX12 cX12_names 5 (some .int) "names" false pc (c237_3 pc) := by
  intro pc
  unfold c237_3
  split
  · exact ⟨mn_sCV, o237_72⟩
  · exact ⟨mn_sLI, o237_75⟩
  · exact ⟨mn_sK, o237_76⟩
  · exact ⟨mn_sB2, o237_77⟩
  · exact ⟨mn_sRI, o237_78⟩
  · exact ⟨mn_sLI, o237_79⟩
  · exact ⟨mn_sLR, o237_81⟩
  · exact ⟨mn_sGR, o237_82⟩
  · exact ⟨mn_sLI, o237_85⟩
  · exact ⟨mn_sIA, o237_86⟩
  · exact ⟨mn_sI2, o237_87⟩
  · exact ⟨mn_sLR, o237_90⟩
  · exact ⟨mn_sLI, o237_91⟩
  · exact ⟨mn_sK, o237_92⟩
  · exact ⟨mn_sB2, o237_93⟩
  · exact ⟨mn_sCV, o237_94⟩
  · exact ⟨mn_sX, ok_X⟩
theorem oc237_4 : ∀ pc, Mnp (c237_4 pc) ∧ Okp RX12 cX12_names 5 (some .int) "names" false pc (c237_4 pc) := by
  intro pc
  unfold c237_4
  split
  · exact ⟨mn_sGo, o237_97⟩
  · exact ⟨mn_sLR, o237_100⟩
  · exact ⟨mn_sLI, o237_101⟩
  · exact ⟨mn_sLI, o237_102⟩
  · exact ⟨mn_sK, o237_103⟩
  · exact ⟨mn_sB2, o237_104⟩
  · exact ⟨mn_sCV, o237_105⟩
  · exact ⟨mn_sLR, o237_108⟩
  · exact ⟨mn_sGR, o237_109⟩
  · exact ⟨mn_sK, o237_112⟩
  · exact ⟨mn_sLI, o237_113⟩
  · exact ⟨mn_sB2, o237_114⟩
  · exact ⟨mn_sLI, o237_115⟩
  · exact ⟨mn_sB2, o237_117⟩
  · exact ⟨mn_sIA, o237_118⟩
  · exact ⟨mn_sI2, o237_119⟩
  · exact ⟨mn_sX, ok_X⟩
theorem oc237_5 : ∀ pc, Mnp (c237_5 pc) ∧ Okp RX12 cX12_names 5 (some .int) "names" false pc (c237_5 pc) := by
  intro pc
  unfold c237_5
  split
  · exact ⟨mn_sLR, o237_122⟩
  · exact ⟨mn_sLI, o237_123⟩
  · exact ⟨mn_sK, o237_124⟩
  · exact ⟨mn_sB2, o237_125⟩
  · exact ⟨mn_sCV, o237_126⟩
  · exact ⟨mn_sLI, o237_129⟩
  · exact ⟨mn_sK, o237_130⟩
  · exact ⟨mn_sB2, o237_131⟩
  · exact ⟨mn_sRI, o237_132⟩
  · exact ⟨mn_sX, ok_X⟩
theorem oc237 : ∀ pc, Mnp (c237 pc) ∧ Okp RX12 cX12_names 5 (some .int) "names" false pc (c237 pc) := by
  intro pc
  unfold c237
  split
  · exact oc237_0 pc
  · exact oc237_1 pc
  · exact oc237_2 pc
  · exact oc237_3 pc
  · exact oc237_4 pc
  · exact oc237_5 pc
  · exact ⟨mn_sX, ok_X⟩
theorem o238_0 : Okp RX12 cX12_isPlain 4 (some .boolean) "isPlain" false 0 (sK 0 1) := ok_iconst (by decide +kernel : decode cX12_isPlain 0 = .ok (.iconst 0, 1)) (by decide)
theorem o238_1 : Okp RX12 cX12_isPlain 4 (some .boolean) "isPlain" false 1 (sSI 3 2) := ok_istore_n (by decide +kernel : decode cX12_isPlain 1 = .ok (.istore_n 3, 1)) rfl (by decide) (by decide)
theorem o238_2 : Okp RX12 cX12_isPlain 4 (some .boolean) "isPlain" false 2 (sLI 3 3) := ok_iload_n (by decide +kernel : decode cX12_isPlain 2 = .ok (.iload_n 3, 1)) rfl
theorem o238_3 : Okp RX12 cX12_isPlain 4 (some .boolean) "isPlain" false 3 (sLR 0 4) := ok_aload_n (by decide +kernel : decode cX12_isPlain 3 = .ok (.aload_n 0, 1)) rfl
theorem o238_4 : Okp RX12 cX12_isPlain 4 (some .boolean) "isPlain" false 4 (sGR 13 9 7) := ok_getR (by decide +kernel : decode cX12_isPlain 4 = .ok (.getfield 33, 3)) fw_X12_33 rfl
theorem o238_7 : Okp RX12 cX12_isPlain 4 (some .boolean) "isPlain" false 7 (sK 8 9) := ok_bipush (by decide +kernel : decode cX12_isPlain 7 = .ok (.bipush 8, 2)) (by decide)
theorem o238_9 : Okp RX12 cX12_isPlain 4 (some .boolean) "isPlain" false 9 (sLI 1 10) := ok_iload_n (by decide +kernel : decode cX12_isPlain 9 = .ok (.iload_n 1, 1)) rfl
theorem o238_10 : Okp RX12 cX12_isPlain 4 (some .boolean) "isPlain" false 10 (sB2 fMul 11) := ok_imul (by decide +kernel : decode cX12_isPlain 10 = .ok (.imul, 1))
theorem o238_11 : Okp RX12 cX12_isPlain 4 (some .boolean) "isPlain" false 11 (sLI 2 12) := ok_iload_n (by decide +kernel : decode cX12_isPlain 11 = .ok (.iload_n 2, 1)) rfl
theorem o238_12 : Okp RX12 cX12_isPlain 4 (some .boolean) "isPlain" false 12 (sB2 fAdd 13) := ok_iadd (by decide +kernel : decode cX12_isPlain 12 = .ok (.iadd, 1))
theorem o238_13 : Okp RX12 cX12_isPlain 4 (some .boolean) "isPlain" false 13 (sIA 14) := ok_iaload (by decide +kernel : decode cX12_isPlain 13 = .ok (.iaload, 1))
theorem o238_14 : Okp RX12 cX12_isPlain 4 (some .boolean) "isPlain" false 14 (sI2 3 44 17) := ok_icmp_ge (by decide +kernel : decode cX12_isPlain 14 = .ok (.if_icmp .ge 30, 3)) (by decide)
theorem o238_17 : Okp RX12 cX12_isPlain 4 (some .boolean) "isPlain" false 17 (sLR 0 18) := ok_aload_n (by decide +kernel : decode cX12_isPlain 17 = .ok (.aload_n 0, 1)) rfl
theorem o238_18 : Okp RX12 cX12_isPlain 4 (some .boolean) "isPlain" false 18 (sGR 13 10 21) := ok_getR (by decide +kernel : decode cX12_isPlain 18 = .ok (.getfield 36, 3)) fw_X12_36 rfl
theorem o238_21 : Okp RX12 cX12_isPlain 4 (some .boolean) "isPlain" false 21 (sK 48 23) := ok_bipush (by decide +kernel : decode cX12_isPlain 21 = .ok (.bipush 48, 2)) (by decide)
theorem o238_23 : Okp RX12 cX12_isPlain 4 (some .boolean) "isPlain" false 23 (sLI 1 24) := ok_iload_n (by decide +kernel : decode cX12_isPlain 23 = .ok (.iload_n 1, 1)) rfl
theorem o238_24 : Okp RX12 cX12_isPlain 4 (some .boolean) "isPlain" false 24 (sB2 fMul 25) := ok_imul (by decide +kernel : decode cX12_isPlain 24 = .ok (.imul, 1))
theorem o238_25 : Okp RX12 cX12_isPlain 4 (some .boolean) "isPlain" false 25 (sK 6 27) := ok_bipush (by decide +kernel : decode cX12_isPlain 25 = .ok (.bipush 6, 2)) (by decide)
theorem o238_27 : Okp RX12 cX12_isPlain 4 (some .boolean) "isPlain" false 27 (sLI 2 28) := ok_iload_n (by decide +kernel : decode cX12_isPlain 27 = .ok (.iload_n 2, 1)) rfl
theorem o238_28 : Okp RX12 cX12_isPlain 4 (some .boolean) "isPlain" false 28 (sB2 fMul 29) := ok_imul (by decide +kernel : decode cX12_isPlain 28 = .ok (.imul, 1))
theorem o238_29 : Okp RX12 cX12_isPlain 4 (some .boolean) "isPlain" false 29 (sB2 fAdd 30) := ok_iadd (by decide +kernel : decode cX12_isPlain 29 = .ok (.iadd, 1))
theorem o238_30 : Okp RX12 cX12_isPlain 4 (some .boolean) "isPlain" false 30 (sLI 3 31) := ok_iload_n (by decide +kernel : decode cX12_isPlain 30 = .ok (.iload_n 3, 1)) rfl
theorem o238_31 : Okp RX12 cX12_isPlain 4 (some .boolean) "isPlain" false 31 (sB2 fAdd 32) := ok_iadd (by decide +kernel : decode cX12_isPlain 31 = .ok (.iadd, 1))
theorem o238_32 : Okp RX12 cX12_isPlain 4 (some .boolean) "isPlain" false 32 (sIA 33) := ok_iaload (by decide +kernel : decode cX12_isPlain 32 = .ok (.iaload, 1))
theorem o238_33 : Okp RX12 cX12_isPlain 4 (some .boolean) "isPlain" false 33 (sI1 0 38 36) := ok_if_eq (by decide +kernel : decode cX12_isPlain 33 = .ok (.ifCond .eq 5, 3)) (by decide)
theorem o238_36 : Okp RX12 cX12_isPlain 4 (some .boolean) "isPlain" false 36 (sK 0 37) := ok_iconst (by decide +kernel : decode cX12_isPlain 36 = .ok (.iconst 0, 1)) (by decide)
theorem o238_37 : Okp RX12 cX12_isPlain 4 (some .boolean) "isPlain" false 37 sRZ := ok_zret rfl (by decide +kernel : decode cX12_isPlain 37 = .ok (.ireturn, 1))
theorem o238_38 : Okp RX12 cX12_isPlain 4 (some .boolean) "isPlain" false 38 (sInc 3 1 41) := ok_iinc (by decide +kernel : decode cX12_isPlain 38 = .ok (.iinc 3 1, 3)) (by decide) (by decide)
theorem o238_41 : Okp RX12 cX12_isPlain 4 (some .boolean) "isPlain" false 41 (sGo 2) := ok_goto (by decide +kernel : decode cX12_isPlain 41 = .ok (.goto (-39), 3)) (by decide)
theorem o238_44 : Okp RX12 cX12_isPlain 4 (some .boolean) "isPlain" false 44 (sK 1 45) := ok_iconst (by decide +kernel : decode cX12_isPlain 44 = .ok (.iconst 1, 1)) (by decide)
theorem o238_45 : Okp RX12 cX12_isPlain 4 (some .boolean) "isPlain" false 45 sRZ := ok_zret rfl (by decide +kernel : decode cX12_isPlain 45 = .ok (.ireturn, 1))
theorem oc238_0 : ∀ pc, Mnp (c238_0 pc) ∧ Okp RX12 cX12_isPlain 4 (some .boolean) "isPlain" false pc (c238_0 pc) := by
  intro pc
  unfold c238_0
  split
  · exact ⟨mn_sK, o238_0⟩
  · exact ⟨mn_sSI, o238_1⟩
  · exact ⟨mn_sLI, o238_2⟩
  · exact ⟨mn_sLR, o238_3⟩
  · exact ⟨mn_sGR, o238_4⟩
  · exact ⟨mn_sK, o238_7⟩
  · exact ⟨mn_sLI, o238_9⟩
  · exact ⟨mn_sB2, o238_10⟩
  · exact ⟨mn_sLI, o238_11⟩
  · exact ⟨mn_sB2, o238_12⟩
  · exact ⟨mn_sIA, o238_13⟩
  · exact ⟨mn_sI2, o238_14⟩
  · exact ⟨mn_sLR, o238_17⟩
  · exact ⟨mn_sGR, o238_18⟩
  · exact ⟨mn_sK, o238_21⟩
  · exact ⟨mn_sLI, o238_23⟩
  · exact ⟨mn_sX, ok_X⟩
theorem oc238_1 : ∀ pc, Mnp (c238_1 pc) ∧ Okp RX12 cX12_isPlain 4 (some .boolean) "isPlain" false pc (c238_1 pc) := by
  intro pc
  unfold c238_1
  split
  · exact ⟨mn_sB2, o238_24⟩
  · exact ⟨mn_sK, o238_25⟩
  · exact ⟨mn_sLI, o238_27⟩
  · exact ⟨mn_sB2, o238_28⟩
  · exact ⟨mn_sB2, o238_29⟩
  · exact ⟨mn_sLI, o238_30⟩
  · exact ⟨mn_sB2, o238_31⟩
  · exact ⟨mn_sIA, o238_32⟩
  · exact ⟨mn_sI1, o238_33⟩
  · exact ⟨mn_sK, o238_36⟩
  · exact ⟨mn_sRZ, o238_37⟩
  · exact ⟨mn_sInc, o238_38⟩
  · exact ⟨mn_sGo, o238_41⟩
  · exact ⟨mn_sK, o238_44⟩
  · exact ⟨mn_sRZ, o238_45⟩
  · exact ⟨mn_sX, ok_X⟩
theorem oc238 : ∀ pc, Mnp (c238 pc) ∧ Okp RX12 cX12_isPlain 4 (some .boolean) "isPlain" false pc (c238 pc) := by
  intro pc
  unfold c238
  split
  · exact oc238_0 pc
  · exact oc238_1 pc
  · exact ⟨mn_sX, ok_X⟩
theorem o239_0 : Okp RX12 cX12_looksAt 6 none "looksAt" false 0 (sLR 0 1) := ok_aload_n (by decide +kernel : decode cX12_looksAt 0 = .ok (.aload_n 0, 1)) rfl
theorem o239_1 : Okp RX12 cX12_looksAt 6 none "looksAt" false 1 (sK (-1) 2) := ok_iconst (by decide +kernel : decode cX12_looksAt 1 = .ok (.iconst (-1), 1)) (by decide)
theorem o239_2 : Okp RX12 cX12_looksAt 6 none "looksAt" false 2 (sPI 13 28 5) := ok_putI (by decide +kernel : decode cX12_looksAt 2 = .ok (.putfield 286, 3)) fw_X12_286 ⟨⟨tyX12_ok, nmX12⟩, Or.inl rfl, rfl⟩ rfl
theorem o239_5 : Okp RX12 cX12_looksAt 6 none "looksAt" false 5 (sK 3 6) := ok_iconst (by decide +kernel : decode cX12_looksAt 5 = .ok (.iconst 3, 1)) (by decide)
theorem o239_6 : Okp RX12 cX12_looksAt 6 none "looksAt" false 6 (sSI 2 7) := ok_istore_n (by decide +kernel : decode cX12_looksAt 6 = .ok (.istore_n 2, 1)) rfl (by decide) (by decide)
theorem o239_7 : Okp RX12 cX12_looksAt 6 none "looksAt" false 7 (sK 0 8) := ok_iconst (by decide +kernel : decode cX12_looksAt 7 = .ok (.iconst 0, 1)) (by decide)
theorem o239_8 : Okp RX12 cX12_looksAt 6 none "looksAt" false 8 (sSI 3 9) := ok_istore_n (by decide +kernel : decode cX12_looksAt 8 = .ok (.istore_n 3, 1)) rfl (by decide) (by decide)
theorem o239_9 : Okp RX12 cX12_looksAt 6 none "looksAt" false 9 (sLI 3 10) := ok_iload_n (by decide +kernel : decode cX12_looksAt 9 = .ok (.iload_n 3, 1)) rfl
theorem o239_10 : Okp RX12 cX12_looksAt 6 none "looksAt" false 10 (sLR 0 11) := ok_aload_n (by decide +kernel : decode cX12_looksAt 10 = .ok (.aload_n 0, 1)) rfl
theorem o239_11 : Okp RX12 cX12_looksAt 6 none "looksAt" false 11 (sGR 13 5 14) := ok_getR (by decide +kernel : decode cX12_looksAt 11 = .ok (.getfield 20, 3)) fw_X12_20 rfl
theorem o239_14 : Okp RX12 cX12_looksAt 6 none "looksAt" false 14 (sLI 1 15) := ok_iload_n (by decide +kernel : decode cX12_looksAt 14 = .ok (.iload_n 1, 1)) rfl
theorem o239_15 : Okp RX12 cX12_looksAt 6 none "looksAt" false 15 (sIA 16) := ok_iaload (by decide +kernel : decode cX12_looksAt 15 = .ok (.iaload, 1))
theorem o239_16 : Okp RX12 cX12_looksAt 6 none "looksAt" false 16 (sI2 3 60 19) := ok_icmp_ge (by decide +kernel : decode cX12_looksAt 16 = .ok (.if_icmp .ge 44, 3)) (by decide)
theorem o239_19 : Okp RX12 cX12_looksAt 6 none "looksAt" false 19 (sInc 2 1 22) := ok_iinc (by decide +kernel : decode cX12_looksAt 19 = .ok (.iinc 2 1, 3)) (by decide) (by decide)
theorem o239_22 : Okp RX12 cX12_looksAt 6 none "looksAt" false 22 (sK 0 23) := ok_iconst (by decide +kernel : decode cX12_looksAt 22 = .ok (.iconst 0, 1)) (by decide)
theorem o239_23 : Okp RX12 cX12_looksAt 6 none "looksAt" false 23 (sSI 4 25) := ok_istore (by decide +kernel : decode cX12_looksAt 23 = .ok (.istore 4, 2)) (by decide) (by decide)
theorem o239_25 : Okp RX12 cX12_looksAt 6 none "looksAt" false 25 (sLI 4 27) := ok_iload (by decide +kernel : decode cX12_looksAt 25 = .ok (.iload 4, 2))
theorem o239_27 : Okp RX12 cX12_looksAt 6 none "looksAt" false 27 (sLR 0 28) := ok_aload_n (by decide +kernel : decode cX12_looksAt 27 = .ok (.aload_n 0, 1)) rfl
theorem o239_28 : Okp RX12 cX12_looksAt 6 none "looksAt" false 28 (sGR 13 9 31) := ok_getR (by decide +kernel : decode cX12_looksAt 28 = .ok (.getfield 33, 3)) fw_X12_33 rfl
theorem o239_31 : Okp RX12 cX12_looksAt 6 none "looksAt" false 31 (sK 8 33) := ok_bipush (by decide +kernel : decode cX12_looksAt 31 = .ok (.bipush 8, 2)) (by decide)
theorem o239_33 : Okp RX12 cX12_looksAt 6 none "looksAt" false 33 (sLI 1 34) := ok_iload_n (by decide +kernel : decode cX12_looksAt 33 = .ok (.iload_n 1, 1)) rfl
theorem o239_34 : Okp RX12 cX12_looksAt 6 none "looksAt" false 34 (sB2 fMul 35) := ok_imul (by decide +kernel : decode cX12_looksAt 34 = .ok (.imul, 1))
theorem o239_35 : Okp RX12 cX12_looksAt 6 none "looksAt" false 35 (sLI 3 36) := ok_iload_n (by decide +kernel : decode cX12_looksAt 35 = .ok (.iload_n 3, 1)) rfl
theorem o239_36 : Okp RX12 cX12_looksAt 6 none "looksAt" false 36 (sB2 fAdd 37) := ok_iadd (by decide +kernel : decode cX12_looksAt 36 = .ok (.iadd, 1))
theorem o239_37 : Okp RX12 cX12_looksAt 6 none "looksAt" false 37 (sIA 38) := ok_iaload (by decide +kernel : decode cX12_looksAt 37 = .ok (.iaload, 1))
theorem o239_38 : Okp RX12 cX12_looksAt 6 none "looksAt" false 38 (sI2 3 54 41) := ok_icmp_ge (by decide +kernel : decode cX12_looksAt 38 = .ok (.if_icmp .ge 16, 3)) (by decide)
theorem o239_41 : Okp RX12 cX12_looksAt 6 none "looksAt" false 41 (sLR 0 42) := ok_aload_n (by decide +kernel : decode cX12_looksAt 41 = .ok (.aload_n 0, 1)) rfl
theorem o239_42 : Okp RX12 cX12_looksAt 6 none "looksAt" false 42 (sLI 1 43) := ok_iload_n (by decide +kernel : decode cX12_looksAt 42 = .ok (.iload_n 1, 1)) rfl
theorem o239_43 : Okp RX12 cX12_looksAt 6 none "looksAt" false 43 (sLI 2 44) := ok_iload_n (by decide +kernel : decode cX12_looksAt 43 = .ok (.iload_n 2, 1)) rfl
theorem o239_44 : Okp RX12 cX12_looksAt 6 none "looksAt" false 44 (sCV false 237 3 13 47) := ok_cv (by decide +kernel : decode cX12_looksAt 44 = .ok (.invokevirtual 296, 3)) mw_X12_296 rfl (by decide) wm_X12_names wse_X12_names (by decide) rfl
theorem o239_47 : Okp RX12 cX12_looksAt 6 none "looksAt" false 47 (sSI 2 48) := ok_istore_n (by decide +kernel : decode cX12_looksAt 47 = .ok (.istore_n 2, 1)) rfl (by decide) (by decide)
theorem o239_48 : Okp RX12 cX12_looksAt 6 none "looksAt" false 48 (sInc 4 1 51) := ok_iinc (by decide +kernel : decode cX12_looksAt 48 = .ok (.iinc 4 1, 3)) (by decide) (by decide)
theorem o239_51 : Okp RX12 cX12_looksAt 6 none "looksAt" false 51 (sGo 25) := ok_goto (by decide +kernel : decode cX12_looksAt 51 = .ok (.goto (-26), 3)) (by decide)
theorem o239_54 : Okp RX12 cX12_looksAt 6 none "looksAt" false 54 (sInc 3 1 57) := ok_iinc (by decide +kernel : decode cX12_looksAt 54 = .ok (.iinc 3 1, 3)) (by decide) (by decide)
theorem o239_57 : Okp RX12 cX12_looksAt 6 none "looksAt" false 57 (sGo 9) := ok_goto (by decide +kernel : decode cX12_looksAt 57 = .ok (.goto (-48), 3)) (by decide)
theorem o239_60 : Okp RX12 cX12_looksAt 6 none "looksAt" false 60 (sInc 2 1 63) := ok_iinc (by decide +kernel : decode cX12_looksAt 60 = .ok (.iinc 2 1, 3)) (by decide) (by decide)
theorem o239_63 : Okp RX12 cX12_looksAt 6 none "looksAt" false 63 (sK 4 64) := ok_iconst (by decide +kernel : decode cX12_looksAt 63 = .ok (.iconst 4, 1)) (by decide)
theorem o239_64 : Okp RX12 cX12_looksAt 6 none "looksAt" false 64 (sLI 1 65) := ok_iload_n (by decide +kernel : decode cX12_looksAt 64 = .ok (.iload_n 1, 1)) rfl
theorem o239_65 : Okp RX12 cX12_looksAt 6 none "looksAt" false 65 (sB2 fMul 66) := ok_imul (by decide +kernel : decode cX12_looksAt 65 = .ok (.imul, 1))
theorem o239_66 : Okp RX12 cX12_looksAt 6 none "looksAt" false 66 (sSI 3 67) := ok_istore_n (by decide +kernel : decode cX12_looksAt 66 = .ok (.istore_n 3, 1)) rfl (by decide) (by decide)
theorem o239_67 : Okp RX12 cX12_looksAt 6 none "looksAt" false 67 (sLI 3 68) := ok_iload_n (by decide +kernel : decode cX12_looksAt 67 = .ok (.iload_n 3, 1)) rfl
theorem o239_68 : Okp RX12 cX12_looksAt 6 none "looksAt" false 68 (sK 4 69) := ok_iconst (by decide +kernel : decode cX12_looksAt 68 = .ok (.iconst 4, 1)) (by decide)
theorem o239_69 : Okp RX12 cX12_looksAt 6 none "looksAt" false 69 (sLI 1 70) := ok_iload_n (by decide +kernel : decode cX12_looksAt 69 = .ok (.iload_n 1, 1)) rfl
theorem o239_70 : Okp RX12 cX12_looksAt 6 none "looksAt" false 70 (sB2 fMul 71) := ok_imul (by decide +kernel : decode cX12_looksAt 70 = .ok (.imul, 1))
theorem o239_71 : Okp RX12 cX12_looksAt 6 none "looksAt" false 71 (sLR 0 72) := ok_aload_n (by decide +kernel : decode cX12_looksAt 71 = .ok (.aload_n 0, 1)) rfl
theorem o239_72 : Okp RX12 cX12_looksAt 6 none "looksAt" false 72 (sGR 13 6 75) := ok_getR (by decide +kernel : decode cX12_looksAt 72 = .ok (.getfield 23, 3)) fw_X12_23 rfl
theorem o239_75 : Okp RX12 cX12_looksAt 6 none "looksAt" false 75 (sLI 1 76) := ok_iload_n (by decide +kernel : decode cX12_looksAt 75 = .ok (.iload_n 1, 1)) rfl
theorem o239_76 : Okp RX12 cX12_looksAt 6 none "looksAt" false 76 (sIA 77) := ok_iaload (by decide +kernel : decode cX12_looksAt 76 = .ok (.iaload, 1))
theorem o239_77 : Okp RX12 cX12_looksAt 6 none "looksAt" false 77 (sB2 fAdd 78) := ok_iadd (by decide +kernel : decode cX12_looksAt 77 = .ok (.iadd, 1))
theorem o239_78 : Okp RX12 cX12_looksAt 6 none "looksAt" false 78 (sI2 3 172 81) := ok_icmp_ge (by decide +kernel : decode cX12_looksAt 78 = .ok (.if_icmp .ge 94, 3)) (by decide)
theorem o239_81 : Okp RX12 cX12_looksAt 6 none "looksAt" false 81 (sInc 2 1 84) := ok_iinc (by decide +kernel : decode cX12_looksAt 81 = .ok (.iinc 2 1, 3)) (by decide) (by decide)
theorem o239_84 : Okp RX12 cX12_looksAt 6 none "looksAt" false 84 (sK 8 86) := ok_bipush (by decide +kernel : decode cX12_looksAt 84 = .ok (.bipush 8, 2)) (by decide)
theorem o239_86 : Okp RX12 cX12_looksAt 6 none "looksAt" false 86 (sLI 3 87) := ok_iload_n (by decide +kernel : decode cX12_looksAt 86 = .ok (.iload_n 3, 1)) rfl
theorem o239_87 : Okp RX12 cX12_looksAt 6 none "looksAt" false 87 (sB2 fMul 88) := ok_imul (by decide +kernel : decode cX12_looksAt 87 = .ok (.imul, 1))
theorem o239_88 : Okp RX12 cX12_looksAt 6 none "looksAt" false 88 (sSI 4 90) := ok_istore (by decide +kernel : decode cX12_looksAt 88 = .ok (.istore 4, 2)) (by decide) (by decide)
theorem o239_90 : Okp RX12 cX12_looksAt 6 none "looksAt" false 90 (sLI 4 92) := ok_iload (by decide +kernel : decode cX12_looksAt 90 = .ok (.iload 4, 2))
theorem o239_92 : Okp RX12 cX12_looksAt 6 none "looksAt" false 92 (sK 8 94) := ok_bipush (by decide +kernel : decode cX12_looksAt 92 = .ok (.bipush 8, 2)) (by decide)
theorem o239_94 : Okp RX12 cX12_looksAt 6 none "looksAt" false 94 (sLI 3 95) := ok_iload_n (by decide +kernel : decode cX12_looksAt 94 = .ok (.iload_n 3, 1)) rfl
theorem o239_95 : Okp RX12 cX12_looksAt 6 none "looksAt" false 95 (sB2 fMul 96) := ok_imul (by decide +kernel : decode cX12_looksAt 95 = .ok (.imul, 1))
theorem o239_96 : Okp RX12 cX12_looksAt 6 none "looksAt" false 96 (sLR 0 97) := ok_aload_n (by decide +kernel : decode cX12_looksAt 96 = .ok (.aload_n 0, 1)) rfl
theorem o239_97 : Okp RX12 cX12_looksAt 6 none "looksAt" false 97 (sGR 13 11 100) := ok_getR (by decide +kernel : decode cX12_looksAt 97 = .ok (.getfield 39, 3)) fw_X12_39 rfl
theorem o239_100 : Okp RX12 cX12_looksAt 6 none "looksAt" false 100 (sLI 3 101) := ok_iload_n (by decide +kernel : decode cX12_looksAt 100 = .ok (.iload_n 3, 1)) rfl
theorem o239_101 : Okp RX12 cX12_looksAt 6 none "looksAt" false 101 (sIA 102) := ok_iaload (by decide +kernel : decode cX12_looksAt 101 = .ok (.iaload, 1))
theorem o239_102 : Okp RX12 cX12_looksAt 6 none "looksAt" false 102 (sB2 fAdd 103) := ok_iadd (by decide +kernel : decode cX12_looksAt 102 = .ok (.iadd, 1))
theorem o239_103 : Okp RX12 cX12_looksAt 6 none "looksAt" false 103 (sI2 3 166 106) := ok_icmp_ge (by decide +kernel : decode cX12_looksAt 103 = .ok (.if_icmp .ge 63, 3)) (by decide)
theorem o239_106 : Okp RX12 cX12_looksAt 6 none "looksAt" false 106 (sInc 2 2 109) := ok_iinc (by decide +kernel : decode cX12_looksAt 106 = .ok (.iinc 2 2, 3)) (by decide) (by decide)
theorem o239_109 : Okp RX12 cX12_looksAt 6 none "looksAt" false 109 (sK 0 110) := ok_iconst (by decide +kernel : decode cX12_looksAt 109 = .ok (.iconst 0, 1)) (by decide)
theorem o239_110 : Okp RX12 cX12_looksAt 6 none "looksAt" false 110 (sSI 5 112) := ok_istore (by decide +kernel : decode cX12_looksAt 110 = .ok (.istore 5, 2)) (by decide) (by decide)
theorem o239_112 : Okp RX12 cX12_looksAt 6 none "looksAt" false 112 (sLI 5 114) := ok_iload (by decide +kernel : decode cX12_looksAt 112 = .ok (.iload 5, 2))
theorem o239_114 : Okp RX12 cX12_looksAt 6 none "looksAt" false 114 (sLR 0 115) := ok_aload_n (by decide +kernel : decode cX12_looksAt 114 = .ok (.aload_n 0, 1)) rfl
theorem o239_115 : Okp RX12 cX12_looksAt 6 none "looksAt" false 115 (sGR 13 13 118) := ok_getR (by decide +kernel : decode cX12_looksAt 115 = .ok (.getfield 45, 3)) fw_X12_45 rfl
theorem o239_118 : Okp RX12 cX12_looksAt 6 none "looksAt" false 118 (sLI 4 120) := ok_iload (by decide +kernel : decode cX12_looksAt 118 = .ok (.iload 4, 2))
theorem o239_120 : Okp RX12 cX12_looksAt 6 none "looksAt" false 120 (sIA 121) := ok_iaload (by decide +kernel : decode cX12_looksAt 120 = .ok (.iaload, 1))
theorem o239_121 : Okp RX12 cX12_looksAt 6 none "looksAt" false 121 (sI2 3 160 124) := ok_icmp_ge (by decide +kernel : decode cX12_looksAt 121 = .ok (.if_icmp .ge 39, 3)) (by decide)
theorem o239_124 : Okp RX12 cX12_looksAt 6 none "looksAt" false 124 (sLR 0 125) := ok_aload_n (by decide +kernel : decode cX12_looksAt 124 = .ok (.aload_n 0, 1)) rfl
theorem o239_125 : Okp RX12 cX12_looksAt 6 none "looksAt" false 125 (sLI 1 126) := ok_iload_n (by decide +kernel : decode cX12_looksAt 125 = .ok (.iload_n 1, 1)) rfl
theorem o239_126 : Okp RX12 cX12_looksAt 6 none "looksAt" false 126 (sLI 2 127) := ok_iload_n (by decide +kernel : decode cX12_looksAt 126 = .ok (.iload_n 2, 1)) rfl
theorem o239_127 : Okp RX12 cX12_looksAt 6 none "looksAt" false 127 (sCV false 237 3 13 130) := ok_cv (by decide +kernel : decode cX12_looksAt 127 = .ok (.invokevirtual 296, 3)) mw_X12_296 rfl (by decide) wm_X12_names wse_X12_names (by decide) rfl
theorem o239_130 : Okp RX12 cX12_looksAt 6 none "looksAt" false 130 (sSI 2 131) := ok_istore_n (by decide +kernel : decode cX12_looksAt 130 = .ok (.istore_n 2, 1)) rfl (by decide) (by decide)
theorem o239_131 : Okp RX12 cX12_looksAt 6 none "looksAt" false 131 (sLR 0 132) := ok_aload_n (by decide +kernel : decode cX12_looksAt 131 = .ok (.aload_n 0, 1)) rfl
theorem o239_132 : Okp RX12 cX12_looksAt 6 none "looksAt" false 132 (sLI 1 133) := ok_iload_n (by decide +kernel : decode cX12_looksAt 132 = .ok (.iload_n 1, 1)) rfl
theorem o239_133 : Okp RX12 cX12_looksAt 6 none "looksAt" false 133 (sLI 2 134) := ok_iload_n (by decide +kernel : decode cX12_looksAt 133 = .ok (.iload_n 2, 1)) rfl
theorem o239_134 : Okp RX12 cX12_looksAt 6 none "looksAt" false 134 (sCV false 220 3 13 137) := ok_cv (by decide +kernel : decode cX12_looksAt 134 = .ok (.invokevirtual 246, 3)) mw_X12_246 rfl (by decide) wm_X12_byteAt wse_X12_byteAt (by decide) rfl
theorem o239_137 : Okp RX12 cX12_looksAt 6 none "looksAt" false 137 (sLR 0 138) := ok_aload_n (by decide +kernel : decode cX12_looksAt 137 = .ok (.aload_n 0, 1)) rfl
theorem o239_138 : Okp RX12 cX12_looksAt 6 none "looksAt" false 138 (sGR 13 11 141) := ok_getR (by decide +kernel : decode cX12_looksAt 138 = .ok (.getfield 39, 3)) fw_X12_39 rfl
theorem o239_141 : Okp RX12 cX12_looksAt 6 none "looksAt" false 141 (sLI 3 142) := ok_iload_n (by decide +kernel : decode cX12_looksAt 141 = .ok (.iload_n 3, 1)) rfl
theorem o239_142 : Okp RX12 cX12_looksAt 6 none "looksAt" false 142 (sIA 143) := ok_iaload (by decide +kernel : decode cX12_looksAt 142 = .ok (.iaload, 1))
theorem o239_143 : Okp RX12 cX12_looksAt 6 none "looksAt" false 143 (sI2 2 151 146) := ok_icmp_lt (by decide +kernel : decode cX12_looksAt 143 = .ok (.if_icmp .lt 8, 3)) (by decide)
theorem o239_146 : Okp RX12 cX12_looksAt 6 none "looksAt" false 146 (sLR 0 147) := ok_aload_n (by decide +kernel : decode cX12_looksAt 146 = .ok (.aload_n 0, 1)) rfl
theorem o239_147 : Okp RX12 cX12_looksAt 6 none "looksAt" false 147 (sLI 2 148) := ok_iload_n (by decide +kernel : decode cX12_looksAt 147 = .ok (.iload_n 2, 1)) rfl
theorem o239_148 : Okp RX12 cX12_looksAt 6 none "looksAt" false 148 (sCV false 236 2 13 151) := ok_cv (by decide +kernel : decode cX12_looksAt 148 = .ok (.invokevirtual 293, 3)) mw_X12_293 rfl (by decide) wm_X12_missing wse_X12_missing (by decide) rfl
theorem o239_151 : Okp RX12 cX12_looksAt 6 none "looksAt" false 151 (sInc 2 1 154) := ok_iinc (by decide +kernel : decode cX12_looksAt 151 = .ok (.iinc 2 1, 3)) (by decide) (by decide)
theorem o239_154 : Okp RX12 cX12_looksAt 6 none "looksAt" false 154 (sInc 5 1 157) := ok_iinc (by decide +kernel : decode cX12_looksAt 154 = .ok (.iinc 5 1, 3)) (by decide) (by decide)
theorem o239_157 : Okp RX12 cX12_looksAt 6 none "looksAt" false 157 (sGo 112) := ok_goto (by decide +kernel : decode cX12_looksAt 157 = .ok (.goto (-45), 3)) (by decide)
theorem o239_160 : Okp RX12 cX12_looksAt 6 none "looksAt" false 160 (sInc 4 1 163) := ok_iinc (by decide +kernel : decode cX12_looksAt 160 = .ok (.iinc 4 1, 3)) (by decide) (by decide)
theorem o239_163 : Okp RX12 cX12_looksAt 6 none "looksAt" false 163 (sGo 90) := ok_goto (by decide +kernel : decode cX12_looksAt 163 = .ok (.goto (-73), 3)) (by decide)
theorem o239_166 : Okp RX12 cX12_looksAt 6 none "looksAt" false 166 (sInc 3 1 169) := ok_iinc (by decide +kernel : decode cX12_looksAt 166 = .ok (.iinc 3 1, 3)) (by decide) (by decide)
theorem o239_169 : Okp RX12 cX12_looksAt 6 none "looksAt" false 169 (sGo 67) := ok_goto (by decide +kernel : decode cX12_looksAt 169 = .ok (.goto (-102), 3)) (by decide)
theorem o239_172 : Okp RX12 cX12_looksAt 6 none "looksAt" false 172 (sInc 2 1 175) := ok_iinc (by decide +kernel : decode cX12_looksAt 172 = .ok (.iinc 2 1, 3)) (by decide) (by decide)
theorem o239_175 : Okp RX12 cX12_looksAt 6 none "looksAt" false 175 (sK 10 177) := ok_bipush (by decide +kernel : decode cX12_looksAt 175 = .ok (.bipush 10, 2)) (by decide)
theorem o239_177 : Okp RX12 cX12_looksAt 6 none "looksAt" false 177 (sLI 1 178) := ok_iload_n (by decide +kernel : decode cX12_looksAt 177 = .ok (.iload_n 1, 1)) rfl
theorem o239_178 : Okp RX12 cX12_looksAt 6 none "looksAt" false 178 (sB2 fMul 179) := ok_imul (by decide +kernel : decode cX12_looksAt 178 = .ok (.imul, 1))
theorem o239_179 : Okp RX12 cX12_looksAt 6 none "looksAt" false 179 (sSI 3 180) := ok_istore_n (by decide +kernel : decode cX12_looksAt 179 = .ok (.istore_n 3, 1)) rfl (by decide) (by decide)
theorem o239_180 : Okp RX12 cX12_looksAt 6 none "looksAt" false 180 (sLI 3 181) := ok_iload_n (by decide +kernel : decode cX12_looksAt 180 = .ok (.iload_n 3, 1)) rfl
theorem o239_181 : Okp RX12 cX12_looksAt 6 none "looksAt" false 181 (sK 10 183) := ok_bipush (by decide +kernel : decode cX12_looksAt 181 = .ok (.bipush 10, 2)) (by decide)
theorem o239_183 : Okp RX12 cX12_looksAt 6 none "looksAt" false 183 (sLI 1 184) := ok_iload_n (by decide +kernel : decode cX12_looksAt 183 = .ok (.iload_n 1, 1)) rfl
theorem o239_184 : Okp RX12 cX12_looksAt 6 none "looksAt" false 184 (sB2 fMul 185) := ok_imul (by decide +kernel : decode cX12_looksAt 184 = .ok (.imul, 1))
theorem o239_185 : Okp RX12 cX12_looksAt 6 none "looksAt" false 185 (sLR 0 186) := ok_aload_n (by decide +kernel : decode cX12_looksAt 185 = .ok (.aload_n 0, 1)) rfl
theorem o239_186 : Okp RX12 cX12_looksAt 6 none "looksAt" false 186 (sGR 13 7 189) := ok_getR (by decide +kernel : decode cX12_looksAt 186 = .ok (.getfield 26, 3)) fw_X12_26 rfl
theorem o239_189 : Okp RX12 cX12_looksAt 6 none "looksAt" false 189 (sLI 1 190) := ok_iload_n (by decide +kernel : decode cX12_looksAt 189 = .ok (.iload_n 1, 1)) rfl
theorem o239_190 : Okp RX12 cX12_looksAt 6 none "looksAt" false 190 (sIA 191) := ok_iaload (by decide +kernel : decode cX12_looksAt 190 = .ok (.iaload, 1))
theorem o239_191 : Okp RX12 cX12_looksAt 6 none "looksAt" false 191 (sB2 fAdd 192) := ok_iadd (by decide +kernel : decode cX12_looksAt 191 = .ok (.iadd, 1))
theorem o239_192 : Okp RX12 cX12_looksAt 6 none "looksAt" false 192 (sI2 3 258 195) := ok_icmp_ge (by decide +kernel : decode cX12_looksAt 192 = .ok (.if_icmp .ge 66, 3)) (by decide)
theorem o239_195 : Okp RX12 cX12_looksAt 6 none "looksAt" false 195 (sInc 2 1 198) := ok_iinc (by decide +kernel : decode cX12_looksAt 195 = .ok (.iinc 2 1, 3)) (by decide) (by decide)
theorem o239_198 : Okp RX12 cX12_looksAt 6 none "looksAt" false 198 (sK 0 199) := ok_iconst (by decide +kernel : decode cX12_looksAt 198 = .ok (.iconst 0, 1)) (by decide)
theorem o239_199 : Okp RX12 cX12_looksAt 6 none "looksAt" false 199 (sSI 4 201) := ok_istore (by decide +kernel : decode cX12_looksAt 199 = .ok (.istore 4, 2)) (by decide) (by decide)
theorem o239_201 : Okp RX12 cX12_looksAt 6 none "looksAt" false 201 (sLI 4 203) := ok_iload (by decide +kernel : decode cX12_looksAt 201 = .ok (.iload 4, 2))
theorem o239_203 : Okp RX12 cX12_looksAt 6 none "looksAt" false 203 (sLR 0 204) := ok_aload_n (by decide +kernel : decode cX12_looksAt 203 = .ok (.aload_n 0, 1)) rfl
theorem o239_204 : Okp RX12 cX12_looksAt 6 none "looksAt" false 204 (sGR 13 16 207) := ok_getR (by decide +kernel : decode cX12_looksAt 204 = .ok (.getfield 54, 3)) fw_X12_54 rfl
theorem o239_207 : Okp RX12 cX12_looksAt 6 none "looksAt" false 207 (sLI 3 208) := ok_iload_n (by decide +kernel : decode cX12_looksAt 207 = .ok (.iload_n 3, 1)) rfl
theorem o239_208 : Okp RX12 cX12_looksAt 6 none "looksAt" false 208 (sIA 209) := ok_iaload (by decide +kernel : decode cX12_looksAt 208 = .ok (.iaload, 1))
theorem o239_209 : Okp RX12 cX12_looksAt 6 none "looksAt" false 209 (sI2 3 225 212) := ok_icmp_ge (by decide +kernel : decode cX12_looksAt 209 = .ok (.if_icmp .ge 16, 3)) (by decide)
theorem o239_212 : Okp RX12 cX12_looksAt 6 none "looksAt" false 212 (sLR 0 213) := ok_aload_n (by decide +kernel : decode cX12_looksAt 212 = .ok (.aload_n 0, 1)) rfl
theorem o239_213 : Okp RX12 cX12_looksAt 6 none "looksAt" false 213 (sLI 1 214) := ok_iload_n (by decide +kernel : decode cX12_looksAt 213 = .ok (.iload_n 1, 1)) rfl
theorem o239_214 : Okp RX12 cX12_looksAt 6 none "looksAt" false 214 (sLI 2 215) := ok_iload_n (by decide +kernel : decode cX12_looksAt 214 = .ok (.iload_n 2, 1)) rfl
theorem o239_215 : Okp RX12 cX12_looksAt 6 none "looksAt" false 215 (sCV false 237 3 13 218) := ok_cv (by decide +kernel : decode cX12_looksAt 215 = .ok (.invokevirtual 296, 3)) mw_X12_296 rfl (by decide) wm_X12_names wse_X12_names (by decide) rfl
theorem o239_218 : Okp RX12 cX12_looksAt 6 none "looksAt" false 218 (sSI 2 219) := ok_istore_n (by decide +kernel : decode cX12_looksAt 218 = .ok (.istore_n 2, 1)) rfl (by decide) (by decide)
theorem o239_219 : Okp RX12 cX12_looksAt 6 none "looksAt" false 219 (sInc 4 1 222) := ok_iinc (by decide +kernel : decode cX12_looksAt 219 = .ok (.iinc 4 1, 3)) (by decide) (by decide)
theorem o239_222 : Okp RX12 cX12_looksAt 6 none "looksAt" false 222 (sGo 201) := ok_goto (by decide +kernel : decode cX12_looksAt 222 = .ok (.goto (-21), 3)) (by decide)
theorem o239_225 : Okp RX12 cX12_looksAt 6 none "looksAt" false 225 (sLR 0 226) := ok_aload_n (by decide +kernel : decode cX12_looksAt 225 = .ok (.aload_n 0, 1)) rfl
theorem o239_226 : Okp RX12 cX12_looksAt 6 none "looksAt" false 226 (sLI 1 227) := ok_iload_n (by decide +kernel : decode cX12_looksAt 226 = .ok (.iload_n 1, 1)) rfl
theorem o239_227 : Okp RX12 cX12_looksAt 6 none "looksAt" false 227 (sLI 2 228) := ok_iload_n (by decide +kernel : decode cX12_looksAt 227 = .ok (.iload_n 2, 1)) rfl
theorem o239_228 : Okp RX12 cX12_looksAt 6 none "looksAt" false 228 (sCV false 237 3 13 231) := ok_cv (by decide +kernel : decode cX12_looksAt 228 = .ok (.invokevirtual 296, 3)) mw_X12_296 rfl (by decide) wm_X12_names wse_X12_names (by decide) rfl
theorem o239_231 : Okp RX12 cX12_looksAt 6 none "looksAt" false 231 (sSI 2 232) := ok_istore_n (by decide +kernel : decode cX12_looksAt 231 = .ok (.istore_n 2, 1)) rfl (by decide) (by decide)
theorem o239_232 : Okp RX12 cX12_looksAt 6 none "looksAt" false 232 (sLR 0 233) := ok_aload_n (by decide +kernel : decode cX12_looksAt 232 = .ok (.aload_n 0, 1)) rfl
theorem o239_233 : Okp RX12 cX12_looksAt 6 none "looksAt" false 233 (sLI 1 234) := ok_iload_n (by decide +kernel : decode cX12_looksAt 233 = .ok (.iload_n 1, 1)) rfl
theorem o239_234 : Okp RX12 cX12_looksAt 6 none "looksAt" false 234 (sLI 3 235) := ok_iload_n (by decide +kernel : decode cX12_looksAt 234 = .ok (.iload_n 3, 1)) rfl
theorem o239_235 : Okp RX12 cX12_looksAt 6 none "looksAt" false 235 (sCV false 242 3 13 238) := ok_cv (by decide +kernel : decode cX12_looksAt 235 = .ok (.invokevirtual 299, 3)) mw_X12_299 rfl (by decide) wm_X12_looksAtCode wse_X12_looksAtCode (by decide) rfl
theorem o239_238 : Okp RX12 cX12_looksAt 6 none "looksAt" false 238 (sLR 0 239) := ok_aload_n (by decide +kernel : decode cX12_looksAt 238 = .ok (.aload_n 0, 1)) rfl
theorem o239_239 : Okp RX12 cX12_looksAt 6 none "looksAt" false 239 (sGR 13 21 242) := ok_getR (by decide +kernel : decode cX12_looksAt 239 = .ok (.getfield 69, 3)) fw_X12_69 rfl
theorem o239_242 : Okp RX12 cX12_looksAt 6 none "looksAt" false 242 (sLI 3 243) := ok_iload_n (by decide +kernel : decode cX12_looksAt 242 = .ok (.iload_n 3, 1)) rfl
theorem o239_243 : Okp RX12 cX12_looksAt 6 none "looksAt" false 243 (sIA 244) := ok_iaload (by decide +kernel : decode cX12_looksAt 243 = .ok (.iaload, 1))
theorem o239_244 : Okp RX12 cX12_looksAt 6 none "looksAt" false 244 (sLR 0 245) := ok_aload_n (by decide +kernel : decode cX12_looksAt 244 = .ok (.aload_n 0, 1)) rfl
theorem o239_245 : Okp RX12 cX12_looksAt 6 none "looksAt" false 245 (sGR 13 20 248) := ok_getR (by decide +kernel : decode cX12_looksAt 245 = .ok (.getfield 66, 3)) fw_X12_66 rfl
theorem o239_248 : Okp RX12 cX12_looksAt 6 none "looksAt" false 248 (sLI 3 249) := ok_iload_n (by decide +kernel : decode cX12_looksAt 248 = .ok (.iload_n 3, 1)) rfl
theorem o239_249 : Okp RX12 cX12_looksAt 6 none "looksAt" false 249 (sIA 250) := ok_iaload (by decide +kernel : decode cX12_looksAt 249 = .ok (.iaload, 1))
theorem o239_250 : Okp RX12 cX12_looksAt 6 none "looksAt" false 250 (sB2 fAdd 251) := ok_iadd (by decide +kernel : decode cX12_looksAt 250 = .ok (.iadd, 1))
theorem o239_251 : Okp RX12 cX12_looksAt 6 none "looksAt" false 251 (sSI 2 252) := ok_istore_n (by decide +kernel : decode cX12_looksAt 251 = .ok (.istore_n 2, 1)) rfl (by decide) (by decide)
theorem o239_252 : Okp RX12 cX12_looksAt 6 none "looksAt" false 252 (sInc 3 1 255) := ok_iinc (by decide +kernel : decode cX12_looksAt 252 = .ok (.iinc 3 1, 3)) (by decide) (by decide)
theorem o239_255 : Okp RX12 cX12_looksAt 6 none "looksAt" false 255 (sGo 180) := ok_goto (by decide +kernel : decode cX12_looksAt 255 = .ok (.goto (-75), 3)) (by decide)
theorem o239_258 : Okp RX12 cX12_looksAt 6 none "looksAt" false 258 (sLR 0 259) := ok_aload_n (by decide +kernel : decode cX12_looksAt 258 = .ok (.aload_n 0, 1)) rfl
theorem o239_259 : Okp RX12 cX12_looksAt 6 none "looksAt" false 259 (sGI 13 28 262) := ok_getI (by decide +kernel : decode cX12_looksAt 259 = .ok (.getfield 286, 3)) fw_X12_286 rfl
theorem o239_262 : Okp RX12 cX12_looksAt 6 none "looksAt" false 262 (sK (-1) 263) := ok_iconst (by decide +kernel : decode cX12_looksAt 262 = .ok (.iconst (-1), 1)) (by decide)
theorem o239_263 : Okp RX12 cX12_looksAt 6 none "looksAt" false 263 (sI2 0 275 266) := ok_icmp_eq (by decide +kernel : decode cX12_looksAt 263 = .ok (.if_icmp .eq 12, 3)) (by decide)
theorem o239_266 : Okp RX12 cX12_looksAt 6 none "looksAt" false 266 (sLR 0 267) := ok_aload_n (by decide +kernel : decode cX12_looksAt 266 = .ok (.aload_n 0, 1)) rfl
theorem o239_267 : Okp RX12 cX12_looksAt 6 none "looksAt" false 267 (sK 1 268) := ok_iconst (by decide +kernel : decode cX12_looksAt 267 = .ok (.iconst 1, 1)) (by decide)
theorem o239_268 : Okp RX12 cX12_looksAt 6 none "looksAt" false 268 (sLR 0 269) := ok_aload_n (by decide +kernel : decode cX12_looksAt 268 = .ok (.aload_n 0, 1)) rfl
theorem o239_269 : Okp RX12 cX12_looksAt 6 none "looksAt" false 269 (sGI 13 28 272) := ok_getI (by decide +kernel : decode cX12_looksAt 269 = .ok (.getfield 286, 3)) fw_X12_286 rfl
theorem o239_272 : Okp RX12 cX12_looksAt 6 none "looksAt" false 272 (sCV false 218 3 13 275) := ok_cvT (by decide +kernel : decode cX12_looksAt 272 = .ok (.invokevirtual 250, 3)) mw_X12_250 rfl rfl (by decide) wm_X12_fails wse_X12_fails (by decide)
theorem o239_275 : Okp RX12 cX12_looksAt 6 none "looksAt" false 275 sRV := ok_vret rfl (by decide +kernel : decode cX12_looksAt 275 = .ok (.return_, 1))
theorem oc239_0 : ∀ pc, Mnp (c239_0 pc) ∧ Okp RX12 cX12_looksAt 6 none "looksAt" false pc (c239_0 pc) := by
  intro pc
  unfold c239_0
  split
  · exact ⟨mn_sLR, o239_0⟩
  · exact ⟨mn_sK, o239_1⟩
  · exact ⟨mn_sPI, o239_2⟩
  · exact ⟨mn_sK, o239_5⟩
  · exact ⟨mn_sSI, o239_6⟩
  · exact ⟨mn_sK, o239_7⟩
  · exact ⟨mn_sSI, o239_8⟩
  · exact ⟨mn_sLI, o239_9⟩
  · exact ⟨mn_sLR, o239_10⟩
  · exact ⟨mn_sGR, o239_11⟩
  · exact ⟨mn_sLI, o239_14⟩
  · exact ⟨mn_sIA, o239_15⟩
  · exact ⟨mn_sI2, o239_16⟩
  · exact ⟨mn_sInc, o239_19⟩
  · exact ⟨mn_sK, o239_22⟩
  · exact ⟨mn_sSI, o239_23⟩
  · exact ⟨mn_sX, ok_X⟩
theorem oc239_1 : ∀ pc, Mnp (c239_1 pc) ∧ Okp RX12 cX12_looksAt 6 none "looksAt" false pc (c239_1 pc) := by
  intro pc
  unfold c239_1
  split
  · exact ⟨mn_sLI, o239_25⟩
  · exact ⟨mn_sLR, o239_27⟩
  · exact ⟨mn_sGR, o239_28⟩
  · exact ⟨mn_sK, o239_31⟩
  · exact ⟨mn_sLI, o239_33⟩
  · exact ⟨mn_sB2, o239_34⟩
  · exact ⟨mn_sLI, o239_35⟩
  · exact ⟨mn_sB2, o239_36⟩
  · exact ⟨mn_sIA, o239_37⟩
  · exact ⟨mn_sI2, o239_38⟩
  · exact ⟨mn_sLR, o239_41⟩
  · exact ⟨mn_sLI, o239_42⟩
  · exact ⟨mn_sLI, o239_43⟩
  · exact ⟨mn_sCV, o239_44⟩
  · exact ⟨mn_sSI, o239_47⟩
  · exact ⟨mn_sX, ok_X⟩
theorem oc239_2 : ∀ pc, Mnp (c239_2 pc) ∧ Okp RX12 cX12_looksAt 6 none "looksAt" false pc (c239_2 pc) := by
  intro pc
  unfold c239_2
  split
  · exact ⟨mn_sInc, o239_48⟩
  · exact ⟨mn_sGo, o239_51⟩
  · exact ⟨mn_sInc, o239_54⟩
  · exact ⟨mn_sGo, o239_57⟩
  · exact ⟨mn_sInc, o239_60⟩
  · exact ⟨mn_sK, o239_63⟩
  · exact ⟨mn_sLI, o239_64⟩
  · exact ⟨mn_sB2, o239_65⟩
  · exact ⟨mn_sSI, o239_66⟩
  · exact ⟨mn_sLI, o239_67⟩
  · exact ⟨mn_sK, o239_68⟩
  · exact ⟨mn_sLI, o239_69⟩
  · exact ⟨mn_sB2, o239_70⟩
  · exact ⟨mn_sLR, o239_71⟩
  · exact ⟨mn_sX, ok_X⟩
theorem oc239_3 : ∀ pc, Mnp (c239_3 pc) ∧ Okp RX12 cX12_looksAt 6 none "looksAt" false pc (c239_3 pc) := by
  intro pc
  unfold c239_3
  split
  · exact ⟨mn_sGR, o239_72⟩
  · exact ⟨mn_sLI, o239_75⟩
  · exact ⟨mn_sIA, o239_76⟩
  · exact ⟨mn_sB2, o239_77⟩
  · exact ⟨mn_sI2, o239_78⟩
  · exact ⟨mn_sInc, o239_81⟩
  · exact ⟨mn_sK, o239_84⟩
  · exact ⟨mn_sLI, o239_86⟩
  · exact ⟨mn_sB2, o239_87⟩
  · exact ⟨mn_sSI, o239_88⟩
  · exact ⟨mn_sLI, o239_90⟩
  · exact ⟨mn_sK, o239_92⟩
  · exact ⟨mn_sLI, o239_94⟩
  · exact ⟨mn_sB2, o239_95⟩
  · exact ⟨mn_sX, ok_X⟩
theorem oc239_4 : ∀ pc, Mnp (c239_4 pc) ∧ Okp RX12 cX12_looksAt 6 none "looksAt" false pc (c239_4 pc) := by
  intro pc
  unfold c239_4
  split
  · exact ⟨mn_sLR, o239_96⟩
  · exact ⟨mn_sGR, o239_97⟩
  · exact ⟨mn_sLI, o239_100⟩
  · exact ⟨mn_sIA, o239_101⟩
  · exact ⟨mn_sB2, o239_102⟩
  · exact ⟨mn_sI2, o239_103⟩
  · exact ⟨mn_sInc, o239_106⟩
  · exact ⟨mn_sK, o239_109⟩
  · exact ⟨mn_sSI, o239_110⟩
  · exact ⟨mn_sLI, o239_112⟩
  · exact ⟨mn_sLR, o239_114⟩
  · exact ⟨mn_sGR, o239_115⟩
  · exact ⟨mn_sLI, o239_118⟩
  · exact ⟨mn_sX, ok_X⟩
theorem oc239_5 : ∀ pc, Mnp (c239_5 pc) ∧ Okp RX12 cX12_looksAt 6 none "looksAt" false pc (c239_5 pc) := by
  intro pc
  unfold c239_5
  split
  · exact ⟨mn_sIA, o239_120⟩
  · exact ⟨mn_sI2, o239_121⟩
  · exact ⟨mn_sLR, o239_124⟩
  · exact ⟨mn_sLI, o239_125⟩
  · exact ⟨mn_sLI, o239_126⟩
  · exact ⟨mn_sCV, o239_127⟩
  · exact ⟨mn_sSI, o239_130⟩
  · exact ⟨mn_sLR, o239_131⟩
  · exact ⟨mn_sLI, o239_132⟩
  · exact ⟨mn_sLI, o239_133⟩
  · exact ⟨mn_sCV, o239_134⟩
  · exact ⟨mn_sLR, o239_137⟩
  · exact ⟨mn_sGR, o239_138⟩
  · exact ⟨mn_sLI, o239_141⟩
  · exact ⟨mn_sIA, o239_142⟩
  · exact ⟨mn_sI2, o239_143⟩
  · exact ⟨mn_sX, ok_X⟩
theorem oc239_6 : ∀ pc, Mnp (c239_6 pc) ∧ Okp RX12 cX12_looksAt 6 none "looksAt" false pc (c239_6 pc) := by
  intro pc
  unfold c239_6
  split
  · exact ⟨mn_sLR, o239_146⟩
  · exact ⟨mn_sLI, o239_147⟩
  · exact ⟨mn_sCV, o239_148⟩
  · exact ⟨mn_sInc, o239_151⟩
  · exact ⟨mn_sInc, o239_154⟩
  · exact ⟨mn_sGo, o239_157⟩
  · exact ⟨mn_sInc, o239_160⟩
  · exact ⟨mn_sGo, o239_163⟩
  · exact ⟨mn_sInc, o239_166⟩
  · exact ⟨mn_sX, ok_X⟩
theorem oc239_7 : ∀ pc, Mnp (c239_7 pc) ∧ Okp RX12 cX12_looksAt 6 none "looksAt" false pc (c239_7 pc) := by
  intro pc
  unfold c239_7
  split
  · exact ⟨mn_sGo, o239_169⟩
  · exact ⟨mn_sInc, o239_172⟩
  · exact ⟨mn_sK, o239_175⟩
  · exact ⟨mn_sLI, o239_177⟩
  · exact ⟨mn_sB2, o239_178⟩
  · exact ⟨mn_sSI, o239_179⟩
  · exact ⟨mn_sLI, o239_180⟩
  · exact ⟨mn_sK, o239_181⟩
  · exact ⟨mn_sLI, o239_183⟩
  · exact ⟨mn_sB2, o239_184⟩
  · exact ⟨mn_sLR, o239_185⟩
  · exact ⟨mn_sGR, o239_186⟩
  · exact ⟨mn_sLI, o239_189⟩
  · exact ⟨mn_sIA, o239_190⟩
  · exact ⟨mn_sB2, o239_191⟩
  · exact ⟨mn_sX, ok_X⟩
theorem oc239_8 : ∀ pc, Mnp (c239_8 pc) ∧ Okp RX12 cX12_looksAt 6 none "looksAt" false pc (c239_8 pc) := by
  intro pc
  unfold c239_8
  split
  · exact ⟨mn_sI2, o239_192⟩
  · exact ⟨mn_sInc, o239_195⟩
  · exact ⟨mn_sK, o239_198⟩
  · exact ⟨mn_sSI, o239_199⟩
  · exact ⟨mn_sLI, o239_201⟩
  · exact ⟨mn_sLR, o239_203⟩
  · exact ⟨mn_sGR, o239_204⟩
  · exact ⟨mn_sLI, o239_207⟩
  · exact ⟨mn_sIA, o239_208⟩
  · exact ⟨mn_sI2, o239_209⟩
  · exact ⟨mn_sLR, o239_212⟩
  · exact ⟨mn_sLI, o239_213⟩
  · exact ⟨mn_sLI, o239_214⟩
  · exact ⟨mn_sCV, o239_215⟩
  · exact ⟨mn_sX, ok_X⟩
theorem oc239_9 : ∀ pc, Mnp (c239_9 pc) ∧ Okp RX12 cX12_looksAt 6 none "looksAt" false pc (c239_9 pc) := by
  intro pc
  unfold c239_9
  split
  · exact ⟨mn_sSI, o239_218⟩
  · exact ⟨mn_sInc, o239_219⟩
  · exact ⟨mn_sGo, o239_222⟩
  · exact ⟨mn_sLR, o239_225⟩
  · exact ⟨mn_sLI, o239_226⟩
  · exact ⟨mn_sLI, o239_227⟩
  · exact ⟨mn_sCV, o239_228⟩
  · exact ⟨mn_sSI, o239_231⟩
  · exact ⟨mn_sLR, o239_232⟩
  · exact ⟨mn_sLI, o239_233⟩
  · exact ⟨mn_sLI, o239_234⟩
  · exact ⟨mn_sCV, o239_235⟩
  · exact ⟨mn_sLR, o239_238⟩
  · exact ⟨mn_sGR, o239_239⟩
  · exact ⟨mn_sX, ok_X⟩
theorem oc239_10 : ∀ pc, Mnp (c239_10 pc) ∧ Okp RX12 cX12_looksAt 6 none "looksAt" false pc (c239_10 pc) := by
  intro pc
  unfold c239_10
  split
  · exact ⟨mn_sLI, o239_242⟩
  · exact ⟨mn_sIA, o239_243⟩
  · exact ⟨mn_sLR, o239_244⟩
  · exact ⟨mn_sGR, o239_245⟩
  · exact ⟨mn_sLI, o239_248⟩
  · exact ⟨mn_sIA, o239_249⟩
  · exact ⟨mn_sB2, o239_250⟩
  · exact ⟨mn_sSI, o239_251⟩
  · exact ⟨mn_sInc, o239_252⟩
  · exact ⟨mn_sGo, o239_255⟩
  · exact ⟨mn_sLR, o239_258⟩
  · exact ⟨mn_sGI, o239_259⟩
  · exact ⟨mn_sK, o239_262⟩
  · exact ⟨mn_sI2, o239_263⟩
  · exact ⟨mn_sX, ok_X⟩
theorem oc239_11 : ∀ pc, Mnp (c239_11 pc) ∧ Okp RX12 cX12_looksAt 6 none "looksAt" false pc (c239_11 pc) := by
  intro pc
  unfold c239_11
  split
  · exact ⟨mn_sLR, o239_266⟩
  · exact ⟨mn_sK, o239_267⟩
  · exact ⟨mn_sLR, o239_268⟩
  · exact ⟨mn_sGI, o239_269⟩
  · exact ⟨mn_sCV, o239_272⟩
  · exact ⟨mn_sRV, o239_275⟩
  · exact ⟨mn_sX, ok_X⟩
theorem oc239 : ∀ pc, Mnp (c239 pc) ∧ Okp RX12 cX12_looksAt 6 none "looksAt" false pc (c239 pc) := by
  intro pc
  unfold c239
  split
  · exact oc239_0 pc
  · exact oc239_1 pc
  · exact oc239_2 pc
  · exact oc239_3 pc
  · exact oc239_4 pc
  · exact oc239_5 pc
  · exact oc239_6 pc
  · exact oc239_7 pc
  · exact oc239_8 pc
  · exact oc239_9 pc
  · exact oc239_10 pc
  · exact oc239_11 pc
  · exact ⟨mn_sX, ok_X⟩
theorem o240_0 : Okp RX12 cX12_length 4 (some .int) "length" false 0 (sLR 0 1) := ok_aload_n (by decide +kernel : decode cX12_length 0 = .ok (.aload_n 0, 1)) rfl
theorem o240_1 : Okp RX12 cX12_length 4 (some .int) "length" false 1 (sLI 1 2) := ok_iload_n (by decide +kernel : decode cX12_length 1 = .ok (.iload_n 1, 1)) rfl
theorem o240_2 : Okp RX12 cX12_length 4 (some .int) "length" false 2 (sLI 2 3) := ok_iload_n (by decide +kernel : decode cX12_length 2 = .ok (.iload_n 2, 1)) rfl
theorem o240_3 : Okp RX12 cX12_length 4 (some .int) "length" false 3 (sCV false 220 3 13 6) := ok_cv (by decide +kernel : decode cX12_length 3 = .ok (.invokevirtual 246, 3)) mw_X12_246 rfl (by decide) wm_X12_byteAt wse_X12_byteAt (by decide) rfl
theorem o240_6 : Okp RX12 cX12_length 4 (some .int) "length" false 6 (sSI 3 7) := ok_istore_n (by decide +kernel : decode cX12_length 6 = .ok (.istore_n 3, 1)) rfl (by decide) (by decide)
theorem o240_7 : Okp RX12 cX12_length 4 (some .int) "length" false 7 (sLI 3 8) := ok_iload_n (by decide +kernel : decode cX12_length 7 = .ok (.iload_n 3, 1)) rfl
theorem o240_8 : Okp RX12 cX12_length 4 (some .int) "length" false 8 (sSw [(0, 188), (1, 203), (2, 190), (3, 190), (4, 203), (5, 203), (6, 203), (7, 203), (8, 203), (9, 203), (10, 203), (11, 203), (12, 203), (13, 203), (14, 203), (15, 203), (16, 203), (17, 203), (18, 203), (19, 203), (20, 190), (21, 190), (22, 190), (23, 190), (24, 190), (25, 203), (26, 190), (27, 203), (28, 203), (29, 203), (30, 190), (31, 203), (32, 190), (33, 190), (34, 190), (35, 203), (36, 190), (37, 190), (38, 192), (39, 203), (40, 190)] 203) := ok_tsw (by decide +kernel : decode cX12_length 8 = .ok (.tableswitch 195 0 40 #[180, 195, 182, 182, 195, 195, 195, 195, 195, 195, 195, 195, 195, 195, 195, 195, 195, 195, 195, 195, 182, 182, 182, 182, 182, 195, 182, 195, 195, 195, 182, 195, 182, 182, 182, 195, 182, 182, 184, 195, 182], 180)) (by decide) (by decide) (by decide)
theorem o240_188 : Okp RX12 cX12_length 4 (some .int) "length" false 188 (sK 5 189) := ok_iconst (by decide +kernel : decode cX12_length 188 = .ok (.iconst 5, 1)) (by decide)
theorem o240_189 : Okp RX12 cX12_length 4 (some .int) "length" false 189 sRI := ok_iret rfl (by decide +kernel : decode cX12_length 189 = .ok (.ireturn, 1))
theorem o240_190 : Okp RX12 cX12_length 4 (some .int) "length" false 190 (sK 2 191) := ok_iconst (by decide +kernel : decode cX12_length 190 = .ok (.iconst 2, 1)) (by decide)
theorem o240_191 : Okp RX12 cX12_length 4 (some .int) "length" false 191 sRI := ok_iret rfl (by decide +kernel : decode cX12_length 191 = .ok (.ireturn, 1))
theorem o240_192 : Okp RX12 cX12_length 4 (some .int) "length" false 192 (sK 2 193) := ok_iconst (by decide +kernel : decode cX12_length 192 = .ok (.iconst 2, 1)) (by decide)
theorem o240_193 : Okp RX12 cX12_length 4 (some .int) "length" false 193 (sLR 0 194) := ok_aload_n (by decide +kernel : decode cX12_length 193 = .ok (.aload_n 0, 1)) rfl
theorem o240_194 : Okp RX12 cX12_length 4 (some .int) "length" false 194 (sLI 1 195) := ok_iload_n (by decide +kernel : decode cX12_length 194 = .ok (.iload_n 1, 1)) rfl
theorem o240_195 : Okp RX12 cX12_length 4 (some .int) "length" false 195 (sLI 2 196) := ok_iload_n (by decide +kernel : decode cX12_length 195 = .ok (.iload_n 2, 1)) rfl
theorem o240_196 : Okp RX12 cX12_length 4 (some .int) "length" false 196 (sK 1 197) := ok_iconst (by decide +kernel : decode cX12_length 196 = .ok (.iconst 1, 1)) (by decide)
theorem o240_197 : Okp RX12 cX12_length 4 (some .int) "length" false 197 (sB2 fAdd 198) := ok_iadd (by decide +kernel : decode cX12_length 197 = .ok (.iadd, 1))
theorem o240_198 : Okp RX12 cX12_length 4 (some .int) "length" false 198 (sCV false 220 3 13 201) := ok_cv (by decide +kernel : decode cX12_length 198 = .ok (.invokevirtual 246, 3)) mw_X12_246 rfl (by decide) wm_X12_byteAt wse_X12_byteAt (by decide) rfl
theorem o240_201 : Okp RX12 cX12_length 4 (some .int) "length" false 201 (sB2 fAdd 202) := ok_iadd (by decide +kernel : decode cX12_length 201 = .ok (.iadd, 1))
theorem o240_202 : Okp RX12 cX12_length 4 (some .int) "length" false 202 sRI := ok_iret rfl (by decide +kernel : decode cX12_length 202 = .ok (.ireturn, 1))
theorem o240_203 : Okp RX12 cX12_length 4 (some .int) "length" false 203 (sK 1 204) := ok_iconst (by decide +kernel : decode cX12_length 203 = .ok (.iconst 1, 1)) (by decide)
theorem o240_204 : Okp RX12 cX12_length 4 (some .int) "length" false 204 sRI := ok_iret rfl (by decide +kernel : decode cX12_length 204 = .ok (.ireturn, 1))
theorem oc240_0 : ∀ pc, Mnp (c240_0 pc) ∧ Okp RX12 cX12_length 4 (some .int) "length" false pc (c240_0 pc) := by
  intro pc
  unfold c240_0
  split
  · exact ⟨mn_sLR, o240_0⟩
  · exact ⟨mn_sLI, o240_1⟩
  · exact ⟨mn_sLI, o240_2⟩
  · exact ⟨mn_sCV, o240_3⟩
  · exact ⟨mn_sSI, o240_6⟩
  · exact ⟨mn_sLI, o240_7⟩
  · exact ⟨mn_sSw, o240_8⟩
  · exact ⟨mn_sX, ok_X⟩
theorem oc240_7 : ∀ pc, Mnp (c240_7 pc) ∧ Okp RX12 cX12_length 4 (some .int) "length" false pc (c240_7 pc) := by
  intro pc
  unfold c240_7
  split
  · exact ⟨mn_sK, o240_188⟩
  · exact ⟨mn_sRI, o240_189⟩
  · exact ⟨mn_sK, o240_190⟩
  · exact ⟨mn_sRI, o240_191⟩
  · exact ⟨mn_sX, ok_X⟩
theorem oc240_8 : ∀ pc, Mnp (c240_8 pc) ∧ Okp RX12 cX12_length 4 (some .int) "length" false pc (c240_8 pc) := by
  intro pc
  unfold c240_8
  split
  · exact ⟨mn_sK, o240_192⟩
  · exact ⟨mn_sLR, o240_193⟩
  · exact ⟨mn_sLI, o240_194⟩
  · exact ⟨mn_sLI, o240_195⟩
  · exact ⟨mn_sK, o240_196⟩
  · exact ⟨mn_sB2, o240_197⟩
  · exact ⟨mn_sCV, o240_198⟩
  · exact ⟨mn_sB2, o240_201⟩
  · exact ⟨mn_sRI, o240_202⟩
  · exact ⟨mn_sK, o240_203⟩
  · exact ⟨mn_sRI, o240_204⟩
  · exact ⟨mn_sX, ok_X⟩
theorem oc240 : ∀ pc, Mnp (c240 pc) ∧ Okp RX12 cX12_length 4 (some .int) "length" false pc (c240 pc) := by
  intro pc
  unfold c240
  split
  · exact oc240_0 pc
  · exact oc240_7 pc
  · exact oc240_8 pc
  · exact ⟨mn_sX, ok_X⟩
theorem o241_0 : Okp RX12 cX12_begins 5 (some .boolean) "begins" false 0 (sK 0 1) := ok_iconst (by decide +kernel : decode cX12_begins 0 = .ok (.iconst 0, 1)) (by decide)
theorem o241_1 : Okp RX12 cX12_begins 5 (some .boolean) "begins" false 1 (sSI 4 3) := ok_istore (by decide +kernel : decode cX12_begins 1 = .ok (.istore 4, 2)) (by decide) (by decide)
theorem o241_3 : Okp RX12 cX12_begins 5 (some .boolean) "begins" false 3 (sLI 4 5) := ok_iload (by decide +kernel : decode cX12_begins 3 = .ok (.iload 4, 2))
theorem o241_5 : Okp RX12 cX12_begins 5 (some .boolean) "begins" false 5 (sLR 0 6) := ok_aload_n (by decide +kernel : decode cX12_begins 5 = .ok (.aload_n 0, 1)) rfl
theorem o241_6 : Okp RX12 cX12_begins 5 (some .boolean) "begins" false 6 (sGR 13 20 9) := ok_getR (by decide +kernel : decode cX12_begins 6 = .ok (.getfield 66, 3)) fw_X12_66 rfl
theorem o241_9 : Okp RX12 cX12_begins 5 (some .boolean) "begins" false 9 (sLI 2 10) := ok_iload_n (by decide +kernel : decode cX12_begins 9 = .ok (.iload_n 2, 1)) rfl
theorem o241_10 : Okp RX12 cX12_begins 5 (some .boolean) "begins" false 10 (sIA 11) := ok_iaload (by decide +kernel : decode cX12_begins 10 = .ok (.iaload, 1))
theorem o241_11 : Okp RX12 cX12_begins 5 (some .boolean) "begins" false 11 (sI2 3 44 14) := ok_icmp_ge (by decide +kernel : decode cX12_begins 11 = .ok (.if_icmp .ge 33, 3)) (by decide)
theorem o241_14 : Okp RX12 cX12_begins 5 (some .boolean) "begins" false 14 (sLI 4 16) := ok_iload (by decide +kernel : decode cX12_begins 14 = .ok (.iload 4, 2))
theorem o241_16 : Okp RX12 cX12_begins 5 (some .boolean) "begins" false 16 (sLI 3 17) := ok_iload_n (by decide +kernel : decode cX12_begins 16 = .ok (.iload_n 3, 1)) rfl
theorem o241_17 : Okp RX12 cX12_begins 5 (some .boolean) "begins" false 17 (sI2 1 22 20) := ok_icmp_ne (by decide +kernel : decode cX12_begins 17 = .ok (.if_icmp .ne 5, 3)) (by decide)
theorem o241_20 : Okp RX12 cX12_begins 5 (some .boolean) "begins" false 20 (sK 1 21) := ok_iconst (by decide +kernel : decode cX12_begins 20 = .ok (.iconst 1, 1)) (by decide)
theorem o241_21 : Okp RX12 cX12_begins 5 (some .boolean) "begins" false 21 sRZ := ok_zret rfl (by decide +kernel : decode cX12_begins 21 = .ok (.ireturn, 1))
theorem o241_22 : Okp RX12 cX12_begins 5 (some .boolean) "begins" false 22 (sLI 4 24) := ok_iload (by decide +kernel : decode cX12_begins 22 = .ok (.iload 4, 2))
theorem o241_24 : Okp RX12 cX12_begins 5 (some .boolean) "begins" false 24 (sLR 0 25) := ok_aload_n (by decide +kernel : decode cX12_begins 24 = .ok (.aload_n 0, 1)) rfl
theorem o241_25 : Okp RX12 cX12_begins 5 (some .boolean) "begins" false 25 (sLI 1 26) := ok_iload_n (by decide +kernel : decode cX12_begins 25 = .ok (.iload_n 1, 1)) rfl
theorem o241_26 : Okp RX12 cX12_begins 5 (some .boolean) "begins" false 26 (sLR 0 27) := ok_aload_n (by decide +kernel : decode cX12_begins 26 = .ok (.aload_n 0, 1)) rfl
theorem o241_27 : Okp RX12 cX12_begins 5 (some .boolean) "begins" false 27 (sGR 13 21 30) := ok_getR (by decide +kernel : decode cX12_begins 27 = .ok (.getfield 69, 3)) fw_X12_69 rfl
theorem o241_30 : Okp RX12 cX12_begins 5 (some .boolean) "begins" false 30 (sLI 2 31) := ok_iload_n (by decide +kernel : decode cX12_begins 30 = .ok (.iload_n 2, 1)) rfl
theorem o241_31 : Okp RX12 cX12_begins 5 (some .boolean) "begins" false 31 (sIA 32) := ok_iaload (by decide +kernel : decode cX12_begins 31 = .ok (.iaload, 1))
theorem o241_32 : Okp RX12 cX12_begins 5 (some .boolean) "begins" false 32 (sLI 4 34) := ok_iload (by decide +kernel : decode cX12_begins 32 = .ok (.iload 4, 2))
theorem o241_34 : Okp RX12 cX12_begins 5 (some .boolean) "begins" false 34 (sB2 fAdd 35) := ok_iadd (by decide +kernel : decode cX12_begins 34 = .ok (.iadd, 1))
theorem o241_35 : Okp RX12 cX12_begins 5 (some .boolean) "begins" false 35 (sCV false 240 3 13 38) := ok_cv (by decide +kernel : decode cX12_begins 35 = .ok (.invokevirtual 302, 3)) mw_X12_302 rfl (by decide) wm_X12_length wse_X12_length (by decide) rfl
theorem o241_38 : Okp RX12 cX12_begins 5 (some .boolean) "begins" false 38 (sB2 fAdd 39) := ok_iadd (by decide +kernel : decode cX12_begins 38 = .ok (.iadd, 1))
theorem o241_39 : Okp RX12 cX12_begins 5 (some .boolean) "begins" false 39 (sSI 4 41) := ok_istore (by decide +kernel : decode cX12_begins 39 = .ok (.istore 4, 2)) (by decide) (by decide)
theorem o241_41 : Okp RX12 cX12_begins 5 (some .boolean) "begins" false 41 (sGo 3) := ok_goto (by decide +kernel : decode cX12_begins 41 = .ok (.goto (-38), 3)) (by decide)
theorem o241_44 : Okp RX12 cX12_begins 5 (some .boolean) "begins" false 44 (sK 0 45) := ok_iconst (by decide +kernel : decode cX12_begins 44 = .ok (.iconst 0, 1)) (by decide)
theorem o241_45 : Okp RX12 cX12_begins 5 (some .boolean) "begins" false 45 sRZ := ok_zret rfl (by decide +kernel : decode cX12_begins 45 = .ok (.ireturn, 1))
theorem oc241_0 : ∀ pc, Mnp (c241_0 pc) ∧ Okp RX12 cX12_begins 5 (some .boolean) "begins" false pc (c241_0 pc) := by
  intro pc
  unfold c241_0
  split
  · exact ⟨mn_sK, o241_0⟩
  · exact ⟨mn_sSI, o241_1⟩
  · exact ⟨mn_sLI, o241_3⟩
  · exact ⟨mn_sLR, o241_5⟩
  · exact ⟨mn_sGR, o241_6⟩
  · exact ⟨mn_sLI, o241_9⟩
  · exact ⟨mn_sIA, o241_10⟩
  · exact ⟨mn_sI2, o241_11⟩
  · exact ⟨mn_sLI, o241_14⟩
  · exact ⟨mn_sLI, o241_16⟩
  · exact ⟨mn_sI2, o241_17⟩
  · exact ⟨mn_sK, o241_20⟩
  · exact ⟨mn_sRZ, o241_21⟩
  · exact ⟨mn_sLI, o241_22⟩
  · exact ⟨mn_sX, ok_X⟩
theorem oc241_1 : ∀ pc, Mnp (c241_1 pc) ∧ Okp RX12 cX12_begins 5 (some .boolean) "begins" false pc (c241_1 pc) := by
  intro pc
  unfold c241_1
  split
  · exact ⟨mn_sLR, o241_24⟩
  · exact ⟨mn_sLI, o241_25⟩
  · exact ⟨mn_sLR, o241_26⟩
  · exact ⟨mn_sGR, o241_27⟩
  · exact ⟨mn_sLI, o241_30⟩
  · exact ⟨mn_sIA, o241_31⟩
  · exact ⟨mn_sLI, o241_32⟩
  · exact ⟨mn_sB2, o241_34⟩
  · exact ⟨mn_sCV, o241_35⟩
  · exact ⟨mn_sB2, o241_38⟩
  · exact ⟨mn_sSI, o241_39⟩
  · exact ⟨mn_sGo, o241_41⟩
  · exact ⟨mn_sK, o241_44⟩
  · exact ⟨mn_sRZ, o241_45⟩
  · exact ⟨mn_sX, ok_X⟩
theorem oc241 : ∀ pc, Mnp (c241 pc) ∧ Okp RX12 cX12_begins 5 (some .boolean) "begins" false pc (c241 pc) := by
  intro pc
  unfold c241
  split
  · exact oc241_0 pc
  · exact oc241_1 pc
  · exact ⟨mn_sX, ok_X⟩
theorem o242_0 : Okp RX12 cX12_looksAtCode 7 none "looksAtCode" false 0 (sK 0 1) := ok_iconst (by decide +kernel : decode cX12_looksAtCode 0 = .ok (.iconst 0, 1)) (by decide)
theorem o242_1 : Okp RX12 cX12_looksAtCode 7 none "looksAtCode" false 1 (sSI 3 2) := ok_istore_n (by decide +kernel : decode cX12_looksAtCode 1 = .ok (.istore_n 3, 1)) rfl (by decide) (by decide)
theorem o242_2 : Okp RX12 cX12_looksAtCode 7 none "looksAtCode" false 2 (sLI 3 3) := ok_iload_n (by decide +kernel : decode cX12_looksAtCode 2 = .ok (.iload_n 3, 1)) rfl
theorem o242_3 : Okp RX12 cX12_looksAtCode 7 none "looksAtCode" false 3 (sLR 0 4) := ok_aload_n (by decide +kernel : decode cX12_looksAtCode 3 = .ok (.aload_n 0, 1)) rfl
theorem o242_4 : Okp RX12 cX12_looksAtCode 7 none "looksAtCode" false 4 (sGR 13 20 7) := ok_getR (by decide +kernel : decode cX12_looksAtCode 4 = .ok (.getfield 66, 3)) fw_X12_66 rfl
theorem o242_7 : Okp RX12 cX12_looksAtCode 7 none "looksAtCode" false 7 (sLI 2 8) := ok_iload_n (by decide +kernel : decode cX12_looksAtCode 7 = .ok (.iload_n 2, 1)) rfl
theorem o242_8 : Okp RX12 cX12_looksAtCode 7 none "looksAtCode" false 8 (sIA 9) := ok_iaload (by decide +kernel : decode cX12_looksAtCode 8 = .ok (.iaload, 1))
theorem o242_9 : Okp RX12 cX12_looksAtCode 7 none "looksAtCode" false 9 (sI2 3 324 12) := ok_icmp_ge (by decide +kernel : decode cX12_looksAtCode 9 = .ok (.if_icmp .ge 315, 3)) (by decide)
theorem o242_12 : Okp RX12 cX12_looksAtCode 7 none "looksAtCode" false 12 (sLR 0 13) := ok_aload_n (by decide +kernel : decode cX12_looksAtCode 12 = .ok (.aload_n 0, 1)) rfl
theorem o242_13 : Okp RX12 cX12_looksAtCode 7 none "looksAtCode" false 13 (sGR 13 21 16) := ok_getR (by decide +kernel : decode cX12_looksAtCode 13 = .ok (.getfield 69, 3)) fw_X12_69 rfl
theorem o242_16 : Okp RX12 cX12_looksAtCode 7 none "looksAtCode" false 16 (sLI 2 17) := ok_iload_n (by decide +kernel : decode cX12_looksAtCode 16 = .ok (.iload_n 2, 1)) rfl
theorem o242_17 : Okp RX12 cX12_looksAtCode 7 none "looksAtCode" false 17 (sIA 18) := ok_iaload (by decide +kernel : decode cX12_looksAtCode 17 = .ok (.iaload, 1))
theorem o242_18 : Okp RX12 cX12_looksAtCode 7 none "looksAtCode" false 18 (sLI 3 19) := ok_iload_n (by decide +kernel : decode cX12_looksAtCode 18 = .ok (.iload_n 3, 1)) rfl
theorem o242_19 : Okp RX12 cX12_looksAtCode 7 none "looksAtCode" false 19 (sB2 fAdd 20) := ok_iadd (by decide +kernel : decode cX12_looksAtCode 19 = .ok (.iadd, 1))
theorem o242_20 : Okp RX12 cX12_looksAtCode 7 none "looksAtCode" false 20 (sSI 4 22) := ok_istore (by decide +kernel : decode cX12_looksAtCode 20 = .ok (.istore 4, 2)) (by decide) (by decide)
theorem o242_22 : Okp RX12 cX12_looksAtCode 7 none "looksAtCode" false 22 (sLR 0 23) := ok_aload_n (by decide +kernel : decode cX12_looksAtCode 22 = .ok (.aload_n 0, 1)) rfl
theorem o242_23 : Okp RX12 cX12_looksAtCode 7 none "looksAtCode" false 23 (sLI 1 24) := ok_iload_n (by decide +kernel : decode cX12_looksAtCode 23 = .ok (.iload_n 1, 1)) rfl
theorem o242_24 : Okp RX12 cX12_looksAtCode 7 none "looksAtCode" false 24 (sLI 4 26) := ok_iload (by decide +kernel : decode cX12_looksAtCode 24 = .ok (.iload 4, 2))
theorem o242_26 : Okp RX12 cX12_looksAtCode 7 none "looksAtCode" false 26 (sK 1 27) := ok_iconst (by decide +kernel : decode cX12_looksAtCode 26 = .ok (.iconst 1, 1)) (by decide)
theorem o242_27 : Okp RX12 cX12_looksAtCode 7 none "looksAtCode" false 27 (sB2 fAdd 28) := ok_iadd (by decide +kernel : decode cX12_looksAtCode 27 = .ok (.iadd, 1))
theorem o242_28 : Okp RX12 cX12_looksAtCode 7 none "looksAtCode" false 28 (sCV false 220 3 13 31) := ok_cv (by decide +kernel : decode cX12_looksAtCode 28 = .ok (.invokevirtual 246, 3)) mw_X12_246 rfl (by decide) wm_X12_byteAt wse_X12_byteAt (by decide) rfl
theorem o242_31 : Okp RX12 cX12_looksAtCode 7 none "looksAtCode" false 31 (sSI 5 33) := ok_istore (by decide +kernel : decode cX12_looksAtCode 31 = .ok (.istore 5, 2)) (by decide) (by decide)
theorem o242_33 : Okp RX12 cX12_looksAtCode 7 none "looksAtCode" false 33 (sLR 0 34) := ok_aload_n (by decide +kernel : decode cX12_looksAtCode 33 = .ok (.aload_n 0, 1)) rfl
theorem o242_34 : Okp RX12 cX12_looksAtCode 7 none "looksAtCode" false 34 (sLI 1 35) := ok_iload_n (by decide +kernel : decode cX12_looksAtCode 34 = .ok (.iload_n 1, 1)) rfl
theorem o242_35 : Okp RX12 cX12_looksAtCode 7 none "looksAtCode" false 35 (sLI 4 37) := ok_iload (by decide +kernel : decode cX12_looksAtCode 35 = .ok (.iload 4, 2))
theorem o242_37 : Okp RX12 cX12_looksAtCode 7 none "looksAtCode" false 37 (sCV false 220 3 13 40) := ok_cv (by decide +kernel : decode cX12_looksAtCode 37 = .ok (.invokevirtual 246, 3)) mw_X12_246 rfl (by decide) wm_X12_byteAt wse_X12_byteAt (by decide) rfl
theorem o242_40 : Okp RX12 cX12_looksAtCode 7 none "looksAtCode" false 40 (sSw [(20, 140), (21, 140), (22, 162), (23, 311), (24, 311), (25, 311), (26, 162), (27, 311), (28, 311), (29, 311), (30, 238), (31, 311), (32, 184), (33, 311), (34, 311), (35, 311), (36, 216), (37, 311), (38, 260), (39, 311), (40, 238)] 311) := ok_tsw (by decide +kernel : decode cX12_looksAtCode 40 = .ok (.tableswitch 271 20 40 #[100, 100, 122, 271, 271, 271, 122, 271, 271, 271, 198, 271, 144, 271, 271, 271, 176, 271, 220, 271, 198], 100)) (by decide) (by decide) (by decide)
theorem o242_140 : Okp RX12 cX12_looksAtCode 7 none "looksAtCode" false 140 (sLR 0 141) := ok_aload_n (by decide +kernel : decode cX12_looksAtCode 140 = .ok (.aload_n 0, 1)) rfl
theorem o242_141 : Okp RX12 cX12_looksAtCode 7 none "looksAtCode" false 141 (sLI 1 142) := ok_iload_n (by decide +kernel : decode cX12_looksAtCode 141 = .ok (.iload_n 1, 1)) rfl
theorem o242_142 : Okp RX12 cX12_looksAtCode 7 none "looksAtCode" false 142 (sLI 2 143) := ok_iload_n (by decide +kernel : decode cX12_looksAtCode 142 = .ok (.iload_n 2, 1)) rfl
theorem o242_143 : Okp RX12 cX12_looksAtCode 7 none "looksAtCode" false 143 (sLI 5 145) := ok_iload (by decide +kernel : decode cX12_looksAtCode 143 = .ok (.iload 5, 2))
theorem o242_145 : Okp RX12 cX12_looksAtCode 7 none "looksAtCode" false 145 (sCV false 241 4 13 148) := ok_cv (by decide +kernel : decode cX12_looksAtCode 145 = .ok (.invokevirtual 305, 3)) mw_X12_305 rfl (by decide) wm_X12_begins wse_X12_begins (by decide) rfl
theorem o242_148 : Okp RX12 cX12_looksAtCode 7 none "looksAtCode" false 148 (sI1 1 311 151) := ok_if_ne (by decide +kernel : decode cX12_looksAtCode 148 = .ok (.ifCond .ne 163, 3)) (by decide)
theorem o242_151 : Okp RX12 cX12_looksAtCode 7 none "looksAtCode" false 151 (sLR 0 152) := ok_aload_n (by decide +kernel : decode cX12_looksAtCode 151 = .ok (.aload_n 0, 1)) rfl
theorem o242_152 : Okp RX12 cX12_looksAtCode 7 none "looksAtCode" false 152 (sLI 4 154) := ok_iload (by decide +kernel : decode cX12_looksAtCode 152 = .ok (.iload 4, 2))
theorem o242_154 : Okp RX12 cX12_looksAtCode 7 none "looksAtCode" false 154 (sK 1 155) := ok_iconst (by decide +kernel : decode cX12_looksAtCode 154 = .ok (.iconst 1, 1)) (by decide)
theorem o242_155 : Okp RX12 cX12_looksAtCode 7 none "looksAtCode" false 155 (sB2 fAdd 156) := ok_iadd (by decide +kernel : decode cX12_looksAtCode 155 = .ok (.iadd, 1))
theorem o242_156 : Okp RX12 cX12_looksAtCode 7 none "looksAtCode" false 156 (sCV false 236 2 13 159) := ok_cv (by decide +kernel : decode cX12_looksAtCode 156 = .ok (.invokevirtual 293, 3)) mw_X12_293 rfl (by decide) wm_X12_missing wse_X12_missing (by decide) rfl
theorem o242_159 : Okp RX12 cX12_looksAtCode 7 none "looksAtCode" false 159 (sGo 311) := ok_goto (by decide +kernel : decode cX12_looksAtCode 159 = .ok (.goto 152, 3)) (by decide)
theorem o242_162 : Okp RX12 cX12_looksAtCode 7 none "looksAtCode" false 162 (sLI 5 164) := ok_iload (by decide +kernel : decode cX12_looksAtCode 162 = .ok (.iload 5, 2))
theorem o242_164 : Okp RX12 cX12_looksAtCode 7 none "looksAtCode" false 164 (sLR 0 165) := ok_aload_n (by decide +kernel : decode cX12_looksAtCode 164 = .ok (.aload_n 0, 1)) rfl
theorem o242_165 : Okp RX12 cX12_looksAtCode 7 none "looksAtCode" false 165 (sGR 13 5 168) := ok_getR (by decide +kernel : decode cX12_looksAtCode 165 = .ok (.getfield 20, 3)) fw_X12_20 rfl
theorem o242_168 : Okp RX12 cX12_looksAtCode 7 none "looksAtCode" false 168 (sLI 1 169) := ok_iload_n (by decide +kernel : decode cX12_looksAtCode 168 = .ok (.iload_n 1, 1)) rfl
theorem o242_169 : Okp RX12 cX12_looksAtCode 7 none "looksAtCode" false 169 (sIA 170) := ok_iaload (by decide +kernel : decode cX12_looksAtCode 169 = .ok (.iaload, 1))
theorem o242_170 : Okp RX12 cX12_looksAtCode 7 none "looksAtCode" false 170 (sI2 2 311 173) := ok_icmp_lt (by decide +kernel : decode cX12_looksAtCode 170 = .ok (.if_icmp .lt 141, 3)) (by decide)
theorem o242_173 : Okp RX12 cX12_looksAtCode 7 none "looksAtCode" false 173 (sLR 0 174) := ok_aload_n (by decide +kernel : decode cX12_looksAtCode 173 = .ok (.aload_n 0, 1)) rfl
theorem o242_174 : Okp RX12 cX12_looksAtCode 7 none "looksAtCode" false 174 (sLI 4 176) := ok_iload (by decide +kernel : decode cX12_looksAtCode 174 = .ok (.iload 4, 2))
theorem o242_176 : Okp RX12 cX12_looksAtCode 7 none "looksAtCode" false 176 (sK 1 177) := ok_iconst (by decide +kernel : decode cX12_looksAtCode 176 = .ok (.iconst 1, 1)) (by decide)
theorem o242_177 : Okp RX12 cX12_looksAtCode 7 none "looksAtCode" false 177 (sB2 fAdd 178) := ok_iadd (by decide +kernel : decode cX12_looksAtCode 177 = .ok (.iadd, 1))
theorem o242_178 : Okp RX12 cX12_looksAtCode 7 none "looksAtCode" false 178 (sCV false 236 2 13 181) := ok_cv (by decide +kernel : decode cX12_looksAtCode 178 = .ok (.invokevirtual 293, 3)) mw_X12_293 rfl (by decide) wm_X12_missing wse_X12_missing (by decide) rfl
theorem o242_181 : Okp RX12 cX12_looksAtCode 7 none "looksAtCode" false 181 (sGo 311) := ok_goto (by decide +kernel : decode cX12_looksAtCode 181 = .ok (.goto 130, 3)) (by decide)
theorem o242_184 : Okp RX12 cX12_looksAtCode 7 none "looksAtCode" false 184 (sLI 5 186) := ok_iload (by decide +kernel : decode cX12_looksAtCode 184 = .ok (.iload 5, 2))
theorem o242_186 : Okp RX12 cX12_looksAtCode 7 none "looksAtCode" false 186 (sLR 0 187) := ok_aload_n (by decide +kernel : decode cX12_looksAtCode 186 = .ok (.aload_n 0, 1)) rfl
theorem o242_187 : Okp RX12 cX12_looksAtCode 7 none "looksAtCode" false 187 (sGR 13 5 190) := ok_getR (by decide +kernel : decode cX12_looksAtCode 187 = .ok (.getfield 20, 3)) fw_X12_20 rfl
theorem o242_190 : Okp RX12 cX12_looksAtCode 7 none "looksAtCode" false 190 (sLI 1 191) := ok_iload_n (by decide +kernel : decode cX12_looksAtCode 190 = .ok (.iload_n 1, 1)) rfl
theorem o242_191 : Okp RX12 cX12_looksAtCode 7 none "looksAtCode" false 191 (sIA 192) := ok_iaload (by decide +kernel : decode cX12_looksAtCode 191 = .ok (.iaload, 1))
theorem o242_192 : Okp RX12 cX12_looksAtCode 7 none "looksAtCode" false 192 (sI2 3 205 195) := ok_icmp_ge (by decide +kernel : decode cX12_looksAtCode 192 = .ok (.if_icmp .ge 13, 3)) (by decide)
theorem o242_195 : Okp RX12 cX12_looksAtCode 7 none "looksAtCode" false 195 (sLR 0 196) := ok_aload_n (by decide +kernel : decode cX12_looksAtCode 195 = .ok (.aload_n 0, 1)) rfl
theorem o242_196 : Okp RX12 cX12_looksAtCode 7 none "looksAtCode" false 196 (sLI 1 197) := ok_iload_n (by decide +kernel : decode cX12_looksAtCode 196 = .ok (.iload_n 1, 1)) rfl
theorem o242_197 : Okp RX12 cX12_looksAtCode 7 none "looksAtCode" false 197 (sLI 5 199) := ok_iload (by decide +kernel : decode cX12_looksAtCode 197 = .ok (.iload 5, 2))
theorem o242_199 : Okp RX12 cX12_looksAtCode 7 none "looksAtCode" false 199 (sCV false 238 3 13 202) := ok_cv (by decide +kernel : decode cX12_looksAtCode 199 = .ok (.invokevirtual 289, 3)) mw_X12_289 rfl (by decide) wm_X12_isPlain wse_X12_isPlain (by decide) rfl
theorem o242_202 : Okp RX12 cX12_looksAtCode 7 none "looksAtCode" false 202 (sI1 1 311 205) := ok_if_ne (by decide +kernel : decode cX12_looksAtCode 202 = .ok (.ifCond .ne 109, 3)) (by decide)
theorem o242_205 : Okp RX12 cX12_looksAtCode 7 none "looksAtCode" false 205 (sLR 0 206) := ok_aload_n (by decide +kernel : decode cX12_looksAtCode 205 = .ok (.aload_n 0, 1)) rfl
theorem o242_206 : Okp RX12 cX12_looksAtCode 7 none "looksAtCode" false 206 (sLI 4 208) := ok_iload (by decide +kernel : decode cX12_looksAtCode 206 = .ok (.iload 4, 2))
theorem o242_208 : Okp RX12 cX12_looksAtCode 7 none "looksAtCode" false 208 (sK 1 209) := ok_iconst (by decide +kernel : decode cX12_looksAtCode 208 = .ok (.iconst 1, 1)) (by decide)
theorem o242_209 : Okp RX12 cX12_looksAtCode 7 none "looksAtCode" false 209 (sB2 fAdd 210) := ok_iadd (by decide +kernel : decode cX12_looksAtCode 209 = .ok (.iadd, 1))
theorem o242_210 : Okp RX12 cX12_looksAtCode 7 none "looksAtCode" false 210 (sCV false 236 2 13 213) := ok_cv (by decide +kernel : decode cX12_looksAtCode 210 = .ok (.invokevirtual 293, 3)) mw_X12_293 rfl (by decide) wm_X12_missing wse_X12_missing (by decide) rfl
theorem o242_213 : Okp RX12 cX12_looksAtCode 7 none "looksAtCode" false 213 (sGo 311) := ok_goto (by decide +kernel : decode cX12_looksAtCode 213 = .ok (.goto 98, 3)) (by decide)
theorem o242_216 : Okp RX12 cX12_looksAtCode 7 none "looksAtCode" false 216 (sLI 5 218) := ok_iload (by decide +kernel : decode cX12_looksAtCode 216 = .ok (.iload 5, 2))
theorem o242_218 : Okp RX12 cX12_looksAtCode 7 none "looksAtCode" false 218 (sLR 0 219) := ok_aload_n (by decide +kernel : decode cX12_looksAtCode 218 = .ok (.aload_n 0, 1)) rfl
theorem o242_219 : Okp RX12 cX12_looksAtCode 7 none "looksAtCode" false 219 (sGR 13 6 222) := ok_getR (by decide +kernel : decode cX12_looksAtCode 219 = .ok (.getfield 23, 3)) fw_X12_23 rfl
theorem o242_222 : Okp RX12 cX12_looksAtCode 7 none "looksAtCode" false 222 (sLI 1 223) := ok_iload_n (by decide +kernel : decode cX12_looksAtCode 222 = .ok (.iload_n 1, 1)) rfl
theorem o242_223 : Okp RX12 cX12_looksAtCode 7 none "looksAtCode" false 223 (sIA 224) := ok_iaload (by decide +kernel : decode cX12_looksAtCode 223 = .ok (.iaload, 1))
theorem o242_224 : Okp RX12 cX12_looksAtCode 7 none "looksAtCode" false 224 (sI2 2 311 227) := ok_icmp_lt (by decide +kernel : decode cX12_looksAtCode 224 = .ok (.if_icmp .lt 87, 3)) (by decide)
theorem o242_227 : Okp RX12 cX12_looksAtCode 7 none "looksAtCode" false 227 (sLR 0 228) := ok_aload_n (by decide +kernel : decode cX12_looksAtCode 227 = .ok (.aload_n 0, 1)) rfl
theorem o242_228 : Okp RX12 cX12_looksAtCode 7 none "looksAtCode" false 228 (sLI 4 230) := ok_iload (by decide +kernel : decode cX12_looksAtCode 228 = .ok (.iload 4, 2))
theorem o242_230 : Okp RX12 cX12_looksAtCode 7 none "looksAtCode" false 230 (sK 1 231) := ok_iconst (by decide +kernel : decode cX12_looksAtCode 230 = .ok (.iconst 1, 1)) (by decide)
theorem o242_231 : Okp RX12 cX12_looksAtCode 7 none "looksAtCode" false 231 (sB2 fAdd 232) := ok_iadd (by decide +kernel : decode cX12_looksAtCode 231 = .ok (.iadd, 1))
theorem o242_232 : Okp RX12 cX12_looksAtCode 7 none "looksAtCode" false 232 (sCV false 236 2 13 235) := ok_cv (by decide +kernel : decode cX12_looksAtCode 232 = .ok (.invokevirtual 293, 3)) mw_X12_293 rfl (by decide) wm_X12_missing wse_X12_missing (by decide) rfl
theorem o242_235 : Okp RX12 cX12_looksAtCode 7 none "looksAtCode" false 235 (sGo 311) := ok_goto (by decide +kernel : decode cX12_looksAtCode 235 = .ok (.goto 76, 3)) (by decide)
theorem o242_238 : Okp RX12 cX12_looksAtCode 7 none "looksAtCode" false 238 (sLI 5 240) := ok_iload (by decide +kernel : decode cX12_looksAtCode 238 = .ok (.iload 5, 2))
theorem o242_240 : Okp RX12 cX12_looksAtCode 7 none "looksAtCode" false 240 (sLR 0 241) := ok_aload_n (by decide +kernel : decode cX12_looksAtCode 240 = .ok (.aload_n 0, 1)) rfl
theorem o242_241 : Okp RX12 cX12_looksAtCode 7 none "looksAtCode" false 241 (sGR 13 7 244) := ok_getR (by decide +kernel : decode cX12_looksAtCode 241 = .ok (.getfield 26, 3)) fw_X12_26 rfl
theorem o242_244 : Okp RX12 cX12_looksAtCode 7 none "looksAtCode" false 244 (sLI 1 245) := ok_iload_n (by decide +kernel : decode cX12_looksAtCode 244 = .ok (.iload_n 1, 1)) rfl
theorem o242_245 : Okp RX12 cX12_looksAtCode 7 none "looksAtCode" false 245 (sIA 246) := ok_iaload (by decide +kernel : decode cX12_looksAtCode 245 = .ok (.iaload, 1))
theorem o242_246 : Okp RX12 cX12_looksAtCode 7 none "looksAtCode" false 246 (sI2 2 311 249) := ok_icmp_lt (by decide +kernel : decode cX12_looksAtCode 246 = .ok (.if_icmp .lt 65, 3)) (by decide)
theorem o242_249 : Okp RX12 cX12_looksAtCode 7 none "looksAtCode" false 249 (sLR 0 250) := ok_aload_n (by decide +kernel : decode cX12_looksAtCode 249 = .ok (.aload_n 0, 1)) rfl
theorem o242_250 : Okp RX12 cX12_looksAtCode 7 none "looksAtCode" false 250 (sLI 4 252) := ok_iload (by decide +kernel : decode cX12_looksAtCode 250 = .ok (.iload 4, 2))
theorem o242_252 : Okp RX12 cX12_looksAtCode 7 none "looksAtCode" false 252 (sK 1 253) := ok_iconst (by decide +kernel : decode cX12_looksAtCode 252 = .ok (.iconst 1, 1)) (by decide)
theorem o242_253 : Okp RX12 cX12_looksAtCode 7 none "looksAtCode" false 253 (sB2 fAdd 254) := ok_iadd (by decide +kernel : decode cX12_looksAtCode 253 = .ok (.iadd, 1))
theorem o242_254 : Okp RX12 cX12_looksAtCode 7 none "looksAtCode" false 254 (sCV false 236 2 13 257) := ok_cv (by decide +kernel : decode cX12_looksAtCode 254 = .ok (.invokevirtual 293, 3)) mw_X12_293 rfl (by decide) wm_X12_missing wse_X12_missing (by decide) rfl
theorem o242_257 : Okp RX12 cX12_looksAtCode 7 none "looksAtCode" false 257 (sGo 311) := ok_goto (by decide +kernel : decode cX12_looksAtCode 257 = .ok (.goto 54, 3)) (by decide)
theorem o242_260 : Okp RX12 cX12_looksAtCode 7 none "looksAtCode" false 260 (sK 0 261) := ok_iconst (by decide +kernel : decode cX12_looksAtCode 260 = .ok (.iconst 0, 1)) (by decide)
theorem o242_261 : Okp RX12 cX12_looksAtCode 7 none "looksAtCode" false 261 (sSI 6 263) := ok_istore (by decide +kernel : decode cX12_looksAtCode 261 = .ok (.istore 6, 2)) (by decide) (by decide)
theorem o242_263 : Okp RX12 cX12_looksAtCode 7 none "looksAtCode" false 263 (sLI 6 265) := ok_iload (by decide +kernel : decode cX12_looksAtCode 263 = .ok (.iload 6, 2))
theorem o242_265 : Okp RX12 cX12_looksAtCode 7 none "looksAtCode" false 265 (sLI 5 267) := ok_iload (by decide +kernel : decode cX12_looksAtCode 265 = .ok (.iload 5, 2))
theorem o242_267 : Okp RX12 cX12_looksAtCode 7 none "looksAtCode" false 267 (sI2 3 308 270) := ok_icmp_ge (by decide +kernel : decode cX12_looksAtCode 267 = .ok (.if_icmp .ge 41, 3)) (by decide)
theorem o242_270 : Okp RX12 cX12_looksAtCode 7 none "looksAtCode" false 270 (sLR 0 271) := ok_aload_n (by decide +kernel : decode cX12_looksAtCode 270 = .ok (.aload_n 0, 1)) rfl
theorem o242_271 : Okp RX12 cX12_looksAtCode 7 none "looksAtCode" false 271 (sLI 1 272) := ok_iload_n (by decide +kernel : decode cX12_looksAtCode 271 = .ok (.iload_n 1, 1)) rfl
theorem o242_272 : Okp RX12 cX12_looksAtCode 7 none "looksAtCode" false 272 (sLI 2 273) := ok_iload_n (by decide +kernel : decode cX12_looksAtCode 272 = .ok (.iload_n 2, 1)) rfl
theorem o242_273 : Okp RX12 cX12_looksAtCode 7 none "looksAtCode" false 273 (sLR 0 274) := ok_aload_n (by decide +kernel : decode cX12_looksAtCode 273 = .ok (.aload_n 0, 1)) rfl
theorem o242_274 : Okp RX12 cX12_looksAtCode 7 none "looksAtCode" false 274 (sLI 1 275) := ok_iload_n (by decide +kernel : decode cX12_looksAtCode 274 = .ok (.iload_n 1, 1)) rfl
theorem o242_275 : Okp RX12 cX12_looksAtCode 7 none "looksAtCode" false 275 (sLI 4 277) := ok_iload (by decide +kernel : decode cX12_looksAtCode 275 = .ok (.iload 4, 2))
theorem o242_277 : Okp RX12 cX12_looksAtCode 7 none "looksAtCode" false 277 (sK 2 278) := ok_iconst (by decide +kernel : decode cX12_looksAtCode 277 = .ok (.iconst 2, 1)) (by decide)
theorem o242_278 : Okp RX12 cX12_looksAtCode 7 none "looksAtCode" false 278 (sB2 fAdd 279) := ok_iadd (by decide +kernel : decode cX12_looksAtCode 278 = .ok (.iadd, 1))
theorem o242_279 : Okp RX12 cX12_looksAtCode 7 none "looksAtCode" false 279 (sLI 6 281) := ok_iload (by decide +kernel : decode cX12_looksAtCode 279 = .ok (.iload 6, 2))
theorem o242_281 : Okp RX12 cX12_looksAtCode 7 none "looksAtCode" false 281 (sB2 fAdd 282) := ok_iadd (by decide +kernel : decode cX12_looksAtCode 281 = .ok (.iadd, 1))
theorem o242_282 : Okp RX12 cX12_looksAtCode 7 none "looksAtCode" false 282 (sCV false 220 3 13 285) := ok_cv (by decide +kernel : decode cX12_looksAtCode 282 = .ok (.invokevirtual 246, 3)) mw_X12_246 rfl (by decide) wm_X12_byteAt wse_X12_byteAt (by decide) rfl
theorem o242_285 : Okp RX12 cX12_looksAtCode 7 none "looksAtCode" false 285 (sCV false 241 4 13 288) := ok_cv (by decide +kernel : decode cX12_looksAtCode 285 = .ok (.invokevirtual 305, 3)) mw_X12_305 rfl (by decide) wm_X12_begins wse_X12_begins (by decide) rfl
theorem o242_288 : Okp RX12 cX12_looksAtCode 7 none "looksAtCode" false 288 (sI1 1 302 291) := ok_if_ne (by decide +kernel : decode cX12_looksAtCode 288 = .ok (.ifCond .ne 14, 3)) (by decide)
theorem o242_291 : Okp RX12 cX12_looksAtCode 7 none "looksAtCode" false 291 (sLR 0 292) := ok_aload_n (by decide +kernel : decode cX12_looksAtCode 291 = .ok (.aload_n 0, 1)) rfl
theorem o242_292 : Okp RX12 cX12_looksAtCode 7 none "looksAtCode" false 292 (sLI 4 294) := ok_iload (by decide +kernel : decode cX12_looksAtCode 292 = .ok (.iload 4, 2))
theorem o242_294 : Okp RX12 cX12_looksAtCode 7 none "looksAtCode" false 294 (sK 2 295) := ok_iconst (by decide +kernel : decode cX12_looksAtCode 294 = .ok (.iconst 2, 1)) (by decide)
theorem o242_295 : Okp RX12 cX12_looksAtCode 7 none "looksAtCode" false 295 (sB2 fAdd 296) := ok_iadd (by decide +kernel : decode cX12_looksAtCode 295 = .ok (.iadd, 1))
theorem o242_296 : Okp RX12 cX12_looksAtCode 7 none "looksAtCode" false 296 (sLI 6 298) := ok_iload (by decide +kernel : decode cX12_looksAtCode 296 = .ok (.iload 6, 2))
theorem o242_298 : Okp RX12 cX12_looksAtCode 7 none "looksAtCode" false 298 (sB2 fAdd 299) := ok_iadd (by decide +kernel : decode cX12_looksAtCode 298 = .ok (.iadd, 1))
theorem o242_299 : Okp RX12 cX12_looksAtCode 7 none "looksAtCode" false 299 (sCV false 236 2 13 302) := ok_cv (by decide +kernel : decode cX12_looksAtCode 299 = .ok (.invokevirtual 293, 3)) mw_X12_293 rfl (by decide) wm_X12_missing wse_X12_missing (by decide) rfl
theorem o242_302 : Okp RX12 cX12_looksAtCode 7 none "looksAtCode" false 302 (sInc 6 1 305) := ok_iinc (by decide +kernel : decode cX12_looksAtCode 302 = .ok (.iinc 6 1, 3)) (by decide) (by decide)
theorem o242_305 : Okp RX12 cX12_looksAtCode 7 none "looksAtCode" false 305 (sGo 263) := ok_goto (by decide +kernel : decode cX12_looksAtCode 305 = .ok (.goto (-42), 3)) (by decide)
theorem o242_308 : Okp RX12 cX12_looksAtCode 7 none "looksAtCode" false 308 (sGo 311) := ok_goto (by decide +kernel : decode cX12_looksAtCode 308 = .ok (.goto 3, 3)) (by decide)
theorem o242_311 : Okp RX12 cX12_looksAtCode 7 none "looksAtCode" false 311 (sLI 3 312) := ok_iload_n (by decide +kernel : decode cX12_looksAtCode 311 = .ok (.iload_n 3, 1)) rfl
theorem o242_312 : Okp RX12 cX12_looksAtCode 7 none "looksAtCode" false 312 (sLR 0 313) := ok_aload_n (by decide +kernel : decode cX12_looksAtCode 312 = .ok (.aload_n 0, 1)) rfl
theorem o242_313 : Okp RX12 cX12_looksAtCode 7 none "looksAtCode" false 313 (sLI 1 314) := ok_iload_n (by decide +kernel : decode cX12_looksAtCode 313 = .ok (.iload_n 1, 1)) rfl
theorem o242_314 : Okp RX12 cX12_looksAtCode 7 none "looksAtCode" false 314 (sLI 4 316) := ok_iload (by decide +kernel : decode cX12_looksAtCode 314 = .ok (.iload 4, 2))
theorem o242_316 : Okp RX12 cX12_looksAtCode 7 none "looksAtCode" false 316 (sCV false 240 3 13 319) := ok_cv (by decide +kernel : decode cX12_looksAtCode 316 = .ok (.invokevirtual 302, 3)) mw_X12_302 rfl (by decide) wm_X12_length wse_X12_length (by decide) rfl
theorem o242_319 : Okp RX12 cX12_looksAtCode 7 none "looksAtCode" false 319 (sB2 fAdd 320) := ok_iadd (by decide +kernel : decode cX12_looksAtCode 319 = .ok (.iadd, 1))
theorem o242_320 : Okp RX12 cX12_looksAtCode 7 none "looksAtCode" false 320 (sSI 3 321) := ok_istore_n (by decide +kernel : decode cX12_looksAtCode 320 = .ok (.istore_n 3, 1)) rfl (by decide) (by decide)
theorem o242_321 : Okp RX12 cX12_looksAtCode 7 none "looksAtCode" false 321 (sGo 2) := ok_goto (by decide +kernel : decode cX12_looksAtCode 321 = .ok (.goto (-319), 3)) (by decide)
theorem o242_324 : Okp RX12 cX12_looksAtCode 7 none "looksAtCode" false 324 sRV := ok_vret rfl (by decide +kernel : decode cX12_looksAtCode 324 = .ok (.return_, 1))
theorem oc242_0 : ∀ pc, Mnp (c242_0 pc) ∧ Okp RX12 cX12_looksAtCode 7 none "looksAtCode" false pc (c242_0 pc) := by
  intro pc
  unfold c242_0
  split
  · exact ⟨mn_sK, o242_0⟩
  · exact ⟨mn_sSI, o242_1⟩
  · exact ⟨mn_sLI, o242_2⟩
  · exact ⟨mn_sLR, o242_3⟩
  · exact ⟨mn_sGR, o242_4⟩
  · exact ⟨mn_sLI, o242_7⟩
  · exact ⟨mn_sIA, o242_8⟩
  · exact ⟨mn_sI2, o242_9⟩
  · exact ⟨mn_sLR, o242_12⟩
  · exact ⟨mn_sGR, o242_13⟩
  · exact ⟨mn_sLI, o242_16⟩
  · exact ⟨mn_sIA, o242_17⟩
  · exact ⟨mn_sLI, o242_18⟩
  · exact ⟨mn_sB2, o242_19⟩
  · exact ⟨mn_sSI, o242_20⟩
  · exact ⟨mn_sLR, o242_22⟩
  · exact ⟨mn_sLI, o242_23⟩
  · exact ⟨mn_sX, ok_X⟩
theorem oc242_1 : ∀ pc, Mnp (c242_1 pc) ∧ Okp RX12 cX12_looksAtCode 7 none "looksAtCode" false pc (c242_1 pc) := by
  intro pc
  unfold c242_1
  split
  · exact ⟨mn_sLI, o242_24⟩
  · exact ⟨mn_sK, o242_26⟩
  · exact ⟨mn_sB2, o242_27⟩
  · exact ⟨mn_sCV, o242_28⟩
  · exact ⟨mn_sSI, o242_31⟩
  · exact ⟨mn_sLR, o242_33⟩
  · exact ⟨mn_sLI, o242_34⟩
  · exact ⟨mn_sLI, o242_35⟩
  · exact ⟨mn_sCV, o242_37⟩
  · exact ⟨mn_sSw, o242_40⟩
  · exact ⟨mn_sX, ok_X⟩
theorem oc242_5 : ∀ pc, Mnp (c242_5 pc) ∧ Okp RX12 cX12_looksAtCode 7 none "looksAtCode" false pc (c242_5 pc) := by
  intro pc
  unfold c242_5
  split
  · exact ⟨mn_sLR, o242_140⟩
  · exact ⟨mn_sLI, o242_141⟩
  · exact ⟨mn_sLI, o242_142⟩
  · exact ⟨mn_sLI, o242_143⟩
  · exact ⟨mn_sX, ok_X⟩
theorem oc242_6 : ∀ pc, Mnp (c242_6 pc) ∧ Okp RX12 cX12_looksAtCode 7 none "looksAtCode" false pc (c242_6 pc) := by
  intro pc
  unfold c242_6
  split
  · exact ⟨mn_sCV, o242_145⟩
  · exact ⟨mn_sI1, o242_148⟩
  · exact ⟨mn_sLR, o242_151⟩
  · exact ⟨mn_sLI, o242_152⟩
  · exact ⟨mn_sK, o242_154⟩
  · exact ⟨mn_sB2, o242_155⟩
  · exact ⟨mn_sCV, o242_156⟩
  · exact ⟨mn_sGo, o242_159⟩
  · exact ⟨mn_sLI, o242_162⟩
  · exact ⟨mn_sLR, o242_164⟩
  · exact ⟨mn_sGR, o242_165⟩
  · exact ⟨mn_sX, ok_X⟩
theorem oc242_7 : ∀ pc, Mnp (c242_7 pc) ∧ Okp RX12 cX12_looksAtCode 7 none "looksAtCode" false pc (c242_7 pc) := by
  intro pc
  unfold c242_7
  split
  · exact ⟨mn_sLI, o242_168⟩
  · exact ⟨mn_sIA, o242_169⟩
  · exact ⟨mn_sI2, o242_170⟩
  · exact ⟨mn_sLR, o242_173⟩
  · exact ⟨mn_sLI, o242_174⟩
  · exact ⟨mn_sK, o242_176⟩
  · exact ⟨mn_sB2, o242_177⟩
  · exact ⟨mn_sCV, o242_178⟩
  · exact ⟨mn_sGo, o242_181⟩
  · exact ⟨mn_sLI, o242_184⟩
  · exact ⟨mn_sLR, o242_186⟩
  · exact ⟨mn_sGR, o242_187⟩
  · exact ⟨mn_sLI, o242_190⟩
  · exact ⟨mn_sIA, o242_191⟩
  · exact ⟨mn_sX, ok_X⟩
theorem oc242_8 : ∀ pc, Mnp (c242_8 pc) ∧ Okp RX12 cX12_looksAtCode 7 none "looksAtCode" false pc (c242_8 pc) := by
  intro pc
  unfold c242_8
  split
  · exact ⟨mn_sI2, o242_192⟩
  · exact ⟨mn_sLR, o242_195⟩
  · exact ⟨mn_sLI, o242_196⟩
  · exact ⟨mn_sLI, o242_197⟩
  · exact ⟨mn_sCV, o242_199⟩
  · exact ⟨mn_sI1, o242_202⟩
  · exact ⟨mn_sLR, o242_205⟩
  · exact ⟨mn_sLI, o242_206⟩
  · exact ⟨mn_sK, o242_208⟩
  · exact ⟨mn_sB2, o242_209⟩
  · exact ⟨mn_sCV, o242_210⟩
  · exact ⟨mn_sGo, o242_213⟩
  · exact ⟨mn_sX, ok_X⟩
theorem oc242_9 : ∀ pc, Mnp (c242_9 pc) ∧ Okp RX12 cX12_looksAtCode 7 none "looksAtCode" false pc (c242_9 pc) := by
  intro pc
  unfold c242_9
  split
  · exact ⟨mn_sLI, o242_216⟩
  · exact ⟨mn_sLR, o242_218⟩
  · exact ⟨mn_sGR, o242_219⟩
  · exact ⟨mn_sLI, o242_222⟩
  · exact ⟨mn_sIA, o242_223⟩
  · exact ⟨mn_sI2, o242_224⟩
  · exact ⟨mn_sLR, o242_227⟩
  · exact ⟨mn_sLI, o242_228⟩
  · exact ⟨mn_sK, o242_230⟩
  · exact ⟨mn_sB2, o242_231⟩
  · exact ⟨mn_sCV, o242_232⟩
  · exact ⟨mn_sGo, o242_235⟩
  · exact ⟨mn_sLI, o242_238⟩
  · exact ⟨mn_sX, ok_X⟩
theorem oc242_10 : ∀ pc, Mnp (c242_10 pc) ∧ Okp RX12 cX12_looksAtCode 7 none "looksAtCode" false pc (c242_10 pc) := by
  intro pc
  unfold c242_10
  split
  · exact ⟨mn_sLR, o242_240⟩
  · exact ⟨mn_sGR, o242_241⟩
  · exact ⟨mn_sLI, o242_244⟩
  · exact ⟨mn_sIA, o242_245⟩
  · exact ⟨mn_sI2, o242_246⟩
  · exact ⟨mn_sLR, o242_249⟩
  · exact ⟨mn_sLI, o242_250⟩
  · exact ⟨mn_sK, o242_252⟩
  · exact ⟨mn_sB2, o242_253⟩
  · exact ⟨mn_sCV, o242_254⟩
  · exact ⟨mn_sGo, o242_257⟩
  · exact ⟨mn_sK, o242_260⟩
  · exact ⟨mn_sSI, o242_261⟩
  · exact ⟨mn_sLI, o242_263⟩
  · exact ⟨mn_sX, ok_X⟩
theorem oc242_11 : ∀ pc, Mnp (c242_11 pc) ∧ Okp RX12 cX12_looksAtCode 7 none "looksAtCode" false pc (c242_11 pc) := by
  intro pc
  unfold c242_11
  split
  · exact ⟨mn_sLI, o242_265⟩
  · exact ⟨mn_sI2, o242_267⟩
  · exact ⟨mn_sLR, o242_270⟩
  · exact ⟨mn_sLI, o242_271⟩
  · exact ⟨mn_sLI, o242_272⟩
  · exact ⟨mn_sLR, o242_273⟩
  · exact ⟨mn_sLI, o242_274⟩
  · exact ⟨mn_sLI, o242_275⟩
  · exact ⟨mn_sK, o242_277⟩
  · exact ⟨mn_sB2, o242_278⟩
  · exact ⟨mn_sLI, o242_279⟩
  · exact ⟨mn_sB2, o242_281⟩
  · exact ⟨mn_sCV, o242_282⟩
  · exact ⟨mn_sCV, o242_285⟩
  · exact ⟨mn_sX, ok_X⟩
theorem oc242_12 : ∀ pc, Mnp (c242_12 pc) ∧ Okp RX12 cX12_looksAtCode 7 none "looksAtCode" false pc (c242_12 pc) := by
  intro pc
  unfold c242_12
  split
  · exact ⟨mn_sI1, o242_288⟩
  · exact ⟨mn_sLR, o242_291⟩
  · exact ⟨mn_sLI, o242_292⟩
  · exact ⟨mn_sK, o242_294⟩
  · exact ⟨mn_sB2, o242_295⟩
  · exact ⟨mn_sLI, o242_296⟩
  · exact ⟨mn_sB2, o242_298⟩
  · exact ⟨mn_sCV, o242_299⟩
  · exact ⟨mn_sInc, o242_302⟩
  · exact ⟨mn_sGo, o242_305⟩
  · exact ⟨mn_sGo, o242_308⟩
  · exact ⟨mn_sLI, o242_311⟩
  · exact ⟨mn_sX, ok_X⟩
theorem oc242_13 : ∀ pc, Mnp (c242_13 pc) ∧ Okp RX12 cX12_looksAtCode 7 none "looksAtCode" false pc (c242_13 pc) := by
  intro pc
  unfold c242_13
  split
  · exact ⟨mn_sLR, o242_312⟩
  · exact ⟨mn_sLI, o242_313⟩
  · exact ⟨mn_sLI, o242_314⟩
  · exact ⟨mn_sCV, o242_316⟩
  · exact ⟨mn_sB2, o242_319⟩
  · exact ⟨mn_sSI, o242_320⟩
  · exact ⟨mn_sGo, o242_321⟩
  · exact ⟨mn_sRV, o242_324⟩
  · exact ⟨mn_sX, ok_X⟩
theorem oc242 : ∀ pc, Mnp (c242 pc) ∧ Okp RX12 cX12_looksAtCode 7 none "looksAtCode" false pc (c242 pc) := by
  intro pc
  unfold c242
  split
  · exact oc242_0 pc
  · exact oc242_1 pc
  · exact oc242_5 pc
  · exact oc242_6 pc
  · exact oc242_7 pc
  · exact oc242_8 pc
  · exact oc242_9 pc
  · exact oc242_10 pc
  · exact oc242_11 pc
  · exact oc242_12 pc
  · exact oc242_13 pc
  · exact ⟨mn_sX, ok_X⟩
