theorem o192_0 : Okp RX11 cX11_boot 2 (some .int) "boot" false 0 (sLI 1 1) := ok_iload_n (by decide +kernel : decode cX11_boot 0 = .ok (.iload_n 1, 1)) rfl
theorem o192_1 : Okp RX11 cX11_boot 2 (some .int) "boot" false 1 (sI1 2 12 4) := ok_if_lt (by decide +kernel : decode cX11_boot 1 = .ok (.ifCond .lt 11, 3)) (by decide)
theorem o192_4 : Okp RX11 cX11_boot 2 (some .int) "boot" false 4 (sLI 1 5) := ok_iload_n (by decide +kernel : decode cX11_boot 4 = .ok (.iload_n 1, 1)) rfl
theorem o192_5 : Okp RX11 cX11_boot 2 (some .int) "boot" false 5 (sLR 0 6) := ok_aload_n (by decide +kernel : decode cX11_boot 5 = .ok (.aload_n 0, 1)) rfl
theorem o192_6 : Okp RX11 cX11_boot 2 (some .int) "boot" false 6 (sGI 12 1 9) := ok_getI (by decide +kernel : decode cX11_boot 6 = .ok (.getfield 13, 3)) fw_X11_13 rfl
theorem o192_9 : Okp RX11 cX11_boot 2 (some .int) "boot" false 9 (sI2 5 15 12) := ok_icmp_le (by decide +kernel : decode cX11_boot 9 = .ok (.if_icmp .le 6, 3)) (by decide)
theorem o192_12 : Okp RX11 cX11_boot 2 (some .int) "boot" false 12 (sK (-2) 14) := ok_bipush (by decide +kernel : decode cX11_boot 12 = .ok (.bipush (-2), 2)) (by decide)
theorem o192_14 : Okp RX11 cX11_boot 2 (some .int) "boot" false 14 sRI := ok_iret rfl (by decide +kernel : decode cX11_boot 14 = .ok (.ireturn, 1))
theorem o192_15 : Okp RX11 cX11_boot 2 (some .int) "boot" false 15 (sLR 0 16) := ok_aload_n (by decide +kernel : decode cX11_boot 15 = .ok (.aload_n 0, 1)) rfl
theorem o192_16 : Okp RX11 cX11_boot 2 (some .int) "boot" false 16 (sK 0 17) := ok_iconst (by decide +kernel : decode cX11_boot 16 = .ok (.iconst 0, 1)) (by decide)
theorem o192_17 : Okp RX11 cX11_boot 2 (some .int) "boot" false 17 (sPI 12 1 20) := ok_putI (by decide +kernel : decode cX11_boot 17 = .ok (.putfield 13, 3)) fw_X11_13 ⟨⟨tyX11_ok, nmX11⟩, Or.inl rfl, rfl⟩ rfl
theorem o192_20 : Okp RX11 cX11_boot 2 (some .int) "boot" false 20 (sLR 0 21) := ok_aload_n (by decide +kernel : decode cX11_boot 20 = .ok (.aload_n 0, 1)) rfl
theorem o192_21 : Okp RX11 cX11_boot 2 (some .int) "boot" false 21 (sLR 0 22) := ok_aload_n (by decide +kernel : decode cX11_boot 21 = .ok (.aload_n 0, 1)) rfl
theorem o192_22 : Okp RX11 cX11_boot 2 (some .int) "boot" false 22 (sGR 12 7 25) := ok_getR (by decide +kernel : decode cX11_boot 22 = .ok (.getfield 46, 3)) fw_X11_46 rfl
theorem o192_25 : Okp RX11 cX11_boot 2 (some .int) "boot" false 25 (sLR 0 26) := ok_aload_n (by decide +kernel : decode cX11_boot 25 = .ok (.aload_n 0, 1)) rfl
theorem o192_26 : Okp RX11 cX11_boot 2 (some .int) "boot" false 26 (sGR 12 0 29) := ok_getR (by decide +kernel : decode cX11_boot 26 = .ok (.getfield 9, 3)) fw_X11_9 rfl
theorem o192_29 : Okp RX11 cX11_boot 2 (some .int) "boot" false 29 (sLI 1 30) := ok_iload_n (by decide +kernel : decode cX11_boot 29 = .ok (.iload_n 1, 1)) rfl
theorem o192_30 : Okp RX11 cX11_boot 2 (some .int) "boot" false 30 (sLR 0 31) := ok_aload_n (by decide +kernel : decode cX11_boot 30 = .ok (.aload_n 0, 1)) rfl
theorem o192_31 : Okp RX11 cX11_boot 2 (some .int) "boot" false 31 (sGR 12 2 34) := ok_getR (by decide +kernel : decode cX11_boot 31 = .ok (.getfield 19, 3)) fw_X11_19 rfl
theorem o192_34 : Okp RX11 cX11_boot 2 (some .int) "boot" false 34 (sCV false 98 4 7 37) := ok_cv (by decide +kernel : decode cX11_boot 34 = .ok (.invokevirtual 115, 3)) mw_X11_115 rfl (by decide) wm_X6_read wse_X6_read (by decide) rfl
theorem o192_37 : Okp RX11 cX11_boot 2 (some .int) "boot" false 37 (sCV false 201 2 12 40) := ok_cv (by decide +kernel : decode cX11_boot 37 = .ok (.invokevirtual 68, 3)) mw_X11_68 rfl (by decide) wm_X11_tell wse_X11_tell (by decide) rfl
theorem o192_40 : Okp RX11 cX11_boot 2 (some .int) "boot" false 40 (sLR 0 41) := ok_aload_n (by decide +kernel : decode cX11_boot 40 = .ok (.aload_n 0, 1)) rfl
theorem o192_41 : Okp RX11 cX11_boot 2 (some .int) "boot" false 41 (sGI 12 3 44) := ok_getI (by decide +kernel : decode cX11_boot 41 = .ok (.getfield 23, 3)) fw_X11_23 rfl
theorem o192_44 : Okp RX11 cX11_boot 2 (some .int) "boot" false 44 (sI1 0 49 47) := ok_if_eq (by decide +kernel : decode cX11_boot 44 = .ok (.ifCond .eq 5, 3)) (by decide)
theorem o192_47 : Okp RX11 cX11_boot 2 (some .int) "boot" false 47 (sK (-1) 48) := ok_iconst (by decide +kernel : decode cX11_boot 47 = .ok (.iconst (-1), 1)) (by decide)
theorem o192_48 : Okp RX11 cX11_boot 2 (some .int) "boot" false 48 sRI := ok_iret rfl (by decide +kernel : decode cX11_boot 48 = .ok (.ireturn, 1))
theorem o192_49 : Okp RX11 cX11_boot 2 (some .int) "boot" false 49 (sLR 0 50) := ok_aload_n (by decide +kernel : decode cX11_boot 49 = .ok (.aload_n 0, 1)) rfl
theorem o192_50 : Okp RX11 cX11_boot 2 (some .int) "boot" false 50 (sGR 12 8 53) := ok_getR (by decide +kernel : decode cX11_boot 50 = .ok (.getfield 53, 3)) fw_X11_53 rfl
theorem o192_53 : Okp RX11 cX11_boot 2 (some .int) "boot" false 53 (sLR 0 54) := ok_aload_n (by decide +kernel : decode cX11_boot 53 = .ok (.aload_n 0, 1)) rfl
theorem o192_54 : Okp RX11 cX11_boot 2 (some .int) "boot" false 54 (sGR 12 7 57) := ok_getR (by decide +kernel : decode cX11_boot 54 = .ok (.getfield 46, 3)) fw_X11_46 rfl
theorem o192_57 : Okp RX11 cX11_boot 2 (some .int) "boot" false 57 (sCV false 63 2 6 60) := ok_cv (by decide +kernel : decode cX11_boot 57 = .ok (.invokevirtual 119, 3)) mw_X11_119 rfl (by decide) wm_X5_start wse_X5_start (by decide) rfl
theorem o192_60 : Okp RX11 cX11_boot 2 (some .int) "boot" false 60 (sLR 0 61) := ok_aload_n (by decide +kernel : decode cX11_boot 60 = .ok (.aload_n 0, 1)) rfl
theorem o192_61 : Okp RX11 cX11_boot 2 (some .int) "boot" false 61 (sGR 12 7 64) := ok_getR (by decide +kernel : decode cX11_boot 61 = .ok (.getfield 46, 3)) fw_X11_46 rfl
theorem o192_64 : Okp RX11 cX11_boot 2 (some .int) "boot" false 64 (sGI 7 1 67) := ok_getI (by decide +kernel : decode cX11_boot 64 = .ok (.getfield 123, 3)) fw_X11_123 rfl
theorem o192_67 : Okp RX11 cX11_boot 2 (some .int) "boot" false 67 sRI := ok_iret rfl (by decide +kernel : decode cX11_boot 67 = .ok (.ireturn, 1))
theorem oc192_0 : ∀ pc, Mnp (c192_0 pc) ∧ Okp RX11 cX11_boot 2 (some .int) "boot" false pc (c192_0 pc) := by
  intro pc
  unfold c192_0
  split
  · exact ⟨mn_sLI, o192_0⟩
  · exact ⟨mn_sI1, o192_1⟩
  · exact ⟨mn_sLI, o192_4⟩
  · exact ⟨mn_sLR, o192_5⟩
  · exact ⟨mn_sGI, o192_6⟩
  · exact ⟨mn_sI2, o192_9⟩
  · exact ⟨mn_sK, o192_12⟩
  · exact ⟨mn_sRI, o192_14⟩
  · exact ⟨mn_sLR, o192_15⟩
  · exact ⟨mn_sK, o192_16⟩
  · exact ⟨mn_sPI, o192_17⟩
  · exact ⟨mn_sLR, o192_20⟩
  · exact ⟨mn_sLR, o192_21⟩
  · exact ⟨mn_sGR, o192_22⟩
  · exact ⟨mn_sX, ok_X⟩
theorem oc192_1 : ∀ pc, Mnp (c192_1 pc) ∧ Okp RX11 cX11_boot 2 (some .int) "boot" false pc (c192_1 pc) := by
  intro pc
  unfold c192_1
  split
  · exact ⟨mn_sLR, o192_25⟩
  · exact ⟨mn_sGR, o192_26⟩
  · exact ⟨mn_sLI, o192_29⟩
  · exact ⟨mn_sLR, o192_30⟩
  · exact ⟨mn_sGR, o192_31⟩
  · exact ⟨mn_sCV, o192_34⟩
  · exact ⟨mn_sCV, o192_37⟩
  · exact ⟨mn_sLR, o192_40⟩
  · exact ⟨mn_sGI, o192_41⟩
  · exact ⟨mn_sI1, o192_44⟩
  · exact ⟨mn_sK, o192_47⟩
  · exact ⟨mn_sX, ok_X⟩
theorem oc192_2 : ∀ pc, Mnp (c192_2 pc) ∧ Okp RX11 cX11_boot 2 (some .int) "boot" false pc (c192_2 pc) := by
  intro pc
  unfold c192_2
  split
  · exact ⟨mn_sRI, o192_48⟩
  · exact ⟨mn_sLR, o192_49⟩
  · exact ⟨mn_sGR, o192_50⟩
  · exact ⟨mn_sLR, o192_53⟩
  · exact ⟨mn_sGR, o192_54⟩
  · exact ⟨mn_sCV, o192_57⟩
  · exact ⟨mn_sLR, o192_60⟩
  · exact ⟨mn_sGR, o192_61⟩
  · exact ⟨mn_sGI, o192_64⟩
  · exact ⟨mn_sRI, o192_67⟩
  · exact ⟨mn_sX, ok_X⟩
theorem oc192 : ∀ pc, Mnp (c192 pc) ∧ Okp RX11 cX11_boot 2 (some .int) "boot" false pc (c192 pc) := by
  intro pc
  unfold c192
  split
  · exact oc192_0 pc
  · exact oc192_1 pc
  · exact oc192_2 pc
  · exact ⟨mn_sX, ok_X⟩
theorem o193_0 : Okp RX11 cX11_run 2 (some .int) "run" false 0 (sLI 1 1) := ok_iload_n (by decide +kernel : decode cX11_run 0 = .ok (.iload_n 1, 1)) rfl
theorem o193_1 : Okp RX11 cX11_run 2 (some .int) "run" false 1 (sI1 2 21 4) := ok_if_lt (by decide +kernel : decode cX11_run 1 = .ok (.ifCond .lt 20, 3)) (by decide)
theorem o193_4 : Okp RX11 cX11_run 2 (some .int) "run" false 4 (sLI 1 5) := ok_iload_n (by decide +kernel : decode cX11_run 4 = .ok (.iload_n 1, 1)) rfl
theorem o193_5 : Okp RX11 cX11_run 2 (some .int) "run" false 5 (sK 10000 8) := ok_sipush (by decide +kernel : decode cX11_run 5 = .ok (.sipush 10000, 3)) (by decide)
theorem o193_8 : Okp RX11 cX11_run 2 (some .int) "run" false 8 (sI2 4 21 11) := ok_icmp_gt (by decide +kernel : decode cX11_run 8 = .ok (.if_icmp .gt 13, 3)) (by decide)
theorem o193_11 : Okp RX11 cX11_run 2 (some .int) "run" false 11 (sLR 0 12) := ok_aload_n (by decide +kernel : decode cX11_run 11 = .ok (.aload_n 0, 1)) rfl
theorem o193_12 : Okp RX11 cX11_run 2 (some .int) "run" false 12 (sGR 12 8 15) := ok_getR (by decide +kernel : decode cX11_run 12 = .ok (.getfield 53, 3)) fw_X11_53 rfl
theorem o193_15 : Okp RX11 cX11_run 2 (some .int) "run" false 15 (sGI 6 0 18) := ok_getI (by decide +kernel : decode cX11_run 15 = .ok (.getfield 126, 3)) fw_X11_126 rfl
theorem o193_18 : Okp RX11 cX11_run 2 (some .int) "run" false 18 (sI1 1 23 21) := ok_if_ne (by decide +kernel : decode cX11_run 18 = .ok (.ifCond .ne 5, 3)) (by decide)
theorem o193_21 : Okp RX11 cX11_run 2 (some .int) "run" false 21 (sK (-1) 22) := ok_iconst (by decide +kernel : decode cX11_run 21 = .ok (.iconst (-1), 1)) (by decide)
theorem o193_22 : Okp RX11 cX11_run 2 (some .int) "run" false 22 sRI := ok_iret rfl (by decide +kernel : decode cX11_run 22 = .ok (.ireturn, 1))
theorem o193_23 : Okp RX11 cX11_run 2 (some .int) "run" false 23 (sLR 0 24) := ok_aload_n (by decide +kernel : decode cX11_run 23 = .ok (.aload_n 0, 1)) rfl
theorem o193_24 : Okp RX11 cX11_run 2 (some .int) "run" false 24 (sGR 12 8 27) := ok_getR (by decide +kernel : decode cX11_run 24 = .ok (.getfield 53, 3)) fw_X11_53 rfl
theorem o193_27 : Okp RX11 cX11_run 2 (some .int) "run" false 27 (sLI 1 28) := ok_iload_n (by decide +kernel : decode cX11_run 27 = .ok (.iload_n 1, 1)) rfl
theorem o193_28 : Okp RX11 cX11_run 2 (some .int) "run" false 28 (sCV false 72 2 6 31) := ok_cv (by decide +kernel : decode cX11_run 28 = .ok (.invokevirtual 130, 3)) mw_X11_130 rfl (by decide) wm_X5_goOn wse_X5_goOn (by decide) rfl
theorem o193_31 : Okp RX11 cX11_run 2 (some .int) "run" false 31 sRI := ok_iret rfl (by decide +kernel : decode cX11_run 31 = .ok (.ireturn, 1))
theorem oc193_0 : ∀ pc, Mnp (c193_0 pc) ∧ Okp RX11 cX11_run 2 (some .int) "run" false pc (c193_0 pc) := by
  intro pc
  unfold c193_0
  split
  · exact ⟨mn_sLI, o193_0⟩
  · exact ⟨mn_sI1, o193_1⟩
  · exact ⟨mn_sLI, o193_4⟩
  · exact ⟨mn_sK, o193_5⟩
  · exact ⟨mn_sI2, o193_8⟩
  · exact ⟨mn_sLR, o193_11⟩
  · exact ⟨mn_sGR, o193_12⟩
  · exact ⟨mn_sGI, o193_15⟩
  · exact ⟨mn_sI1, o193_18⟩
  · exact ⟨mn_sK, o193_21⟩
  · exact ⟨mn_sRI, o193_22⟩
  · exact ⟨mn_sLR, o193_23⟩
  · exact ⟨mn_sX, ok_X⟩
theorem oc193_1 : ∀ pc, Mnp (c193_1 pc) ∧ Okp RX11 cX11_run 2 (some .int) "run" false pc (c193_1 pc) := by
  intro pc
  unfold c193_1
  split
  · exact ⟨mn_sGR, o193_24⟩
  · exact ⟨mn_sLI, o193_27⟩
  · exact ⟨mn_sCV, o193_28⟩
  · exact ⟨mn_sRI, o193_31⟩
  · exact ⟨mn_sX, ok_X⟩
theorem oc193 : ∀ pc, Mnp (c193 pc) ∧ Okp RX11 cX11_run 2 (some .int) "run" false pc (c193 pc) := by
  intro pc
  unfold c193
  split
  · exact oc193_0 pc
  · exact oc193_1 pc
  · exact ⟨mn_sX, ok_X⟩
theorem o194_0 : Okp RX11 cX11_about 2 (some .int) "about" false 0 (sLR 0 1) := ok_aload_n (by decide +kernel : decode cX11_about 0 = .ok (.aload_n 0, 1)) rfl
theorem o194_1 : Okp RX11 cX11_about 2 (some .int) "about" false 1 (sGR 12 8 4) := ok_getR (by decide +kernel : decode cX11_about 1 = .ok (.getfield 53, 3)) fw_X11_53 rfl
theorem o194_4 : Okp RX11 cX11_about 2 (some .int) "about" false 4 (sGI 6 0 7) := ok_getI (by decide +kernel : decode cX11_about 4 = .ok (.getfield 126, 3)) fw_X11_126 rfl
theorem o194_7 : Okp RX11 cX11_about 2 (some .int) "about" false 7 (sI1 1 12 10) := ok_if_ne (by decide +kernel : decode cX11_about 7 = .ok (.ifCond .ne 5, 3)) (by decide)
theorem o194_10 : Okp RX11 cX11_about 2 (some .int) "about" false 10 (sK (-1) 11) := ok_iconst (by decide +kernel : decode cX11_about 10 = .ok (.iconst (-1), 1)) (by decide)
theorem o194_11 : Okp RX11 cX11_about 2 (some .int) "about" false 11 sRI := ok_iret rfl (by decide +kernel : decode cX11_about 11 = .ok (.ireturn, 1))
theorem o194_12 : Okp RX11 cX11_about 2 (some .int) "about" false 12 (sLI 1 13) := ok_iload_n (by decide +kernel : decode cX11_about 12 = .ok (.iload_n 1, 1)) rfl
theorem o194_13 : Okp RX11 cX11_about 2 (some .int) "about" false 13 (sSw [(0, 56), (1, 64), (2, 80), (3, 88), (4, 99), (5, 110), (6, 121)] 129) := ok_tsw (by decide +kernel : decode cX11_about 13 = .ok (.tableswitch 116 0 6 #[43, 51, 67, 75, 86, 97, 108], 43)) (by decide) (by decide) (by decide)
theorem o194_56 : Okp RX11 cX11_about 2 (some .int) "about" false 56 (sLR 0 57) := ok_aload_n (by decide +kernel : decode cX11_about 56 = .ok (.aload_n 0, 1)) rfl
theorem o194_57 : Okp RX11 cX11_about 2 (some .int) "about" false 57 (sGR 12 8 60) := ok_getR (by decide +kernel : decode cX11_about 57 = .ok (.getfield 53, 3)) fw_X11_53 rfl
theorem o194_60 : Okp RX11 cX11_about 2 (some .int) "about" false 60 (sGI 6 9 63) := ok_getI (by decide +kernel : decode cX11_about 60 = .ok (.getfield 133, 3)) fw_X11_133 rfl
theorem o194_63 : Okp RX11 cX11_about 2 (some .int) "about" false 63 sRI := ok_iret rfl (by decide +kernel : decode cX11_about 63 = .ok (.ireturn, 1))
theorem o194_64 : Okp RX11 cX11_about 2 (some .int) "about" false 64 (sLR 0 65) := ok_aload_n (by decide +kernel : decode cX11_about 64 = .ok (.aload_n 0, 1)) rfl
theorem o194_65 : Okp RX11 cX11_about 2 (some .int) "about" false 65 (sGR 12 8 68) := ok_getR (by decide +kernel : decode cX11_about 65 = .ok (.getfield 53, 3)) fw_X11_53 rfl
theorem o194_68 : Okp RX11 cX11_about 2 (some .int) "about" false 68 (sCV false 70 1 6 71) := ok_cv (by decide +kernel : decode cX11_about 68 = .ok (.invokevirtual 136, 3)) mw_X11_136 rfl (by decide) wm_X5_isStill wse_X5_isStill (by decide) rfl
theorem o194_71 : Okp RX11 cX11_about 2 (some .int) "about" false 71 (sI1 0 78 74) := ok_if_eq (by decide +kernel : decode cX11_about 71 = .ok (.ifCond .eq 7, 3)) (by decide)
theorem o194_74 : Okp RX11 cX11_about 2 (some .int) "about" false 74 (sK 1 75) := ok_iconst (by decide +kernel : decode cX11_about 74 = .ok (.iconst 1, 1)) (by decide)
theorem o194_75 : Okp RX11 cX11_about 2 (some .int) "about" false 75 (sGo 79) := ok_goto (by decide +kernel : decode cX11_about 75 = .ok (.goto 4, 3)) (by decide)
theorem o194_78 : Okp RX11 cX11_about 2 (some .int) "about" false 78 (sK 0 79) := ok_iconst (by decide +kernel : decode cX11_about 78 = .ok (.iconst 0, 1)) (by decide)
theorem o194_79 : Okp RX11 cX11_about 2 (some .int) "about" false 79 sRI := ok_iret rfl (by decide +kernel : decode cX11_about 79 = .ok (.ireturn, 1))
theorem o194_80 : Okp RX11 cX11_about 2 (some .int) "about" false 80 (sLR 0 81) := ok_aload_n (by decide +kernel : decode cX11_about 80 = .ok (.aload_n 0, 1)) rfl
theorem o194_81 : Okp RX11 cX11_about 2 (some .int) "about" false 81 (sGR 12 8 84) := ok_getR (by decide +kernel : decode cX11_about 81 = .ok (.getfield 53, 3)) fw_X11_53 rfl
theorem o194_84 : Okp RX11 cX11_about 2 (some .int) "about" false 84 (sCV false 69 1 6 87) := ok_cv (by decide +kernel : decode cX11_about 84 = .ok (.invokevirtual 140, 3)) mw_X11_140 rfl (by decide) wm_X5_living wse_X5_living (by decide) rfl
theorem o194_87 : Okp RX11 cX11_about 2 (some .int) "about" false 87 sRI := ok_iret rfl (by decide +kernel : decode cX11_about 87 = .ok (.ireturn, 1))
theorem o194_88 : Okp RX11 cX11_about 2 (some .int) "about" false 88 (sLR 0 89) := ok_aload_n (by decide +kernel : decode cX11_about 88 = .ok (.aload_n 0, 1)) rfl
theorem o194_89 : Okp RX11 cX11_about 2 (some .int) "about" false 89 (sGR 12 8 92) := ok_getR (by decide +kernel : decode cX11_about 89 = .ok (.getfield 53, 3)) fw_X11_53 rfl
theorem o194_92 : Okp RX11 cX11_about 2 (some .int) "about" false 92 (sGR 6 4 95) := ok_getR (by decide +kernel : decode cX11_about 92 = .ok (.getfield 144, 3)) fw_X11_144 rfl
theorem o194_95 : Okp RX11 cX11_about 2 (some .int) "about" false 95 (sCV false 42 1 5 98) := ok_cv (by decide +kernel : decode cX11_about 95 = .ok (.invokevirtual 148, 3)) mw_X11_148 rfl (by decide) wm_X4_channels wse_X4_channels (by decide) rfl
theorem o194_98 : Okp RX11 cX11_about 2 (some .int) "about" false 98 sRI := ok_iret rfl (by decide +kernel : decode cX11_about 98 = .ok (.ireturn, 1))
theorem o194_99 : Okp RX11 cX11_about 2 (some .int) "about" false 99 (sLR 0 100) := ok_aload_n (by decide +kernel : decode cX11_about 99 = .ok (.aload_n 0, 1)) rfl
theorem o194_100 : Okp RX11 cX11_about 2 (some .int) "about" false 100 (sGR 12 8 103) := ok_getR (by decide +kernel : decode cX11_about 100 = .ok (.getfield 53, 3)) fw_X11_53 rfl
theorem o194_103 : Okp RX11 cX11_about 2 (some .int) "about" false 103 (sGR 6 3 106) := ok_getR (by decide +kernel : decode cX11_about 103 = .ok (.getfield 153, 3)) fw_X11_153 rfl
theorem o194_106 : Okp RX11 cX11_about 2 (some .int) "about" false 106 (sGI 1 3 109) := ok_getI (by decide +kernel : decode cX11_about 106 = .ok (.getfield 157, 3)) fw_X11_157 rfl
theorem o194_109 : Okp RX11 cX11_about 2 (some .int) "about" false 109 sRI := ok_iret rfl (by decide +kernel : decode cX11_about 109 = .ok (.ireturn, 1))
theorem o194_110 : Okp RX11 cX11_about 2 (some .int) "about" false 110 (sLR 0 111) := ok_aload_n (by decide +kernel : decode cX11_about 110 = .ok (.aload_n 0, 1)) rfl
theorem o194_111 : Okp RX11 cX11_about 2 (some .int) "about" false 111 (sGR 12 8 114) := ok_getR (by decide +kernel : decode cX11_about 111 = .ok (.getfield 53, 3)) fw_X11_53 rfl
theorem o194_114 : Okp RX11 cX11_about 2 (some .int) "about" false 114 (sGR 6 3 117) := ok_getR (by decide +kernel : decode cX11_about 114 = .ok (.getfield 153, 3)) fw_X11_153 rfl
theorem o194_117 : Okp RX11 cX11_about 2 (some .int) "about" false 117 (sGI 1 4 120) := ok_getI (by decide +kernel : decode cX11_about 117 = .ok (.getfield 160, 3)) fw_X11_160 rfl
theorem o194_120 : Okp RX11 cX11_about 2 (some .int) "about" false 120 sRI := ok_iret rfl (by decide +kernel : decode cX11_about 120 = .ok (.ireturn, 1))
theorem o194_121 : Okp RX11 cX11_about 2 (some .int) "about" false 121 (sLR 0 122) := ok_aload_n (by decide +kernel : decode cX11_about 121 = .ok (.aload_n 0, 1)) rfl
theorem o194_122 : Okp RX11 cX11_about 2 (some .int) "about" false 122 (sGR 12 8 125) := ok_getR (by decide +kernel : decode cX11_about 122 = .ok (.getfield 53, 3)) fw_X11_53 rfl
theorem o194_125 : Okp RX11 cX11_about 2 (some .int) "about" false 125 (sGI 6 8 128) := ok_getI (by decide +kernel : decode cX11_about 125 = .ok (.getfield 163, 3)) fw_X11_163 rfl
theorem o194_128 : Okp RX11 cX11_about 2 (some .int) "about" false 128 sRI := ok_iret rfl (by decide +kernel : decode cX11_about 128 = .ok (.ireturn, 1))
theorem o194_129 : Okp RX11 cX11_about 2 (some .int) "about" false 129 (sK (-1) 130) := ok_iconst (by decide +kernel : decode cX11_about 129 = .ok (.iconst (-1), 1)) (by decide)
theorem o194_130 : Okp RX11 cX11_about 2 (some .int) "about" false 130 sRI := ok_iret rfl (by decide +kernel : decode cX11_about 130 = .ok (.ireturn, 1))
theorem oc194_0 : ∀ pc, Mnp (c194_0 pc) ∧ Okp RX11 cX11_about 2 (some .int) "about" false pc (c194_0 pc) := by
  intro pc
  unfold c194_0
  split
  · exact ⟨mn_sLR, o194_0⟩
  · exact ⟨mn_sGR, o194_1⟩
  · exact ⟨mn_sGI, o194_4⟩
  · exact ⟨mn_sI1, o194_7⟩
  · exact ⟨mn_sK, o194_10⟩
  · exact ⟨mn_sRI, o194_11⟩
  · exact ⟨mn_sLI, o194_12⟩
  · exact ⟨mn_sSw, o194_13⟩
  · exact ⟨mn_sX, ok_X⟩
theorem oc194_2 : ∀ pc, Mnp (c194_2 pc) ∧ Okp RX11 cX11_about 2 (some .int) "about" false pc (c194_2 pc) := by
  intro pc
  unfold c194_2
  split
  · exact ⟨mn_sLR, o194_56⟩
  · exact ⟨mn_sGR, o194_57⟩
  · exact ⟨mn_sGI, o194_60⟩
  · exact ⟨mn_sRI, o194_63⟩
  · exact ⟨mn_sLR, o194_64⟩
  · exact ⟨mn_sGR, o194_65⟩
  · exact ⟨mn_sCV, o194_68⟩
  · exact ⟨mn_sI1, o194_71⟩
  · exact ⟨mn_sX, ok_X⟩
theorem oc194_3 : ∀ pc, Mnp (c194_3 pc) ∧ Okp RX11 cX11_about 2 (some .int) "about" false pc (c194_3 pc) := by
  intro pc
  unfold c194_3
  split
  · exact ⟨mn_sK, o194_74⟩
  · exact ⟨mn_sGo, o194_75⟩
  · exact ⟨mn_sK, o194_78⟩
  · exact ⟨mn_sRI, o194_79⟩
  · exact ⟨mn_sLR, o194_80⟩
  · exact ⟨mn_sGR, o194_81⟩
  · exact ⟨mn_sCV, o194_84⟩
  · exact ⟨mn_sRI, o194_87⟩
  · exact ⟨mn_sLR, o194_88⟩
  · exact ⟨mn_sGR, o194_89⟩
  · exact ⟨mn_sGR, o194_92⟩
  · exact ⟨mn_sCV, o194_95⟩
  · exact ⟨mn_sX, ok_X⟩
theorem oc194_4 : ∀ pc, Mnp (c194_4 pc) ∧ Okp RX11 cX11_about 2 (some .int) "about" false pc (c194_4 pc) := by
  intro pc
  unfold c194_4
  split
  · exact ⟨mn_sRI, o194_98⟩
  · exact ⟨mn_sLR, o194_99⟩
  · exact ⟨mn_sGR, o194_100⟩
  · exact ⟨mn_sGR, o194_103⟩
  · exact ⟨mn_sGI, o194_106⟩
  · exact ⟨mn_sRI, o194_109⟩
  · exact ⟨mn_sLR, o194_110⟩
  · exact ⟨mn_sGR, o194_111⟩
  · exact ⟨mn_sGR, o194_114⟩
  · exact ⟨mn_sGI, o194_117⟩
  · exact ⟨mn_sX, ok_X⟩
theorem oc194_5 : ∀ pc, Mnp (c194_5 pc) ∧ Okp RX11 cX11_about 2 (some .int) "about" false pc (c194_5 pc) := by
  intro pc
  unfold c194_5
  split
  · exact ⟨mn_sRI, o194_120⟩
  · exact ⟨mn_sLR, o194_121⟩
  · exact ⟨mn_sGR, o194_122⟩
  · exact ⟨mn_sGI, o194_125⟩
  · exact ⟨mn_sRI, o194_128⟩
  · exact ⟨mn_sK, o194_129⟩
  · exact ⟨mn_sRI, o194_130⟩
  · exact ⟨mn_sX, ok_X⟩
theorem oc194 : ∀ pc, Mnp (c194 pc) ∧ Okp RX11 cX11_about 2 (some .int) "about" false pc (c194 pc) := by
  intro pc
  unfold c194
  split
  · exact oc194_0 pc
  · exact oc194_2 pc
  · exact oc194_3 pc
  · exact oc194_4 pc
  · exact oc194_5 pc
  · exact ⟨mn_sX, ok_X⟩
theorem o195_0 : Okp RX11 cX11_process 4 (some .int) "process" false 0 (sLR 0 1) := ok_aload_n (by decide +kernel : decode cX11_process 0 = .ok (.aload_n 0, 1)) rfl
theorem o195_1 : Okp RX11 cX11_process 4 (some .int) "process" false 1 (sGR 12 8 4) := ok_getR (by decide +kernel : decode cX11_process 1 = .ok (.getfield 53, 3)) fw_X11_53 rfl
theorem o195_4 : Okp RX11 cX11_process 4 (some .int) "process" false 4 (sLI 1 5) := ok_iload_n (by decide +kernel : decode cX11_process 4 = .ok (.iload_n 1, 1)) rfl
theorem o195_5 : Okp RX11 cX11_process 4 (some .int) "process" false 5 (sCV false 67 2 6 8) := ok_cv (by decide +kernel : decode cX11_process 5 = .ok (.invokevirtual 166, 3)) mw_X11_166 rfl (by decide) wm_X5_taskAt wse_X5_taskAt (by decide) rfl
theorem o195_8 : Okp RX11 cX11_process 4 (some .int) "process" false 8 (sSR 3 9) := ok_astore_n (by decide +kernel : decode cX11_process 8 = .ok (.astore_n 3, 1)) rfl (by decide) (by decide)
theorem o195_9 : Okp RX11 cX11_process 4 (some .int) "process" false 9 (sLR 3 10) := ok_aload_n (by decide +kernel : decode cX11_process 9 = .ok (.aload_n 3, 1)) rfl
theorem o195_10 : Okp RX11 cX11_process 4 (some .int) "process" false 10 (sNl 13 15) := ok_ifnonnull (by decide +kernel : decode cX11_process 10 = .ok (.ifnonnull 5, 3)) (by decide)
theorem o195_13 : Okp RX11 cX11_process 4 (some .int) "process" false 13 (sK (-1) 14) := ok_iconst (by decide +kernel : decode cX11_process 13 = .ok (.iconst (-1), 1)) (by decide)
theorem o195_14 : Okp RX11 cX11_process 4 (some .int) "process" false 14 sRI := ok_iret rfl (by decide +kernel : decode cX11_process 14 = .ok (.ireturn, 1))
theorem o195_15 : Okp RX11 cX11_process 4 (some .int) "process" false 15 (sLI 2 16) := ok_iload_n (by decide +kernel : decode cX11_process 15 = .ok (.iload_n 2, 1)) rfl
theorem o195_16 : Okp RX11 cX11_process 4 (some .int) "process" false 16 (sSw [(0, 72), (1, 77), (2, 82), (3, 87), (4, 87), (5, 87), (6, 87), (7, 87), (8, 105), (9, 110)] 115) := ok_tsw (by decide +kernel : decode cX11_process 16 = .ok (.tableswitch 99 0 9 #[56, 61, 66, 71, 71, 71, 71, 71, 89, 94], 56)) (by decide) (by decide) (by decide)
theorem o195_72 : Okp RX11 cX11_process 4 (some .int) "process" false 72 (sLR 3 73) := ok_aload_n (by decide +kernel : decode cX11_process 72 = .ok (.aload_n 3, 1)) rfl
theorem o195_73 : Okp RX11 cX11_process 4 (some .int) "process" false 73 (sGI 9 4 76) := ok_getI (by decide +kernel : decode cX11_process 73 = .ok (.getfield 170, 3)) fw_X11_170 rfl
theorem o195_76 : Okp RX11 cX11_process 4 (some .int) "process" false 76 sRI := ok_iret rfl (by decide +kernel : decode cX11_process 76 = .ok (.ireturn, 1))
theorem o195_77 : Okp RX11 cX11_process 4 (some .int) "process" false 77 (sLR 3 78) := ok_aload_n (by decide +kernel : decode cX11_process 77 = .ok (.aload_n 3, 1)) rfl
theorem o195_78 : Okp RX11 cX11_process 4 (some .int) "process" false 78 (sGI 9 5 81) := ok_getI (by decide +kernel : decode cX11_process 78 = .ok (.getfield 175, 3)) fw_X11_175 rfl
theorem o195_81 : Okp RX11 cX11_process 4 (some .int) "process" false 81 sRI := ok_iret rfl (by decide +kernel : decode cX11_process 81 = .ok (.ireturn, 1))
theorem o195_82 : Okp RX11 cX11_process 4 (some .int) "process" false 82 (sLR 3 83) := ok_aload_n (by decide +kernel : decode cX11_process 82 = .ok (.aload_n 3, 1)) rfl
theorem o195_83 : Okp RX11 cX11_process 4 (some .int) "process" false 83 (sGI 9 2 86) := ok_getI (by decide +kernel : decode cX11_process 83 = .ok (.getfield 178, 3)) fw_X11_178 rfl
theorem o195_86 : Okp RX11 cX11_process 4 (some .int) "process" false 86 sRI := ok_iret rfl (by decide +kernel : decode cX11_process 86 = .ok (.ireturn, 1))
theorem o195_87 : Okp RX11 cX11_process 4 (some .int) "process" false 87 (sLR 3 88) := ok_aload_n (by decide +kernel : decode cX11_process 87 = .ok (.aload_n 3, 1)) rfl
theorem o195_88 : Okp RX11 cX11_process 4 (some .int) "process" false 88 (sCV false 117 1 9 91) := ok_cv (by decide +kernel : decode cX11_process 88 = .ok (.invokevirtual 181, 3)) mw_X11_181 rfl (by decide) wm_X8_isOver wse_X8_isOver (by decide) rfl
theorem o195_91 : Okp RX11 cX11_process 4 (some .int) "process" false 91 (sI1 0 98 94) := ok_if_eq (by decide +kernel : decode cX11_process 91 = .ok (.ifCond .eq 7, 3)) (by decide)
theorem o195_94 : Okp RX11 cX11_process 4 (some .int) "process" false 94 (sK 0 95) := ok_iconst (by decide +kernel : decode cX11_process 94 = .ok (.iconst 0, 1)) (by decide)
theorem o195_95 : Okp RX11 cX11_process 4 (some .int) "process" false 95 (sGo 104) := ok_goto (by decide +kernel : decode cX11_process 95 = .ok (.goto 9, 3)) (by decide)
theorem o195_98 : Okp RX11 cX11_process 4 (some .int) "process" false 98 (sLR 0 99) := ok_aload_n (by decide +kernel : decode cX11_process 98 = .ok (.aload_n 0, 1)) rfl
theorem o195_99 : Okp RX11 cX11_process 4 (some .int) "process" false 99 (sLR 3 100) := ok_aload_n (by decide +kernel : decode cX11_process 99 = .ok (.aload_n 3, 1)) rfl
theorem o195_100 : Okp RX11 cX11_process 4 (some .int) "process" false 100 (sLI 2 101) := ok_iload_n (by decide +kernel : decode cX11_process 100 = .ok (.iload_n 2, 1)) rfl
theorem o195_101 : Okp RX11 cX11_process 4 (some .int) "process" false 101 (sCV false 203 3 12 104) := ok_cv (by decide +kernel : decode cX11_process 101 = .ok (.invokevirtual 184, 3)) mw_X11_184 rfl (by decide) wm_X11_ofLivingTask wse_X11_ofLivingTask (by decide) rfl
theorem o195_104 : Okp RX11 cX11_process 4 (some .int) "process" false 104 sRI := ok_iret rfl (by decide +kernel : decode cX11_process 104 = .ok (.ireturn, 1))
theorem o195_105 : Okp RX11 cX11_process 4 (some .int) "process" false 105 (sLR 3 106) := ok_aload_n (by decide +kernel : decode cX11_process 105 = .ok (.aload_n 3, 1)) rfl
theorem o195_106 : Okp RX11 cX11_process 4 (some .int) "process" false 106 (sGI 9 3 109) := ok_getI (by decide +kernel : decode cX11_process 106 = .ok (.getfield 188, 3)) fw_X11_188 rfl
theorem o195_109 : Okp RX11 cX11_process 4 (some .int) "process" false 109 sRI := ok_iret rfl (by decide +kernel : decode cX11_process 109 = .ok (.ireturn, 1))
theorem o195_110 : Okp RX11 cX11_process 4 (some .int) "process" false 110 (sLR 3 111) := ok_aload_n (by decide +kernel : decode cX11_process 110 = .ok (.aload_n 3, 1)) rfl
theorem o195_111 : Okp RX11 cX11_process 4 (some .int) "process" false 111 (sGI 9 6 114) := ok_getI (by decide +kernel : decode cX11_process 111 = .ok (.getfield 191, 3)) fw_X11_191 rfl
theorem o195_114 : Okp RX11 cX11_process 4 (some .int) "process" false 114 sRI := ok_iret rfl (by decide +kernel : decode cX11_process 114 = .ok (.ireturn, 1))
theorem o195_115 : Okp RX11 cX11_process 4 (some .int) "process" false 115 (sK (-1) 116) := ok_iconst (by decide +kernel : decode cX11_process 115 = .ok (.iconst (-1), 1)) (by decide)
theorem o195_116 : Okp RX11 cX11_process 4 (some .int) "process" false 116 sRI := ok_iret rfl (by decide +kernel : decode cX11_process 116 = .ok (.ireturn, 1))
theorem oc195_0 : ∀ pc, Mnp (c195_0 pc) ∧ Okp RX11 cX11_process 4 (some .int) "process" false pc (c195_0 pc) := by
  intro pc
  unfold c195_0
  split
  · exact ⟨mn_sLR, o195_0⟩
  · exact ⟨mn_sGR, o195_1⟩
  · exact ⟨mn_sLI, o195_4⟩
  · exact ⟨mn_sCV, o195_5⟩
  · exact ⟨mn_sSR, o195_8⟩
  · exact ⟨mn_sLR, o195_9⟩
  · exact ⟨mn_sNl, o195_10⟩
  · exact ⟨mn_sK, o195_13⟩
  · exact ⟨mn_sRI, o195_14⟩
  · exact ⟨mn_sLI, o195_15⟩
  · exact ⟨mn_sSw, o195_16⟩
  · exact ⟨mn_sX, ok_X⟩
theorem oc195_3 : ∀ pc, Mnp (c195_3 pc) ∧ Okp RX11 cX11_process 4 (some .int) "process" false pc (c195_3 pc) := by
  intro pc
  unfold c195_3
  split
  · exact ⟨mn_sLR, o195_72⟩
  · exact ⟨mn_sGI, o195_73⟩
  · exact ⟨mn_sRI, o195_76⟩
  · exact ⟨mn_sLR, o195_77⟩
  · exact ⟨mn_sGI, o195_78⟩
  · exact ⟨mn_sRI, o195_81⟩
  · exact ⟨mn_sLR, o195_82⟩
  · exact ⟨mn_sGI, o195_83⟩
  · exact ⟨mn_sRI, o195_86⟩
  · exact ⟨mn_sLR, o195_87⟩
  · exact ⟨mn_sCV, o195_88⟩
  · exact ⟨mn_sI1, o195_91⟩
  · exact ⟨mn_sK, o195_94⟩
  · exact ⟨mn_sGo, o195_95⟩
  · exact ⟨mn_sX, ok_X⟩
theorem oc195_4 : ∀ pc, Mnp (c195_4 pc) ∧ Okp RX11 cX11_process 4 (some .int) "process" false pc (c195_4 pc) := by
  intro pc
  unfold c195_4
  split
  · exact ⟨mn_sLR, o195_98⟩
  · exact ⟨mn_sLR, o195_99⟩
  · exact ⟨mn_sLI, o195_100⟩
  · exact ⟨mn_sCV, o195_101⟩
  · exact ⟨mn_sRI, o195_104⟩
  · exact ⟨mn_sLR, o195_105⟩
  · exact ⟨mn_sGI, o195_106⟩
  · exact ⟨mn_sRI, o195_109⟩
  · exact ⟨mn_sLR, o195_110⟩
  · exact ⟨mn_sGI, o195_111⟩
  · exact ⟨mn_sRI, o195_114⟩
  · exact ⟨mn_sK, o195_115⟩
  · exact ⟨mn_sRI, o195_116⟩
  · exact ⟨mn_sX, ok_X⟩
theorem oc195 : ∀ pc, Mnp (c195 pc) ∧ Okp RX11 cX11_process 4 (some .int) "process" false pc (c195 pc) := by
  intro pc
  unfold c195
  split
  · exact oc195_0 pc
  · exact oc195_3 pc
  · exact oc195_4 pc
  · exact ⟨mn_sX, ok_X⟩
theorem o196_0 : Okp RX11 cX11_value 5 (some .int) "value" false 0 (sLR 0 1) := ok_aload_n (by decide +kernel : decode cX11_value 0 = .ok (.aload_n 0, 1)) rfl
theorem o196_1 : Okp RX11 cX11_value 5 (some .int) "value" false 1 (sGR 12 8 4) := ok_getR (by decide +kernel : decode cX11_value 1 = .ok (.getfield 53, 3)) fw_X11_53 rfl
theorem o196_4 : Okp RX11 cX11_value 5 (some .int) "value" false 4 (sLI 1 5) := ok_iload_n (by decide +kernel : decode cX11_value 4 = .ok (.iload_n 1, 1)) rfl
theorem o196_5 : Okp RX11 cX11_value 5 (some .int) "value" false 5 (sCV false 67 2 6 8) := ok_cv (by decide +kernel : decode cX11_value 5 = .ok (.invokevirtual 166, 3)) mw_X11_166 rfl (by decide) wm_X5_taskAt wse_X5_taskAt (by decide) rfl
theorem o196_8 : Okp RX11 cX11_value 5 (some .int) "value" false 8 (sSR 4 10) := ok_astore (by decide +kernel : decode cX11_value 8 = .ok (.astore 4, 2)) (by decide) (by decide)
theorem o196_10 : Okp RX11 cX11_value 5 (some .int) "value" false 10 (sLR 4 12) := ok_aload (by decide +kernel : decode cX11_value 10 = .ok (.aload 4, 2))
theorem o196_12 : Okp RX11 cX11_value 5 (some .int) "value" false 12 (sNl 27 15) := ok_ifnull (by decide +kernel : decode cX11_value 12 = .ok (.ifnull 15, 3)) (by decide)
theorem o196_15 : Okp RX11 cX11_value 5 (some .int) "value" false 15 (sLR 4 17) := ok_aload (by decide +kernel : decode cX11_value 15 = .ok (.aload 4, 2))
theorem o196_17 : Okp RX11 cX11_value 5 (some .int) "value" false 17 (sCV false 117 1 9 20) := ok_cv (by decide +kernel : decode cX11_value 17 = .ok (.invokevirtual 181, 3)) mw_X11_181 rfl (by decide) wm_X8_isOver wse_X8_isOver (by decide) rfl
theorem o196_20 : Okp RX11 cX11_value 5 (some .int) "value" false 20 (sI1 1 27 23) := ok_if_ne (by decide +kernel : decode cX11_value 20 = .ok (.ifCond .ne 7, 3)) (by decide)
theorem o196_23 : Okp RX11 cX11_value 5 (some .int) "value" false 23 (sLI 3 24) := ok_iload_n (by decide +kernel : decode cX11_value 23 = .ok (.iload_n 3, 1)) rfl
theorem o196_24 : Okp RX11 cX11_value 5 (some .int) "value" false 24 (sI1 3 30 27) := ok_if_ge (by decide +kernel : decode cX11_value 24 = .ok (.ifCond .ge 6, 3)) (by decide)
theorem o196_27 : Okp RX11 cX11_value 5 (some .int) "value" false 27 (sK (-2147483648) 29) := ok_ldc (by decide +kernel : decode cX11_value 27 = .ok (.ldc 194, 2)) wk_X11_194 (by decide)
theorem o196_29 : Okp RX11 cX11_value 5 (some .int) "value" false 29 sRI := ok_iret rfl (by decide +kernel : decode cX11_value 29 = .ok (.ireturn, 1))
theorem o196_30 : Okp RX11 cX11_value 5 (some .int) "value" false 30 (sLI 2 31) := ok_iload_n (by decide +kernel : decode cX11_value 30 = .ok (.iload_n 2, 1)) rfl
theorem o196_31 : Okp RX11 cX11_value 5 (some .int) "value" false 31 (sI1 1 50 34) := ok_if_ne (by decide +kernel : decode cX11_value 31 = .ok (.ifCond .ne 19, 3)) (by decide)
theorem o196_34 : Okp RX11 cX11_value 5 (some .int) "value" false 34 (sLI 3 35) := ok_iload_n (by decide +kernel : decode cX11_value 34 = .ok (.iload_n 3, 1)) rfl
theorem o196_35 : Okp RX11 cX11_value 5 (some .int) "value" false 35 (sLR 4 37) := ok_aload (by decide +kernel : decode cX11_value 35 = .ok (.aload 4, 2))
theorem o196_37 : Okp RX11 cX11_value 5 (some .int) "value" false 37 (sCV false 125 1 9 40) := ok_cv (by decide +kernel : decode cX11_value 37 = .ok (.invokevirtual 195, 3)) mw_X11_195 rfl (by decide) wm_X8_height wse_X8_height (by decide) rfl
theorem o196_40 : Okp RX11 cX11_value 5 (some .int) "value" false 40 (sI2 3 50 43) := ok_icmp_ge (by decide +kernel : decode cX11_value 40 = .ok (.if_icmp .ge 10, 3)) (by decide)
theorem o196_43 : Okp RX11 cX11_value 5 (some .int) "value" false 43 (sLR 4 45) := ok_aload (by decide +kernel : decode cX11_value 43 = .ok (.aload 4, 2))
theorem o196_45 : Okp RX11 cX11_value 5 (some .int) "value" false 45 (sLI 3 46) := ok_iload_n (by decide +kernel : decode cX11_value 45 = .ok (.iload_n 3, 1)) rfl
theorem o196_46 : Okp RX11 cX11_value 5 (some .int) "value" false 46 (sCV false 133 2 9 49) := ok_cv (by decide +kernel : decode cX11_value 46 = .ok (.invokevirtual 198, 3)) mw_X11_198 rfl (by decide) wm_X8_shown wse_X8_shown (by decide) rfl
theorem o196_49 : Okp RX11 cX11_value 5 (some .int) "value" false 49 sRI := ok_iret rfl (by decide +kernel : decode cX11_value 49 = .ok (.ireturn, 1))
theorem o196_50 : Okp RX11 cX11_value 5 (some .int) "value" false 50 (sLI 2 51) := ok_iload_n (by decide +kernel : decode cX11_value 50 = .ok (.iload_n 2, 1)) rfl
theorem o196_51 : Okp RX11 cX11_value 5 (some .int) "value" false 51 (sK 1 52) := ok_iconst (by decide +kernel : decode cX11_value 51 = .ok (.iconst 1, 1)) (by decide)
theorem o196_52 : Okp RX11 cX11_value 5 (some .int) "value" false 52 (sI2 1 74 55) := ok_icmp_ne (by decide +kernel : decode cX11_value 52 = .ok (.if_icmp .ne 22, 3)) (by decide)
theorem o196_55 : Okp RX11 cX11_value 5 (some .int) "value" false 55 (sLI 3 56) := ok_iload_n (by decide +kernel : decode cX11_value 55 = .ok (.iload_n 3, 1)) rfl
theorem o196_56 : Okp RX11 cX11_value 5 (some .int) "value" false 56 (sLR 4 58) := ok_aload (by decide +kernel : decode cX11_value 56 = .ok (.aload 4, 2))
theorem o196_58 : Okp RX11 cX11_value 5 (some .int) "value" false 58 (sCV false 122 1 9 61) := ok_cv (by decide +kernel : decode cX11_value 58 = .ok (.invokevirtual 201, 3)) mw_X11_201 rfl (by decide) wm_X8_localCount wse_X8_localCount (by decide) rfl
theorem o196_61 : Okp RX11 cX11_value 5 (some .int) "value" false 61 (sI2 3 74 64) := ok_icmp_ge (by decide +kernel : decode cX11_value 61 = .ok (.if_icmp .ge 13, 3)) (by decide)
theorem o196_64 : Okp RX11 cX11_value 5 (some .int) "value" false 64 (sLR 4 66) := ok_aload (by decide +kernel : decode cX11_value 64 = .ok (.aload 4, 2))
theorem o196_66 : Okp RX11 cX11_value 5 (some .int) "value" false 66 (sK 16 68) := ok_bipush (by decide +kernel : decode cX11_value 66 = .ok (.bipush 16, 2)) (by decide)
theorem o196_68 : Okp RX11 cX11_value 5 (some .int) "value" false 68 (sLI 3 69) := ok_iload_n (by decide +kernel : decode cX11_value 68 = .ok (.iload_n 3, 1)) rfl
theorem o196_69 : Okp RX11 cX11_value 5 (some .int) "value" false 69 (sB2 fAdd 70) := ok_iadd (by decide +kernel : decode cX11_value 69 = .ok (.iadd, 1))
theorem o196_70 : Okp RX11 cX11_value 5 (some .int) "value" false 70 (sCV false 133 2 9 73) := ok_cv (by decide +kernel : decode cX11_value 70 = .ok (.invokevirtual 198, 3)) mw_X11_198 rfl (by decide) wm_X8_shown wse_X8_shown (by decide) rfl
theorem o196_73 : Okp RX11 cX11_value 5 (some .int) "value" false 73 sRI := ok_iret rfl (by decide +kernel : decode cX11_value 73 = .ok (.ireturn, 1))
theorem o196_74 : Okp RX11 cX11_value 5 (some .int) "value" false 74 (sK (-2147483648) 76) := ok_ldc (by decide +kernel : decode cX11_value 74 = .ok (.ldc 194, 2)) wk_X11_194 (by decide)
theorem o196_76 : Okp RX11 cX11_value 5 (some .int) "value" false 76 sRI := ok_iret rfl (by decide +kernel : decode cX11_value 76 = .ok (.ireturn, 1))
theorem oc196_0 : ∀ pc, Mnp (c196_0 pc) ∧ Okp RX11 cX11_value 5 (some .int) "value" false pc (c196_0 pc) := by
  intro pc
  unfold c196_0
  split
  · exact ⟨mn_sLR, o196_0⟩
  · exact ⟨mn_sGR, o196_1⟩
  · exact ⟨mn_sLI, o196_4⟩
  · exact ⟨mn_sCV, o196_5⟩
  · exact ⟨mn_sSR, o196_8⟩
  · exact ⟨mn_sLR, o196_10⟩
  · exact ⟨mn_sNl, o196_12⟩
  · exact ⟨mn_sLR, o196_15⟩
  · exact ⟨mn_sCV, o196_17⟩
  · exact ⟨mn_sI1, o196_20⟩
  · exact ⟨mn_sLI, o196_23⟩
  · exact ⟨mn_sX, ok_X⟩
theorem oc196_1 : ∀ pc, Mnp (c196_1 pc) ∧ Okp RX11 cX11_value 5 (some .int) "value" false pc (c196_1 pc) := by
  intro pc
  unfold c196_1
  split
  · exact ⟨mn_sI1, o196_24⟩
  · exact ⟨mn_sK, o196_27⟩
  · exact ⟨mn_sRI, o196_29⟩
  · exact ⟨mn_sLI, o196_30⟩
  · exact ⟨mn_sI1, o196_31⟩
  · exact ⟨mn_sLI, o196_34⟩
  · exact ⟨mn_sLR, o196_35⟩
  · exact ⟨mn_sCV, o196_37⟩
  · exact ⟨mn_sI2, o196_40⟩
  · exact ⟨mn_sLR, o196_43⟩
  · exact ⟨mn_sLI, o196_45⟩
  · exact ⟨mn_sCV, o196_46⟩
  · exact ⟨mn_sX, ok_X⟩
theorem oc196_2 : ∀ pc, Mnp (c196_2 pc) ∧ Okp RX11 cX11_value 5 (some .int) "value" false pc (c196_2 pc) := by
  intro pc
  unfold c196_2
  split
  · exact ⟨mn_sRI, o196_49⟩
  · exact ⟨mn_sLI, o196_50⟩
  · exact ⟨mn_sK, o196_51⟩
  · exact ⟨mn_sI2, o196_52⟩
  · exact ⟨mn_sLI, o196_55⟩
  · exact ⟨mn_sLR, o196_56⟩
  · exact ⟨mn_sCV, o196_58⟩
  · exact ⟨mn_sI2, o196_61⟩
  · exact ⟨mn_sLR, o196_64⟩
  · exact ⟨mn_sK, o196_66⟩
  · exact ⟨mn_sLI, o196_68⟩
  · exact ⟨mn_sB2, o196_69⟩
  · exact ⟨mn_sCV, o196_70⟩
  · exact ⟨mn_sX, ok_X⟩
theorem oc196_3 : ∀ pc, Mnp (c196_3 pc) ∧ Okp RX11 cX11_value 5 (some .int) "value" false pc (c196_3 pc) := by
  intro pc
  unfold c196_3
  split
  · exact ⟨mn_sRI, o196_73⟩
  · exact ⟨mn_sK, o196_74⟩
  · exact ⟨mn_sRI, o196_76⟩
  · exact ⟨mn_sX, ok_X⟩
theorem oc196 : ∀ pc, Mnp (c196 pc) ∧ Okp RX11 cX11_value 5 (some .int) "value" false pc (c196 pc) := by
  intro pc
  unfold c196
  split
  · exact oc196_0 pc
  · exact oc196_1 pc
  · exact oc196_2 pc
  · exact oc196_3 pc
  · exact ⟨mn_sX, ok_X⟩
theorem o197_0 : Okp RX11 cX11_block 4 (some .int) "block" false 0 (sLR 0 1) := ok_aload_n (by decide +kernel : decode cX11_block 0 = .ok (.aload_n 0, 1)) rfl
theorem o197_1 : Okp RX11 cX11_block 4 (some .int) "block" false 1 (sGR 12 8 4) := ok_getR (by decide +kernel : decode cX11_block 1 = .ok (.getfield 53, 3)) fw_X11_53 rfl
theorem o197_4 : Okp RX11 cX11_block 4 (some .int) "block" false 4 (sGR 6 3 7) := ok_getR (by decide +kernel : decode cX11_block 4 = .ok (.getfield 153, 3)) fw_X11_153 rfl
theorem o197_7 : Okp RX11 cX11_block 4 (some .int) "block" false 7 (sLI 1 8) := ok_iload_n (by decide +kernel : decode cX11_block 7 = .ok (.iload_n 1, 1)) rfl
theorem o197_8 : Okp RX11 cX11_block 4 (some .int) "block" false 8 (sCV false 3 2 1 11) := ok_cv (by decide +kernel : decode cX11_block 8 = .ok (.invokevirtual 204, 3)) mw_X11_204 rfl (by decide) wm_X0_sizeOf wse_X0_sizeOf (by decide) rfl
theorem o197_11 : Okp RX11 cX11_block 4 (some .int) "block" false 11 (sSI 3 12) := ok_istore_n (by decide +kernel : decode cX11_block 11 = .ok (.istore_n 3, 1)) rfl (by decide) (by decide)
theorem o197_12 : Okp RX11 cX11_block 4 (some .int) "block" false 12 (sLI 3 13) := ok_iload_n (by decide +kernel : decode cX11_block 12 = .ok (.iload_n 3, 1)) rfl
theorem o197_13 : Okp RX11 cX11_block 4 (some .int) "block" false 13 (sI1 1 18 16) := ok_if_ne (by decide +kernel : decode cX11_block 13 = .ok (.ifCond .ne 5, 3)) (by decide)
theorem o197_16 : Okp RX11 cX11_block 4 (some .int) "block" false 16 (sK (-1) 17) := ok_iconst (by decide +kernel : decode cX11_block 16 = .ok (.iconst (-1), 1)) (by decide)
theorem o197_17 : Okp RX11 cX11_block 4 (some .int) "block" false 17 sRI := ok_iret rfl (by decide +kernel : decode cX11_block 17 = .ok (.ireturn, 1))
theorem o197_18 : Okp RX11 cX11_block 4 (some .int) "block" false 18 (sLI 2 19) := ok_iload_n (by decide +kernel : decode cX11_block 18 = .ok (.iload_n 2, 1)) rfl
theorem o197_19 : Okp RX11 cX11_block 4 (some .int) "block" false 19 (sI1 1 24 22) := ok_if_ne (by decide +kernel : decode cX11_block 19 = .ok (.ifCond .ne 5, 3)) (by decide)
theorem o197_22 : Okp RX11 cX11_block 4 (some .int) "block" false 22 (sLI 3 23) := ok_iload_n (by decide +kernel : decode cX11_block 22 = .ok (.iload_n 3, 1)) rfl
theorem o197_23 : Okp RX11 cX11_block 4 (some .int) "block" false 23 sRI := ok_iret rfl (by decide +kernel : decode cX11_block 23 = .ok (.ireturn, 1))
theorem o197_24 : Okp RX11 cX11_block 4 (some .int) "block" false 24 (sLI 2 25) := ok_iload_n (by decide +kernel : decode cX11_block 24 = .ok (.iload_n 2, 1)) rfl
theorem o197_25 : Okp RX11 cX11_block 4 (some .int) "block" false 25 (sK 1 26) := ok_iconst (by decide +kernel : decode cX11_block 25 = .ok (.iconst 1, 1)) (by decide)
theorem o197_26 : Okp RX11 cX11_block 4 (some .int) "block" false 26 (sI2 1 41 29) := ok_icmp_ne (by decide +kernel : decode cX11_block 26 = .ok (.if_icmp .ne 15, 3)) (by decide)
theorem o197_29 : Okp RX11 cX11_block 4 (some .int) "block" false 29 (sLR 0 30) := ok_aload_n (by decide +kernel : decode cX11_block 29 = .ok (.aload_n 0, 1)) rfl
theorem o197_30 : Okp RX11 cX11_block 4 (some .int) "block" false 30 (sGR 12 8 33) := ok_getR (by decide +kernel : decode cX11_block 30 = .ok (.getfield 53, 3)) fw_X11_53 rfl
theorem o197_33 : Okp RX11 cX11_block 4 (some .int) "block" false 33 (sGR 6 3 36) := ok_getR (by decide +kernel : decode cX11_block 33 = .ok (.getfield 153, 3)) fw_X11_153 rfl
theorem o197_36 : Okp RX11 cX11_block 4 (some .int) "block" false 36 (sLI 1 37) := ok_iload_n (by decide +kernel : decode cX11_block 36 = .ok (.iload_n 1, 1)) rfl
theorem o197_37 : Okp RX11 cX11_block 4 (some .int) "block" false 37 (sCV false 4 2 1 40) := ok_cv (by decide +kernel : decode cX11_block 37 = .ok (.invokevirtual 207, 3)) mw_X11_207 rfl (by decide) wm_X0_ownerOf wse_X0_ownerOf (by decide) rfl
theorem o197_40 : Okp RX11 cX11_block 4 (some .int) "block" false 40 sRI := ok_iret rfl (by decide +kernel : decode cX11_block 40 = .ok (.ireturn, 1))
theorem o197_41 : Okp RX11 cX11_block 4 (some .int) "block" false 41 (sLI 2 42) := ok_iload_n (by decide +kernel : decode cX11_block 41 = .ok (.iload_n 2, 1)) rfl
theorem o197_42 : Okp RX11 cX11_block 4 (some .int) "block" false 42 (sK 10 44) := ok_bipush (by decide +kernel : decode cX11_block 42 = .ok (.bipush 10, 2)) (by decide)
theorem o197_44 : Okp RX11 cX11_block 4 (some .int) "block" false 44 (sI2 2 73 47) := ok_icmp_lt (by decide +kernel : decode cX11_block 44 = .ok (.if_icmp .lt 29, 3)) (by decide)
theorem o197_47 : Okp RX11 cX11_block 4 (some .int) "block" false 47 (sLI 2 48) := ok_iload_n (by decide +kernel : decode cX11_block 47 = .ok (.iload_n 2, 1)) rfl
theorem o197_48 : Okp RX11 cX11_block 4 (some .int) "block" false 48 (sK 10 50) := ok_bipush (by decide +kernel : decode cX11_block 48 = .ok (.bipush 10, 2)) (by decide)
theorem o197_50 : Okp RX11 cX11_block 4 (some .int) "block" false 50 (sB2 fSub 51) := ok_isub (by decide +kernel : decode cX11_block 50 = .ok (.isub, 1))
theorem o197_51 : Okp RX11 cX11_block 4 (some .int) "block" false 51 (sLI 3 52) := ok_iload_n (by decide +kernel : decode cX11_block 51 = .ok (.iload_n 3, 1)) rfl
theorem o197_52 : Okp RX11 cX11_block 4 (some .int) "block" false 52 (sI2 3 73 55) := ok_icmp_ge (by decide +kernel : decode cX11_block 52 = .ok (.if_icmp .ge 21, 3)) (by decide)
theorem o197_55 : Okp RX11 cX11_block 4 (some .int) "block" false 55 (sLR 0 56) := ok_aload_n (by decide +kernel : decode cX11_block 55 = .ok (.aload_n 0, 1)) rfl
theorem o197_56 : Okp RX11 cX11_block 4 (some .int) "block" false 56 (sGR 12 8 59) := ok_getR (by decide +kernel : decode cX11_block 56 = .ok (.getfield 53, 3)) fw_X11_53 rfl
theorem o197_59 : Okp RX11 cX11_block 4 (some .int) "block" false 59 (sGR 6 3 62) := ok_getR (by decide +kernel : decode cX11_block 59 = .ok (.getfield 153, 3)) fw_X11_153 rfl
theorem o197_62 : Okp RX11 cX11_block 4 (some .int) "block" false 62 (sLI 1 63) := ok_iload_n (by decide +kernel : decode cX11_block 62 = .ok (.iload_n 1, 1)) rfl
theorem o197_63 : Okp RX11 cX11_block 4 (some .int) "block" false 63 (sLI 2 64) := ok_iload_n (by decide +kernel : decode cX11_block 63 = .ok (.iload_n 2, 1)) rfl
theorem o197_64 : Okp RX11 cX11_block 4 (some .int) "block" false 64 (sK 10 66) := ok_bipush (by decide +kernel : decode cX11_block 64 = .ok (.bipush 10, 2)) (by decide)
theorem o197_66 : Okp RX11 cX11_block 4 (some .int) "block" false 66 (sB2 fSub 67) := ok_isub (by decide +kernel : decode cX11_block 66 = .ok (.isub, 1))
theorem o197_67 : Okp RX11 cX11_block 4 (some .int) "block" false 67 (sCV false 6 3 1 70) := ok_cv (by decide +kernel : decode cX11_block 67 = .ok (.invokevirtual 210, 3)) mw_X11_210 rfl (by decide) wm_X0_see wse_X0_see (by decide) rfl
theorem o197_70 : Okp RX11 cX11_block 4 (some .int) "block" false 70 (sGo 74) := ok_goto (by decide +kernel : decode cX11_block 70 = .ok (.goto 4, 3)) (by decide)
theorem o197_73 : Okp RX11 cX11_block 4 (some .int) "block" false 73 (sK (-1) 74) := ok_iconst (by decide +kernel : decode cX11_block 73 = .ok (.iconst (-1), 1)) (by decide)
theorem o197_74 : Okp RX11 cX11_block 4 (some .int) "block" false 74 sRI := ok_iret rfl (by decide +kernel : decode cX11_block 74 = .ok (.ireturn, 1))
theorem oc197_0 : ∀ pc, Mnp (c197_0 pc) ∧ Okp RX11 cX11_block 4 (some .int) "block" false pc (c197_0 pc) := by
  intro pc
  unfold c197_0
  split
  · exact ⟨mn_sLR, o197_0⟩
  · exact ⟨mn_sGR, o197_1⟩
  · exact ⟨mn_sGR, o197_4⟩
  · exact ⟨mn_sLI, o197_7⟩
  · exact ⟨mn_sCV, o197_8⟩
  · exact ⟨mn_sSI, o197_11⟩
  · exact ⟨mn_sLI, o197_12⟩
  · exact ⟨mn_sI1, o197_13⟩
  · exact ⟨mn_sK, o197_16⟩
  · exact ⟨mn_sRI, o197_17⟩
  · exact ⟨mn_sLI, o197_18⟩
  · exact ⟨mn_sI1, o197_19⟩
  · exact ⟨mn_sLI, o197_22⟩
  · exact ⟨mn_sRI, o197_23⟩
  · exact ⟨mn_sX, ok_X⟩
theorem oc197_1 : ∀ pc, Mnp (c197_1 pc) ∧ Okp RX11 cX11_block 4 (some .int) "block" false pc (c197_1 pc) := by
  intro pc
  unfold c197_1
  split
  · exact ⟨mn_sLI, o197_24⟩
  · exact ⟨mn_sK, o197_25⟩
  · exact ⟨mn_sI2, o197_26⟩
  · exact ⟨mn_sLR, o197_29⟩
  · exact ⟨mn_sGR, o197_30⟩
  · exact ⟨mn_sGR, o197_33⟩
  · exact ⟨mn_sLI, o197_36⟩
  · exact ⟨mn_sCV, o197_37⟩
  · exact ⟨mn_sRI, o197_40⟩
  · exact ⟨mn_sLI, o197_41⟩
  · exact ⟨mn_sK, o197_42⟩
  · exact ⟨mn_sI2, o197_44⟩
  · exact ⟨mn_sLI, o197_47⟩
  · exact ⟨mn_sX, ok_X⟩
theorem oc197_2 : ∀ pc, Mnp (c197_2 pc) ∧ Okp RX11 cX11_block 4 (some .int) "block" false pc (c197_2 pc) := by
  intro pc
  unfold c197_2
  split
  · exact ⟨mn_sK, o197_48⟩
  · exact ⟨mn_sB2, o197_50⟩
  · exact ⟨mn_sLI, o197_51⟩
  · exact ⟨mn_sI2, o197_52⟩
  · exact ⟨mn_sLR, o197_55⟩
  · exact ⟨mn_sGR, o197_56⟩
  · exact ⟨mn_sGR, o197_59⟩
  · exact ⟨mn_sLI, o197_62⟩
  · exact ⟨mn_sLI, o197_63⟩
  · exact ⟨mn_sK, o197_64⟩
  · exact ⟨mn_sB2, o197_66⟩
  · exact ⟨mn_sCV, o197_67⟩
  · exact ⟨mn_sGo, o197_70⟩
  · exact ⟨mn_sX, ok_X⟩
theorem oc197_3 : ∀ pc, Mnp (c197_3 pc) ∧ Okp RX11 cX11_block 4 (some .int) "block" false pc (c197_3 pc) := by
  intro pc
  unfold c197_3
  split
  · exact ⟨mn_sK, o197_73⟩
  · exact ⟨mn_sRI, o197_74⟩
  · exact ⟨mn_sX, ok_X⟩
theorem oc197 : ∀ pc, Mnp (c197 pc) ∧ Okp RX11 cX11_block 4 (some .int) "block" false pc (c197 pc) := by
  intro pc
  unfold c197
  split
  · exact oc197_0 pc
  · exact oc197_1 pc
  · exact oc197_2 pc
  · exact oc197_3 pc
  · exact ⟨mn_sX, ok_X⟩
theorem o198_0 : Okp RX11 cX11_channel 5 (some .int) "channel" false 0 (sLI 1 1) := ok_iload_n (by decide +kernel : decode cX11_channel 0 = .ok (.iload_n 1, 1)) rfl
theorem o198_1 : Okp RX11 cX11_channel 5 (some .int) "channel" false 1 (sI1 2 19 4) := ok_if_lt (by decide +kernel : decode cX11_channel 1 = .ok (.ifCond .lt 18, 3)) (by decide)
theorem o198_4 : Okp RX11 cX11_channel 5 (some .int) "channel" false 4 (sLI 1 5) := ok_iload_n (by decide +kernel : decode cX11_channel 4 = .ok (.iload_n 1, 1)) rfl
theorem o198_5 : Okp RX11 cX11_channel 5 (some .int) "channel" false 5 (sK 12 7) := ok_bipush (by decide +kernel : decode cX11_channel 5 = .ok (.bipush 12, 2)) (by decide)
theorem o198_7 : Okp RX11 cX11_channel 5 (some .int) "channel" false 7 (sI2 3 19 10) := ok_icmp_ge (by decide +kernel : decode cX11_channel 7 = .ok (.if_icmp .ge 12, 3)) (by decide)
theorem o198_10 : Okp RX11 cX11_channel 5 (some .int) "channel" false 10 (sLI 2 11) := ok_iload_n (by decide +kernel : decode cX11_channel 10 = .ok (.iload_n 2, 1)) rfl
theorem o198_11 : Okp RX11 cX11_channel 5 (some .int) "channel" false 11 (sI1 2 19 14) := ok_if_lt (by decide +kernel : decode cX11_channel 11 = .ok (.ifCond .lt 8, 3)) (by decide)
theorem o198_14 : Okp RX11 cX11_channel 5 (some .int) "channel" false 14 (sLI 2 15) := ok_iload_n (by decide +kernel : decode cX11_channel 14 = .ok (.iload_n 2, 1)) rfl
theorem o198_15 : Okp RX11 cX11_channel 5 (some .int) "channel" false 15 (sK 1 16) := ok_iconst (by decide +kernel : decode cX11_channel 15 = .ok (.iconst 1, 1)) (by decide)
theorem o198_16 : Okp RX11 cX11_channel 5 (some .int) "channel" false 16 (sI2 5 21 19) := ok_icmp_le (by decide +kernel : decode cX11_channel 16 = .ok (.if_icmp .le 5, 3)) (by decide)
theorem o198_19 : Okp RX11 cX11_channel 5 (some .int) "channel" false 19 (sK (-1) 20) := ok_iconst (by decide +kernel : decode cX11_channel 19 = .ok (.iconst (-1), 1)) (by decide)
theorem o198_20 : Okp RX11 cX11_channel 5 (some .int) "channel" false 20 sRI := ok_iret rfl (by decide +kernel : decode cX11_channel 20 = .ok (.ireturn, 1))
theorem o198_21 : Okp RX11 cX11_channel 5 (some .int) "channel" false 21 (sK 2 22) := ok_iconst (by decide +kernel : decode cX11_channel 21 = .ok (.iconst 2, 1)) (by decide)
theorem o198_22 : Okp RX11 cX11_channel 5 (some .int) "channel" false 22 (sLI 1 23) := ok_iload_n (by decide +kernel : decode cX11_channel 22 = .ok (.iload_n 1, 1)) rfl
theorem o198_23 : Okp RX11 cX11_channel 5 (some .int) "channel" false 23 (sB2 fMul 24) := ok_imul (by decide +kernel : decode cX11_channel 23 = .ok (.imul, 1))
theorem o198_24 : Okp RX11 cX11_channel 5 (some .int) "channel" false 24 (sLI 2 25) := ok_iload_n (by decide +kernel : decode cX11_channel 24 = .ok (.iload_n 2, 1)) rfl
theorem o198_25 : Okp RX11 cX11_channel 5 (some .int) "channel" false 25 (sB2 fAdd 26) := ok_iadd (by decide +kernel : decode cX11_channel 25 = .ok (.iadd, 1))
theorem o198_26 : Okp RX11 cX11_channel 5 (some .int) "channel" false 26 (sSI 4 28) := ok_istore (by decide +kernel : decode cX11_channel 26 = .ok (.istore 4, 2)) (by decide) (by decide)
theorem o198_28 : Okp RX11 cX11_channel 5 (some .int) "channel" false 28 (sLR 0 29) := ok_aload_n (by decide +kernel : decode cX11_channel 28 = .ok (.aload_n 0, 1)) rfl
theorem o198_29 : Okp RX11 cX11_channel 5 (some .int) "channel" false 29 (sGR 12 8 32) := ok_getR (by decide +kernel : decode cX11_channel 29 = .ok (.getfield 53, 3)) fw_X11_53 rfl
theorem o198_32 : Okp RX11 cX11_channel 5 (some .int) "channel" false 32 (sGR 6 4 35) := ok_getR (by decide +kernel : decode cX11_channel 32 = .ok (.getfield 144, 3)) fw_X11_144 rfl
theorem o198_35 : Okp RX11 cX11_channel 5 (some .int) "channel" false 35 (sLI 4 37) := ok_iload (by decide +kernel : decode cX11_channel 35 = .ok (.iload 4, 2))
theorem o198_37 : Okp RX11 cX11_channel 5 (some .int) "channel" false 37 (sCV false 41 2 5 40) := ok_cv (by decide +kernel : decode cX11_channel 37 = .ok (.invokevirtual 213, 3)) mw_X11_213 rfl (by decide) wm_X4_isOpen wse_X4_isOpen (by decide) rfl
theorem o198_40 : Okp RX11 cX11_channel 5 (some .int) "channel" false 40 (sI1 1 45 43) := ok_if_ne (by decide +kernel : decode cX11_channel 40 = .ok (.ifCond .ne 5, 3)) (by decide)
theorem o198_43 : Okp RX11 cX11_channel 5 (some .int) "channel" false 43 (sK (-1) 44) := ok_iconst (by decide +kernel : decode cX11_channel 43 = .ok (.iconst (-1), 1)) (by decide)
theorem o198_44 : Okp RX11 cX11_channel 5 (some .int) "channel" false 44 sRI := ok_iret rfl (by decide +kernel : decode cX11_channel 44 = .ok (.ireturn, 1))
theorem o198_45 : Okp RX11 cX11_channel 5 (some .int) "channel" false 45 (sLI 3 46) := ok_iload_n (by decide +kernel : decode cX11_channel 45 = .ok (.iload_n 3, 1)) rfl
theorem o198_46 : Okp RX11 cX11_channel 5 (some .int) "channel" false 46 (sSw [(0, 72), (1, 85), (2, 98)] 111) := ok_tsw (by decide +kernel : decode cX11_channel 46 = .ok (.tableswitch 65 0 2 #[26, 39, 52], 26)) (by decide) (by decide) (by decide)
theorem o198_72 : Okp RX11 cX11_channel 5 (some .int) "channel" false 72 (sLR 0 73) := ok_aload_n (by decide +kernel : decode cX11_channel 72 = .ok (.aload_n 0, 1)) rfl
theorem o198_73 : Okp RX11 cX11_channel 5 (some .int) "channel" false 73 (sGR 12 8 76) := ok_getR (by decide +kernel : decode cX11_channel 73 = .ok (.getfield 53, 3)) fw_X11_53 rfl
theorem o198_76 : Okp RX11 cX11_channel 5 (some .int) "channel" false 76 (sGR 6 4 79) := ok_getR (by decide +kernel : decode cX11_channel 76 = .ok (.getfield 144, 3)) fw_X11_144 rfl
theorem o198_79 : Okp RX11 cX11_channel 5 (some .int) "channel" false 79 (sLI 4 81) := ok_iload (by decide +kernel : decode cX11_channel 79 = .ok (.iload 4, 2))
theorem o198_81 : Okp RX11 cX11_channel 5 (some .int) "channel" false 81 (sCV false 45 2 5 84) := ok_cv (by decide +kernel : decode cX11_channel 81 = .ok (.invokevirtual 217, 3)) mw_X11_217 rfl (by decide) wm_X4_stateOf wse_X4_stateOf (by decide) rfl
theorem o198_84 : Okp RX11 cX11_channel 5 (some .int) "channel" false 84 sRI := ok_iret rfl (by decide +kernel : decode cX11_channel 84 = .ok (.ireturn, 1))
theorem o198_85 : Okp RX11 cX11_channel 5 (some .int) "channel" false 85 (sLR 0 86) := ok_aload_n (by decide +kernel : decode cX11_channel 85 = .ok (.aload_n 0, 1)) rfl
theorem o198_86 : Okp RX11 cX11_channel 5 (some .int) "channel" false 86 (sGR 12 8 89) := ok_getR (by decide +kernel : decode cX11_channel 86 = .ok (.getfield 53, 3)) fw_X11_53 rfl
theorem o198_89 : Okp RX11 cX11_channel 5 (some .int) "channel" false 89 (sGR 6 4 92) := ok_getR (by decide +kernel : decode cX11_channel 89 = .ok (.getfield 144, 3)) fw_X11_144 rfl
theorem o198_92 : Okp RX11 cX11_channel 5 (some .int) "channel" false 92 (sLI 4 94) := ok_iload (by decide +kernel : decode cX11_channel 92 = .ok (.iload 4, 2))
theorem o198_94 : Okp RX11 cX11_channel 5 (some .int) "channel" false 94 (sCV false 46 2 5 97) := ok_cv (by decide +kernel : decode cX11_channel 94 = .ok (.invokevirtual 220, 3)) mw_X11_220 rfl (by decide) wm_X4_ownerOf wse_X4_ownerOf (by decide) rfl
theorem o198_97 : Okp RX11 cX11_channel 5 (some .int) "channel" false 97 sRI := ok_iret rfl (by decide +kernel : decode cX11_channel 97 = .ok (.ireturn, 1))
theorem o198_98 : Okp RX11 cX11_channel 5 (some .int) "channel" false 98 (sLR 0 99) := ok_aload_n (by decide +kernel : decode cX11_channel 98 = .ok (.aload_n 0, 1)) rfl
theorem o198_99 : Okp RX11 cX11_channel 5 (some .int) "channel" false 99 (sGR 12 8 102) := ok_getR (by decide +kernel : decode cX11_channel 99 = .ok (.getfield 53, 3)) fw_X11_53 rfl
theorem o198_102 : Okp RX11 cX11_channel 5 (some .int) "channel" false 102 (sGR 6 4 105) := ok_getR (by decide +kernel : decode cX11_channel 102 = .ok (.getfield 144, 3)) fw_X11_144 rfl
theorem o198_105 : Okp RX11 cX11_channel 5 (some .int) "channel" false 105 (sLI 4 107) := ok_iload (by decide +kernel : decode cX11_channel 105 = .ok (.iload 4, 2))
theorem o198_107 : Okp RX11 cX11_channel 5 (some .int) "channel" false 107 (sCV false 48 2 5 110) := ok_cv (by decide +kernel : decode cX11_channel 107 = .ok (.invokevirtual 221, 3)) mw_X11_221 rfl (by decide) wm_X4_waitingFor wse_X4_waitingFor (by decide) rfl
theorem o198_110 : Okp RX11 cX11_channel 5 (some .int) "channel" false 110 sRI := ok_iret rfl (by decide +kernel : decode cX11_channel 110 = .ok (.ireturn, 1))
theorem o198_111 : Okp RX11 cX11_channel 5 (some .int) "channel" false 111 (sK (-1) 112) := ok_iconst (by decide +kernel : decode cX11_channel 111 = .ok (.iconst (-1), 1)) (by decide)
theorem o198_112 : Okp RX11 cX11_channel 5 (some .int) "channel" false 112 sRI := ok_iret rfl (by decide +kernel : decode cX11_channel 112 = .ok (.ireturn, 1))
theorem oc198_0 : ∀ pc, Mnp (c198_0 pc) ∧ Okp RX11 cX11_channel 5 (some .int) "channel" false pc (c198_0 pc) := by
  intro pc
  unfold c198_0
  split
  · exact ⟨mn_sLI, o198_0⟩
  · exact ⟨mn_sI1, o198_1⟩
  · exact ⟨mn_sLI, o198_4⟩
  · exact ⟨mn_sK, o198_5⟩
  · exact ⟨mn_sI2, o198_7⟩
  · exact ⟨mn_sLI, o198_10⟩
  · exact ⟨mn_sI1, o198_11⟩
  · exact ⟨mn_sLI, o198_14⟩
  · exact ⟨mn_sK, o198_15⟩
  · exact ⟨mn_sI2, o198_16⟩
  · exact ⟨mn_sK, o198_19⟩
  · exact ⟨mn_sRI, o198_20⟩
  · exact ⟨mn_sK, o198_21⟩
  · exact ⟨mn_sLI, o198_22⟩
  · exact ⟨mn_sB2, o198_23⟩
  · exact ⟨mn_sX, ok_X⟩
theorem oc198_1 : ∀ pc, Mnp (c198_1 pc) ∧ Okp RX11 cX11_channel 5 (some .int) "channel" false pc (c198_1 pc) := by
  intro pc
  unfold c198_1
  split
  · exact ⟨mn_sLI, o198_24⟩
  · exact ⟨mn_sB2, o198_25⟩
  · exact ⟨mn_sSI, o198_26⟩
  · exact ⟨mn_sLR, o198_28⟩
  · exact ⟨mn_sGR, o198_29⟩
  · exact ⟨mn_sGR, o198_32⟩
  · exact ⟨mn_sLI, o198_35⟩
  · exact ⟨mn_sCV, o198_37⟩
  · exact ⟨mn_sI1, o198_40⟩
  · exact ⟨mn_sK, o198_43⟩
  · exact ⟨mn_sRI, o198_44⟩
  · exact ⟨mn_sLI, o198_45⟩
  · exact ⟨mn_sSw, o198_46⟩
  · exact ⟨mn_sX, ok_X⟩
theorem oc198_3 : ∀ pc, Mnp (c198_3 pc) ∧ Okp RX11 cX11_channel 5 (some .int) "channel" false pc (c198_3 pc) := by
  intro pc
  unfold c198_3
  split
  · exact ⟨mn_sLR, o198_72⟩
  · exact ⟨mn_sGR, o198_73⟩
  · exact ⟨mn_sGR, o198_76⟩
  · exact ⟨mn_sLI, o198_79⟩
  · exact ⟨mn_sCV, o198_81⟩
  · exact ⟨mn_sRI, o198_84⟩
  · exact ⟨mn_sLR, o198_85⟩
  · exact ⟨mn_sGR, o198_86⟩
  · exact ⟨mn_sGR, o198_89⟩
  · exact ⟨mn_sLI, o198_92⟩
  · exact ⟨mn_sCV, o198_94⟩
  · exact ⟨mn_sX, ok_X⟩
theorem oc198_4 : ∀ pc, Mnp (c198_4 pc) ∧ Okp RX11 cX11_channel 5 (some .int) "channel" false pc (c198_4 pc) := by
  intro pc
  unfold c198_4
  split
  · exact ⟨mn_sRI, o198_97⟩
  · exact ⟨mn_sLR, o198_98⟩
  · exact ⟨mn_sGR, o198_99⟩
  · exact ⟨mn_sGR, o198_102⟩
  · exact ⟨mn_sLI, o198_105⟩
  · exact ⟨mn_sCV, o198_107⟩
  · exact ⟨mn_sRI, o198_110⟩
  · exact ⟨mn_sK, o198_111⟩
  · exact ⟨mn_sRI, o198_112⟩
  · exact ⟨mn_sX, ok_X⟩
theorem oc198 : ∀ pc, Mnp (c198 pc) ∧ Okp RX11 cX11_channel 5 (some .int) "channel" false pc (c198 pc) := by
  intro pc
  unfold c198
  split
  · exact oc198_0 pc
  · exact oc198_1 pc
  · exact oc198_3 pc
  · exact oc198_4 pc
  · exact ⟨mn_sX, ok_X⟩
theorem o199_0 : Okp RX11 cX11_output 3 (some .int) "output" false 0 (sLR 0 1) := ok_aload_n (by decide +kernel : decode cX11_output 0 = .ok (.aload_n 0, 1)) rfl
theorem o199_1 : Okp RX11 cX11_output 3 (some .int) "output" false 1 (sGR 12 8 4) := ok_getR (by decide +kernel : decode cX11_output 1 = .ok (.getfield 53, 3)) fw_X11_53 rfl
theorem o199_4 : Okp RX11 cX11_output 3 (some .int) "output" false 4 (sGI 6 0 7) := ok_getI (by decide +kernel : decode cX11_output 4 = .ok (.getfield 126, 3)) fw_X11_126 rfl
theorem o199_7 : Okp RX11 cX11_output 3 (some .int) "output" false 7 (sI1 0 25 10) := ok_if_eq (by decide +kernel : decode cX11_output 7 = .ok (.ifCond .eq 18, 3)) (by decide)
theorem o199_10 : Okp RX11 cX11_output 3 (some .int) "output" false 10 (sLI 1 11) := ok_iload_n (by decide +kernel : decode cX11_output 10 = .ok (.iload_n 1, 1)) rfl
theorem o199_11 : Okp RX11 cX11_output 3 (some .int) "output" false 11 (sI1 2 25 14) := ok_if_lt (by decide +kernel : decode cX11_output 11 = .ok (.ifCond .lt 14, 3)) (by decide)
theorem o199_14 : Okp RX11 cX11_output 3 (some .int) "output" false 14 (sLI 1 15) := ok_iload_n (by decide +kernel : decode cX11_output 14 = .ok (.iload_n 1, 1)) rfl
theorem o199_15 : Okp RX11 cX11_output 3 (some .int) "output" false 15 (sLR 0 16) := ok_aload_n (by decide +kernel : decode cX11_output 15 = .ok (.aload_n 0, 1)) rfl
theorem o199_16 : Okp RX11 cX11_output 3 (some .int) "output" false 16 (sGR 12 8 19) := ok_getR (by decide +kernel : decode cX11_output 16 = .ok (.getfield 53, 3)) fw_X11_53 rfl
theorem o199_19 : Okp RX11 cX11_output 3 (some .int) "output" false 19 (sGI 6 8 22) := ok_getI (by decide +kernel : decode cX11_output 19 = .ok (.getfield 163, 3)) fw_X11_163 rfl
theorem o199_22 : Okp RX11 cX11_output 3 (some .int) "output" false 22 (sI2 2 27 25) := ok_icmp_lt (by decide +kernel : decode cX11_output 22 = .ok (.if_icmp .lt 5, 3)) (by decide)
theorem o199_25 : Okp RX11 cX11_output 3 (some .int) "output" false 25 (sK (-1) 26) := ok_iconst (by decide +kernel : decode cX11_output 25 = .ok (.iconst (-1), 1)) (by decide)
theorem o199_26 : Okp RX11 cX11_output 3 (some .int) "output" false 26 sRI := ok_iret rfl (by decide +kernel : decode cX11_output 26 = .ok (.ireturn, 1))
theorem o199_27 : Okp RX11 cX11_output 3 (some .int) "output" false 27 (sLI 2 28) := ok_iload_n (by decide +kernel : decode cX11_output 27 = .ok (.iload_n 2, 1)) rfl
theorem o199_28 : Okp RX11 cX11_output 3 (some .int) "output" false 28 (sI1 1 41 31) := ok_if_ne (by decide +kernel : decode cX11_output 28 = .ok (.ifCond .ne 13, 3)) (by decide)
theorem o199_31 : Okp RX11 cX11_output 3 (some .int) "output" false 31 (sLR 0 32) := ok_aload_n (by decide +kernel : decode cX11_output 31 = .ok (.aload_n 0, 1)) rfl
theorem o199_32 : Okp RX11 cX11_output 3 (some .int) "output" false 32 (sGR 12 8 35) := ok_getR (by decide +kernel : decode cX11_output 32 = .ok (.getfield 53, 3)) fw_X11_53 rfl
theorem o199_35 : Okp RX11 cX11_output 3 (some .int) "output" false 35 (sGR 6 6 38) := ok_getR (by decide +kernel : decode cX11_output 35 = .ok (.getfield 224, 3)) fw_X11_224 rfl
theorem o199_38 : Okp RX11 cX11_output 3 (some .int) "output" false 38 (sLI 1 39) := ok_iload_n (by decide +kernel : decode cX11_output 38 = .ok (.iload_n 1, 1)) rfl
theorem o199_39 : Okp RX11 cX11_output 3 (some .int) "output" false 39 (sIA 40) := ok_iaload (by decide +kernel : decode cX11_output 39 = .ok (.iaload, 1))
theorem o199_40 : Okp RX11 cX11_output 3 (some .int) "output" false 40 sRI := ok_iret rfl (by decide +kernel : decode cX11_output 40 = .ok (.ireturn, 1))
theorem o199_41 : Okp RX11 cX11_output 3 (some .int) "output" false 41 (sLI 2 42) := ok_iload_n (by decide +kernel : decode cX11_output 41 = .ok (.iload_n 2, 1)) rfl
theorem o199_42 : Okp RX11 cX11_output 3 (some .int) "output" false 42 (sK 1 43) := ok_iconst (by decide +kernel : decode cX11_output 42 = .ok (.iconst 1, 1)) (by decide)
theorem o199_43 : Okp RX11 cX11_output 3 (some .int) "output" false 43 (sI2 1 58 46) := ok_icmp_ne (by decide +kernel : decode cX11_output 43 = .ok (.if_icmp .ne 15, 3)) (by decide)
theorem o199_46 : Okp RX11 cX11_output 3 (some .int) "output" false 46 (sLR 0 47) := ok_aload_n (by decide +kernel : decode cX11_output 46 = .ok (.aload_n 0, 1)) rfl
theorem o199_47 : Okp RX11 cX11_output 3 (some .int) "output" false 47 (sGR 12 8 50) := ok_getR (by decide +kernel : decode cX11_output 47 = .ok (.getfield 53, 3)) fw_X11_53 rfl
theorem o199_50 : Okp RX11 cX11_output 3 (some .int) "output" false 50 (sGR 6 7 53) := ok_getR (by decide +kernel : decode cX11_output 50 = .ok (.getfield 227, 3)) fw_X11_227 rfl
theorem o199_53 : Okp RX11 cX11_output 3 (some .int) "output" false 53 (sLI 1 54) := ok_iload_n (by decide +kernel : decode cX11_output 53 = .ok (.iload_n 1, 1)) rfl
theorem o199_54 : Okp RX11 cX11_output 3 (some .int) "output" false 54 (sIA 55) := ok_iaload (by decide +kernel : decode cX11_output 54 = .ok (.iaload, 1))
theorem o199_55 : Okp RX11 cX11_output 3 (some .int) "output" false 55 (sGo 59) := ok_goto (by decide +kernel : decode cX11_output 55 = .ok (.goto 4, 3)) (by decide)
theorem o199_58 : Okp RX11 cX11_output 3 (some .int) "output" false 58 (sK (-1) 59) := ok_iconst (by decide +kernel : decode cX11_output 58 = .ok (.iconst (-1), 1)) (by decide)
theorem o199_59 : Okp RX11 cX11_output 3 (some .int) "output" false 59 sRI := ok_iret rfl (by decide +kernel : decode cX11_output 59 = .ok (.ireturn, 1))
theorem oc199_0 : ∀ pc, Mnp (c199_0 pc) ∧ Okp RX11 cX11_output 3 (some .int) "output" false pc (c199_0 pc) := by
  intro pc
  unfold c199_0
  split
  · exact ⟨mn_sLR, o199_0⟩
  · exact ⟨mn_sGR, o199_1⟩
  · exact ⟨mn_sGI, o199_4⟩
  · exact ⟨mn_sI1, o199_7⟩
  · exact ⟨mn_sLI, o199_10⟩
  · exact ⟨mn_sI1, o199_11⟩
  · exact ⟨mn_sLI, o199_14⟩
  · exact ⟨mn_sLR, o199_15⟩
  · exact ⟨mn_sGR, o199_16⟩
  · exact ⟨mn_sGI, o199_19⟩
  · exact ⟨mn_sI2, o199_22⟩
  · exact ⟨mn_sX, ok_X⟩
theorem oc199_1 : ∀ pc, Mnp (c199_1 pc) ∧ Okp RX11 cX11_output 3 (some .int) "output" false pc (c199_1 pc) := by
  intro pc
  unfold c199_1
  split
  · exact ⟨mn_sK, o199_25⟩
  · exact ⟨mn_sRI, o199_26⟩
  · exact ⟨mn_sLI, o199_27⟩
  · exact ⟨mn_sI1, o199_28⟩
  · exact ⟨mn_sLR, o199_31⟩
  · exact ⟨mn_sGR, o199_32⟩
  · exact ⟨mn_sGR, o199_35⟩
  · exact ⟨mn_sLI, o199_38⟩
  · exact ⟨mn_sIA, o199_39⟩
  · exact ⟨mn_sRI, o199_40⟩
  · exact ⟨mn_sLI, o199_41⟩
  · exact ⟨mn_sK, o199_42⟩
  · exact ⟨mn_sI2, o199_43⟩
  · exact ⟨mn_sLR, o199_46⟩
  · exact ⟨mn_sGR, o199_47⟩
  · exact ⟨mn_sX, ok_X⟩
theorem oc199_2 : ∀ pc, Mnp (c199_2 pc) ∧ Okp RX11 cX11_output 3 (some .int) "output" false pc (c199_2 pc) := by
  intro pc
  unfold c199_2
  split
  · exact ⟨mn_sGR, o199_50⟩
  · exact ⟨mn_sLI, o199_53⟩
  · exact ⟨mn_sIA, o199_54⟩
  · exact ⟨mn_sGo, o199_55⟩
  · exact ⟨mn_sK, o199_58⟩
  · exact ⟨mn_sRI, o199_59⟩
  · exact ⟨mn_sX, ok_X⟩
theorem oc199 : ∀ pc, Mnp (c199 pc) ∧ Okp RX11 cX11_output 3 (some .int) "output" false pc (c199 pc) := by
  intro pc
  unfold c199
  split
  · exact oc199_0 pc
  · exact oc199_1 pc
  · exact oc199_2 pc
  · exact ⟨mn_sX, ok_X⟩
theorem o200_0 : Okp RX11 cX11_tapeNumber 3 none "tapeNumber" false 0 (sK 24 2) := ok_bipush (by decide +kernel : decode cX11_tapeNumber 0 = .ok (.bipush 24, 2)) (by decide)
theorem o200_2 : Okp RX11 cX11_tapeNumber 3 none "tapeNumber" false 2 (sSI 2 3) := ok_istore_n (by decide +kernel : decode cX11_tapeNumber 2 = .ok (.istore_n 2, 1)) rfl (by decide) (by decide)
theorem o200_3 : Okp RX11 cX11_tapeNumber 3 none "tapeNumber" false 3 (sLI 2 4) := ok_iload_n (by decide +kernel : decode cX11_tapeNumber 3 = .ok (.iload_n 2, 1)) rfl
theorem o200_4 : Okp RX11 cX11_tapeNumber 3 none "tapeNumber" false 4 (sI1 2 49 7) := ok_if_lt (by decide +kernel : decode cX11_tapeNumber 4 = .ok (.ifCond .lt 45, 3)) (by decide)
theorem o200_7 : Okp RX11 cX11_tapeNumber 3 none "tapeNumber" false 7 (sLR 0 8) := ok_aload_n (by decide +kernel : decode cX11_tapeNumber 7 = .ok (.aload_n 0, 1)) rfl
theorem o200_8 : Okp RX11 cX11_tapeNumber 3 none "tapeNumber" false 8 (sGI 12 1 11) := ok_getI (by decide +kernel : decode cX11_tapeNumber 8 = .ok (.getfield 13, 3)) fw_X11_13 rfl
theorem o200_11 : Okp RX11 cX11_tapeNumber 3 none "tapeNumber" false 11 (sK 2000 14) := ok_sipush (by decide +kernel : decode cX11_tapeNumber 11 = .ok (.sipush 2000, 3)) (by decide)
theorem o200_14 : Okp RX11 cX11_tapeNumber 3 none "tapeNumber" false 14 (sI2 3 43 17) := ok_icmp_ge (by decide +kernel : decode cX11_tapeNumber 14 = .ok (.if_icmp .ge 29, 3)) (by decide)
theorem o200_17 : Okp RX11 cX11_tapeNumber 3 none "tapeNumber" false 17 (sLR 0 18) := ok_aload_n (by decide +kernel : decode cX11_tapeNumber 17 = .ok (.aload_n 0, 1)) rfl
theorem o200_18 : Okp RX11 cX11_tapeNumber 3 none "tapeNumber" false 18 (sGR 12 0 21) := ok_getR (by decide +kernel : decode cX11_tapeNumber 18 = .ok (.getfield 9, 3)) fw_X11_9 rfl
theorem o200_21 : Okp RX11 cX11_tapeNumber 3 none "tapeNumber" false 21 (sLR 0 22) := ok_aload_n (by decide +kernel : decode cX11_tapeNumber 21 = .ok (.aload_n 0, 1)) rfl
theorem o200_22 : Okp RX11 cX11_tapeNumber 3 none "tapeNumber" false 22 (sGI 12 1 25) := ok_getI (by decide +kernel : decode cX11_tapeNumber 22 = .ok (.getfield 13, 3)) fw_X11_13 rfl
theorem o200_25 : Okp RX11 cX11_tapeNumber 3 none "tapeNumber" false 25 (sLI 1 26) := ok_iload_n (by decide +kernel : decode cX11_tapeNumber 25 = .ok (.iload_n 1, 1)) rfl
theorem o200_26 : Okp RX11 cX11_tapeNumber 3 none "tapeNumber" false 26 (sLI 2 27) := ok_iload_n (by decide +kernel : decode cX11_tapeNumber 26 = .ok (.iload_n 2, 1)) rfl
theorem o200_27 : Okp RX11 cX11_tapeNumber 3 none "tapeNumber" false 27 (sB2 fShr 28) := ok_ishr (by decide +kernel : decode cX11_tapeNumber 27 = .ok (.ishr, 1))
theorem o200_28 : Okp RX11 cX11_tapeNumber 3 none "tapeNumber" false 28 (sK 255 31) := ok_sipush (by decide +kernel : decode cX11_tapeNumber 28 = .ok (.sipush 255, 3)) (by decide)
theorem o200_31 : Okp RX11 cX11_tapeNumber 3 none "tapeNumber" false 31 (sB2 fAnd 32) := ok_iand (by decide +kernel : decode cX11_tapeNumber 31 = .ok (.iand, 1))
theorem o200_32 : Okp RX11 cX11_tapeNumber 3 none "tapeNumber" false 32 (sIS 33) := ok_iastore (by decide +kernel : decode cX11_tapeNumber 32 = .ok (.iastore, 1))
theorem o200_33 : Okp RX11 cX11_tapeNumber 3 none "tapeNumber" false 33 (sLR 0 34) := ok_aload_n (by decide +kernel : decode cX11_tapeNumber 33 = .ok (.aload_n 0, 1)) rfl
theorem o200_34 : Okp RX11 cX11_tapeNumber 3 none "tapeNumber" false 34 (sDup 35) := ok_dup (by decide +kernel : decode cX11_tapeNumber 34 = .ok (.dup, 1))
theorem o200_35 : Okp RX11 cX11_tapeNumber 3 none "tapeNumber" false 35 (sGI 12 1 38) := ok_getI (by decide +kernel : decode cX11_tapeNumber 35 = .ok (.getfield 13, 3)) fw_X11_13 rfl
theorem o200_38 : Okp RX11 cX11_tapeNumber 3 none "tapeNumber" false 38 (sK 1 39) := ok_iconst (by decide +kernel : decode cX11_tapeNumber 38 = .ok (.iconst 1, 1)) (by decide)
theorem o200_39 : Okp RX11 cX11_tapeNumber 3 none "tapeNumber" false 39 (sB2 fAdd 40) := ok_iadd (by decide +kernel : decode cX11_tapeNumber 39 = .ok (.iadd, 1))
theorem o200_40 : Okp RX11 cX11_tapeNumber 3 none "tapeNumber" false 40 (sPI 12 1 43) := ok_putI (by decide +kernel : decode cX11_tapeNumber 40 = .ok (.putfield 13, 3)) fw_X11_13 ⟨⟨tyX11_ok, nmX11⟩, Or.inl rfl, rfl⟩ rfl
theorem o200_43 : Okp RX11 cX11_tapeNumber 3 none "tapeNumber" false 43 (sInc 2 (-8) 46) := ok_iinc (by decide +kernel : decode cX11_tapeNumber 43 = .ok (.iinc 2 (-8), 3)) (by decide) (by decide)
theorem o200_46 : Okp RX11 cX11_tapeNumber 3 none "tapeNumber" false 46 (sGo 3) := ok_goto (by decide +kernel : decode cX11_tapeNumber 46 = .ok (.goto (-43), 3)) (by decide)
theorem o200_49 : Okp RX11 cX11_tapeNumber 3 none "tapeNumber" false 49 sRV := ok_vret rfl (by decide +kernel : decode cX11_tapeNumber 49 = .ok (.return_, 1))
theorem oc200_0 : ∀ pc, Mnp (c200_0 pc) ∧ Okp RX11 cX11_tapeNumber 3 none "tapeNumber" false pc (c200_0 pc) := by
  intro pc
  unfold c200_0
  split
  · exact ⟨mn_sK, o200_0⟩
  · exact ⟨mn_sSI, o200_2⟩
  · exact ⟨mn_sLI, o200_3⟩
  · exact ⟨mn_sI1, o200_4⟩
  · exact ⟨mn_sLR, o200_7⟩
  · exact ⟨mn_sGI, o200_8⟩
  · exact ⟨mn_sK, o200_11⟩
  · exact ⟨mn_sI2, o200_14⟩
  · exact ⟨mn_sLR, o200_17⟩
  · exact ⟨mn_sGR, o200_18⟩
  · exact ⟨mn_sLR, o200_21⟩
  · exact ⟨mn_sGI, o200_22⟩
  · exact ⟨mn_sX, ok_X⟩
theorem oc200_1 : ∀ pc, Mnp (c200_1 pc) ∧ Okp RX11 cX11_tapeNumber 3 none "tapeNumber" false pc (c200_1 pc) := by
  intro pc
  unfold c200_1
  split
  · exact ⟨mn_sLI, o200_25⟩
  · exact ⟨mn_sLI, o200_26⟩
  · exact ⟨mn_sB2, o200_27⟩
  · exact ⟨mn_sK, o200_28⟩
  · exact ⟨mn_sB2, o200_31⟩
  · exact ⟨mn_sIS, o200_32⟩
  · exact ⟨mn_sLR, o200_33⟩
  · exact ⟨mn_sDup, o200_34⟩
  · exact ⟨mn_sGI, o200_35⟩
  · exact ⟨mn_sK, o200_38⟩
  · exact ⟨mn_sB2, o200_39⟩
  · exact ⟨mn_sPI, o200_40⟩
  · exact ⟨mn_sInc, o200_43⟩
  · exact ⟨mn_sGo, o200_46⟩
  · exact ⟨mn_sX, ok_X⟩
theorem oc200_2 : ∀ pc, Mnp (c200_2 pc) ∧ Okp RX11 cX11_tapeNumber 3 none "tapeNumber" false pc (c200_2 pc) := by
  intro pc
  unfold c200_2
  split
  · exact ⟨mn_sRV, o200_49⟩
  · exact ⟨mn_sX, ok_X⟩
theorem oc200 : ∀ pc, Mnp (c200 pc) ∧ Okp RX11 cX11_tapeNumber 3 none "tapeNumber" false pc (c200 pc) := by
  intro pc
  unfold c200
  split
  · exact oc200_0 pc
  · exact oc200_1 pc
  · exact oc200_2 pc
  · exact ⟨mn_sX, ok_X⟩
theorem o201_0 : Okp RX11 cX11_tell 2 none "tell" false 0 (sLR 0 1) := ok_aload_n (by decide +kernel : decode cX11_tell 0 = .ok (.aload_n 0, 1)) rfl
theorem o201_1 : Okp RX11 cX11_tell 2 none "tell" false 1 (sLR 1 2) := ok_aload_n (by decide +kernel : decode cX11_tell 1 = .ok (.aload_n 1, 1)) rfl
theorem o201_2 : Okp RX11 cX11_tell 2 none "tell" false 2 (sGI 2 4 5) := ok_getI (by decide +kernel : decode cX11_tell 2 = .ok (.getfield 230, 3)) fw_X11_230 rfl
theorem o201_5 : Okp RX11 cX11_tell 2 none "tell" false 5 (sPI 12 3 8) := ok_putI (by decide +kernel : decode cX11_tell 5 = .ok (.putfield 23, 3)) fw_X11_23 ⟨⟨tyX11_ok, nmX11⟩, Or.inl rfl, rfl⟩ rfl
theorem o201_8 : Okp RX11 cX11_tell 2 none "tell" false 8 (sLR 0 9) := ok_aload_n (by decide +kernel : decode cX11_tell 8 = .ok (.aload_n 0, 1)) rfl
theorem o201_9 : Okp RX11 cX11_tell 2 none "tell" false 9 (sLR 1 10) := ok_aload_n (by decide +kernel : decode cX11_tell 9 = .ok (.aload_n 1, 1)) rfl
theorem o201_10 : Okp RX11 cX11_tell 2 none "tell" false 10 (sGI 2 5 13) := ok_getI (by decide +kernel : decode cX11_tell 10 = .ok (.getfield 235, 3)) fw_X11_235 rfl
theorem o201_13 : Okp RX11 cX11_tell 2 none "tell" false 13 (sPI 12 4 16) := ok_putI (by decide +kernel : decode cX11_tell 13 = .ok (.putfield 26, 3)) fw_X11_26 ⟨⟨tyX11_ok, nmX11⟩, Or.inl rfl, rfl⟩ rfl
theorem o201_16 : Okp RX11 cX11_tell 2 none "tell" false 16 sRV := ok_vret rfl (by decide +kernel : decode cX11_tell 16 = .ok (.return_, 1))
theorem oc201 : ∀ pc, Mnp (c201 pc) ∧ Okp RX11 cX11_tell 2 none "tell" false pc (c201 pc) := by
  intro pc
  unfold c201
  split
  · exact ⟨mn_sLR, o201_0⟩
  · exact ⟨mn_sLR, o201_1⟩
  · exact ⟨mn_sGI, o201_2⟩
  · exact ⟨mn_sPI, o201_5⟩
  · exact ⟨mn_sLR, o201_8⟩
  · exact ⟨mn_sLR, o201_9⟩
  · exact ⟨mn_sGI, o201_10⟩
  · exact ⟨mn_sPI, o201_13⟩
  · exact ⟨mn_sRV, o201_16⟩
  · exact ⟨mn_sX, ok_X⟩
theorem o202_0 : Okp RX11 cX11_onShelf 2 (some (.object "SealedProcesses$TypedModule")) "onShelf" false 0 (sLI 1 1) := ok_iload_n (by decide +kernel : decode cX11_onShelf 0 = .ok (.iload_n 1, 1)) rfl
theorem o202_1 : Okp RX11 cX11_onShelf 2 (some (.object "SealedProcesses$TypedModule")) "onShelf" false 1 (sI1 2 10 4) := ok_if_lt (by decide +kernel : decode cX11_onShelf 1 = .ok (.ifCond .lt 9, 3)) (by decide)
theorem o202_4 : Okp RX11 cX11_onShelf 2 (some (.object "SealedProcesses$TypedModule")) "onShelf" false 4 (sLI 1 5) := ok_iload_n (by decide +kernel : decode cX11_onShelf 4 = .ok (.iload_n 1, 1)) rfl
theorem o202_5 : Okp RX11 cX11_onShelf 2 (some (.object "SealedProcesses$TypedModule")) "onShelf" false 5 (sK 6 7) := ok_bipush (by decide +kernel : decode cX11_onShelf 5 = .ok (.bipush 6, 2)) (by decide)
theorem o202_7 : Okp RX11 cX11_onShelf 2 (some (.object "SealedProcesses$TypedModule")) "onShelf" false 7 (sI2 2 14 10) := ok_icmp_lt (by decide +kernel : decode cX11_onShelf 7 = .ok (.if_icmp .lt 7, 3)) (by decide)
theorem o202_10 : Okp RX11 cX11_onShelf 2 (some (.object "SealedProcesses$TypedModule")) "onShelf" false 10 (sNul 11) := ok_null (by decide +kernel : decode cX11_onShelf 10 = .ok (.aconst_null, 1))
theorem o202_11 : Okp RX11 cX11_onShelf 2 (some (.object "SealedProcesses$TypedModule")) "onShelf" false 11 (sGo 20) := ok_goto (by decide +kernel : decode cX11_onShelf 11 = .ok (.goto 9, 3)) (by decide)
theorem o202_14 : Okp RX11 cX11_onShelf 2 (some (.object "SealedProcesses$TypedModule")) "onShelf" false 14 (sLR 0 15) := ok_aload_n (by decide +kernel : decode cX11_onShelf 14 = .ok (.aload_n 0, 1)) rfl
theorem o202_15 : Okp RX11 cX11_onShelf 2 (some (.object "SealedProcesses$TypedModule")) "onShelf" false 15 (sGR 12 2 18) := ok_getR (by decide +kernel : decode cX11_onShelf 15 = .ok (.getfield 19, 3)) fw_X11_19 rfl
theorem o202_18 : Okp RX11 cX11_onShelf 2 (some (.object "SealedProcesses$TypedModule")) "onShelf" false 18 (sLI 1 19) := ok_iload_n (by decide +kernel : decode cX11_onShelf 18 = .ok (.iload_n 1, 1)) rfl
theorem o202_19 : Okp RX11 cX11_onShelf 2 (some (.object "SealedProcesses$TypedModule")) "onShelf" false 19 (sRA 20) := ok_aaload (by decide +kernel : decode cX11_onShelf 19 = .ok (.aaload, 1))
theorem o202_20 : Okp RX11 cX11_onShelf 2 (some (.object "SealedProcesses$TypedModule")) "onShelf" false 20 sRR := ok_aret rfl (Or.inl ⟨_, rfl⟩) (by decide +kernel : decode cX11_onShelf 20 = .ok (.areturn, 1))
theorem oc202 : ∀ pc, Mnp (c202 pc) ∧ Okp RX11 cX11_onShelf 2 (some (.object "SealedProcesses$TypedModule")) "onShelf" false pc (c202 pc) := by
  intro pc
  unfold c202
  split
  · exact ⟨mn_sLI, o202_0⟩
  · exact ⟨mn_sI1, o202_1⟩
  · exact ⟨mn_sLI, o202_4⟩
  · exact ⟨mn_sK, o202_5⟩
  · exact ⟨mn_sI2, o202_7⟩
  · exact ⟨mn_sNul, o202_10⟩
  · exact ⟨mn_sGo, o202_11⟩
  · exact ⟨mn_sLR, o202_14⟩
  · exact ⟨mn_sGR, o202_15⟩
  · exact ⟨mn_sLI, o202_18⟩
  · exact ⟨mn_sRA, o202_19⟩
  · exact ⟨mn_sRR, o202_20⟩
  · exact ⟨mn_sX, ok_X⟩
theorem o203_0 : Okp RX11 cX11_ofLivingTask 3 (some .int) "ofLivingTask" false 0 (sLI 2 1) := ok_iload_n (by decide +kernel : decode cX11_ofLivingTask 0 = .ok (.iload_n 2, 1)) rfl
theorem o203_1 : Okp RX11 cX11_ofLivingTask 3 (some .int) "ofLivingTask" false 1 (sSw [(3, 32), (4, 37), (5, 42), (6, 47)] 52) := ok_tsw (by decide +kernel : decode cX11_ofLivingTask 1 = .ok (.tableswitch 51 3 6 #[31, 36, 41, 46], 31)) (by decide) (by decide) (by decide)
theorem o203_32 : Okp RX11 cX11_ofLivingTask 3 (some .int) "ofLivingTask" false 32 (sLR 1 33) := ok_aload_n (by decide +kernel : decode cX11_ofLivingTask 32 = .ok (.aload_n 1, 1)) rfl
theorem o203_33 : Okp RX11 cX11_ofLivingTask 3 (some .int) "ofLivingTask" false 33 (sCV false 120 1 9 36) := ok_cv (by decide +kernel : decode cX11_ofLivingTask 33 = .ok (.invokevirtual 238, 3)) mw_X11_238 rfl (by decide) wm_X8_function wse_X8_function (by decide) rfl
theorem o203_36 : Okp RX11 cX11_ofLivingTask 3 (some .int) "ofLivingTask" false 36 sRI := ok_iret rfl (by decide +kernel : decode cX11_ofLivingTask 36 = .ok (.ireturn, 1))
theorem o203_37 : Okp RX11 cX11_ofLivingTask 3 (some .int) "ofLivingTask" false 37 (sLR 1 38) := ok_aload_n (by decide +kernel : decode cX11_ofLivingTask 37 = .ok (.aload_n 1, 1)) rfl
theorem o203_38 : Okp RX11 cX11_ofLivingTask 3 (some .int) "ofLivingTask" false 38 (sCV false 123 1 9 41) := ok_cv (by decide +kernel : decode cX11_ofLivingTask 38 = .ok (.invokevirtual 241, 3)) mw_X11_241 rfl (by decide) wm_X8_place wse_X8_place (by decide) rfl
theorem o203_41 : Okp RX11 cX11_ofLivingTask 3 (some .int) "ofLivingTask" false 41 sRI := ok_iret rfl (by decide +kernel : decode cX11_ofLivingTask 41 = .ok (.ireturn, 1))
theorem o203_42 : Okp RX11 cX11_ofLivingTask 3 (some .int) "ofLivingTask" false 42 (sLR 1 43) := ok_aload_n (by decide +kernel : decode cX11_ofLivingTask 42 = .ok (.aload_n 1, 1)) rfl
theorem o203_43 : Okp RX11 cX11_ofLivingTask 3 (some .int) "ofLivingTask" false 43 (sGI 9 7 46) := ok_getI (by decide +kernel : decode cX11_ofLivingTask 43 = .ok (.getfield 243, 3)) fw_X11_243 rfl
theorem o203_46 : Okp RX11 cX11_ofLivingTask 3 (some .int) "ofLivingTask" false 46 sRI := ok_iret rfl (by decide +kernel : decode cX11_ofLivingTask 46 = .ok (.ireturn, 1))
theorem o203_47 : Okp RX11 cX11_ofLivingTask 3 (some .int) "ofLivingTask" false 47 (sLR 1 48) := ok_aload_n (by decide +kernel : decode cX11_ofLivingTask 47 = .ok (.aload_n 1, 1)) rfl
theorem o203_48 : Okp RX11 cX11_ofLivingTask 3 (some .int) "ofLivingTask" false 48 (sCV false 125 1 9 51) := ok_cv (by decide +kernel : decode cX11_ofLivingTask 48 = .ok (.invokevirtual 195, 3)) mw_X11_195 rfl (by decide) wm_X8_height wse_X8_height (by decide) rfl
theorem o203_51 : Okp RX11 cX11_ofLivingTask 3 (some .int) "ofLivingTask" false 51 sRI := ok_iret rfl (by decide +kernel : decode cX11_ofLivingTask 51 = .ok (.ireturn, 1))
theorem o203_52 : Okp RX11 cX11_ofLivingTask 3 (some .int) "ofLivingTask" false 52 (sLR 0 53) := ok_aload_n (by decide +kernel : decode cX11_ofLivingTask 52 = .ok (.aload_n 0, 1)) rfl
theorem o203_53 : Okp RX11 cX11_ofLivingTask 3 (some .int) "ofLivingTask" false 53 (sGR 12 8 56) := ok_getR (by decide +kernel : decode cX11_ofLivingTask 53 = .ok (.getfield 53, 3)) fw_X11_53 rfl
theorem o203_56 : Okp RX11 cX11_ofLivingTask 3 (some .int) "ofLivingTask" false 56 (sLR 1 57) := ok_aload_n (by decide +kernel : decode cX11_ofLivingTask 56 = .ok (.aload_n 1, 1)) rfl
theorem o203_57 : Okp RX11 cX11_ofLivingTask 3 (some .int) "ofLivingTask" false 57 (sCV false 71 2 6 60) := ok_cv (by decide +kernel : decode cX11_ofLivingTask 57 = .ok (.invokevirtual 246, 3)) mw_X11_246 rfl (by decide) wm_X5_reachedBy wse_X5_reachedBy (by decide) rfl
theorem o203_60 : Okp RX11 cX11_ofLivingTask 3 (some .int) "ofLivingTask" false 60 sRI := ok_iret rfl (by decide +kernel : decode cX11_ofLivingTask 60 = .ok (.ireturn, 1))
theorem oc203_0 : ∀ pc, Mnp (c203_0 pc) ∧ Okp RX11 cX11_ofLivingTask 3 (some .int) "ofLivingTask" false pc (c203_0 pc) := by
  intro pc
  unfold c203_0
  split
  · exact ⟨mn_sLI, o203_0⟩
  · exact ⟨mn_sSw, o203_1⟩
  · exact ⟨mn_sX, ok_X⟩
theorem oc203_1 : ∀ pc, Mnp (c203_1 pc) ∧ Okp RX11 cX11_ofLivingTask 3 (some .int) "ofLivingTask" false pc (c203_1 pc) := by
  intro pc
  unfold c203_1
  split
  · exact ⟨mn_sLR, o203_32⟩
  · exact ⟨mn_sCV, o203_33⟩
  · exact ⟨mn_sRI, o203_36⟩
  · exact ⟨mn_sLR, o203_37⟩
  · exact ⟨mn_sCV, o203_38⟩
  · exact ⟨mn_sRI, o203_41⟩
  · exact ⟨mn_sLR, o203_42⟩
  · exact ⟨mn_sGI, o203_43⟩
  · exact ⟨mn_sRI, o203_46⟩
  · exact ⟨mn_sLR, o203_47⟩
  · exact ⟨mn_sX, ok_X⟩
theorem oc203_2 : ∀ pc, Mnp (c203_2 pc) ∧ Okp RX11 cX11_ofLivingTask 3 (some .int) "ofLivingTask" false pc (c203_2 pc) := by
  intro pc
  unfold c203_2
  split
  · exact ⟨mn_sCV, o203_48⟩
  · exact ⟨mn_sRI, o203_51⟩
  · exact ⟨mn_sLR, o203_52⟩
  · exact ⟨mn_sGR, o203_53⟩
  · exact ⟨mn_sLR, o203_56⟩
  · exact ⟨mn_sCV, o203_57⟩
  · exact ⟨mn_sRI, o203_60⟩
  · exact ⟨mn_sX, ok_X⟩
theorem oc203 : ∀ pc, Mnp (c203 pc) ∧ Okp RX11 cX11_ofLivingTask 3 (some .int) "ofLivingTask" false pc (c203 pc) := by
  intro pc
  unfold c203
  split
  · exact oc203_0 pc
  · exact oc203_1 pc
  · exact oc203_2 pc
  · exact ⟨mn_sX, ok_X⟩
theorem o204_0 : Okp RX11 cX11_ofRoutine 2 (some .int) "ofRoutine" false 0 (sLR 0 1) := ok_aload_n (by decide +kernel : decode cX11_ofRoutine 0 = .ok (.aload_n 0, 1)) rfl
theorem o204_1 : Okp RX11 cX11_ofRoutine 2 (some .int) "ofRoutine" false 1 (sNl 4 6) := ok_ifnonnull (by decide +kernel : decode cX11_ofRoutine 1 = .ok (.ifnonnull 5, 3)) (by decide)
theorem o204_4 : Okp RX11 cX11_ofRoutine 2 (some .int) "ofRoutine" false 4 (sK (-1) 5) := ok_iconst (by decide +kernel : decode cX11_ofRoutine 4 = .ok (.iconst (-1), 1)) (by decide)
theorem o204_5 : Okp RX11 cX11_ofRoutine 2 (some .int) "ofRoutine" false 5 sRI := ok_iret rfl (by decide +kernel : decode cX11_ofRoutine 5 = .ok (.ireturn, 1))
theorem o204_6 : Okp RX11 cX11_ofRoutine 2 (some .int) "ofRoutine" false 6 (sLI 1 7) := ok_iload_n (by decide +kernel : decode cX11_ofRoutine 6 = .ok (.iload_n 1, 1)) rfl
theorem o204_7 : Okp RX11 cX11_ofRoutine 2 (some .int) "ofRoutine" false 7 (sSw [(10, 40), (11, 45), (12, 50), (13, 55), (14, 60)] 65) := ok_tsw (by decide +kernel : decode cX11_ofRoutine 7 = .ok (.tableswitch 58 10 14 #[33, 38, 43, 48, 53], 33)) (by decide) (by decide) (by decide)
theorem o204_40 : Okp RX11 cX11_ofRoutine 2 (some .int) "ofRoutine" false 40 (sLR 0 41) := ok_aload_n (by decide +kernel : decode cX11_ofRoutine 40 = .ok (.aload_n 0, 1)) rfl
theorem o204_41 : Okp RX11 cX11_ofRoutine 2 (some .int) "ofRoutine" false 41 (sGI 8 0 44) := ok_getI (by decide +kernel : decode cX11_ofRoutine 41 = .ok (.getfield 250, 3)) fw_X11_250 rfl
theorem o204_44 : Okp RX11 cX11_ofRoutine 2 (some .int) "ofRoutine" false 44 sRI := ok_iret rfl (by decide +kernel : decode cX11_ofRoutine 44 = .ok (.ireturn, 1))
theorem o204_45 : Okp RX11 cX11_ofRoutine 2 (some .int) "ofRoutine" false 45 (sLR 0 46) := ok_aload_n (by decide +kernel : decode cX11_ofRoutine 45 = .ok (.aload_n 0, 1)) rfl
theorem o204_46 : Okp RX11 cX11_ofRoutine 2 (some .int) "ofRoutine" false 46 (sGI 8 3 49) := ok_getI (by decide +kernel : decode cX11_ofRoutine 46 = .ok (.getfield 112, 3)) fw_X11_112 rfl
theorem o204_49 : Okp RX11 cX11_ofRoutine 2 (some .int) "ofRoutine" false 49 sRI := ok_iret rfl (by decide +kernel : decode cX11_ofRoutine 49 = .ok (.ireturn, 1))
theorem o204_50 : Okp RX11 cX11_ofRoutine 2 (some .int) "ofRoutine" false 50 (sLR 0 51) := ok_aload_n (by decide +kernel : decode cX11_ofRoutine 50 = .ok (.aload_n 0, 1)) rfl
theorem o204_51 : Okp RX11 cX11_ofRoutine 2 (some .int) "ofRoutine" false 51 (sGI 8 4 54) := ok_getI (by decide +kernel : decode cX11_ofRoutine 51 = .ok (.getfield 253, 3)) fw_X11_253 rfl
theorem o204_54 : Okp RX11 cX11_ofRoutine 2 (some .int) "ofRoutine" false 54 sRI := ok_iret rfl (by decide +kernel : decode cX11_ofRoutine 54 = .ok (.ireturn, 1))
theorem o204_55 : Okp RX11 cX11_ofRoutine 2 (some .int) "ofRoutine" false 55 (sLR 0 56) := ok_aload_n (by decide +kernel : decode cX11_ofRoutine 55 = .ok (.aload_n 0, 1)) rfl
theorem o204_56 : Okp RX11 cX11_ofRoutine 2 (some .int) "ofRoutine" false 56 (sGI 8 5 59) := ok_getI (by decide +kernel : decode cX11_ofRoutine 56 = .ok (.getfield 254, 3)) fw_X11_254 rfl
theorem o204_59 : Okp RX11 cX11_ofRoutine 2 (some .int) "ofRoutine" false 59 sRI := ok_iret rfl (by decide +kernel : decode cX11_ofRoutine 59 = .ok (.ireturn, 1))
theorem o204_60 : Okp RX11 cX11_ofRoutine 2 (some .int) "ofRoutine" false 60 (sLR 0 61) := ok_aload_n (by decide +kernel : decode cX11_ofRoutine 60 = .ok (.aload_n 0, 1)) rfl
theorem o204_61 : Okp RX11 cX11_ofRoutine 2 (some .int) "ofRoutine" false 61 (sGI 8 6 64) := ok_getI (by decide +kernel : decode cX11_ofRoutine 61 = .ok (.getfield 256, 3)) fw_X11_256 rfl
theorem o204_64 : Okp RX11 cX11_ofRoutine 2 (some .int) "ofRoutine" false 64 sRI := ok_iret rfl (by decide +kernel : decode cX11_ofRoutine 64 = .ok (.ireturn, 1))
theorem o204_65 : Okp RX11 cX11_ofRoutine 2 (some .int) "ofRoutine" false 65 (sK (-1) 66) := ok_iconst (by decide +kernel : decode cX11_ofRoutine 65 = .ok (.iconst (-1), 1)) (by decide)
theorem o204_66 : Okp RX11 cX11_ofRoutine 2 (some .int) "ofRoutine" false 66 sRI := ok_iret rfl (by decide +kernel : decode cX11_ofRoutine 66 = .ok (.ireturn, 1))
theorem oc204_0 : ∀ pc, Mnp (c204_0 pc) ∧ Okp RX11 cX11_ofRoutine 2 (some .int) "ofRoutine" false pc (c204_0 pc) := by
  intro pc
  unfold c204_0
  split
  · exact ⟨mn_sLR, o204_0⟩
  · exact ⟨mn_sNl, o204_1⟩
  · exact ⟨mn_sK, o204_4⟩
  · exact ⟨mn_sRI, o204_5⟩
  · exact ⟨mn_sLI, o204_6⟩
  · exact ⟨mn_sSw, o204_7⟩
  · exact ⟨mn_sX, ok_X⟩
theorem oc204_1 : ∀ pc, Mnp (c204_1 pc) ∧ Okp RX11 cX11_ofRoutine 2 (some .int) "ofRoutine" false pc (c204_1 pc) := by
  intro pc
  unfold c204_1
  split
  · exact ⟨mn_sLR, o204_40⟩
  · exact ⟨mn_sGI, o204_41⟩
  · exact ⟨mn_sRI, o204_44⟩
  · exact ⟨mn_sLR, o204_45⟩
  · exact ⟨mn_sGI, o204_46⟩
  · exact ⟨mn_sX, ok_X⟩
theorem oc204_2 : ∀ pc, Mnp (c204_2 pc) ∧ Okp RX11 cX11_ofRoutine 2 (some .int) "ofRoutine" false pc (c204_2 pc) := by
  intro pc
  unfold c204_2
  split
  · exact ⟨mn_sRI, o204_49⟩
  · exact ⟨mn_sLR, o204_50⟩
  · exact ⟨mn_sGI, o204_51⟩
  · exact ⟨mn_sRI, o204_54⟩
  · exact ⟨mn_sLR, o204_55⟩
  · exact ⟨mn_sGI, o204_56⟩
  · exact ⟨mn_sRI, o204_59⟩
  · exact ⟨mn_sLR, o204_60⟩
  · exact ⟨mn_sGI, o204_61⟩
  · exact ⟨mn_sRI, o204_64⟩
  · exact ⟨mn_sK, o204_65⟩
  · exact ⟨mn_sRI, o204_66⟩
  · exact ⟨mn_sX, ok_X⟩
theorem oc204 : ∀ pc, Mnp (c204 pc) ∧ Okp RX11 cX11_ofRoutine 2 (some .int) "ofRoutine" false pc (c204 pc) := by
  intro pc
  unfold c204
  split
  · exact oc204_0 pc
  · exact oc204_1 pc
  · exact oc204_2 pc
  · exact ⟨mn_sX, ok_X⟩
theorem o205_0 : Okp RX11 cX11_typeOf 2 (some .int) "typeOf" false 0 (sLI 0 1) := ok_iload_n (by decide +kernel : decode cX11_typeOf 0 = .ok (.iload_n 0, 1)) rfl
theorem o205_1 : Okp RX11 cX11_typeOf 2 (some .int) "typeOf" false 1 (sLI 1 2) := ok_iload_n (by decide +kernel : decode cX11_typeOf 1 = .ok (.iload_n 1, 1)) rfl
theorem o205_2 : Okp RX11 cX11_typeOf 2 (some .int) "typeOf" false 2 (sK 4 3) := ok_iconst (by decide +kernel : decode cX11_typeOf 2 = .ok (.iconst 4, 1)) (by decide)
theorem o205_3 : Okp RX11 cX11_typeOf 2 (some .int) "typeOf" false 3 (sB2 fShl 4) := ok_ishl (by decide +kernel : decode cX11_typeOf 3 = .ok (.ishl, 1))
theorem o205_4 : Okp RX11 cX11_typeOf 2 (some .int) "typeOf" false 4 (sB2 fOr 5) := ok_ior (by decide +kernel : decode cX11_typeOf 4 = .ok (.ior, 1))
theorem o205_5 : Okp RX11 cX11_typeOf 2 (some .int) "typeOf" false 5 sRI := ok_iret rfl (by decide +kernel : decode cX11_typeOf 5 = .ok (.ireturn, 1))
theorem oc205 : ∀ pc, Mnp (c205 pc) ∧ Okp RX11 cX11_typeOf 2 (some .int) "typeOf" false pc (c205 pc) := by
  intro pc
  unfold c205
  split
  · exact ⟨mn_sLI, o205_0⟩
  · exact ⟨mn_sLI, o205_1⟩
  · exact ⟨mn_sK, o205_2⟩
  · exact ⟨mn_sB2, o205_3⟩
  · exact ⟨mn_sB2, o205_4⟩
  · exact ⟨mn_sRI, o205_5⟩
  · exact ⟨mn_sX, ok_X⟩
theorem o206_0 : Okp RX11 cX11_endType 3 (some .int) "endType" false 0 (sK 5 1) := ok_iconst (by decide +kernel : decode cX11_endType 0 = .ok (.iconst 5, 1)) (by decide)
theorem o206_1 : Okp RX11 cX11_endType 3 (some .int) "endType" false 1 (sLI 0 2) := ok_iload_n (by decide +kernel : decode cX11_endType 1 = .ok (.iload_n 0, 1)) rfl
theorem o206_2 : Okp RX11 cX11_endType 3 (some .int) "endType" false 2 (sK 4 3) := ok_iconst (by decide +kernel : decode cX11_endType 2 = .ok (.iconst 4, 1)) (by decide)
theorem o206_3 : Okp RX11 cX11_endType 3 (some .int) "endType" false 3 (sB2 fShl 4) := ok_ishl (by decide +kernel : decode cX11_endType 3 = .ok (.ishl, 1))
theorem o206_4 : Okp RX11 cX11_endType 3 (some .int) "endType" false 4 (sB2 fOr 5) := ok_ior (by decide +kernel : decode cX11_endType 4 = .ok (.ior, 1))
theorem o206_5 : Okp RX11 cX11_endType 3 (some .int) "endType" false 5 (sLI 1 6) := ok_iload_n (by decide +kernel : decode cX11_endType 5 = .ok (.iload_n 1, 1)) rfl
theorem o206_6 : Okp RX11 cX11_endType 3 (some .int) "endType" false 6 (sK 12 8) := ok_bipush (by decide +kernel : decode cX11_endType 6 = .ok (.bipush 12, 2)) (by decide)
theorem o206_8 : Okp RX11 cX11_endType 3 (some .int) "endType" false 8 (sB2 fShl 9) := ok_ishl (by decide +kernel : decode cX11_endType 8 = .ok (.ishl, 1))
theorem o206_9 : Okp RX11 cX11_endType 3 (some .int) "endType" false 9 (sB2 fOr 10) := ok_ior (by decide +kernel : decode cX11_endType 9 = .ok (.ior, 1))
theorem o206_10 : Okp RX11 cX11_endType 3 (some .int) "endType" false 10 (sLI 2 11) := ok_iload_n (by decide +kernel : decode cX11_endType 10 = .ok (.iload_n 2, 1)) rfl
theorem o206_11 : Okp RX11 cX11_endType 3 (some .int) "endType" false 11 (sK 20 13) := ok_bipush (by decide +kernel : decode cX11_endType 11 = .ok (.bipush 20, 2)) (by decide)
theorem o206_13 : Okp RX11 cX11_endType 3 (some .int) "endType" false 13 (sB2 fShl 14) := ok_ishl (by decide +kernel : decode cX11_endType 13 = .ok (.ishl, 1))
theorem o206_14 : Okp RX11 cX11_endType 3 (some .int) "endType" false 14 (sB2 fOr 15) := ok_ior (by decide +kernel : decode cX11_endType 14 = .ok (.ior, 1))
theorem o206_15 : Okp RX11 cX11_endType 3 (some .int) "endType" false 15 sRI := ok_iret rfl (by decide +kernel : decode cX11_endType 15 = .ok (.ireturn, 1))
theorem oc206 : ∀ pc, Mnp (c206 pc) ∧ Okp RX11 cX11_endType 3 (some .int) "endType" false pc (c206 pc) := by
  intro pc
  unfold c206
  split
  · exact ⟨mn_sK, o206_0⟩
  · exact ⟨mn_sLI, o206_1⟩
  · exact ⟨mn_sK, o206_2⟩
  · exact ⟨mn_sB2, o206_3⟩
  · exact ⟨mn_sB2, o206_4⟩
  · exact ⟨mn_sLI, o206_5⟩
  · exact ⟨mn_sK, o206_6⟩
  · exact ⟨mn_sB2, o206_8⟩
  · exact ⟨mn_sB2, o206_9⟩
  · exact ⟨mn_sLI, o206_10⟩
  · exact ⟨mn_sK, o206_11⟩
  · exact ⟨mn_sB2, o206_13⟩
  · exact ⟨mn_sB2, o206_14⟩
  · exact ⟨mn_sRI, o206_15⟩
  · exact ⟨mn_sX, ok_X⟩
theorem o207_0 : Okp RX11 cX11_kindOf 1 (some .int) "kindOf" false 0 (sLI 0 1) := ok_iload_n (by decide +kernel : decode cX11_kindOf 0 = .ok (.iload_n 0, 1)) rfl
theorem o207_1 : Okp RX11 cX11_kindOf 1 (some .int) "kindOf" false 1 (sK 15 3) := ok_bipush (by decide +kernel : decode cX11_kindOf 1 = .ok (.bipush 15, 2)) (by decide)
theorem o207_3 : Okp RX11 cX11_kindOf 1 (some .int) "kindOf" false 3 (sB2 fAnd 4) := ok_iand (by decide +kernel : decode cX11_kindOf 3 = .ok (.iand, 1))
theorem o207_4 : Okp RX11 cX11_kindOf 1 (some .int) "kindOf" false 4 sRI := ok_iret rfl (by decide +kernel : decode cX11_kindOf 4 = .ok (.ireturn, 1))
theorem oc207 : ∀ pc, Mnp (c207 pc) ∧ Okp RX11 cX11_kindOf 1 (some .int) "kindOf" false pc (c207 pc) := by
  intro pc
  unfold c207
  split
  · exact ⟨mn_sLI, o207_0⟩
  · exact ⟨mn_sK, o207_1⟩
  · exact ⟨mn_sB2, o207_3⟩
  · exact ⟨mn_sRI, o207_4⟩
  · exact ⟨mn_sX, ok_X⟩
theorem o208_0 : Okp RX11 cX11_namedBy 1 (some .int) "namedBy" false 0 (sLI 0 1) := ok_iload_n (by decide +kernel : decode cX11_namedBy 0 = .ok (.iload_n 0, 1)) rfl
theorem o208_1 : Okp RX11 cX11_namedBy 1 (some .int) "namedBy" false 1 (sK 4 2) := ok_iconst (by decide +kernel : decode cX11_namedBy 1 = .ok (.iconst 4, 1)) (by decide)
theorem o208_2 : Okp RX11 cX11_namedBy 1 (some .int) "namedBy" false 2 (sB2 fShr 3) := ok_ishr (by decide +kernel : decode cX11_namedBy 2 = .ok (.ishr, 1))
theorem o208_3 : Okp RX11 cX11_namedBy 1 (some .int) "namedBy" false 3 (sK 255 6) := ok_sipush (by decide +kernel : decode cX11_namedBy 3 = .ok (.sipush 255, 3)) (by decide)
theorem o208_6 : Okp RX11 cX11_namedBy 1 (some .int) "namedBy" false 6 (sB2 fAnd 7) := ok_iand (by decide +kernel : decode cX11_namedBy 6 = .ok (.iand, 1))
theorem o208_7 : Okp RX11 cX11_namedBy 1 (some .int) "namedBy" false 7 sRI := ok_iret rfl (by decide +kernel : decode cX11_namedBy 7 = .ok (.ireturn, 1))
theorem oc208 : ∀ pc, Mnp (c208 pc) ∧ Okp RX11 cX11_namedBy 1 (some .int) "namedBy" false pc (c208 pc) := by
  intro pc
  unfold c208
  split
  · exact ⟨mn_sLI, o208_0⟩
  · exact ⟨mn_sK, o208_1⟩
  · exact ⟨mn_sB2, o208_2⟩
  · exact ⟨mn_sK, o208_3⟩
  · exact ⟨mn_sB2, o208_6⟩
  · exact ⟨mn_sRI, o208_7⟩
  · exact ⟨mn_sX, ok_X⟩
theorem o209_0 : Okp RX11 cX11_stateOfEnd 1 (some .int) "stateOfEnd" false 0 (sLI 0 1) := ok_iload_n (by decide +kernel : decode cX11_stateOfEnd 0 = .ok (.iload_n 0, 1)) rfl
theorem o209_1 : Okp RX11 cX11_stateOfEnd 1 (some .int) "stateOfEnd" false 1 (sK 12 3) := ok_bipush (by decide +kernel : decode cX11_stateOfEnd 1 = .ok (.bipush 12, 2)) (by decide)
theorem o209_3 : Okp RX11 cX11_stateOfEnd 1 (some .int) "stateOfEnd" false 3 (sB2 fShr 4) := ok_ishr (by decide +kernel : decode cX11_stateOfEnd 3 = .ok (.ishr, 1))
theorem o209_4 : Okp RX11 cX11_stateOfEnd 1 (some .int) "stateOfEnd" false 4 (sK 255 7) := ok_sipush (by decide +kernel : decode cX11_stateOfEnd 4 = .ok (.sipush 255, 3)) (by decide)
theorem o209_7 : Okp RX11 cX11_stateOfEnd 1 (some .int) "stateOfEnd" false 7 (sB2 fAnd 8) := ok_iand (by decide +kernel : decode cX11_stateOfEnd 7 = .ok (.iand, 1))
theorem o209_8 : Okp RX11 cX11_stateOfEnd 1 (some .int) "stateOfEnd" false 8 sRI := ok_iret rfl (by decide +kernel : decode cX11_stateOfEnd 8 = .ok (.ireturn, 1))
theorem oc209 : ∀ pc, Mnp (c209 pc) ∧ Okp RX11 cX11_stateOfEnd 1 (some .int) "stateOfEnd" false pc (c209 pc) := by
  intro pc
  unfold c209
  split
  · exact ⟨mn_sLI, o209_0⟩
  · exact ⟨mn_sK, o209_1⟩
  · exact ⟨mn_sB2, o209_3⟩
  · exact ⟨mn_sK, o209_4⟩
  · exact ⟨mn_sB2, o209_7⟩
  · exact ⟨mn_sRI, o209_8⟩
  · exact ⟨mn_sX, ok_X⟩
theorem o210_0 : Okp RX11 cX11_sideOfEnd 1 (some .int) "sideOfEnd" false 0 (sLI 0 1) := ok_iload_n (by decide +kernel : decode cX11_sideOfEnd 0 = .ok (.iload_n 0, 1)) rfl
theorem o210_1 : Okp RX11 cX11_sideOfEnd 1 (some .int) "sideOfEnd" false 1 (sK 20 3) := ok_bipush (by decide +kernel : decode cX11_sideOfEnd 1 = .ok (.bipush 20, 2)) (by decide)
theorem o210_3 : Okp RX11 cX11_sideOfEnd 1 (some .int) "sideOfEnd" false 3 (sB2 fShr 4) := ok_ishr (by decide +kernel : decode cX11_sideOfEnd 3 = .ok (.ishr, 1))
theorem o210_4 : Okp RX11 cX11_sideOfEnd 1 (some .int) "sideOfEnd" false 4 (sK 1 5) := ok_iconst (by decide +kernel : decode cX11_sideOfEnd 4 = .ok (.iconst 1, 1)) (by decide)
theorem o210_5 : Okp RX11 cX11_sideOfEnd 1 (some .int) "sideOfEnd" false 5 (sB2 fAnd 6) := ok_iand (by decide +kernel : decode cX11_sideOfEnd 5 = .ok (.iand, 1))
theorem o210_6 : Okp RX11 cX11_sideOfEnd 1 (some .int) "sideOfEnd" false 6 sRI := ok_iret rfl (by decide +kernel : decode cX11_sideOfEnd 6 = .ok (.ireturn, 1))
theorem oc210 : ∀ pc, Mnp (c210 pc) ∧ Okp RX11 cX11_sideOfEnd 1 (some .int) "sideOfEnd" false pc (c210 pc) := by
  intro pc
  unfold c210
  split
  · exact ⟨mn_sLI, o210_0⟩
  · exact ⟨mn_sK, o210_1⟩
  · exact ⟨mn_sB2, o210_3⟩
  · exact ⟨mn_sK, o210_4⟩
  · exact ⟨mn_sB2, o210_5⟩
  · exact ⟨mn_sRI, o210_6⟩
  · exact ⟨mn_sX, ok_X⟩
theorem o211_0 : Okp RX11 cX11_isLinear 2 (some .boolean) "isLinear" false 0 (sLI 0 1) := ok_iload_n (by decide +kernel : decode cX11_isLinear 0 = .ok (.iload_n 0, 1)) rfl
theorem o211_1 : Okp RX11 cX11_isLinear 2 (some .boolean) "isLinear" false 1 (sK 15 3) := ok_bipush (by decide +kernel : decode cX11_isLinear 1 = .ok (.bipush 15, 2)) (by decide)
theorem o211_3 : Okp RX11 cX11_isLinear 2 (some .boolean) "isLinear" false 3 (sB2 fAnd 4) := ok_iand (by decide +kernel : decode cX11_isLinear 3 = .ok (.iand, 1))
theorem o211_4 : Okp RX11 cX11_isLinear 2 (some .boolean) "isLinear" false 4 (sSI 1 5) := ok_istore_n (by decide +kernel : decode cX11_isLinear 4 = .ok (.istore_n 1, 1)) rfl (by decide) (by decide)
theorem o211_5 : Okp RX11 cX11_isLinear 2 (some .boolean) "isLinear" false 5 (sLI 1 6) := ok_iload_n (by decide +kernel : decode cX11_isLinear 5 = .ok (.iload_n 1, 1)) rfl
theorem o211_6 : Okp RX11 cX11_isLinear 2 (some .boolean) "isLinear" false 6 (sK 4 7) := ok_iconst (by decide +kernel : decode cX11_isLinear 6 = .ok (.iconst 4, 1)) (by decide)
theorem o211_7 : Okp RX11 cX11_isLinear 2 (some .boolean) "isLinear" false 7 (sI2 0 15 10) := ok_icmp_eq (by decide +kernel : decode cX11_isLinear 7 = .ok (.if_icmp .eq 8, 3)) (by decide)
theorem o211_10 : Okp RX11 cX11_isLinear 2 (some .boolean) "isLinear" false 10 (sLI 1 11) := ok_iload_n (by decide +kernel : decode cX11_isLinear 10 = .ok (.iload_n 1, 1)) rfl
theorem o211_11 : Okp RX11 cX11_isLinear 2 (some .boolean) "isLinear" false 11 (sK 5 12) := ok_iconst (by decide +kernel : decode cX11_isLinear 11 = .ok (.iconst 5, 1)) (by decide)
theorem o211_12 : Okp RX11 cX11_isLinear 2 (some .boolean) "isLinear" false 12 (sI2 1 19 15) := ok_icmp_ne (by decide +kernel : decode cX11_isLinear 12 = .ok (.if_icmp .ne 7, 3)) (by decide)
theorem o211_15 : Okp RX11 cX11_isLinear 2 (some .boolean) "isLinear" false 15 (sK 1 16) := ok_iconst (by decide +kernel : decode cX11_isLinear 15 = .ok (.iconst 1, 1)) (by decide)
theorem o211_16 : Okp RX11 cX11_isLinear 2 (some .boolean) "isLinear" false 16 (sGo 20) := ok_goto (by decide +kernel : decode cX11_isLinear 16 = .ok (.goto 4, 3)) (by decide)
theorem o211_19 : Okp RX11 cX11_isLinear 2 (some .boolean) "isLinear" false 19 (sK 0 20) := ok_iconst (by decide +kernel : decode cX11_isLinear 19 = .ok (.iconst 0, 1)) (by decide)
theorem o211_20 : Okp RX11 cX11_isLinear 2 (some .boolean) "isLinear" false 20 sRZ := ok_zret rfl (by decide +kernel : decode cX11_isLinear 20 = .ok (.ireturn, 1))
theorem oc211 : ∀ pc, Mnp (c211 pc) ∧ Okp RX11 cX11_isLinear 2 (some .boolean) "isLinear" false pc (c211 pc) := by
  intro pc
  unfold c211
  split
  · exact ⟨mn_sLI, o211_0⟩
  · exact ⟨mn_sK, o211_1⟩
  · exact ⟨mn_sB2, o211_3⟩
  · exact ⟨mn_sSI, o211_4⟩
  · exact ⟨mn_sLI, o211_5⟩
  · exact ⟨mn_sK, o211_6⟩
  · exact ⟨mn_sI2, o211_7⟩
  · exact ⟨mn_sLI, o211_10⟩
  · exact ⟨mn_sK, o211_11⟩
  · exact ⟨mn_sI2, o211_12⟩
  · exact ⟨mn_sK, o211_15⟩
  · exact ⟨mn_sGo, o211_16⟩
  · exact ⟨mn_sK, o211_19⟩
  · exact ⟨mn_sRZ, o211_20⟩
  · exact ⟨mn_sX, ok_X⟩
theorem o212_0 : Okp RX11 cX11_isPointer 2 (some .boolean) "isPointer" false 0 (sLI 0 1) := ok_iload_n (by decide +kernel : decode cX11_isPointer 0 = .ok (.iload_n 0, 1)) rfl
theorem o212_1 : Okp RX11 cX11_isPointer 2 (some .boolean) "isPointer" false 1 (sK 15 3) := ok_bipush (by decide +kernel : decode cX11_isPointer 1 = .ok (.bipush 15, 2)) (by decide)
theorem o212_3 : Okp RX11 cX11_isPointer 2 (some .boolean) "isPointer" false 3 (sB2 fAnd 4) := ok_iand (by decide +kernel : decode cX11_isPointer 3 = .ok (.iand, 1))
theorem o212_4 : Okp RX11 cX11_isPointer 2 (some .boolean) "isPointer" false 4 (sSI 1 5) := ok_istore_n (by decide +kernel : decode cX11_isPointer 4 = .ok (.istore_n 1, 1)) rfl (by decide) (by decide)
theorem o212_5 : Okp RX11 cX11_isPointer 2 (some .boolean) "isPointer" false 5 (sLI 1 6) := ok_iload_n (by decide +kernel : decode cX11_isPointer 5 = .ok (.iload_n 1, 1)) rfl
theorem o212_6 : Okp RX11 cX11_isPointer 2 (some .boolean) "isPointer" false 6 (sK 1 7) := ok_iconst (by decide +kernel : decode cX11_isPointer 6 = .ok (.iconst 1, 1)) (by decide)
theorem o212_7 : Okp RX11 cX11_isPointer 2 (some .boolean) "isPointer" false 7 (sI2 2 19 10) := ok_icmp_lt (by decide +kernel : decode cX11_isPointer 7 = .ok (.if_icmp .lt 12, 3)) (by decide)
theorem o212_10 : Okp RX11 cX11_isPointer 2 (some .boolean) "isPointer" false 10 (sLI 1 11) := ok_iload_n (by decide +kernel : decode cX11_isPointer 10 = .ok (.iload_n 1, 1)) rfl
theorem o212_11 : Okp RX11 cX11_isPointer 2 (some .boolean) "isPointer" false 11 (sK 3 12) := ok_iconst (by decide +kernel : decode cX11_isPointer 11 = .ok (.iconst 3, 1)) (by decide)
theorem o212_12 : Okp RX11 cX11_isPointer 2 (some .boolean) "isPointer" false 12 (sI2 4 19 15) := ok_icmp_gt (by decide +kernel : decode cX11_isPointer 12 = .ok (.if_icmp .gt 7, 3)) (by decide)
theorem o212_15 : Okp RX11 cX11_isPointer 2 (some .boolean) "isPointer" false 15 (sK 1 16) := ok_iconst (by decide +kernel : decode cX11_isPointer 15 = .ok (.iconst 1, 1)) (by decide)
theorem o212_16 : Okp RX11 cX11_isPointer 2 (some .boolean) "isPointer" false 16 (sGo 20) := ok_goto (by decide +kernel : decode cX11_isPointer 16 = .ok (.goto 4, 3)) (by decide)
theorem o212_19 : Okp RX11 cX11_isPointer 2 (some .boolean) "isPointer" false 19 (sK 0 20) := ok_iconst (by decide +kernel : decode cX11_isPointer 19 = .ok (.iconst 0, 1)) (by decide)
theorem o212_20 : Okp RX11 cX11_isPointer 2 (some .boolean) "isPointer" false 20 sRZ := ok_zret rfl (by decide +kernel : decode cX11_isPointer 20 = .ok (.ireturn, 1))
theorem oc212 : ∀ pc, Mnp (c212 pc) ∧ Okp RX11 cX11_isPointer 2 (some .boolean) "isPointer" false pc (c212 pc) := by
  intro pc
  unfold c212
  split
  · exact ⟨mn_sLI, o212_0⟩
  · exact ⟨mn_sK, o212_1⟩
  · exact ⟨mn_sB2, o212_3⟩
  · exact ⟨mn_sSI, o212_4⟩
  · exact ⟨mn_sLI, o212_5⟩
  · exact ⟨mn_sK, o212_6⟩
  · exact ⟨mn_sI2, o212_7⟩
  · exact ⟨mn_sLI, o212_10⟩
  · exact ⟨mn_sK, o212_11⟩
  · exact ⟨mn_sI2, o212_12⟩
  · exact ⟨mn_sK, o212_15⟩
  · exact ⟨mn_sGo, o212_16⟩
  · exact ⟨mn_sK, o212_19⟩
  · exact ⟨mn_sRZ, o212_20⟩
  · exact ⟨mn_sX, ok_X⟩
theorem o213_0 : Okp RX11 cX11_isPointerOrNil 1 (some .boolean) "isPointerOrNil" false 0 (sLI 0 1) := ok_iload_n (by decide +kernel : decode cX11_isPointerOrNil 0 = .ok (.iload_n 0, 1)) rfl
theorem o213_1 : Okp RX11 cX11_isPointerOrNil 1 (some .boolean) "isPointerOrNil" false 1 (sCS false 212 1 4) := ok_cs (by decide +kernel : decode cX11_isPointerOrNil 1 = .ok (.invokestatic 259, 3)) mw_X11_259 wt_X11_isPointer (by decide) rfl
theorem o213_4 : Okp RX11 cX11_isPointerOrNil 1 (some .boolean) "isPointerOrNil" false 4 (sI1 1 16 7) := ok_if_ne (by decide +kernel : decode cX11_isPointerOrNil 4 = .ok (.ifCond .ne 12, 3)) (by decide)
theorem o213_7 : Okp RX11 cX11_isPointerOrNil 1 (some .boolean) "isPointerOrNil" false 7 (sLI 0 8) := ok_iload_n (by decide +kernel : decode cX11_isPointerOrNil 7 = .ok (.iload_n 0, 1)) rfl
theorem o213_8 : Okp RX11 cX11_isPointerOrNil 1 (some .boolean) "isPointerOrNil" false 8 (sCS false 207 1 11) := ok_cs (by decide +kernel : decode cX11_isPointerOrNil 8 = .ok (.invokestatic 109, 3)) mw_X11_109 wt_X11_kindOf (by decide) rfl
theorem o213_11 : Okp RX11 cX11_isPointerOrNil 1 (some .boolean) "isPointerOrNil" false 11 (sK 6 13) := ok_bipush (by decide +kernel : decode cX11_isPointerOrNil 11 = .ok (.bipush 6, 2)) (by decide)
theorem o213_13 : Okp RX11 cX11_isPointerOrNil 1 (some .boolean) "isPointerOrNil" false 13 (sI2 1 20 16) := ok_icmp_ne (by decide +kernel : decode cX11_isPointerOrNil 13 = .ok (.if_icmp .ne 7, 3)) (by decide)
theorem o213_16 : Okp RX11 cX11_isPointerOrNil 1 (some .boolean) "isPointerOrNil" false 16 (sK 1 17) := ok_iconst (by decide +kernel : decode cX11_isPointerOrNil 16 = .ok (.iconst 1, 1)) (by decide)
theorem o213_17 : Okp RX11 cX11_isPointerOrNil 1 (some .boolean) "isPointerOrNil" false 17 (sGo 21) := ok_goto (by decide +kernel : decode cX11_isPointerOrNil 17 = .ok (.goto 4, 3)) (by decide)
theorem o213_20 : Okp RX11 cX11_isPointerOrNil 1 (some .boolean) "isPointerOrNil" false 20 (sK 0 21) := ok_iconst (by decide +kernel : decode cX11_isPointerOrNil 20 = .ok (.iconst 0, 1)) (by decide)
theorem o213_21 : Okp RX11 cX11_isPointerOrNil 1 (some .boolean) "isPointerOrNil" false 21 sRZ := ok_zret rfl (by decide +kernel : decode cX11_isPointerOrNil 21 = .ok (.ireturn, 1))
theorem oc213 : ∀ pc, Mnp (c213 pc) ∧ Okp RX11 cX11_isPointerOrNil 1 (some .boolean) "isPointerOrNil" false pc (c213 pc) := by
  intro pc
  unfold c213
  split
  · exact ⟨mn_sLI, o213_0⟩
  · exact ⟨mn_sCS, o213_1⟩
  · exact ⟨mn_sI1, o213_4⟩
  · exact ⟨mn_sLI, o213_7⟩
  · exact ⟨mn_sCS, o213_8⟩
  · exact ⟨mn_sK, o213_11⟩
  · exact ⟨mn_sI2, o213_13⟩
  · exact ⟨mn_sK, o213_16⟩
  · exact ⟨mn_sGo, o213_17⟩
  · exact ⟨mn_sK, o213_20⟩
  · exact ⟨mn_sRZ, o213_21⟩
  · exact ⟨mn_sX, ok_X⟩
theorem o214_0 : Okp RX11 cX11_fits 2 (some .boolean) "fits" false 0 (sLI 0 1) := ok_iload_n (by decide +kernel : decode cX11_fits 0 = .ok (.iload_n 0, 1)) rfl
theorem o214_1 : Okp RX11 cX11_fits 2 (some .boolean) "fits" false 1 (sLI 1 2) := ok_iload_n (by decide +kernel : decode cX11_fits 1 = .ok (.iload_n 1, 1)) rfl
theorem o214_2 : Okp RX11 cX11_fits 2 (some .boolean) "fits" false 2 (sI2 0 18 5) := ok_icmp_eq (by decide +kernel : decode cX11_fits 2 = .ok (.if_icmp .eq 16, 3)) (by decide)
theorem o214_5 : Okp RX11 cX11_fits 2 (some .boolean) "fits" false 5 (sLI 0 6) := ok_iload_n (by decide +kernel : decode cX11_fits 5 = .ok (.iload_n 0, 1)) rfl
theorem o214_6 : Okp RX11 cX11_fits 2 (some .boolean) "fits" false 6 (sK 6 8) := ok_bipush (by decide +kernel : decode cX11_fits 6 = .ok (.bipush 6, 2)) (by decide)
theorem o214_8 : Okp RX11 cX11_fits 2 (some .boolean) "fits" false 8 (sI2 1 22 11) := ok_icmp_ne (by decide +kernel : decode cX11_fits 8 = .ok (.if_icmp .ne 14, 3)) (by decide)
theorem o214_11 : Okp RX11 cX11_fits 2 (some .boolean) "fits" false 11 (sLI 1 12) := ok_iload_n (by decide +kernel : decode cX11_fits 11 = .ok (.iload_n 1, 1)) rfl
theorem o214_12 : Okp RX11 cX11_fits 2 (some .boolean) "fits" false 12 (sCS false 212 1 15) := ok_cs (by decide +kernel : decode cX11_fits 12 = .ok (.invokestatic 259, 3)) mw_X11_259 wt_X11_isPointer (by decide) rfl
theorem o214_15 : Okp RX11 cX11_fits 2 (some .boolean) "fits" false 15 (sI1 0 22 18) := ok_if_eq (by decide +kernel : decode cX11_fits 15 = .ok (.ifCond .eq 7, 3)) (by decide)
theorem o214_18 : Okp RX11 cX11_fits 2 (some .boolean) "fits" false 18 (sK 1 19) := ok_iconst (by decide +kernel : decode cX11_fits 18 = .ok (.iconst 1, 1)) (by decide)
theorem o214_19 : Okp RX11 cX11_fits 2 (some .boolean) "fits" false 19 (sGo 23) := ok_goto (by decide +kernel : decode cX11_fits 19 = .ok (.goto 4, 3)) (by decide)
theorem o214_22 : Okp RX11 cX11_fits 2 (some .boolean) "fits" false 22 (sK 0 23) := ok_iconst (by decide +kernel : decode cX11_fits 22 = .ok (.iconst 0, 1)) (by decide)
theorem o214_23 : Okp RX11 cX11_fits 2 (some .boolean) "fits" false 23 sRZ := ok_zret rfl (by decide +kernel : decode cX11_fits 23 = .ok (.ireturn, 1))
theorem oc214 : ∀ pc, Mnp (c214 pc) ∧ Okp RX11 cX11_fits 2 (some .boolean) "fits" false pc (c214 pc) := by
  intro pc
  unfold c214
  split
  · exact ⟨mn_sLI, o214_0⟩
  · exact ⟨mn_sLI, o214_1⟩
  · exact ⟨mn_sI2, o214_2⟩
  · exact ⟨mn_sLI, o214_5⟩
  · exact ⟨mn_sK, o214_6⟩
  · exact ⟨mn_sI2, o214_8⟩
  · exact ⟨mn_sLI, o214_11⟩
  · exact ⟨mn_sCS, o214_12⟩
  · exact ⟨mn_sI1, o214_15⟩
  · exact ⟨mn_sK, o214_18⟩
  · exact ⟨mn_sGo, o214_19⟩
  · exact ⟨mn_sK, o214_22⟩
  · exact ⟨mn_sRZ, o214_23⟩
  · exact ⟨mn_sX, ok_X⟩
theorem o215_0 : Okp RX11 cX11_turnOfSide 1 (some .int) "turnOfSide" false 0 (sLI 0 1) := ok_iload_n (by decide +kernel : decode cX11_turnOfSide 0 = .ok (.iload_n 0, 1)) rfl
theorem o215_1 : Okp RX11 cX11_turnOfSide 1 (some .int) "turnOfSide" false 1 (sK 1 2) := ok_iconst (by decide +kernel : decode cX11_turnOfSide 1 = .ok (.iconst 1, 1)) (by decide)
theorem o215_2 : Okp RX11 cX11_turnOfSide 1 (some .int) "turnOfSide" false 2 (sB2 fAdd 3) := ok_iadd (by decide +kernel : decode cX11_turnOfSide 2 = .ok (.iadd, 1))
theorem o215_3 : Okp RX11 cX11_turnOfSide 1 (some .int) "turnOfSide" false 3 sRI := ok_iret rfl (by decide +kernel : decode cX11_turnOfSide 3 = .ok (.ireturn, 1))
theorem oc215 : ∀ pc, Mnp (c215 pc) ∧ Okp RX11 cX11_turnOfSide 1 (some .int) "turnOfSide" false pc (c215 pc) := by
  intro pc
  unfold c215
  split
  · exact ⟨mn_sLI, o215_0⟩
  · exact ⟨mn_sK, o215_1⟩
  · exact ⟨mn_sB2, o215_2⟩
  · exact ⟨mn_sRI, o215_3⟩
  · exact ⟨mn_sX, ok_X⟩
theorem o216_0 : Okp RX12 cX12_init 1 none "<init>" false 0 (sLR 0 1) := ok_aload_n (by decide +kernel : decode cX12_init 0 = .ok (.aload_n 0, 1)) rfl
theorem o216_1 : Okp RX12 cX12_init 1 none "<init>" false 1 (sCt 4) := ok_oinit (by decide +kernel : decode cX12_init 1 = .ok (.invokespecial 1, 3)) wq_X12_1 wq_i wq_c
theorem o216_4 : Okp RX12 cX12_init 1 none "<init>" false 4 (sLR 0 5) := ok_aload_n (by decide +kernel : decode cX12_init 4 = .ok (.aload_n 0, 1)) rfl
theorem o216_5 : Okp RX12 cX12_init 1 none "<init>" false 5 (sK 2000 8) := ok_sipush (by decide +kernel : decode cX12_init 5 = .ok (.sipush 2000, 3)) (by decide)
theorem o216_8 : Okp RX12 cX12_init 1 none "<init>" false 8 (sNA 14 10) := ok_newB (by decide +kernel : decode cX12_init 8 = .ok (.newarray .byte, 2)) wa_byte
theorem o216_10 : Okp RX12 cX12_init 1 none "<init>" false 10 (sPR 13 1 13) := ok_putR (by decide +kernel : decode cX12_init 10 = .ok (.putfield 7, 3)) fw_X12_7 ⟨⟨tyX12_ok, nmX12⟩, Or.inr ⟨rfl, rfl, rfl⟩, rfl⟩ (Or.inr ⟨_, rfl⟩) rfl
theorem o216_13 : Okp RX12 cX12_init 1 none "<init>" false 13 (sLR 0 14) := ok_aload_n (by decide +kernel : decode cX12_init 13 = .ok (.aload_n 0, 1)) rfl
theorem o216_14 : Okp RX12 cX12_init 1 none "<init>" false 14 (sK 26000 17) := ok_sipush (by decide +kernel : decode cX12_init 14 = .ok (.sipush 26000, 3)) (by decide)
theorem o216_17 : Okp RX12 cX12_init 1 none "<init>" false 17 (sNA 14 19) := ok_newB (by decide +kernel : decode cX12_init 17 = .ok (.newarray .byte, 2)) wa_byte
theorem o216_19 : Okp RX12 cX12_init 1 none "<init>" false 19 (sPR 13 3 22) := ok_putR (by decide +kernel : decode cX12_init 19 = .ok (.putfield 13, 3)) fw_X12_13 ⟨⟨tyX12_ok, nmX12⟩, Or.inr ⟨rfl, rfl, rfl⟩, rfl⟩ (Or.inr ⟨_, rfl⟩) rfl
theorem o216_22 : Okp RX12 cX12_init 1 none "<init>" false 22 (sLR 0 23) := ok_aload_n (by decide +kernel : decode cX12_init 22 = .ok (.aload_n 0, 1)) rfl
theorem o216_23 : Okp RX12 cX12_init 1 none "<init>" false 23 (sK 13 25) := ok_bipush (by decide +kernel : decode cX12_init 23 = .ok (.bipush 13, 2)) (by decide)
theorem o216_25 : Okp RX12 cX12_init 1 none "<init>" false 25 (sNA 15 27) := ok_newI (by decide +kernel : decode cX12_init 25 = .ok (.newarray .int, 2)) wa_int
theorem o216_27 : Okp RX12 cX12_init 1 none "<init>" false 27 (sPR 13 4 30) := ok_putR (by decide +kernel : decode cX12_init 27 = .ok (.putfield 16, 3)) fw_X12_16 ⟨⟨tyX12_ok, nmX12⟩, Or.inr ⟨rfl, rfl, rfl⟩, rfl⟩ (Or.inr ⟨_, rfl⟩) rfl
theorem o216_30 : Okp RX12 cX12_init 1 none "<init>" false 30 (sLR 0 31) := ok_aload_n (by decide +kernel : decode cX12_init 30 = .ok (.aload_n 0, 1)) rfl
theorem o216_31 : Okp RX12 cX12_init 1 none "<init>" false 31 (sK 13 33) := ok_bipush (by decide +kernel : decode cX12_init 31 = .ok (.bipush 13, 2)) (by decide)
theorem o216_33 : Okp RX12 cX12_init 1 none "<init>" false 33 (sNA 15 35) := ok_newI (by decide +kernel : decode cX12_init 33 = .ok (.newarray .int, 2)) wa_int
theorem o216_35 : Okp RX12 cX12_init 1 none "<init>" false 35 (sPR 13 5 38) := ok_putR (by decide +kernel : decode cX12_init 35 = .ok (.putfield 20, 3)) fw_X12_20 ⟨⟨tyX12_ok, nmX12⟩, Or.inr ⟨rfl, rfl, rfl⟩, rfl⟩ (Or.inr ⟨_, rfl⟩) rfl
theorem o216_38 : Okp RX12 cX12_init 1 none "<init>" false 38 (sLR 0 39) := ok_aload_n (by decide +kernel : decode cX12_init 38 = .ok (.aload_n 0, 1)) rfl
theorem o216_39 : Okp RX12 cX12_init 1 none "<init>" false 39 (sK 13 41) := ok_bipush (by decide +kernel : decode cX12_init 39 = .ok (.bipush 13, 2)) (by decide)
theorem o216_41 : Okp RX12 cX12_init 1 none "<init>" false 41 (sNA 15 43) := ok_newI (by decide +kernel : decode cX12_init 41 = .ok (.newarray .int, 2)) wa_int
theorem o216_43 : Okp RX12 cX12_init 1 none "<init>" false 43 (sPR 13 6 46) := ok_putR (by decide +kernel : decode cX12_init 43 = .ok (.putfield 23, 3)) fw_X12_23 ⟨⟨tyX12_ok, nmX12⟩, Or.inr ⟨rfl, rfl, rfl⟩, rfl⟩ (Or.inr ⟨_, rfl⟩) rfl
theorem o216_46 : Okp RX12 cX12_init 1 none "<init>" false 46 (sLR 0 47) := ok_aload_n (by decide +kernel : decode cX12_init 46 = .ok (.aload_n 0, 1)) rfl
theorem o216_47 : Okp RX12 cX12_init 1 none "<init>" false 47 (sK 13 49) := ok_bipush (by decide +kernel : decode cX12_init 47 = .ok (.bipush 13, 2)) (by decide)
theorem o216_49 : Okp RX12 cX12_init 1 none "<init>" false 49 (sNA 15 51) := ok_newI (by decide +kernel : decode cX12_init 49 = .ok (.newarray .int, 2)) wa_int
theorem o216_51 : Okp RX12 cX12_init 1 none "<init>" false 51 (sPR 13 7 54) := ok_putR (by decide +kernel : decode cX12_init 51 = .ok (.putfield 26, 3)) fw_X12_26 ⟨⟨tyX12_ok, nmX12⟩, Or.inr ⟨rfl, rfl, rfl⟩, rfl⟩ (Or.inr ⟨_, rfl⟩) rfl
theorem o216_54 : Okp RX12 cX12_init 1 none "<init>" false 54 (sLR 0 55) := ok_aload_n (by decide +kernel : decode cX12_init 54 = .ok (.aload_n 0, 1)) rfl
theorem o216_55 : Okp RX12 cX12_init 1 none "<init>" false 55 (sK 13 57) := ok_bipush (by decide +kernel : decode cX12_init 55 = .ok (.bipush 13, 2)) (by decide)
theorem o216_57 : Okp RX12 cX12_init 1 none "<init>" false 57 (sNA 16 59) := ok_newZ (by decide +kernel : decode cX12_init 57 = .ok (.newarray .boolean, 2)) wa_boolean
theorem o216_59 : Okp RX12 cX12_init 1 none "<init>" false 59 (sPR 13 8 62) := ok_putR (by decide +kernel : decode cX12_init 59 = .ok (.putfield 29, 3)) fw_X12_29 ⟨⟨tyX12_ok, nmX12⟩, Or.inr ⟨rfl, rfl, rfl⟩, rfl⟩ (Or.inr ⟨_, rfl⟩) rfl
theorem o216_62 : Okp RX12 cX12_init 1 none "<init>" false 62 (sLR 0 63) := ok_aload_n (by decide +kernel : decode cX12_init 62 = .ok (.aload_n 0, 1)) rfl
theorem o216_63 : Okp RX12 cX12_init 1 none "<init>" false 63 (sK 104 65) := ok_bipush (by decide +kernel : decode cX12_init 63 = .ok (.bipush 104, 2)) (by decide)
theorem o216_65 : Okp RX12 cX12_init 1 none "<init>" false 65 (sNA 15 67) := ok_newI (by decide +kernel : decode cX12_init 65 = .ok (.newarray .int, 2)) wa_int
theorem o216_67 : Okp RX12 cX12_init 1 none "<init>" false 67 (sPR 13 9 70) := ok_putR (by decide +kernel : decode cX12_init 67 = .ok (.putfield 33, 3)) fw_X12_33 ⟨⟨tyX12_ok, nmX12⟩, Or.inr ⟨rfl, rfl, rfl⟩, rfl⟩ (Or.inr ⟨_, rfl⟩) rfl
theorem o216_70 : Okp RX12 cX12_init 1 none "<init>" false 70 (sLR 0 71) := ok_aload_n (by decide +kernel : decode cX12_init 70 = .ok (.aload_n 0, 1)) rfl
theorem o216_71 : Okp RX12 cX12_init 1 none "<init>" false 71 (sK 624 74) := ok_sipush (by decide +kernel : decode cX12_init 71 = .ok (.sipush 624, 3)) (by decide)
theorem o216_74 : Okp RX12 cX12_init 1 none "<init>" false 74 (sNA 15 76) := ok_newI (by decide +kernel : decode cX12_init 74 = .ok (.newarray .int, 2)) wa_int
theorem o216_76 : Okp RX12 cX12_init 1 none "<init>" false 76 (sPR 13 10 79) := ok_putR (by decide +kernel : decode cX12_init 76 = .ok (.putfield 36, 3)) fw_X12_36 ⟨⟨tyX12_ok, nmX12⟩, Or.inr ⟨rfl, rfl, rfl⟩, rfl⟩ (Or.inr ⟨_, rfl⟩) rfl
theorem o216_79 : Okp RX12 cX12_init 1 none "<init>" false 79 (sLR 0 80) := ok_aload_n (by decide +kernel : decode cX12_init 79 = .ok (.aload_n 0, 1)) rfl
theorem o216_80 : Okp RX12 cX12_init 1 none "<init>" false 80 (sK 52 82) := ok_bipush (by decide +kernel : decode cX12_init 80 = .ok (.bipush 52, 2)) (by decide)
theorem o216_82 : Okp RX12 cX12_init 1 none "<init>" false 82 (sNA 15 84) := ok_newI (by decide +kernel : decode cX12_init 82 = .ok (.newarray .int, 2)) wa_int
theorem o216_84 : Okp RX12 cX12_init 1 none "<init>" false 84 (sPR 13 11 87) := ok_putR (by decide +kernel : decode cX12_init 84 = .ok (.putfield 39, 3)) fw_X12_39 ⟨⟨tyX12_ok, nmX12⟩, Or.inr ⟨rfl, rfl, rfl⟩, rfl⟩ (Or.inr ⟨_, rfl⟩) rfl
theorem o216_87 : Okp RX12 cX12_init 1 none "<init>" false 87 (sLR 0 88) := ok_aload_n (by decide +kernel : decode cX12_init 87 = .ok (.aload_n 0, 1)) rfl
theorem o216_88 : Okp RX12 cX12_init 1 none "<init>" false 88 (sK 416 91) := ok_sipush (by decide +kernel : decode cX12_init 88 = .ok (.sipush 416, 3)) (by decide)
theorem o216_91 : Okp RX12 cX12_init 1 none "<init>" false 91 (sNA 15 93) := ok_newI (by decide +kernel : decode cX12_init 91 = .ok (.newarray .int, 2)) wa_int
theorem o216_93 : Okp RX12 cX12_init 1 none "<init>" false 93 (sPR 13 12 96) := ok_putR (by decide +kernel : decode cX12_init 93 = .ok (.putfield 42, 3)) fw_X12_42 ⟨⟨tyX12_ok, nmX12⟩, Or.inr ⟨rfl, rfl, rfl⟩, rfl⟩ (Or.inr ⟨_, rfl⟩) rfl
theorem o216_96 : Okp RX12 cX12_init 1 none "<init>" false 96 (sLR 0 97) := ok_aload_n (by decide +kernel : decode cX12_init 96 = .ok (.aload_n 0, 1)) rfl
theorem o216_97 : Okp RX12 cX12_init 1 none "<init>" false 97 (sK 416 100) := ok_sipush (by decide +kernel : decode cX12_init 97 = .ok (.sipush 416, 3)) (by decide)
theorem o216_100 : Okp RX12 cX12_init 1 none "<init>" false 100 (sNA 15 102) := ok_newI (by decide +kernel : decode cX12_init 100 = .ok (.newarray .int, 2)) wa_int
theorem o216_102 : Okp RX12 cX12_init 1 none "<init>" false 102 (sPR 13 13 105) := ok_putR (by decide +kernel : decode cX12_init 102 = .ok (.putfield 45, 3)) fw_X12_45 ⟨⟨tyX12_ok, nmX12⟩, Or.inr ⟨rfl, rfl, rfl⟩, rfl⟩ (Or.inr ⟨_, rfl⟩) rfl
theorem o216_105 : Okp RX12 cX12_init 1 none "<init>" false 105 (sLR 0 106) := ok_aload_n (by decide +kernel : decode cX12_init 105 = .ok (.aload_n 0, 1)) rfl
theorem o216_106 : Okp RX12 cX12_init 1 none "<init>" false 106 (sK 1664 109) := ok_sipush (by decide +kernel : decode cX12_init 106 = .ok (.sipush 1664, 3)) (by decide)
theorem o216_109 : Okp RX12 cX12_init 1 none "<init>" false 109 (sNA 15 111) := ok_newI (by decide +kernel : decode cX12_init 109 = .ok (.newarray .int, 2)) wa_int
theorem o216_111 : Okp RX12 cX12_init 1 none "<init>" false 111 (sPR 13 14 114) := ok_putR (by decide +kernel : decode cX12_init 111 = .ok (.putfield 48, 3)) fw_X12_48 ⟨⟨tyX12_ok, nmX12⟩, Or.inr ⟨rfl, rfl, rfl⟩, rfl⟩ (Or.inr ⟨_, rfl⟩) rfl
theorem o216_114 : Okp RX12 cX12_init 1 none "<init>" false 114 (sLR 0 115) := ok_aload_n (by decide +kernel : decode cX12_init 114 = .ok (.aload_n 0, 1)) rfl
theorem o216_115 : Okp RX12 cX12_init 1 none "<init>" false 115 (sK 1664 118) := ok_sipush (by decide +kernel : decode cX12_init 115 = .ok (.sipush 1664, 3)) (by decide)
theorem o216_118 : Okp RX12 cX12_init 1 none "<init>" false 118 (sNA 15 120) := ok_newI (by decide +kernel : decode cX12_init 118 = .ok (.newarray .int, 2)) wa_int
theorem o216_120 : Okp RX12 cX12_init 1 none "<init>" false 120 (sPR 13 15 123) := ok_putR (by decide +kernel : decode cX12_init 120 = .ok (.putfield 51, 3)) fw_X12_51 ⟨⟨tyX12_ok, nmX12⟩, Or.inr ⟨rfl, rfl, rfl⟩, rfl⟩ (Or.inr ⟨_, rfl⟩) rfl
theorem o216_123 : Okp RX12 cX12_init 1 none "<init>" false 123 (sLR 0 124) := ok_aload_n (by decide +kernel : decode cX12_init 123 = .ok (.aload_n 0, 1)) rfl
theorem o216_124 : Okp RX12 cX12_init 1 none "<init>" false 124 (sK 130 127) := ok_sipush (by decide +kernel : decode cX12_init 124 = .ok (.sipush 130, 3)) (by decide)
theorem o216_127 : Okp RX12 cX12_init 1 none "<init>" false 127 (sNA 15 129) := ok_newI (by decide +kernel : decode cX12_init 127 = .ok (.newarray .int, 2)) wa_int
theorem o216_129 : Okp RX12 cX12_init 1 none "<init>" false 129 (sPR 13 16 132) := ok_putR (by decide +kernel : decode cX12_init 129 = .ok (.putfield 54, 3)) fw_X12_54 ⟨⟨tyX12_ok, nmX12⟩, Or.inr ⟨rfl, rfl, rfl⟩, rfl⟩ (Or.inr ⟨_, rfl⟩) rfl
theorem o216_132 : Okp RX12 cX12_init 1 none "<init>" false 132 (sLR 0 133) := ok_aload_n (by decide +kernel : decode cX12_init 132 = .ok (.aload_n 0, 1)) rfl
theorem o216_133 : Okp RX12 cX12_init 1 none "<init>" false 133 (sK 520 136) := ok_sipush (by decide +kernel : decode cX12_init 133 = .ok (.sipush 520, 3)) (by decide)
theorem o216_136 : Okp RX12 cX12_init 1 none "<init>" false 136 (sNA 15 138) := ok_newI (by decide +kernel : decode cX12_init 136 = .ok (.newarray .int, 2)) wa_int
theorem o216_138 : Okp RX12 cX12_init 1 none "<init>" false 138 (sPR 13 17 141) := ok_putR (by decide +kernel : decode cX12_init 138 = .ok (.putfield 57, 3)) fw_X12_57 ⟨⟨tyX12_ok, nmX12⟩, Or.inr ⟨rfl, rfl, rfl⟩, rfl⟩ (Or.inr ⟨_, rfl⟩) rfl
theorem o216_141 : Okp RX12 cX12_init 1 none "<init>" false 141 (sLR 0 142) := ok_aload_n (by decide +kernel : decode cX12_init 141 = .ok (.aload_n 0, 1)) rfl
theorem o216_142 : Okp RX12 cX12_init 1 none "<init>" false 142 (sK 130 145) := ok_sipush (by decide +kernel : decode cX12_init 142 = .ok (.sipush 130, 3)) (by decide)
theorem o216_145 : Okp RX12 cX12_init 1 none "<init>" false 145 (sNA 15 147) := ok_newI (by decide +kernel : decode cX12_init 145 = .ok (.newarray .int, 2)) wa_int
theorem o216_147 : Okp RX12 cX12_init 1 none "<init>" false 147 (sPR 13 18 150) := ok_putR (by decide +kernel : decode cX12_init 147 = .ok (.putfield 60, 3)) fw_X12_60 ⟨⟨tyX12_ok, nmX12⟩, Or.inr ⟨rfl, rfl, rfl⟩, rfl⟩ (Or.inr ⟨_, rfl⟩) rfl
theorem o216_150 : Okp RX12 cX12_init 1 none "<init>" false 150 (sLR 0 151) := ok_aload_n (by decide +kernel : decode cX12_init 150 = .ok (.aload_n 0, 1)) rfl
theorem o216_151 : Okp RX12 cX12_init 1 none "<init>" false 151 (sK 130 154) := ok_sipush (by decide +kernel : decode cX12_init 151 = .ok (.sipush 130, 3)) (by decide)
theorem o216_154 : Okp RX12 cX12_init 1 none "<init>" false 154 (sNA 15 156) := ok_newI (by decide +kernel : decode cX12_init 154 = .ok (.newarray .int, 2)) wa_int
theorem o216_156 : Okp RX12 cX12_init 1 none "<init>" false 156 (sPR 13 19 159) := ok_putR (by decide +kernel : decode cX12_init 156 = .ok (.putfield 63, 3)) fw_X12_63 ⟨⟨tyX12_ok, nmX12⟩, Or.inr ⟨rfl, rfl, rfl⟩, rfl⟩ (Or.inr ⟨_, rfl⟩) rfl
theorem o216_159 : Okp RX12 cX12_init 1 none "<init>" false 159 (sLR 0 160) := ok_aload_n (by decide +kernel : decode cX12_init 159 = .ok (.aload_n 0, 1)) rfl
theorem o216_160 : Okp RX12 cX12_init 1 none "<init>" false 160 (sK 130 163) := ok_sipush (by decide +kernel : decode cX12_init 160 = .ok (.sipush 130, 3)) (by decide)
theorem o216_163 : Okp RX12 cX12_init 1 none "<init>" false 163 (sNA 15 165) := ok_newI (by decide +kernel : decode cX12_init 163 = .ok (.newarray .int, 2)) wa_int
theorem o216_165 : Okp RX12 cX12_init 1 none "<init>" false 165 (sPR 13 20 168) := ok_putR (by decide +kernel : decode cX12_init 165 = .ok (.putfield 66, 3)) fw_X12_66 ⟨⟨tyX12_ok, nmX12⟩, Or.inr ⟨rfl, rfl, rfl⟩, rfl⟩ (Or.inr ⟨_, rfl⟩) rfl
theorem o216_168 : Okp RX12 cX12_init 1 none "<init>" false 168 (sLR 0 169) := ok_aload_n (by decide +kernel : decode cX12_init 168 = .ok (.aload_n 0, 1)) rfl
theorem o216_169 : Okp RX12 cX12_init 1 none "<init>" false 169 (sK 130 172) := ok_sipush (by decide +kernel : decode cX12_init 169 = .ok (.sipush 130, 3)) (by decide)
theorem o216_172 : Okp RX12 cX12_init 1 none "<init>" false 172 (sNA 15 174) := ok_newI (by decide +kernel : decode cX12_init 172 = .ok (.newarray .int, 2)) wa_int
theorem o216_174 : Okp RX12 cX12_init 1 none "<init>" false 174 (sPR 13 21 177) := ok_putR (by decide +kernel : decode cX12_init 174 = .ok (.putfield 69, 3)) fw_X12_69 ⟨⟨tyX12_ok, nmX12⟩, Or.inr ⟨rfl, rfl, rfl⟩, rfl⟩ (Or.inr ⟨_, rfl⟩) rfl
theorem o216_177 : Okp RX12 cX12_init 1 none "<init>" false 177 (sLR 0 178) := ok_aload_n (by decide +kernel : decode cX12_init 177 = .ok (.aload_n 0, 1)) rfl
theorem o216_178 : Okp RX12 cX12_init 1 none "<init>" false 178 (sK (-1) 179) := ok_iconst (by decide +kernel : decode cX12_init 178 = .ok (.iconst (-1), 1)) (by decide)
theorem o216_179 : Okp RX12 cX12_init 1 none "<init>" false 179 (sPI 13 23 182) := ok_putI (by decide +kernel : decode cX12_init 179 = .ok (.putfield 72, 3)) fw_X12_72 ⟨⟨tyX12_ok, nmX12⟩, Or.inl rfl, rfl⟩ rfl
theorem o216_182 : Okp RX12 cX12_init 1 none "<init>" false 182 (sLR 0 183) := ok_aload_n (by decide +kernel : decode cX12_init 182 = .ok (.aload_n 0, 1)) rfl
theorem o216_183 : Okp RX12 cX12_init 1 none "<init>" false 183 (sNE 190) := ok_newE (ic := 78) (by decide +kernel : decode cX12_init 183 = .ok (.new 76, 3)) (by decide +kernel) (by decide +kernel) rfl wl_X12_76 wn_E wi_E atE
theorem o216_186 : Okp RX12 cX12_init 1 none "<init>" false 186 (sDup 187) := ok_dup (by decide +kernel : decode cX12_init 186 = .ok (.dup, 1))
theorem o216_187 : Okp RX12 cX12_init 1 none "<init>" false 187 sX := ok_X
theorem o216_190 : Okp RX12 cX12_init 1 none "<init>" false 190 (sPR 13 25 193) := ok_putR (by decide +kernel : decode cX12_init 190 = .ok (.putfield 79, 3)) fw_X12_79 ⟨⟨tyX12_ok, nmX12⟩, Or.inr ⟨rfl, rfl, rfl⟩, rfl⟩ (Or.inl ⟨_, rfl⟩) rfl
theorem o216_193 : Okp RX12 cX12_init 1 none "<init>" false 193 (sLR 0 194) := ok_aload_n (by decide +kernel : decode cX12_init 193 = .ok (.aload_n 0, 1)) rfl
theorem o216_194 : Okp RX12 cX12_init 1 none "<init>" false 194 (sK 240 197) := ok_sipush (by decide +kernel : decode cX12_init 194 = .ok (.sipush 240, 3)) (by decide)
theorem o216_197 : Okp RX12 cX12_init 1 none "<init>" false 197 (sNA 16 199) := ok_newZ (by decide +kernel : decode cX12_init 197 = .ok (.newarray .boolean, 2)) wa_boolean
theorem o216_199 : Okp RX12 cX12_init 1 none "<init>" false 199 (sPR 13 29 202) := ok_putR (by decide +kernel : decode cX12_init 199 = .ok (.putfield 83, 3)) fw_X12_83 ⟨⟨tyX12_ok, nmX12⟩, Or.inr ⟨rfl, rfl, rfl⟩, rfl⟩ (Or.inr ⟨_, rfl⟩) rfl
theorem o216_202 : Okp RX12 cX12_init 1 none "<init>" false 202 (sLR 0 203) := ok_aload_n (by decide +kernel : decode cX12_init 202 = .ok (.aload_n 0, 1)) rfl
theorem o216_203 : Okp RX12 cX12_init 1 none "<init>" false 203 (sK 240 206) := ok_sipush (by decide +kernel : decode cX12_init 203 = .ok (.sipush 240, 3)) (by decide)
theorem o216_206 : Okp RX12 cX12_init 1 none "<init>" false 206 (sNA 15 208) := ok_newI (by decide +kernel : decode cX12_init 206 = .ok (.newarray .int, 2)) wa_int
theorem o216_208 : Okp RX12 cX12_init 1 none "<init>" false 208 (sPR 13 30 211) := ok_putR (by decide +kernel : decode cX12_init 208 = .ok (.putfield 86, 3)) fw_X12_86 ⟨⟨tyX12_ok, nmX12⟩, Or.inr ⟨rfl, rfl, rfl⟩, rfl⟩ (Or.inr ⟨_, rfl⟩) rfl
theorem o216_211 : Okp RX12 cX12_init 1 none "<init>" false 211 (sLR 0 212) := ok_aload_n (by decide +kernel : decode cX12_init 211 = .ok (.aload_n 0, 1)) rfl
theorem o216_212 : Okp RX12 cX12_init 1 none "<init>" false 212 (sK 4080 215) := ok_sipush (by decide +kernel : decode cX12_init 212 = .ok (.sipush 4080, 3)) (by decide)
theorem o216_215 : Okp RX12 cX12_init 1 none "<init>" false 215 (sNA 15 217) := ok_newI (by decide +kernel : decode cX12_init 215 = .ok (.newarray .int, 2)) wa_int
theorem o216_217 : Okp RX12 cX12_init 1 none "<init>" false 217 (sPR 13 31 220) := ok_putR (by decide +kernel : decode cX12_init 217 = .ok (.putfield 89, 3)) fw_X12_89 ⟨⟨tyX12_ok, nmX12⟩, Or.inr ⟨rfl, rfl, rfl⟩, rfl⟩ (Or.inr ⟨_, rfl⟩) rfl
theorem o216_220 : Okp RX12 cX12_init 1 none "<init>" false 220 (sLR 0 221) := ok_aload_n (by decide +kernel : decode cX12_init 220 = .ok (.aload_n 0, 1)) rfl
theorem o216_221 : Okp RX12 cX12_init 1 none "<init>" false 221 (sK 2400 224) := ok_sipush (by decide +kernel : decode cX12_init 221 = .ok (.sipush 2400, 3)) (by decide)
theorem o216_224 : Okp RX12 cX12_init 1 none "<init>" false 224 (sNA 15 226) := ok_newI (by decide +kernel : decode cX12_init 224 = .ok (.newarray .int, 2)) wa_int
theorem o216_226 : Okp RX12 cX12_init 1 none "<init>" false 226 (sPR 13 32 229) := ok_putR (by decide +kernel : decode cX12_init 226 = .ok (.putfield 92, 3)) fw_X12_92 ⟨⟨tyX12_ok, nmX12⟩, Or.inr ⟨rfl, rfl, rfl⟩, rfl⟩ (Or.inr ⟨_, rfl⟩) rfl
theorem o216_229 : Okp RX12 cX12_init 1 none "<init>" false 229 (sLR 0 230) := ok_aload_n (by decide +kernel : decode cX12_init 229 = .ok (.aload_n 0, 1)) rfl
theorem o216_230 : Okp RX12 cX12_init 1 none "<init>" false 230 (sK 24 232) := ok_bipush (by decide +kernel : decode cX12_init 230 = .ok (.bipush 24, 2)) (by decide)
theorem o216_232 : Okp RX12 cX12_init 1 none "<init>" false 232 (sNA 15 234) := ok_newI (by decide +kernel : decode cX12_init 232 = .ok (.newarray .int, 2)) wa_int
theorem o216_234 : Okp RX12 cX12_init 1 none "<init>" false 234 (sPR 13 33 237) := ok_putR (by decide +kernel : decode cX12_init 234 = .ok (.putfield 95, 3)) fw_X12_95 ⟨⟨tyX12_ok, nmX12⟩, Or.inr ⟨rfl, rfl, rfl⟩, rfl⟩ (Or.inr ⟨_, rfl⟩) rfl
theorem o216_237 : Okp RX12 cX12_init 1 none "<init>" false 237 (sLR 0 238) := ok_aload_n (by decide +kernel : decode cX12_init 237 = .ok (.aload_n 0, 1)) rfl
theorem o216_238 : Okp RX12 cX12_init 1 none "<init>" false 238 (sK 10 240) := ok_bipush (by decide +kernel : decode cX12_init 238 = .ok (.bipush 10, 2)) (by decide)
theorem o216_240 : Okp RX12 cX12_init 1 none "<init>" false 240 (sNA 15 242) := ok_newI (by decide +kernel : decode cX12_init 240 = .ok (.newarray .int, 2)) wa_int
theorem o216_242 : Okp RX12 cX12_init 1 none "<init>" false 242 (sPR 13 34 245) := ok_putR (by decide +kernel : decode cX12_init 242 = .ok (.putfield 98, 3)) fw_X12_98 ⟨⟨tyX12_ok, nmX12⟩, Or.inr ⟨rfl, rfl, rfl⟩, rfl⟩ (Or.inr ⟨_, rfl⟩) rfl
theorem o216_245 : Okp RX12 cX12_init 1 none "<init>" false 245 (sLR 0 246) := ok_aload_n (by decide +kernel : decode cX12_init 245 = .ok (.aload_n 0, 1)) rfl
theorem o216_246 : Okp RX12 cX12_init 1 none "<init>" false 246 (sK 6 248) := ok_bipush (by decide +kernel : decode cX12_init 246 = .ok (.bipush 6, 2)) (by decide)
theorem o216_248 : Okp RX12 cX12_init 1 none "<init>" false 248 (sNA 15 250) := ok_newI (by decide +kernel : decode cX12_init 248 = .ok (.newarray .int, 2)) wa_int
theorem o216_250 : Okp RX12 cX12_init 1 none "<init>" false 250 (sPR 13 39 253) := ok_putR (by decide +kernel : decode cX12_init 250 = .ok (.putfield 101, 3)) fw_X12_101 ⟨⟨tyX12_ok, nmX12⟩, Or.inr ⟨rfl, rfl, rfl⟩, rfl⟩ (Or.inr ⟨_, rfl⟩) rfl
theorem o216_253 : Okp RX12 cX12_init 1 none "<init>" false 253 (sLR 0 254) := ok_aload_n (by decide +kernel : decode cX12_init 253 = .ok (.aload_n 0, 1)) rfl
theorem o216_254 : Okp RX12 cX12_init 1 none "<init>" false 254 (sK 6 256) := ok_bipush (by decide +kernel : decode cX12_init 254 = .ok (.bipush 6, 2)) (by decide)
theorem o216_256 : Okp RX12 cX12_init 1 none "<init>" false 256 (sNA 15 258) := ok_newI (by decide +kernel : decode cX12_init 256 = .ok (.newarray .int, 2)) wa_int
theorem o216_258 : Okp RX12 cX12_init 1 none "<init>" false 258 (sPR 13 40 261) := ok_putR (by decide +kernel : decode cX12_init 258 = .ok (.putfield 104, 3)) fw_X12_104 ⟨⟨tyX12_ok, nmX12⟩, Or.inr ⟨rfl, rfl, rfl⟩, rfl⟩ (Or.inr ⟨_, rfl⟩) rfl
theorem o216_261 : Okp RX12 cX12_init 1 none "<init>" false 261 (sLR 0 262) := ok_aload_n (by decide +kernel : decode cX12_init 261 = .ok (.aload_n 0, 1)) rfl
theorem o216_262 : Okp RX12 cX12_init 1 none "<init>" false 262 (sK 6 264) := ok_bipush (by decide +kernel : decode cX12_init 262 = .ok (.bipush 6, 2)) (by decide)
theorem o216_264 : Okp RX12 cX12_init 1 none "<init>" false 264 (sNA 15 266) := ok_newI (by decide +kernel : decode cX12_init 264 = .ok (.newarray .int, 2)) wa_int
theorem o216_266 : Okp RX12 cX12_init 1 none "<init>" false 266 (sPR 13 41 269) := ok_putR (by decide +kernel : decode cX12_init 266 = .ok (.putfield 107, 3)) fw_X12_107 ⟨⟨tyX12_ok, nmX12⟩, Or.inr ⟨rfl, rfl, rfl⟩, rfl⟩ (Or.inr ⟨_, rfl⟩) rfl
theorem o216_269 : Okp RX12 cX12_init 1 none "<init>" false 269 (sLR 0 270) := ok_aload_n (by decide +kernel : decode cX12_init 269 = .ok (.aload_n 0, 1)) rfl
theorem o216_270 : Okp RX12 cX12_init 1 none "<init>" false 270 (sK 24 272) := ok_bipush (by decide +kernel : decode cX12_init 270 = .ok (.bipush 24, 2)) (by decide)
theorem o216_272 : Okp RX12 cX12_init 1 none "<init>" false 272 (sNA 15 274) := ok_newI (by decide +kernel : decode cX12_init 272 = .ok (.newarray .int, 2)) wa_int
theorem o216_274 : Okp RX12 cX12_init 1 none "<init>" false 274 (sPR 13 42 277) := ok_putR (by decide +kernel : decode cX12_init 274 = .ok (.putfield 110, 3)) fw_X12_110 ⟨⟨tyX12_ok, nmX12⟩, Or.inr ⟨rfl, rfl, rfl⟩, rfl⟩ (Or.inr ⟨_, rfl⟩) rfl
theorem o216_277 : Okp RX12 cX12_init 1 none "<init>" false 277 (sLR 0 278) := ok_aload_n (by decide +kernel : decode cX12_init 277 = .ok (.aload_n 0, 1)) rfl
theorem o216_278 : Okp RX12 cX12_init 1 none "<init>" false 278 (sK 8 280) := ok_bipush (by decide +kernel : decode cX12_init 278 = .ok (.bipush 8, 2)) (by decide)
theorem o216_280 : Okp RX12 cX12_init 1 none "<init>" false 280 (sNA 15 282) := ok_newI (by decide +kernel : decode cX12_init 280 = .ok (.newarray .int, 2)) wa_int
theorem o216_282 : Okp RX12 cX12_init 1 none "<init>" false 282 (sPR 13 43 285) := ok_putR (by decide +kernel : decode cX12_init 282 = .ok (.putfield 113, 3)) fw_X12_113 ⟨⟨tyX12_ok, nmX12⟩, Or.inr ⟨rfl, rfl, rfl⟩, rfl⟩ (Or.inr ⟨_, rfl⟩) rfl
theorem o216_285 : Okp RX12 cX12_init 1 none "<init>" false 285 (sLR 0 286) := ok_aload_n (by decide +kernel : decode cX12_init 285 = .ok (.aload_n 0, 1)) rfl
theorem o216_286 : Okp RX12 cX12_init 1 none "<init>" false 286 (sK 16 288) := ok_bipush (by decide +kernel : decode cX12_init 286 = .ok (.bipush 16, 2)) (by decide)
theorem o216_288 : Okp RX12 cX12_init 1 none "<init>" false 288 (sNA 15 290) := ok_newI (by decide +kernel : decode cX12_init 288 = .ok (.newarray .int, 2)) wa_int
theorem o216_290 : Okp RX12 cX12_init 1 none "<init>" false 290 (sPR 13 44 293) := ok_putR (by decide +kernel : decode cX12_init 290 = .ok (.putfield 116, 3)) fw_X12_116 ⟨⟨tyX12_ok, nmX12⟩, Or.inr ⟨rfl, rfl, rfl⟩, rfl⟩ (Or.inr ⟨_, rfl⟩) rfl
theorem o216_293 : Okp RX12 cX12_init 1 none "<init>" false 293 (sLR 0 294) := ok_aload_n (by decide +kernel : decode cX12_init 293 = .ok (.aload_n 0, 1)) rfl
theorem o216_294 : Okp RX12 cX12_init 1 none "<init>" false 294 (sK 16 296) := ok_bipush (by decide +kernel : decode cX12_init 294 = .ok (.bipush 16, 2)) (by decide)
theorem o216_296 : Okp RX12 cX12_init 1 none "<init>" false 296 (sNA 15 298) := ok_newI (by decide +kernel : decode cX12_init 296 = .ok (.newarray .int, 2)) wa_int
theorem o216_298 : Okp RX12 cX12_init 1 none "<init>" false 298 (sPR 13 45 301) := ok_putR (by decide +kernel : decode cX12_init 298 = .ok (.putfield 119, 3)) fw_X12_119 ⟨⟨tyX12_ok, nmX12⟩, Or.inr ⟨rfl, rfl, rfl⟩, rfl⟩ (Or.inr ⟨_, rfl⟩) rfl
theorem o216_301 : Okp RX12 cX12_init 1 none "<init>" false 301 (sLR 0 302) := ok_aload_n (by decide +kernel : decode cX12_init 301 = .ok (.aload_n 0, 1)) rfl
theorem o216_302 : Okp RX12 cX12_init 1 none "<init>" false 302 (sK 16 304) := ok_bipush (by decide +kernel : decode cX12_init 302 = .ok (.bipush 16, 2)) (by decide)
theorem o216_304 : Okp RX12 cX12_init 1 none "<init>" false 304 (sNA 15 306) := ok_newI (by decide +kernel : decode cX12_init 304 = .ok (.newarray .int, 2)) wa_int
theorem o216_306 : Okp RX12 cX12_init 1 none "<init>" false 306 (sPR 13 46 309) := ok_putR (by decide +kernel : decode cX12_init 306 = .ok (.putfield 122, 3)) fw_X12_122 ⟨⟨tyX12_ok, nmX12⟩, Or.inr ⟨rfl, rfl, rfl⟩, rfl⟩ (Or.inr ⟨_, rfl⟩) rfl
theorem o216_309 : Okp RX12 cX12_init 1 none "<init>" false 309 (sLR 0 310) := ok_aload_n (by decide +kernel : decode cX12_init 309 = .ok (.aload_n 0, 1)) rfl
theorem o216_310 : Okp RX12 cX12_init 1 none "<init>" false 310 (sK 8 312) := ok_bipush (by decide +kernel : decode cX12_init 310 = .ok (.bipush 8, 2)) (by decide)
theorem o216_312 : Okp RX12 cX12_init 1 none "<init>" false 312 (sNA 15 314) := ok_newI (by decide +kernel : decode cX12_init 312 = .ok (.newarray .int, 2)) wa_int
theorem o216_314 : Okp RX12 cX12_init 1 none "<init>" false 314 (sPR 13 47 317) := ok_putR (by decide +kernel : decode cX12_init 314 = .ok (.putfield 125, 3)) fw_X12_125 ⟨⟨tyX12_ok, nmX12⟩, Or.inr ⟨rfl, rfl, rfl⟩, rfl⟩ (Or.inr ⟨_, rfl⟩) rfl
theorem o216_317 : Okp RX12 cX12_init 1 none "<init>" false 317 (sLR 0 318) := ok_aload_n (by decide +kernel : decode cX12_init 317 = .ok (.aload_n 0, 1)) rfl
theorem o216_318 : Okp RX12 cX12_init 1 none "<init>" false 318 (sK 2304 321) := ok_sipush (by decide +kernel : decode cX12_init 318 = .ok (.sipush 2304, 3)) (by decide)
theorem o216_321 : Okp RX12 cX12_init 1 none "<init>" false 321 (sNA 16 323) := ok_newZ (by decide +kernel : decode cX12_init 321 = .ok (.newarray .boolean, 2)) wa_boolean
theorem o216_323 : Okp RX12 cX12_init 1 none "<init>" false 323 (sPR 13 50 326) := ok_putR (by decide +kernel : decode cX12_init 323 = .ok (.putfield 128, 3)) fw_X12_128 ⟨⟨tyX12_ok, nmX12⟩, Or.inr ⟨rfl, rfl, rfl⟩, rfl⟩ (Or.inr ⟨_, rfl⟩) rfl
theorem o216_326 : Okp RX12 cX12_init 1 none "<init>" false 326 (sLR 0 327) := ok_aload_n (by decide +kernel : decode cX12_init 326 = .ok (.aload_n 0, 1)) rfl
theorem o216_327 : Okp RX12 cX12_init 1 none "<init>" false 327 (sK 500 330) := ok_sipush (by decide +kernel : decode cX12_init 327 = .ok (.sipush 500, 3)) (by decide)
theorem o216_330 : Okp RX12 cX12_init 1 none "<init>" false 330 (sNA 15 332) := ok_newI (by decide +kernel : decode cX12_init 330 = .ok (.newarray .int, 2)) wa_int
theorem o216_332 : Okp RX12 cX12_init 1 none "<init>" false 332 (sPR 13 57 335) := ok_putR (by decide +kernel : decode cX12_init 332 = .ok (.putfield 131, 3)) fw_X12_131 ⟨⟨tyX12_ok, nmX12⟩, Or.inr ⟨rfl, rfl, rfl⟩, rfl⟩ (Or.inr ⟨_, rfl⟩) rfl
theorem o216_335 : Okp RX12 cX12_init 1 none "<init>" false 335 (sLR 0 336) := ok_aload_n (by decide +kernel : decode cX12_init 335 = .ok (.aload_n 0, 1)) rfl
theorem o216_336 : Okp RX12 cX12_init 1 none "<init>" false 336 (sK 500 339) := ok_sipush (by decide +kernel : decode cX12_init 336 = .ok (.sipush 500, 3)) (by decide)
theorem o216_339 : Okp RX12 cX12_init 1 none "<init>" false 339 (sNA 15 341) := ok_newI (by decide +kernel : decode cX12_init 339 = .ok (.newarray .int, 2)) wa_int
theorem o216_341 : Okp RX12 cX12_init 1 none "<init>" false 341 (sPR 13 58 344) := ok_putR (by decide +kernel : decode cX12_init 341 = .ok (.putfield 134, 3)) fw_X12_134 ⟨⟨tyX12_ok, nmX12⟩, Or.inr ⟨rfl, rfl, rfl⟩, rfl⟩ (Or.inr ⟨_, rfl⟩) rfl
theorem o216_344 : Okp RX12 cX12_init 1 none "<init>" false 344 (sLR 0 345) := ok_aload_n (by decide +kernel : decode cX12_init 344 = .ok (.aload_n 0, 1)) rfl
theorem o216_345 : Okp RX12 cX12_init 1 none "<init>" false 345 (sK 12 347) := ok_bipush (by decide +kernel : decode cX12_init 345 = .ok (.bipush 12, 2)) (by decide)
theorem o216_347 : Okp RX12 cX12_init 1 none "<init>" false 347 (sNA 15 349) := ok_newI (by decide +kernel : decode cX12_init 347 = .ok (.newarray .int, 2)) wa_int
theorem o216_349 : Okp RX12 cX12_init 1 none "<init>" false 349 (sPR 13 59 352) := ok_putR (by decide +kernel : decode cX12_init 349 = .ok (.putfield 137, 3)) fw_X12_137 ⟨⟨tyX12_ok, nmX12⟩, Or.inr ⟨rfl, rfl, rfl⟩, rfl⟩ (Or.inr ⟨_, rfl⟩) rfl
theorem o216_352 : Okp RX12 cX12_init 1 none "<init>" false 352 (sLR 0 353) := ok_aload_n (by decide +kernel : decode cX12_init 352 = .ok (.aload_n 0, 1)) rfl
theorem o216_353 : Okp RX12 cX12_init 1 none "<init>" false 353 (sK 12 355) := ok_bipush (by decide +kernel : decode cX12_init 353 = .ok (.bipush 12, 2)) (by decide)
theorem o216_355 : Okp RX12 cX12_init 1 none "<init>" false 355 (sNA 15 357) := ok_newI (by decide +kernel : decode cX12_init 355 = .ok (.newarray .int, 2)) wa_int
theorem o216_357 : Okp RX12 cX12_init 1 none "<init>" false 357 (sPR 13 60 360) := ok_putR (by decide +kernel : decode cX12_init 357 = .ok (.putfield 140, 3)) fw_X12_140 ⟨⟨tyX12_ok, nmX12⟩, Or.inr ⟨rfl, rfl, rfl⟩, rfl⟩ (Or.inr ⟨_, rfl⟩) rfl
theorem o216_360 : Okp RX12 cX12_init 1 none "<init>" false 360 (sLR 0 361) := ok_aload_n (by decide +kernel : decode cX12_init 360 = .ok (.aload_n 0, 1)) rfl
theorem o216_361 : Okp RX12 cX12_init 1 none "<init>" false 361 (sK 12 363) := ok_bipush (by decide +kernel : decode cX12_init 361 = .ok (.bipush 12, 2)) (by decide)
theorem o216_363 : Okp RX12 cX12_init 1 none "<init>" false 363 (sNA 15 365) := ok_newI (by decide +kernel : decode cX12_init 363 = .ok (.newarray .int, 2)) wa_int
theorem o216_365 : Okp RX12 cX12_init 1 none "<init>" false 365 (sPR 13 61 368) := ok_putR (by decide +kernel : decode cX12_init 365 = .ok (.putfield 143, 3)) fw_X12_143 ⟨⟨tyX12_ok, nmX12⟩, Or.inr ⟨rfl, rfl, rfl⟩, rfl⟩ (Or.inr ⟨_, rfl⟩) rfl
theorem o216_368 : Okp RX12 cX12_init 1 none "<init>" false 368 (sLR 0 369) := ok_aload_n (by decide +kernel : decode cX12_init 368 = .ok (.aload_n 0, 1)) rfl
theorem o216_369 : Okp RX12 cX12_init 1 none "<init>" false 369 (sK 12 371) := ok_bipush (by decide +kernel : decode cX12_init 369 = .ok (.bipush 12, 2)) (by decide)
theorem o216_371 : Okp RX12 cX12_init 1 none "<init>" false 371 (sNA 15 373) := ok_newI (by decide +kernel : decode cX12_init 371 = .ok (.newarray .int, 2)) wa_int
theorem o216_373 : Okp RX12 cX12_init 1 none "<init>" false 373 (sPR 13 62 376) := ok_putR (by decide +kernel : decode cX12_init 373 = .ok (.putfield 146, 3)) fw_X12_146 ⟨⟨tyX12_ok, nmX12⟩, Or.inr ⟨rfl, rfl, rfl⟩, rfl⟩ (Or.inr ⟨_, rfl⟩) rfl
theorem o216_376 : Okp RX12 cX12_init 1 none "<init>" false 376 (sLR 0 377) := ok_aload_n (by decide +kernel : decode cX12_init 376 = .ok (.aload_n 0, 1)) rfl
theorem o216_377 : Okp RX12 cX12_init 1 none "<init>" false 377 (sK 12 379) := ok_bipush (by decide +kernel : decode cX12_init 377 = .ok (.bipush 12, 2)) (by decide)
theorem o216_379 : Okp RX12 cX12_init 1 none "<init>" false 379 (sNA 15 381) := ok_newI (by decide +kernel : decode cX12_init 379 = .ok (.newarray .int, 2)) wa_int
theorem o216_381 : Okp RX12 cX12_init 1 none "<init>" false 381 (sPR 13 63 384) := ok_putR (by decide +kernel : decode cX12_init 381 = .ok (.putfield 149, 3)) fw_X12_149 ⟨⟨tyX12_ok, nmX12⟩, Or.inr ⟨rfl, rfl, rfl⟩, rfl⟩ (Or.inr ⟨_, rfl⟩) rfl
theorem o216_384 : Okp RX12 cX12_init 1 none "<init>" false 384 (sLR 0 385) := ok_aload_n (by decide +kernel : decode cX12_init 384 = .ok (.aload_n 0, 1)) rfl
theorem o216_385 : Okp RX12 cX12_init 1 none "<init>" false 385 (sK 12 387) := ok_bipush (by decide +kernel : decode cX12_init 385 = .ok (.bipush 12, 2)) (by decide)
theorem o216_387 : Okp RX12 cX12_init 1 none "<init>" false 387 (sNA 15 389) := ok_newI (by decide +kernel : decode cX12_init 387 = .ok (.newarray .int, 2)) wa_int
theorem o216_389 : Okp RX12 cX12_init 1 none "<init>" false 389 (sPR 13 64 392) := ok_putR (by decide +kernel : decode cX12_init 389 = .ok (.putfield 152, 3)) fw_X12_152 ⟨⟨tyX12_ok, nmX12⟩, Or.inr ⟨rfl, rfl, rfl⟩, rfl⟩ (Or.inr ⟨_, rfl⟩) rfl
theorem o216_392 : Okp RX12 cX12_init 1 none "<init>" false 392 (sLR 0 393) := ok_aload_n (by decide +kernel : decode cX12_init 392 = .ok (.aload_n 0, 1)) rfl
theorem o216_393 : Okp RX12 cX12_init 1 none "<init>" false 393 (sK 192 396) := ok_sipush (by decide +kernel : decode cX12_init 393 = .ok (.sipush 192, 3)) (by decide)
theorem o216_396 : Okp RX12 cX12_init 1 none "<init>" false 396 (sNA 15 398) := ok_newI (by decide +kernel : decode cX12_init 396 = .ok (.newarray .int, 2)) wa_int
theorem o216_398 : Okp RX12 cX12_init 1 none "<init>" false 398 (sPR 13 65 401) := ok_putR (by decide +kernel : decode cX12_init 398 = .ok (.putfield 155, 3)) fw_X12_155 ⟨⟨tyX12_ok, nmX12⟩, Or.inr ⟨rfl, rfl, rfl⟩, rfl⟩ (Or.inr ⟨_, rfl⟩) rfl
theorem o216_401 : Okp RX12 cX12_init 1 none "<init>" false 401 (sLR 0 402) := ok_aload_n (by decide +kernel : decode cX12_init 401 = .ok (.aload_n 0, 1)) rfl
theorem o216_402 : Okp RX12 cX12_init 1 none "<init>" false 402 (sK 192 405) := ok_sipush (by decide +kernel : decode cX12_init 402 = .ok (.sipush 192, 3)) (by decide)
theorem o216_405 : Okp RX12 cX12_init 1 none "<init>" false 405 (sNA 15 407) := ok_newI (by decide +kernel : decode cX12_init 405 = .ok (.newarray .int, 2)) wa_int
theorem o216_407 : Okp RX12 cX12_init 1 none "<init>" false 407 (sPR 13 66 410) := ok_putR (by decide +kernel : decode cX12_init 407 = .ok (.putfield 158, 3)) fw_X12_158 ⟨⟨tyX12_ok, nmX12⟩, Or.inr ⟨rfl, rfl, rfl⟩, rfl⟩ (Or.inr ⟨_, rfl⟩) rfl
theorem o216_410 : Okp RX12 cX12_init 1 none "<init>" false 410 (sLR 0 411) := ok_aload_n (by decide +kernel : decode cX12_init 410 = .ok (.aload_n 0, 1)) rfl
theorem o216_411 : Okp RX12 cX12_init 1 none "<init>" false 411 (sK 192 414) := ok_sipush (by decide +kernel : decode cX12_init 411 = .ok (.sipush 192, 3)) (by decide)
theorem o216_414 : Okp RX12 cX12_init 1 none "<init>" false 414 (sNA 15 416) := ok_newI (by decide +kernel : decode cX12_init 414 = .ok (.newarray .int, 2)) wa_int
theorem o216_416 : Okp RX12 cX12_init 1 none "<init>" false 416 (sPR 13 67 419) := ok_putR (by decide +kernel : decode cX12_init 416 = .ok (.putfield 161, 3)) fw_X12_161 ⟨⟨tyX12_ok, nmX12⟩, Or.inr ⟨rfl, rfl, rfl⟩, rfl⟩ (Or.inr ⟨_, rfl⟩) rfl
theorem o216_419 : Okp RX12 cX12_init 1 none "<init>" false 419 (sLR 0 420) := ok_aload_n (by decide +kernel : decode cX12_init 419 = .ok (.aload_n 0, 1)) rfl
theorem o216_420 : Okp RX12 cX12_init 1 none "<init>" false 420 (sK 4992 423) := ok_sipush (by decide +kernel : decode cX12_init 420 = .ok (.sipush 4992, 3)) (by decide)
theorem o216_423 : Okp RX12 cX12_init 1 none "<init>" false 423 (sNA 15 425) := ok_newI (by decide +kernel : decode cX12_init 423 = .ok (.newarray .int, 2)) wa_int
theorem o216_425 : Okp RX12 cX12_init 1 none "<init>" false 425 (sPR 13 68 428) := ok_putR (by decide +kernel : decode cX12_init 425 = .ok (.putfield 164, 3)) fw_X12_164 ⟨⟨tyX12_ok, nmX12⟩, Or.inr ⟨rfl, rfl, rfl⟩, rfl⟩ (Or.inr ⟨_, rfl⟩) rfl
theorem o216_428 : Okp RX12 cX12_init 1 none "<init>" false 428 (sLR 0 429) := ok_aload_n (by decide +kernel : decode cX12_init 428 = .ok (.aload_n 0, 1)) rfl
theorem o216_429 : Okp RX12 cX12_init 1 none "<init>" false 429 (sK 4992 432) := ok_sipush (by decide +kernel : decode cX12_init 429 = .ok (.sipush 4992, 3)) (by decide)
theorem o216_432 : Okp RX12 cX12_init 1 none "<init>" false 432 (sNA 15 434) := ok_newI (by decide +kernel : decode cX12_init 432 = .ok (.newarray .int, 2)) wa_int
theorem o216_434 : Okp RX12 cX12_init 1 none "<init>" false 434 (sPR 13 69 437) := ok_putR (by decide +kernel : decode cX12_init 434 = .ok (.putfield 167, 3)) fw_X12_167 ⟨⟨tyX12_ok, nmX12⟩, Or.inr ⟨rfl, rfl, rfl⟩, rfl⟩ (Or.inr ⟨_, rfl⟩) rfl
theorem o216_437 : Okp RX12 cX12_init 1 none "<init>" false 437 (sLR 0 438) := ok_aload_n (by decide +kernel : decode cX12_init 437 = .ok (.aload_n 0, 1)) rfl
theorem o216_438 : Okp RX12 cX12_init 1 none "<init>" false 438 (sK 12300 441) := ok_sipush (by decide +kernel : decode cX12_init 438 = .ok (.sipush 12300, 3)) (by decide)
theorem o216_441 : Okp RX12 cX12_init 1 none "<init>" false 441 (sNA 15 443) := ok_newI (by decide +kernel : decode cX12_init 441 = .ok (.newarray .int, 2)) wa_int
theorem o216_443 : Okp RX12 cX12_init 1 none "<init>" false 443 (sPR 13 70 446) := ok_putR (by decide +kernel : decode cX12_init 443 = .ok (.putfield 170, 3)) fw_X12_170 ⟨⟨tyX12_ok, nmX12⟩, Or.inr ⟨rfl, rfl, rfl⟩, rfl⟩ (Or.inr ⟨_, rfl⟩) rfl
theorem o216_446 : Okp RX12 cX12_init 1 none "<init>" false 446 (sLR 0 447) := ok_aload_n (by decide +kernel : decode cX12_init 446 = .ok (.aload_n 0, 1)) rfl
theorem o216_447 : Okp RX12 cX12_init 1 none "<init>" false 447 (sK 12300 450) := ok_sipush (by decide +kernel : decode cX12_init 447 = .ok (.sipush 12300, 3)) (by decide)
theorem o216_450 : Okp RX12 cX12_init 1 none "<init>" false 450 (sNA 15 452) := ok_newI (by decide +kernel : decode cX12_init 450 = .ok (.newarray .int, 2)) wa_int
theorem o216_452 : Okp RX12 cX12_init 1 none "<init>" false 452 (sPR 13 71 455) := ok_putR (by decide +kernel : decode cX12_init 452 = .ok (.putfield 173, 3)) fw_X12_173 ⟨⟨tyX12_ok, nmX12⟩, Or.inr ⟨rfl, rfl, rfl⟩, rfl⟩ (Or.inr ⟨_, rfl⟩) rfl
theorem o216_455 : Okp RX12 cX12_init 1 none "<init>" false 455 (sLR 0 456) := ok_aload_n (by decide +kernel : decode cX12_init 455 = .ok (.aload_n 0, 1)) rfl
theorem o216_456 : Okp RX12 cX12_init 1 none "<init>" false 456 (sK 1025 459) := ok_sipush (by decide +kernel : decode cX12_init 456 = .ok (.sipush 1025, 3)) (by decide)
theorem o216_459 : Okp RX12 cX12_init 1 none "<init>" false 459 (sNA 16 461) := ok_newZ (by decide +kernel : decode cX12_init 459 = .ok (.newarray .boolean, 2)) wa_boolean
theorem o216_461 : Okp RX12 cX12_init 1 none "<init>" false 461 (sPR 13 72 464) := ok_putR (by decide +kernel : decode cX12_init 461 = .ok (.putfield 176, 3)) fw_X12_176 ⟨⟨tyX12_ok, nmX12⟩, Or.inr ⟨rfl, rfl, rfl⟩, rfl⟩ (Or.inr ⟨_, rfl⟩) rfl
theorem o216_464 : Okp RX12 cX12_init 1 none "<init>" false 464 (sLR 0 465) := ok_aload_n (by decide +kernel : decode cX12_init 464 = .ok (.aload_n 0, 1)) rfl
theorem o216_465 : Okp RX12 cX12_init 1 none "<init>" false 465 (sK 12288 468) := ok_sipush (by decide +kernel : decode cX12_init 465 = .ok (.sipush 12288, 3)) (by decide)
theorem o216_468 : Okp RX12 cX12_init 1 none "<init>" false 468 (sNA 15 470) := ok_newI (by decide +kernel : decode cX12_init 468 = .ok (.newarray .int, 2)) wa_int
theorem o216_470 : Okp RX12 cX12_init 1 none "<init>" false 470 (sPR 13 73 473) := ok_putR (by decide +kernel : decode cX12_init 470 = .ok (.putfield 179, 3)) fw_X12_179 ⟨⟨tyX12_ok, nmX12⟩, Or.inr ⟨rfl, rfl, rfl⟩, rfl⟩ (Or.inr ⟨_, rfl⟩) rfl
theorem o216_473 : Okp RX12 cX12_init 1 none "<init>" false 473 (sLR 0 474) := ok_aload_n (by decide +kernel : decode cX12_init 473 = .ok (.aload_n 0, 1)) rfl
theorem o216_474 : Okp RX12 cX12_init 1 none "<init>" false 474 (sK 12288 477) := ok_sipush (by decide +kernel : decode cX12_init 474 = .ok (.sipush 12288, 3)) (by decide)
theorem o216_477 : Okp RX12 cX12_init 1 none "<init>" false 477 (sNA 15 479) := ok_newI (by decide +kernel : decode cX12_init 477 = .ok (.newarray .int, 2)) wa_int
theorem o216_479 : Okp RX12 cX12_init 1 none "<init>" false 479 (sPR 13 74 482) := ok_putR (by decide +kernel : decode cX12_init 479 = .ok (.putfield 182, 3)) fw_X12_182 ⟨⟨tyX12_ok, nmX12⟩, Or.inr ⟨rfl, rfl, rfl⟩, rfl⟩ (Or.inr ⟨_, rfl⟩) rfl
theorem o216_482 : Okp RX12 cX12_init 1 none "<init>" false 482 (sLR 0 483) := ok_aload_n (by decide +kernel : decode cX12_init 482 = .ok (.aload_n 0, 1)) rfl
theorem o216_483 : Okp RX12 cX12_init 1 none "<init>" false 483 (sK 1024 486) := ok_sipush (by decide +kernel : decode cX12_init 483 = .ok (.sipush 1024, 3)) (by decide)
theorem o216_486 : Okp RX12 cX12_init 1 none "<init>" false 486 (sNA 15 488) := ok_newI (by decide +kernel : decode cX12_init 486 = .ok (.newarray .int, 2)) wa_int
theorem o216_488 : Okp RX12 cX12_init 1 none "<init>" false 488 (sPR 13 75 491) := ok_putR (by decide +kernel : decode cX12_init 488 = .ok (.putfield 185, 3)) fw_X12_185 ⟨⟨tyX12_ok, nmX12⟩, Or.inr ⟨rfl, rfl, rfl⟩, rfl⟩ (Or.inr ⟨_, rfl⟩) rfl
theorem o216_491 : Okp RX12 cX12_init 1 none "<init>" false 491 (sLR 0 492) := ok_aload_n (by decide +kernel : decode cX12_init 491 = .ok (.aload_n 0, 1)) rfl
theorem o216_492 : Okp RX12 cX12_init 1 none "<init>" false 492 (sK 1024 495) := ok_sipush (by decide +kernel : decode cX12_init 492 = .ok (.sipush 1024, 3)) (by decide)
theorem o216_495 : Okp RX12 cX12_init 1 none "<init>" false 495 (sNA 15 497) := ok_newI (by decide +kernel : decode cX12_init 495 = .ok (.newarray .int, 2)) wa_int
theorem o216_497 : Okp RX12 cX12_init 1 none "<init>" false 497 (sPR 13 76 500) := ok_putR (by decide +kernel : decode cX12_init 497 = .ok (.putfield 188, 3)) fw_X12_188 ⟨⟨tyX12_ok, nmX12⟩, Or.inr ⟨rfl, rfl, rfl⟩, rfl⟩ (Or.inr ⟨_, rfl⟩) rfl
theorem o216_500 : Okp RX12 cX12_init 1 none "<init>" false 500 (sLR 0 501) := ok_aload_n (by decide +kernel : decode cX12_init 500 = .ok (.aload_n 0, 1)) rfl
theorem o216_501 : Okp RX12 cX12_init 1 none "<init>" false 501 (sK 1025 504) := ok_sipush (by decide +kernel : decode cX12_init 501 = .ok (.sipush 1025, 3)) (by decide)
theorem o216_504 : Okp RX12 cX12_init 1 none "<init>" false 504 (sNA 15 506) := ok_newI (by decide +kernel : decode cX12_init 504 = .ok (.newarray .int, 2)) wa_int
theorem o216_506 : Okp RX12 cX12_init 1 none "<init>" false 506 (sPR 13 77 509) := ok_putR (by decide +kernel : decode cX12_init 506 = .ok (.putfield 191, 3)) fw_X12_191 ⟨⟨tyX12_ok, nmX12⟩, Or.inr ⟨rfl, rfl, rfl⟩, rfl⟩ (Or.inr ⟨_, rfl⟩) rfl
theorem o216_509 : Okp RX12 cX12_init 1 none "<init>" false 509 (sLR 0 510) := ok_aload_n (by decide +kernel : decode cX12_init 509 = .ok (.aload_n 0, 1)) rfl
theorem o216_510 : Okp RX12 cX12_init 1 none "<init>" false 510 (sK 12 512) := ok_bipush (by decide +kernel : decode cX12_init 510 = .ok (.bipush 12, 2)) (by decide)
theorem o216_512 : Okp RX12 cX12_init 1 none "<init>" false 512 (sNA 15 514) := ok_newI (by decide +kernel : decode cX12_init 512 = .ok (.newarray .int, 2)) wa_int
theorem o216_514 : Okp RX12 cX12_init 1 none "<init>" false 514 (sPR 13 78 517) := ok_putR (by decide +kernel : decode cX12_init 514 = .ok (.putfield 194, 3)) fw_X12_194 ⟨⟨tyX12_ok, nmX12⟩, Or.inr ⟨rfl, rfl, rfl⟩, rfl⟩ (Or.inr ⟨_, rfl⟩) rfl
theorem o216_517 : Okp RX12 cX12_init 1 none "<init>" false 517 (sLR 0 518) := ok_aload_n (by decide +kernel : decode cX12_init 517 = .ok (.aload_n 0, 1)) rfl
theorem o216_518 : Okp RX12 cX12_init 1 none "<init>" false 518 (sK 128 521) := ok_sipush (by decide +kernel : decode cX12_init 518 = .ok (.sipush 128, 3)) (by decide)
theorem o216_521 : Okp RX12 cX12_init 1 none "<init>" false 521 (sNA 15 523) := ok_newI (by decide +kernel : decode cX12_init 521 = .ok (.newarray .int, 2)) wa_int
theorem o216_523 : Okp RX12 cX12_init 1 none "<init>" false 523 (sPR 13 79 526) := ok_putR (by decide +kernel : decode cX12_init 523 = .ok (.putfield 197, 3)) fw_X12_197 ⟨⟨tyX12_ok, nmX12⟩, Or.inr ⟨rfl, rfl, rfl⟩, rfl⟩ (Or.inr ⟨_, rfl⟩) rfl
theorem o216_526 : Okp RX12 cX12_init 1 none "<init>" false 526 (sLR 0 527) := ok_aload_n (by decide +kernel : decode cX12_init 526 = .ok (.aload_n 0, 1)) rfl
theorem o216_527 : Okp RX12 cX12_init 1 none "<init>" false 527 (sK 128 530) := ok_sipush (by decide +kernel : decode cX12_init 527 = .ok (.sipush 128, 3)) (by decide)
theorem o216_530 : Okp RX12 cX12_init 1 none "<init>" false 530 (sNA 15 532) := ok_newI (by decide +kernel : decode cX12_init 530 = .ok (.newarray .int, 2)) wa_int
theorem o216_532 : Okp RX12 cX12_init 1 none "<init>" false 532 (sPR 13 80 535) := ok_putR (by decide +kernel : decode cX12_init 532 = .ok (.putfield 200, 3)) fw_X12_200 ⟨⟨tyX12_ok, nmX12⟩, Or.inr ⟨rfl, rfl, rfl⟩, rfl⟩ (Or.inr ⟨_, rfl⟩) rfl
theorem o216_535 : Okp RX12 cX12_init 1 none "<init>" false 535 (sLR 0 536) := ok_aload_n (by decide +kernel : decode cX12_init 535 = .ok (.aload_n 0, 1)) rfl
theorem o216_536 : Okp RX12 cX12_init 1 none "<init>" false 536 (sK 768 539) := ok_sipush (by decide +kernel : decode cX12_init 536 = .ok (.sipush 768, 3)) (by decide)
theorem o216_539 : Okp RX12 cX12_init 1 none "<init>" false 539 (sNA 15 541) := ok_newI (by decide +kernel : decode cX12_init 539 = .ok (.newarray .int, 2)) wa_int
theorem o216_541 : Okp RX12 cX12_init 1 none "<init>" false 541 (sPR 13 81 544) := ok_putR (by decide +kernel : decode cX12_init 541 = .ok (.putfield 203, 3)) fw_X12_203 ⟨⟨tyX12_ok, nmX12⟩, Or.inr ⟨rfl, rfl, rfl⟩, rfl⟩ (Or.inr ⟨_, rfl⟩) rfl
theorem o216_544 : Okp RX12 cX12_init 1 none "<init>" false 544 (sLR 0 545) := ok_aload_n (by decide +kernel : decode cX12_init 544 = .ok (.aload_n 0, 1)) rfl
theorem o216_545 : Okp RX12 cX12_init 1 none "<init>" false 545 (sK 24 547) := ok_bipush (by decide +kernel : decode cX12_init 545 = .ok (.bipush 24, 2)) (by decide)
theorem o216_547 : Okp RX12 cX12_init 1 none "<init>" false 547 (sNA 15 549) := ok_newI (by decide +kernel : decode cX12_init 547 = .ok (.newarray .int, 2)) wa_int
theorem o216_549 : Okp RX12 cX12_init 1 none "<init>" false 549 (sPR 13 82 552) := ok_putR (by decide +kernel : decode cX12_init 549 = .ok (.putfield 206, 3)) fw_X12_206 ⟨⟨tyX12_ok, nmX12⟩, Or.inr ⟨rfl, rfl, rfl⟩, rfl⟩ (Or.inr ⟨_, rfl⟩) rfl
theorem o216_552 : Okp RX12 cX12_init 1 none "<init>" false 552 (sLR 0 553) := ok_aload_n (by decide +kernel : decode cX12_init 552 = .ok (.aload_n 0, 1)) rfl
theorem o216_553 : Okp RX12 cX12_init 1 none "<init>" false 553 (sK 24 555) := ok_bipush (by decide +kernel : decode cX12_init 553 = .ok (.bipush 24, 2)) (by decide)
theorem o216_555 : Okp RX12 cX12_init 1 none "<init>" false 555 (sNA 15 557) := ok_newI (by decide +kernel : decode cX12_init 555 = .ok (.newarray .int, 2)) wa_int
theorem o216_557 : Okp RX12 cX12_init 1 none "<init>" false 557 (sPR 13 83 560) := ok_putR (by decide +kernel : decode cX12_init 557 = .ok (.putfield 209, 3)) fw_X12_209 ⟨⟨tyX12_ok, nmX12⟩, Or.inr ⟨rfl, rfl, rfl⟩, rfl⟩ (Or.inr ⟨_, rfl⟩) rfl
theorem o216_560 : Okp RX12 cX12_init 1 none "<init>" false 560 (sLR 0 561) := ok_aload_n (by decide +kernel : decode cX12_init 560 = .ok (.aload_n 0, 1)) rfl
theorem o216_561 : Okp RX12 cX12_init 1 none "<init>" false 561 (sK 24 563) := ok_bipush (by decide +kernel : decode cX12_init 561 = .ok (.bipush 24, 2)) (by decide)
theorem o216_563 : Okp RX12 cX12_init 1 none "<init>" false 563 (sNA 15 565) := ok_newI (by decide +kernel : decode cX12_init 563 = .ok (.newarray .int, 2)) wa_int
theorem o216_565 : Okp RX12 cX12_init 1 none "<init>" false 565 (sPR 13 84 568) := ok_putR (by decide +kernel : decode cX12_init 565 = .ok (.putfield 212, 3)) fw_X12_212 ⟨⟨tyX12_ok, nmX12⟩, Or.inr ⟨rfl, rfl, rfl⟩, rfl⟩ (Or.inr ⟨_, rfl⟩) rfl
theorem o216_568 : Okp RX12 cX12_init 1 none "<init>" false 568 (sLR 0 569) := ok_aload_n (by decide +kernel : decode cX12_init 568 = .ok (.aload_n 0, 1)) rfl
theorem o216_569 : Okp RX12 cX12_init 1 none "<init>" false 569 (sK 96 571) := ok_bipush (by decide +kernel : decode cX12_init 569 = .ok (.bipush 96, 2)) (by decide)
theorem o216_571 : Okp RX12 cX12_init 1 none "<init>" false 571 (sNA 15 573) := ok_newI (by decide +kernel : decode cX12_init 571 = .ok (.newarray .int, 2)) wa_int
theorem o216_573 : Okp RX12 cX12_init 1 none "<init>" false 573 (sPR 13 85 576) := ok_putR (by decide +kernel : decode cX12_init 573 = .ok (.putfield 215, 3)) fw_X12_215 ⟨⟨tyX12_ok, nmX12⟩, Or.inr ⟨rfl, rfl, rfl⟩, rfl⟩ (Or.inr ⟨_, rfl⟩) rfl
theorem o216_576 : Okp RX12 cX12_init 1 none "<init>" false 576 (sLR 0 577) := ok_aload_n (by decide +kernel : decode cX12_init 576 = .ok (.aload_n 0, 1)) rfl
theorem o216_577 : Okp RX12 cX12_init 1 none "<init>" false 577 (sK 96 579) := ok_bipush (by decide +kernel : decode cX12_init 577 = .ok (.bipush 96, 2)) (by decide)
theorem o216_579 : Okp RX12 cX12_init 1 none "<init>" false 579 (sNA 15 581) := ok_newI (by decide +kernel : decode cX12_init 579 = .ok (.newarray .int, 2)) wa_int
theorem o216_581 : Okp RX12 cX12_init 1 none "<init>" false 581 (sPR 13 86 584) := ok_putR (by decide +kernel : decode cX12_init 581 = .ok (.putfield 218, 3)) fw_X12_218 ⟨⟨tyX12_ok, nmX12⟩, Or.inr ⟨rfl, rfl, rfl⟩, rfl⟩ (Or.inr ⟨_, rfl⟩) rfl
theorem o216_584 : Okp RX12 cX12_init 1 none "<init>" false 584 (sLR 0 585) := ok_aload_n (by decide +kernel : decode cX12_init 584 = .ok (.aload_n 0, 1)) rfl
theorem o216_585 : Okp RX12 cX12_init 1 none "<init>" false 585 (sK 96 587) := ok_bipush (by decide +kernel : decode cX12_init 585 = .ok (.bipush 96, 2)) (by decide)
theorem o216_587 : Okp RX12 cX12_init 1 none "<init>" false 587 (sNA 15 589) := ok_newI (by decide +kernel : decode cX12_init 587 = .ok (.newarray .int, 2)) wa_int
theorem o216_589 : Okp RX12 cX12_init 1 none "<init>" false 589 (sPR 13 87 592) := ok_putR (by decide +kernel : decode cX12_init 589 = .ok (.putfield 221, 3)) fw_X12_221 ⟨⟨tyX12_ok, nmX12⟩, Or.inr ⟨rfl, rfl, rfl⟩, rfl⟩ (Or.inr ⟨_, rfl⟩) rfl
theorem o216_592 : Okp RX12 cX12_init 1 none "<init>" false 592 (sLR 0 593) := ok_aload_n (by decide +kernel : decode cX12_init 592 = .ok (.aload_n 0, 1)) rfl
theorem o216_593 : Okp RX12 cX12_init 1 none "<init>" false 593 (sK 24 595) := ok_bipush (by decide +kernel : decode cX12_init 593 = .ok (.bipush 24, 2)) (by decide)
theorem o216_595 : Okp RX12 cX12_init 1 none "<init>" false 595 (sNA 15 597) := ok_newI (by decide +kernel : decode cX12_init 595 = .ok (.newarray .int, 2)) wa_int
theorem o216_597 : Okp RX12 cX12_init 1 none "<init>" false 597 (sPR 13 88 600) := ok_putR (by decide +kernel : decode cX12_init 597 = .ok (.putfield 224, 3)) fw_X12_224 ⟨⟨tyX12_ok, nmX12⟩, Or.inr ⟨rfl, rfl, rfl⟩, rfl⟩ (Or.inr ⟨_, rfl⟩) rfl
theorem o216_600 : Okp RX12 cX12_init 1 none "<init>" false 600 sRV := ok_vret rfl (by decide +kernel : decode cX12_init 600 = .ok (.return_, 1))
theorem oc216_0 : ∀ pc, Mnp (c216_0 pc) ∧ Okp RX12 cX12_init 1 none "<init>" false pc (c216_0 pc) := by
  intro pc
  unfold c216_0
  split
  · exact ⟨mn_sLR, o216_0⟩
  · exact ⟨mn_sCt, o216_1⟩
  · exact ⟨mn_sLR, o216_4⟩
  · exact ⟨mn_sK, o216_5⟩
  · exact ⟨mn_sNA, o216_8⟩
  · exact ⟨mn_sPR, o216_10⟩
  · exact ⟨mn_sLR, o216_13⟩
  · exact ⟨mn_sK, o216_14⟩
  · exact ⟨mn_sNA, o216_17⟩
  · exact ⟨mn_sPR, o216_19⟩
  · exact ⟨mn_sLR, o216_22⟩
  · exact ⟨mn_sK, o216_23⟩
  · exact ⟨mn_sX, ok_X⟩
theorem oc216_1 : ∀ pc, Mnp (c216_1 pc) ∧ Okp RX12 cX12_init 1 none "<init>" false pc (c216_1 pc) := by
  intro pc
  unfold c216_1
  split
  · exact ⟨mn_sNA, o216_25⟩
  · exact ⟨mn_sPR, o216_27⟩
  · exact ⟨mn_sLR, o216_30⟩
  · exact ⟨mn_sK, o216_31⟩
  · exact ⟨mn_sNA, o216_33⟩
  · exact ⟨mn_sPR, o216_35⟩
  · exact ⟨mn_sLR, o216_38⟩
  · exact ⟨mn_sK, o216_39⟩
  · exact ⟨mn_sNA, o216_41⟩
  · exact ⟨mn_sPR, o216_43⟩
  · exact ⟨mn_sLR, o216_46⟩
  · exact ⟨mn_sK, o216_47⟩
  · exact ⟨mn_sX, ok_X⟩
theorem oc216_2 : ∀ pc, Mnp (c216_2 pc) ∧ Okp RX12 cX12_init 1 none "<init>" false pc (c216_2 pc) := by
  intro pc
  unfold c216_2
  split
  · exact ⟨mn_sNA, o216_49⟩
  · exact ⟨mn_sPR, o216_51⟩
  · exact ⟨mn_sLR, o216_54⟩
  · exact ⟨mn_sK, o216_55⟩
  · exact ⟨mn_sNA, o216_57⟩
  · exact ⟨mn_sPR, o216_59⟩
  · exact ⟨mn_sLR, o216_62⟩
  · exact ⟨mn_sK, o216_63⟩
  · exact ⟨mn_sNA, o216_65⟩
  · exact ⟨mn_sPR, o216_67⟩
  · exact ⟨mn_sLR, o216_70⟩
  · exact ⟨mn_sK, o216_71⟩
  · exact ⟨mn_sX, ok_X⟩
theorem oc216_3 : ∀ pc, Mnp (c216_3 pc) ∧ Okp RX12 cX12_init 1 none "<init>" false pc (c216_3 pc) := by
  intro pc
  unfold c216_3
  split
  · exact ⟨mn_sNA, o216_74⟩
  · exact ⟨mn_sPR, o216_76⟩
  · exact ⟨mn_sLR, o216_79⟩
  · exact ⟨mn_sK, o216_80⟩
  · exact ⟨mn_sNA, o216_82⟩
  · exact ⟨mn_sPR, o216_84⟩
  · exact ⟨mn_sLR, o216_87⟩
  · exact ⟨mn_sK, o216_88⟩
  · exact ⟨mn_sNA, o216_91⟩
  · exact ⟨mn_sPR, o216_93⟩
  · exact ⟨mn_sX, ok_X⟩
theorem oc216_4 : ∀ pc, Mnp (c216_4 pc) ∧ Okp RX12 cX12_init 1 none "<init>" false pc (c216_4 pc) := by
  intro pc
  unfold c216_4
  split
  · exact ⟨mn_sLR, o216_96⟩
  · exact ⟨mn_sK, o216_97⟩
  · exact ⟨mn_sNA, o216_100⟩
  · exact ⟨mn_sPR, o216_102⟩
  · exact ⟨mn_sLR, o216_105⟩
  · exact ⟨mn_sK, o216_106⟩
  · exact ⟨mn_sNA, o216_109⟩
  · exact ⟨mn_sPR, o216_111⟩
  · exact ⟨mn_sLR, o216_114⟩
  · exact ⟨mn_sK, o216_115⟩
  · exact ⟨mn_sNA, o216_118⟩
  · exact ⟨mn_sX, ok_X⟩
theorem oc216_5 : ∀ pc, Mnp (c216_5 pc) ∧ Okp RX12 cX12_init 1 none "<init>" false pc (c216_5 pc) := by
  intro pc
  unfold c216_5
  split
  · exact ⟨mn_sPR, o216_120⟩
  · exact ⟨mn_sLR, o216_123⟩
  · exact ⟨mn_sK, o216_124⟩
  · exact ⟨mn_sNA, o216_127⟩
  · exact ⟨mn_sPR, o216_129⟩
  · exact ⟨mn_sLR, o216_132⟩
  · exact ⟨mn_sK, o216_133⟩
  · exact ⟨mn_sNA, o216_136⟩
  · exact ⟨mn_sPR, o216_138⟩
  · exact ⟨mn_sLR, o216_141⟩
  · exact ⟨mn_sK, o216_142⟩
  · exact ⟨mn_sX, ok_X⟩
theorem oc216_6 : ∀ pc, Mnp (c216_6 pc) ∧ Okp RX12 cX12_init 1 none "<init>" false pc (c216_6 pc) := by
  intro pc
  unfold c216_6
  split
  · exact ⟨mn_sNA, o216_145⟩
  · exact ⟨mn_sPR, o216_147⟩
  · exact ⟨mn_sLR, o216_150⟩
  · exact ⟨mn_sK, o216_151⟩
  · exact ⟨mn_sNA, o216_154⟩
  · exact ⟨mn_sPR, o216_156⟩
  · exact ⟨mn_sLR, o216_159⟩
  · exact ⟨mn_sK, o216_160⟩
  · exact ⟨mn_sNA, o216_163⟩
  · exact ⟨mn_sPR, o216_165⟩
  · exact ⟨mn_sX, ok_X⟩
theorem oc216_7 : ∀ pc, Mnp (c216_7 pc) ∧ Okp RX12 cX12_init 1 none "<init>" false pc (c216_7 pc) := by
  intro pc
  unfold c216_7
  split
  · exact ⟨mn_sLR, o216_168⟩
  · exact ⟨mn_sK, o216_169⟩
  · exact ⟨mn_sNA, o216_172⟩
  · exact ⟨mn_sPR, o216_174⟩
  · exact ⟨mn_sLR, o216_177⟩
  · exact ⟨mn_sK, o216_178⟩
  · exact ⟨mn_sPI, o216_179⟩
  · exact ⟨mn_sLR, o216_182⟩
  · exact ⟨mn_sNE, o216_183⟩
  · exact ⟨mn_sDup, o216_186⟩
  · exact ⟨mn_sX, o216_187⟩
  · exact ⟨mn_sPR, o216_190⟩
  · exact ⟨mn_sX, ok_X⟩
theorem oc216_8 : ∀ pc, Mnp (c216_8 pc) ∧ Okp RX12 cX12_init 1 none "<init>" false pc (c216_8 pc) := by
  intro pc
  unfold c216_8
  split
  · exact ⟨mn_sLR, o216_193⟩
  · exact ⟨mn_sK, o216_194⟩
  · exact ⟨mn_sNA, o216_197⟩
  · exact ⟨mn_sPR, o216_199⟩
  · exact ⟨mn_sLR, o216_202⟩
  · exact ⟨mn_sK, o216_203⟩
  · exact ⟨mn_sNA, o216_206⟩
  · exact ⟨mn_sPR, o216_208⟩
  · exact ⟨mn_sLR, o216_211⟩
  · exact ⟨mn_sK, o216_212⟩
  · exact ⟨mn_sNA, o216_215⟩
  · exact ⟨mn_sX, ok_X⟩
theorem oc216_9 : ∀ pc, Mnp (c216_9 pc) ∧ Okp RX12 cX12_init 1 none "<init>" false pc (c216_9 pc) := by
  intro pc
  unfold c216_9
  split
  · exact ⟨mn_sPR, o216_217⟩
  · exact ⟨mn_sLR, o216_220⟩
  · exact ⟨mn_sK, o216_221⟩
  · exact ⟨mn_sNA, o216_224⟩
  · exact ⟨mn_sPR, o216_226⟩
  · exact ⟨mn_sLR, o216_229⟩
  · exact ⟨mn_sK, o216_230⟩
  · exact ⟨mn_sNA, o216_232⟩
  · exact ⟨mn_sPR, o216_234⟩
  · exact ⟨mn_sLR, o216_237⟩
  · exact ⟨mn_sK, o216_238⟩
  · exact ⟨mn_sX, ok_X⟩
theorem oc216_10 : ∀ pc, Mnp (c216_10 pc) ∧ Okp RX12 cX12_init 1 none "<init>" false pc (c216_10 pc) := by
  intro pc
  unfold c216_10
  split
  · exact ⟨mn_sNA, o216_240⟩
  · exact ⟨mn_sPR, o216_242⟩
  · exact ⟨mn_sLR, o216_245⟩
  · exact ⟨mn_sK, o216_246⟩
  · exact ⟨mn_sNA, o216_248⟩
  · exact ⟨mn_sPR, o216_250⟩
  · exact ⟨mn_sLR, o216_253⟩
  · exact ⟨mn_sK, o216_254⟩
  · exact ⟨mn_sNA, o216_256⟩
  · exact ⟨mn_sPR, o216_258⟩
  · exact ⟨mn_sLR, o216_261⟩
  · exact ⟨mn_sK, o216_262⟩
  · exact ⟨mn_sX, ok_X⟩
theorem oc216_11 : ∀ pc, Mnp (c216_11 pc) ∧ Okp RX12 cX12_init 1 none "<init>" false pc (c216_11 pc) := by
  intro pc
  unfold c216_11
  split
  · exact ⟨mn_sNA, o216_264⟩
  · exact ⟨mn_sPR, o216_266⟩
  · exact ⟨mn_sLR, o216_269⟩
  · exact ⟨mn_sK, o216_270⟩
  · exact ⟨mn_sNA, o216_272⟩
  · exact ⟨mn_sPR, o216_274⟩
  · exact ⟨mn_sLR, o216_277⟩
  · exact ⟨mn_sK, o216_278⟩
  · exact ⟨mn_sNA, o216_280⟩
  · exact ⟨mn_sPR, o216_282⟩
  · exact ⟨mn_sLR, o216_285⟩
  · exact ⟨mn_sK, o216_286⟩
  · exact ⟨mn_sX, ok_X⟩
theorem oc216_12 : ∀ pc, Mnp (c216_12 pc) ∧ Okp RX12 cX12_init 1 none "<init>" false pc (c216_12 pc) := by
  intro pc
  unfold c216_12
  split
  · exact ⟨mn_sNA, o216_288⟩
  · exact ⟨mn_sPR, o216_290⟩
  · exact ⟨mn_sLR, o216_293⟩
  · exact ⟨mn_sK, o216_294⟩
  · exact ⟨mn_sNA, o216_296⟩
  · exact ⟨mn_sPR, o216_298⟩
  · exact ⟨mn_sLR, o216_301⟩
  · exact ⟨mn_sK, o216_302⟩
  · exact ⟨mn_sNA, o216_304⟩
  · exact ⟨mn_sPR, o216_306⟩
  · exact ⟨mn_sLR, o216_309⟩
  · exact ⟨mn_sK, o216_310⟩
  · exact ⟨mn_sX, ok_X⟩
theorem oc216_13 : ∀ pc, Mnp (c216_13 pc) ∧ Okp RX12 cX12_init 1 none "<init>" false pc (c216_13 pc) := by
  intro pc
  unfold c216_13
  split
  · exact ⟨mn_sNA, o216_312⟩
  · exact ⟨mn_sPR, o216_314⟩
  · exact ⟨mn_sLR, o216_317⟩
  · exact ⟨mn_sK, o216_318⟩
  · exact ⟨mn_sNA, o216_321⟩
  · exact ⟨mn_sPR, o216_323⟩
  · exact ⟨mn_sLR, o216_326⟩
  · exact ⟨mn_sK, o216_327⟩
  · exact ⟨mn_sNA, o216_330⟩
  · exact ⟨mn_sPR, o216_332⟩
  · exact ⟨mn_sLR, o216_335⟩
  · exact ⟨mn_sX, ok_X⟩
theorem oc216_14 : ∀ pc, Mnp (c216_14 pc) ∧ Okp RX12 cX12_init 1 none "<init>" false pc (c216_14 pc) := by
  intro pc
  unfold c216_14
  split
  · exact ⟨mn_sK, o216_336⟩
  · exact ⟨mn_sNA, o216_339⟩
  · exact ⟨mn_sPR, o216_341⟩
  · exact ⟨mn_sLR, o216_344⟩
  · exact ⟨mn_sK, o216_345⟩
  · exact ⟨mn_sNA, o216_347⟩
  · exact ⟨mn_sPR, o216_349⟩
  · exact ⟨mn_sLR, o216_352⟩
  · exact ⟨mn_sK, o216_353⟩
  · exact ⟨mn_sNA, o216_355⟩
  · exact ⟨mn_sPR, o216_357⟩
  · exact ⟨mn_sX, ok_X⟩
theorem oc216_15 : ∀ pc, Mnp (c216_15 pc) ∧ Okp RX12 cX12_init 1 none "<init>" false pc (c216_15 pc) := by
  intro pc
  unfold c216_15
  split
  · exact ⟨mn_sLR, o216_360⟩
  · exact ⟨mn_sK, o216_361⟩
  · exact ⟨mn_sNA, o216_363⟩
  · exact ⟨mn_sPR, o216_365⟩
  · exact ⟨mn_sLR, o216_368⟩
  · exact ⟨mn_sK, o216_369⟩
  · exact ⟨mn_sNA, o216_371⟩
  · exact ⟨mn_sPR, o216_373⟩
  · exact ⟨mn_sLR, o216_376⟩
  · exact ⟨mn_sK, o216_377⟩
  · exact ⟨mn_sNA, o216_379⟩
  · exact ⟨mn_sPR, o216_381⟩
  · exact ⟨mn_sX, ok_X⟩
theorem oc216_16 : ∀ pc, Mnp (c216_16 pc) ∧ Okp RX12 cX12_init 1 none "<init>" false pc (c216_16 pc) := by
  intro pc
  unfold c216_16
  split
  · exact ⟨mn_sLR, o216_384⟩
  · exact ⟨mn_sK, o216_385⟩
  · exact ⟨mn_sNA, o216_387⟩
  · exact ⟨mn_sPR, o216_389⟩
  · exact ⟨mn_sLR, o216_392⟩
  · exact ⟨mn_sK, o216_393⟩
  · exact ⟨mn_sNA, o216_396⟩
  · exact ⟨mn_sPR, o216_398⟩
  · exact ⟨mn_sLR, o216_401⟩
  · exact ⟨mn_sK, o216_402⟩
  · exact ⟨mn_sNA, o216_405⟩
  · exact ⟨mn_sPR, o216_407⟩
  · exact ⟨mn_sX, ok_X⟩
theorem oc216_17 : ∀ pc, Mnp (c216_17 pc) ∧ Okp RX12 cX12_init 1 none "<init>" false pc (c216_17 pc) := by
  intro pc
  unfold c216_17
  split
  · exact ⟨mn_sLR, o216_410⟩
  · exact ⟨mn_sK, o216_411⟩
  · exact ⟨mn_sNA, o216_414⟩
  · exact ⟨mn_sPR, o216_416⟩
  · exact ⟨mn_sLR, o216_419⟩
  · exact ⟨mn_sK, o216_420⟩
  · exact ⟨mn_sNA, o216_423⟩
  · exact ⟨mn_sPR, o216_425⟩
  · exact ⟨mn_sLR, o216_428⟩
  · exact ⟨mn_sK, o216_429⟩
  · exact ⟨mn_sX, ok_X⟩
theorem oc216_18 : ∀ pc, Mnp (c216_18 pc) ∧ Okp RX12 cX12_init 1 none "<init>" false pc (c216_18 pc) := by
  intro pc
  unfold c216_18
  split
  · exact ⟨mn_sNA, o216_432⟩
  · exact ⟨mn_sPR, o216_434⟩
  · exact ⟨mn_sLR, o216_437⟩
  · exact ⟨mn_sK, o216_438⟩
  · exact ⟨mn_sNA, o216_441⟩
  · exact ⟨mn_sPR, o216_443⟩
  · exact ⟨mn_sLR, o216_446⟩
  · exact ⟨mn_sK, o216_447⟩
  · exact ⟨mn_sNA, o216_450⟩
  · exact ⟨mn_sPR, o216_452⟩
  · exact ⟨mn_sLR, o216_455⟩
  · exact ⟨mn_sX, ok_X⟩
theorem oc216_19 : ∀ pc, Mnp (c216_19 pc) ∧ Okp RX12 cX12_init 1 none "<init>" false pc (c216_19 pc) := by
  intro pc
  unfold c216_19
  split
  · exact ⟨mn_sK, o216_456⟩
  · exact ⟨mn_sNA, o216_459⟩
  · exact ⟨mn_sPR, o216_461⟩
  · exact ⟨mn_sLR, o216_464⟩
  · exact ⟨mn_sK, o216_465⟩
  · exact ⟨mn_sNA, o216_468⟩
  · exact ⟨mn_sPR, o216_470⟩
  · exact ⟨mn_sLR, o216_473⟩
  · exact ⟨mn_sK, o216_474⟩
  · exact ⟨mn_sNA, o216_477⟩
  · exact ⟨mn_sPR, o216_479⟩
  · exact ⟨mn_sX, ok_X⟩
theorem oc216_20 : ∀ pc, Mnp (c216_20 pc) ∧ Okp RX12 cX12_init 1 none "<init>" false pc (c216_20 pc) := by
  intro pc
  unfold c216_20
  split
  · exact ⟨mn_sLR, o216_482⟩
  · exact ⟨mn_sK, o216_483⟩
  · exact ⟨mn_sNA, o216_486⟩
  · exact ⟨mn_sPR, o216_488⟩
  · exact ⟨mn_sLR, o216_491⟩
  · exact ⟨mn_sK, o216_492⟩
  · exact ⟨mn_sNA, o216_495⟩
  · exact ⟨mn_sPR, o216_497⟩
  · exact ⟨mn_sLR, o216_500⟩
  · exact ⟨mn_sK, o216_501⟩
  · exact ⟨mn_sX, ok_X⟩
theorem oc216_21 : ∀ pc, Mnp (c216_21 pc) ∧ Okp RX12 cX12_init 1 none "<init>" false pc (c216_21 pc) := by
  intro pc
  unfold c216_21
  split
  · exact ⟨mn_sNA, o216_504⟩
  · exact ⟨mn_sPR, o216_506⟩
  · exact ⟨mn_sLR, o216_509⟩
  · exact ⟨mn_sK, o216_510⟩
  · exact ⟨mn_sNA, o216_512⟩
  · exact ⟨mn_sPR, o216_514⟩
  · exact ⟨mn_sLR, o216_517⟩
  · exact ⟨mn_sK, o216_518⟩
  · exact ⟨mn_sNA, o216_521⟩
  · exact ⟨mn_sPR, o216_523⟩
  · exact ⟨mn_sLR, o216_526⟩
  · exact ⟨mn_sK, o216_527⟩
  · exact ⟨mn_sX, ok_X⟩
theorem oc216_22 : ∀ pc, Mnp (c216_22 pc) ∧ Okp RX12 cX12_init 1 none "<init>" false pc (c216_22 pc) := by
  intro pc
  unfold c216_22
  split
  · exact ⟨mn_sNA, o216_530⟩
  · exact ⟨mn_sPR, o216_532⟩
  · exact ⟨mn_sLR, o216_535⟩
  · exact ⟨mn_sK, o216_536⟩
  · exact ⟨mn_sNA, o216_539⟩
  · exact ⟨mn_sPR, o216_541⟩
  · exact ⟨mn_sLR, o216_544⟩
  · exact ⟨mn_sK, o216_545⟩
  · exact ⟨mn_sNA, o216_547⟩
  · exact ⟨mn_sPR, o216_549⟩
  · exact ⟨mn_sX, ok_X⟩
theorem oc216_23 : ∀ pc, Mnp (c216_23 pc) ∧ Okp RX12 cX12_init 1 none "<init>" false pc (c216_23 pc) := by
  intro pc
  unfold c216_23
  split
  · exact ⟨mn_sLR, o216_552⟩
  · exact ⟨mn_sK, o216_553⟩
  · exact ⟨mn_sNA, o216_555⟩
  · exact ⟨mn_sPR, o216_557⟩
  · exact ⟨mn_sLR, o216_560⟩
  · exact ⟨mn_sK, o216_561⟩
  · exact ⟨mn_sNA, o216_563⟩
  · exact ⟨mn_sPR, o216_565⟩
  · exact ⟨mn_sLR, o216_568⟩
  · exact ⟨mn_sK, o216_569⟩
  · exact ⟨mn_sNA, o216_571⟩
  · exact ⟨mn_sPR, o216_573⟩
  · exact ⟨mn_sX, ok_X⟩
theorem oc216_24 : ∀ pc, Mnp (c216_24 pc) ∧ Okp RX12 cX12_init 1 none "<init>" false pc (c216_24 pc) := by
  intro pc
  unfold c216_24
  split
  · exact ⟨mn_sLR, o216_576⟩
  · exact ⟨mn_sK, o216_577⟩
  · exact ⟨mn_sNA, o216_579⟩
  · exact ⟨mn_sPR, o216_581⟩
  · exact ⟨mn_sLR, o216_584⟩
  · exact ⟨mn_sK, o216_585⟩
  · exact ⟨mn_sNA, o216_587⟩
  · exact ⟨mn_sPR, o216_589⟩
  · exact ⟨mn_sLR, o216_592⟩
  · exact ⟨mn_sK, o216_593⟩
  · exact ⟨mn_sNA, o216_595⟩
  · exact ⟨mn_sPR, o216_597⟩
  · exact ⟨mn_sX, ok_X⟩
theorem oc216_25 : ∀ pc, Mnp (c216_25 pc) ∧ Okp RX12 cX12_init 1 none "<init>" false pc (c216_25 pc) := by
  intro pc
  unfold c216_25
  split
  · exact ⟨mn_sRV, o216_600⟩
  · exact ⟨mn_sX, ok_X⟩
theorem oc216 : ∀ pc, Mnp (c216 pc) ∧ Okp RX12 cX12_init 1 none "<init>" false pc (c216 pc) := by
  intro pc
  unfold c216
  split
  · exact oc216_0 pc
  · exact oc216_1 pc
  · exact oc216_2 pc
  · exact oc216_3 pc
  · exact oc216_4 pc
  · exact oc216_5 pc
  · exact oc216_6 pc
  · exact oc216_7 pc
  · exact oc216_8 pc
  · exact oc216_9 pc
  · exact oc216_10 pc
  · exact oc216_11 pc
  · exact oc216_12 pc
  · exact oc216_13 pc
  · exact oc216_14 pc
  · exact oc216_15 pc
  · exact oc216_16 pc
  · exact oc216_17 pc
  · exact oc216_18 pc
  · exact oc216_19 pc
  · exact oc216_20 pc
  · exact oc216_21 pc
  · exact oc216_22 pc
  · exact oc216_23 pc
  · exact oc216_24 pc
  · exact oc216_25 pc
  · exact ⟨mn_sX, ok_X⟩
theorem o217_0 : Okp RX12 cX12_feed 8 (some .int) "feed" false 0 (sLR 0 1) := ok_aload_n (by decide +kernel : decode cX12_feed 0 = .ok (.aload_n 0, 1)) rfl
theorem o217_1 : Okp RX12 cX12_feed 8 (some .int) "feed" false 1 (sK 0 2) := ok_iconst (by decide +kernel : decode cX12_feed 1 = .ok (.iconst 0, 1)) (by decide)
theorem o217_2 : Okp RX12 cX12_feed 8 (some .int) "feed" false 2 (sPI 13 0 5) := ok_putI (by decide +kernel : decode cX12_feed 2 = .ok (.putfield 227, 3)) fw_X12_227 ⟨⟨tyX12_ok, nmX12⟩, Or.inl rfl, rfl⟩ rfl
theorem o217_5 : Okp RX12 cX12_feed 8 (some .int) "feed" false 5 (sLR 0 6) := ok_aload_n (by decide +kernel : decode cX12_feed 5 = .ok (.aload_n 0, 1)) rfl
theorem o217_6 : Okp RX12 cX12_feed 8 (some .int) "feed" false 6 (sGI 13 2 9) := ok_getI (by decide +kernel : decode cX12_feed 6 = .ok (.getfield 230, 3)) fw_X12_230 rfl
theorem o217_9 : Okp RX12 cX12_feed 8 (some .int) "feed" false 9 (sK 20 11) := ok_bipush (by decide +kernel : decode cX12_feed 9 = .ok (.bipush 20, 2)) (by decide)
theorem o217_11 : Okp RX12 cX12_feed 8 (some .int) "feed" false 11 (sB2 fAdd 12) := ok_iadd (by decide +kernel : decode cX12_feed 11 = .ok (.iadd, 1))
theorem o217_12 : Okp RX12 cX12_feed 8 (some .int) "feed" false 12 (sK 2000 15) := ok_sipush (by decide +kernel : decode cX12_feed 12 = .ok (.sipush 2000, 3)) (by decide)
theorem o217_15 : Okp RX12 cX12_feed 8 (some .int) "feed" false 15 (sI2 5 20 18) := ok_icmp_le (by decide +kernel : decode cX12_feed 15 = .ok (.if_icmp .le 5, 3)) (by decide)
theorem o217_18 : Okp RX12 cX12_feed 8 (some .int) "feed" false 18 (sK (-1) 19) := ok_iconst (by decide +kernel : decode cX12_feed 18 = .ok (.iconst (-1), 1)) (by decide)
theorem o217_19 : Okp RX12 cX12_feed 8 (some .int) "feed" false 19 sRI := ok_iret rfl (by decide +kernel : decode cX12_feed 19 = .ok (.ireturn, 1))
theorem o217_20 : Okp RX12 cX12_feed 8 (some .int) "feed" false 20 (sK 0 21) := ok_iconst (by decide +kernel : decode cX12_feed 20 = .ok (.iconst 0, 1)) (by decide)
theorem o217_21 : Okp RX12 cX12_feed 8 (some .int) "feed" false 21 (sSI 6 23) := ok_istore (by decide +kernel : decode cX12_feed 21 = .ok (.istore 6, 2)) (by decide) (by decide)
theorem o217_23 : Okp RX12 cX12_feed 8 (some .int) "feed" false 23 (sLI 6 25) := ok_iload (by decide +kernel : decode cX12_feed 23 = .ok (.iload 6, 2))
theorem o217_25 : Okp RX12 cX12_feed 8 (some .int) "feed" false 25 (sK 20 27) := ok_bipush (by decide +kernel : decode cX12_feed 25 = .ok (.bipush 20, 2)) (by decide)
theorem o217_27 : Okp RX12 cX12_feed 8 (some .int) "feed" false 27 (sI2 3 117 30) := ok_icmp_ge (by decide +kernel : decode cX12_feed 27 = .ok (.if_icmp .ge 90, 3)) (by decide)
theorem o217_30 : Okp RX12 cX12_feed 8 (some .int) "feed" false 30 (sLI 6 32) := ok_iload (by decide +kernel : decode cX12_feed 30 = .ok (.iload 6, 2))
theorem o217_32 : Okp RX12 cX12_feed 8 (some .int) "feed" false 32 (sK 4 33) := ok_iconst (by decide +kernel : decode cX12_feed 32 = .ok (.iconst 4, 1)) (by decide)
theorem o217_33 : Okp RX12 cX12_feed 8 (some .int) "feed" false 33 (sI2 3 40 36) := ok_icmp_ge (by decide +kernel : decode cX12_feed 33 = .ok (.if_icmp .ge 7, 3)) (by decide)
theorem o217_36 : Okp RX12 cX12_feed 8 (some .int) "feed" false 36 (sLI 1 37) := ok_iload_n (by decide +kernel : decode cX12_feed 36 = .ok (.iload_n 1, 1)) rfl
theorem o217_37 : Okp RX12 cX12_feed 8 (some .int) "feed" false 37 (sGo 76) := ok_goto (by decide +kernel : decode cX12_feed 37 = .ok (.goto 39, 3)) (by decide)
theorem o217_40 : Okp RX12 cX12_feed 8 (some .int) "feed" false 40 (sLI 6 42) := ok_iload (by decide +kernel : decode cX12_feed 40 = .ok (.iload 6, 2))
theorem o217_42 : Okp RX12 cX12_feed 8 (some .int) "feed" false 42 (sK 8 44) := ok_bipush (by decide +kernel : decode cX12_feed 42 = .ok (.bipush 8, 2)) (by decide)
theorem o217_44 : Okp RX12 cX12_feed 8 (some .int) "feed" false 44 (sI2 3 51 47) := ok_icmp_ge (by decide +kernel : decode cX12_feed 44 = .ok (.if_icmp .ge 7, 3)) (by decide)
theorem o217_47 : Okp RX12 cX12_feed 8 (some .int) "feed" false 47 (sLI 2 48) := ok_iload_n (by decide +kernel : decode cX12_feed 47 = .ok (.iload_n 2, 1)) rfl
theorem o217_48 : Okp RX12 cX12_feed 8 (some .int) "feed" false 48 (sGo 76) := ok_goto (by decide +kernel : decode cX12_feed 48 = .ok (.goto 28, 3)) (by decide)
theorem o217_51 : Okp RX12 cX12_feed 8 (some .int) "feed" false 51 (sLI 6 53) := ok_iload (by decide +kernel : decode cX12_feed 51 = .ok (.iload 6, 2))
theorem o217_53 : Okp RX12 cX12_feed 8 (some .int) "feed" false 53 (sK 12 55) := ok_bipush (by decide +kernel : decode cX12_feed 53 = .ok (.bipush 12, 2)) (by decide)
theorem o217_55 : Okp RX12 cX12_feed 8 (some .int) "feed" false 55 (sI2 3 62 58) := ok_icmp_ge (by decide +kernel : decode cX12_feed 55 = .ok (.if_icmp .ge 7, 3)) (by decide)
theorem o217_58 : Okp RX12 cX12_feed 8 (some .int) "feed" false 58 (sLI 3 59) := ok_iload_n (by decide +kernel : decode cX12_feed 58 = .ok (.iload_n 3, 1)) rfl
theorem o217_59 : Okp RX12 cX12_feed 8 (some .int) "feed" false 59 (sGo 76) := ok_goto (by decide +kernel : decode cX12_feed 59 = .ok (.goto 17, 3)) (by decide)
theorem o217_62 : Okp RX12 cX12_feed 8 (some .int) "feed" false 62 (sLI 6 64) := ok_iload (by decide +kernel : decode cX12_feed 62 = .ok (.iload 6, 2))
theorem o217_64 : Okp RX12 cX12_feed 8 (some .int) "feed" false 64 (sK 16 66) := ok_bipush (by decide +kernel : decode cX12_feed 64 = .ok (.bipush 16, 2)) (by decide)
theorem o217_66 : Okp RX12 cX12_feed 8 (some .int) "feed" false 66 (sI2 3 74 69) := ok_icmp_ge (by decide +kernel : decode cX12_feed 66 = .ok (.if_icmp .ge 8, 3)) (by decide)
theorem o217_69 : Okp RX12 cX12_feed 8 (some .int) "feed" false 69 (sLI 4 71) := ok_iload (by decide +kernel : decode cX12_feed 69 = .ok (.iload 4, 2))
theorem o217_71 : Okp RX12 cX12_feed 8 (some .int) "feed" false 71 (sGo 76) := ok_goto (by decide +kernel : decode cX12_feed 71 = .ok (.goto 5, 3)) (by decide)
theorem o217_74 : Okp RX12 cX12_feed 8 (some .int) "feed" false 74 (sLI 5 76) := ok_iload (by decide +kernel : decode cX12_feed 74 = .ok (.iload 5, 2))
theorem o217_76 : Okp RX12 cX12_feed 8 (some .int) "feed" false 76 (sSI 7 78) := ok_istore (by decide +kernel : decode cX12_feed 76 = .ok (.istore 7, 2)) (by decide) (by decide)
theorem o217_78 : Okp RX12 cX12_feed 8 (some .int) "feed" false 78 (sLR 0 79) := ok_aload_n (by decide +kernel : decode cX12_feed 78 = .ok (.aload_n 0, 1)) rfl
theorem o217_79 : Okp RX12 cX12_feed 8 (some .int) "feed" false 79 (sGR 13 1 82) := ok_getR (by decide +kernel : decode cX12_feed 79 = .ok (.getfield 7, 3)) fw_X12_7 rfl
theorem o217_82 : Okp RX12 cX12_feed 8 (some .int) "feed" false 82 (sLR 0 83) := ok_aload_n (by decide +kernel : decode cX12_feed 82 = .ok (.aload_n 0, 1)) rfl
theorem o217_83 : Okp RX12 cX12_feed 8 (some .int) "feed" false 83 (sGI 13 2 86) := ok_getI (by decide +kernel : decode cX12_feed 83 = .ok (.getfield 230, 3)) fw_X12_230 rfl
theorem o217_86 : Okp RX12 cX12_feed 8 (some .int) "feed" false 86 (sLI 7 88) := ok_iload (by decide +kernel : decode cX12_feed 86 = .ok (.iload 7, 2))
theorem o217_88 : Okp RX12 cX12_feed 8 (some .int) "feed" false 88 (sK 24 90) := ok_bipush (by decide +kernel : decode cX12_feed 88 = .ok (.bipush 24, 2)) (by decide)
theorem o217_90 : Okp RX12 cX12_feed 8 (some .int) "feed" false 90 (sK 8 92) := ok_bipush (by decide +kernel : decode cX12_feed 90 = .ok (.bipush 8, 2)) (by decide)
theorem o217_92 : Okp RX12 cX12_feed 8 (some .int) "feed" false 92 (sLI 6 94) := ok_iload (by decide +kernel : decode cX12_feed 92 = .ok (.iload 6, 2))
theorem o217_94 : Okp RX12 cX12_feed 8 (some .int) "feed" false 94 (sK 4 95) := ok_iconst (by decide +kernel : decode cX12_feed 94 = .ok (.iconst 4, 1)) (by decide)
theorem o217_95 : Okp RX12 cX12_feed 8 (some .int) "feed" false 95 (sD2 fRem 96) := ok_irem (by decide +kernel : decode cX12_feed 95 = .ok (.irem, 1))
theorem o217_96 : Okp RX12 cX12_feed 8 (some .int) "feed" false 96 (sB2 fMul 97) := ok_imul (by decide +kernel : decode cX12_feed 96 = .ok (.imul, 1))
theorem o217_97 : Okp RX12 cX12_feed 8 (some .int) "feed" false 97 (sB2 fSub 98) := ok_isub (by decide +kernel : decode cX12_feed 97 = .ok (.isub, 1))
theorem o217_98 : Okp RX12 cX12_feed 8 (some .int) "feed" false 98 (sB2 fShr 99) := ok_ishr (by decide +kernel : decode cX12_feed 98 = .ok (.ishr, 1))
theorem o217_99 : Okp RX12 cX12_feed 8 (some .int) "feed" false 99 (sB1 fB 100) := ok_i2b (by decide +kernel : decode cX12_feed 99 = .ok (.i2b, 1))
theorem o217_100 : Okp RX12 cX12_feed 8 (some .int) "feed" false 100 (sBS 101) := ok_bastore (by decide +kernel : decode cX12_feed 100 = .ok (.bastore, 1))
theorem o217_101 : Okp RX12 cX12_feed 8 (some .int) "feed" false 101 (sLR 0 102) := ok_aload_n (by decide +kernel : decode cX12_feed 101 = .ok (.aload_n 0, 1)) rfl
theorem o217_102 : Okp RX12 cX12_feed 8 (some .int) "feed" false 102 (sDup 103) := ok_dup (by decide +kernel : decode cX12_feed 102 = .ok (.dup, 1))
theorem o217_103 : Okp RX12 cX12_feed 8 (some .int) "feed" false 103 (sGI 13 2 106) := ok_getI (by decide +kernel : decode cX12_feed 103 = .ok (.getfield 230, 3)) fw_X12_230 rfl
theorem o217_106 : Okp RX12 cX12_feed 8 (some .int) "feed" false 106 (sK 1 107) := ok_iconst (by decide +kernel : decode cX12_feed 106 = .ok (.iconst 1, 1)) (by decide)
theorem o217_107 : Okp RX12 cX12_feed 8 (some .int) "feed" false 107 (sB2 fAdd 108) := ok_iadd (by decide +kernel : decode cX12_feed 107 = .ok (.iadd, 1))
theorem o217_108 : Okp RX12 cX12_feed 8 (some .int) "feed" false 108 (sPI 13 2 111) := ok_putI (by decide +kernel : decode cX12_feed 108 = .ok (.putfield 230, 3)) fw_X12_230 ⟨⟨tyX12_ok, nmX12⟩, Or.inl rfl, rfl⟩ rfl
theorem o217_111 : Okp RX12 cX12_feed 8 (some .int) "feed" false 111 (sInc 6 1 114) := ok_iinc (by decide +kernel : decode cX12_feed 111 = .ok (.iinc 6 1, 3)) (by decide) (by decide)
theorem o217_114 : Okp RX12 cX12_feed 8 (some .int) "feed" false 114 (sGo 23) := ok_goto (by decide +kernel : decode cX12_feed 114 = .ok (.goto (-91), 3)) (by decide)
theorem o217_117 : Okp RX12 cX12_feed 8 (some .int) "feed" false 117 (sLR 0 118) := ok_aload_n (by decide +kernel : decode cX12_feed 117 = .ok (.aload_n 0, 1)) rfl
theorem o217_118 : Okp RX12 cX12_feed 8 (some .int) "feed" false 118 (sGI 13 2 121) := ok_getI (by decide +kernel : decode cX12_feed 118 = .ok (.getfield 230, 3)) fw_X12_230 rfl
theorem o217_121 : Okp RX12 cX12_feed 8 (some .int) "feed" false 121 sRI := ok_iret rfl (by decide +kernel : decode cX12_feed 121 = .ok (.ireturn, 1))
theorem oc217_0 : ∀ pc, Mnp (c217_0 pc) ∧ Okp RX12 cX12_feed 8 (some .int) "feed" false pc (c217_0 pc) := by
  intro pc
  unfold c217_0
  split
  · exact ⟨mn_sLR, o217_0⟩
  · exact ⟨mn_sK, o217_1⟩
  · exact ⟨mn_sPI, o217_2⟩
  · exact ⟨mn_sLR, o217_5⟩
  · exact ⟨mn_sGI, o217_6⟩
  · exact ⟨mn_sK, o217_9⟩
  · exact ⟨mn_sB2, o217_11⟩
  · exact ⟨mn_sK, o217_12⟩
  · exact ⟨mn_sI2, o217_15⟩
  · exact ⟨mn_sK, o217_18⟩
  · exact ⟨mn_sRI, o217_19⟩
  · exact ⟨mn_sK, o217_20⟩
  · exact ⟨mn_sSI, o217_21⟩
  · exact ⟨mn_sLI, o217_23⟩
  · exact ⟨mn_sX, ok_X⟩
theorem oc217_1 : ∀ pc, Mnp (c217_1 pc) ∧ Okp RX12 cX12_feed 8 (some .int) "feed" false pc (c217_1 pc) := by
  intro pc
  unfold c217_1
  split
  · exact ⟨mn_sK, o217_25⟩
  · exact ⟨mn_sI2, o217_27⟩
  · exact ⟨mn_sLI, o217_30⟩
  · exact ⟨mn_sK, o217_32⟩
  · exact ⟨mn_sI2, o217_33⟩
  · exact ⟨mn_sLI, o217_36⟩
  · exact ⟨mn_sGo, o217_37⟩
  · exact ⟨mn_sLI, o217_40⟩
  · exact ⟨mn_sK, o217_42⟩
  · exact ⟨mn_sI2, o217_44⟩
  · exact ⟨mn_sLI, o217_47⟩
  · exact ⟨mn_sX, ok_X⟩
theorem oc217_2 : ∀ pc, Mnp (c217_2 pc) ∧ Okp RX12 cX12_feed 8 (some .int) "feed" false pc (c217_2 pc) := by
  intro pc
  unfold c217_2
  split
  · exact ⟨mn_sGo, o217_48⟩
  · exact ⟨mn_sLI, o217_51⟩
  · exact ⟨mn_sK, o217_53⟩
  · exact ⟨mn_sI2, o217_55⟩
  · exact ⟨mn_sLI, o217_58⟩
  · exact ⟨mn_sGo, o217_59⟩
  · exact ⟨mn_sLI, o217_62⟩
  · exact ⟨mn_sK, o217_64⟩
  · exact ⟨mn_sI2, o217_66⟩
  · exact ⟨mn_sLI, o217_69⟩
  · exact ⟨mn_sGo, o217_71⟩
  · exact ⟨mn_sX, ok_X⟩
theorem oc217_3 : ∀ pc, Mnp (c217_3 pc) ∧ Okp RX12 cX12_feed 8 (some .int) "feed" false pc (c217_3 pc) := by
  intro pc
  unfold c217_3
  split
  · exact ⟨mn_sLI, o217_74⟩
  · exact ⟨mn_sSI, o217_76⟩
  · exact ⟨mn_sLR, o217_78⟩
  · exact ⟨mn_sGR, o217_79⟩
  · exact ⟨mn_sLR, o217_82⟩
  · exact ⟨mn_sGI, o217_83⟩
  · exact ⟨mn_sLI, o217_86⟩
  · exact ⟨mn_sK, o217_88⟩
  · exact ⟨mn_sK, o217_90⟩
  · exact ⟨mn_sLI, o217_92⟩
  · exact ⟨mn_sK, o217_94⟩
  · exact ⟨mn_sD2, o217_95⟩
  · exact ⟨mn_sX, ok_X⟩
theorem oc217_4 : ∀ pc, Mnp (c217_4 pc) ∧ Okp RX12 cX12_feed 8 (some .int) "feed" false pc (c217_4 pc) := by
  intro pc
  unfold c217_4
  split
  · exact ⟨mn_sB2, o217_96⟩
  · exact ⟨mn_sB2, o217_97⟩
  · exact ⟨mn_sB2, o217_98⟩
  · exact ⟨mn_sB1, o217_99⟩
  · exact ⟨mn_sBS, o217_100⟩
  · exact ⟨mn_sLR, o217_101⟩
  · exact ⟨mn_sDup, o217_102⟩
  · exact ⟨mn_sGI, o217_103⟩
  · exact ⟨mn_sK, o217_106⟩
  · exact ⟨mn_sB2, o217_107⟩
  · exact ⟨mn_sPI, o217_108⟩
  · exact ⟨mn_sInc, o217_111⟩
  · exact ⟨mn_sGo, o217_114⟩
  · exact ⟨mn_sLR, o217_117⟩
  · exact ⟨mn_sGI, o217_118⟩
  · exact ⟨mn_sX, ok_X⟩
theorem oc217_5 : ∀ pc, Mnp (c217_5 pc) ∧ Okp RX12 cX12_feed 8 (some .int) "feed" false pc (c217_5 pc) := by
  intro pc
  unfold c217_5
  split
  · exact ⟨mn_sRI, o217_121⟩
  · exact ⟨mn_sX, ok_X⟩
theorem oc217 : ∀ pc, Mnp (c217 pc) ∧ Okp RX12 cX12_feed 8 (some .int) "feed" false pc (c217 pc) := by
  intro pc
  unfold c217
  split
  · exact oc217_0 pc
  · exact oc217_1 pc
  · exact oc217_2 pc
  · exact oc217_3 pc
  · exact oc217_4 pc
  · exact oc217_5 pc
  · exact ⟨mn_sX, ok_X⟩
theorem o218_0 : Okp RX12 cX12_fails 3 none "fails" false 0 (sLR 0 1) := ok_aload_n (by decide +kernel : decode cX12_fails 0 = .ok (.aload_n 0, 1)) rfl
theorem o218_1 : Okp RX12 cX12_fails 3 none "fails" false 1 (sLI 1 2) := ok_iload_n (by decide +kernel : decode cX12_fails 1 = .ok (.iload_n 1, 1)) rfl
theorem o218_2 : Okp RX12 cX12_fails 3 none "fails" false 2 (sPI 13 22 5) := ok_putI (by decide +kernel : decode cX12_fails 2 = .ok (.putfield 233, 3)) fw_X12_233 ⟨⟨tyX12_ok, nmX12⟩, Or.inl rfl, rfl⟩ rfl
theorem o218_5 : Okp RX12 cX12_fails 3 none "fails" false 5 (sLR 0 6) := ok_aload_n (by decide +kernel : decode cX12_fails 5 = .ok (.aload_n 0, 1)) rfl
theorem o218_6 : Okp RX12 cX12_fails 3 none "fails" false 6 (sLI 2 7) := ok_iload_n (by decide +kernel : decode cX12_fails 6 = .ok (.iload_n 2, 1)) rfl
theorem o218_7 : Okp RX12 cX12_fails 3 none "fails" false 7 (sPI 13 23 10) := ok_putI (by decide +kernel : decode cX12_fails 7 = .ok (.putfield 72, 3)) fw_X12_72 ⟨⟨tyX12_ok, nmX12⟩, Or.inl rfl, rfl⟩ rfl
theorem o218_10 : Okp RX12 cX12_fails 3 none "fails" false 10 (sLR 0 11) := ok_aload_n (by decide +kernel : decode cX12_fails 10 = .ok (.aload_n 0, 1)) rfl
theorem o218_11 : Okp RX12 cX12_fails 3 none "fails" false 11 (sGR 13 25 14) := ok_getR (by decide +kernel : decode cX12_fails 11 = .ok (.getfield 79, 3)) fw_X12_79 rfl
theorem o218_14 : Okp RX12 cX12_fails 3 none "fails" false 14 sTh := ok_athrow rfl (by decide +kernel : decode cX12_fails 14 = .ok (.athrow, 1))
theorem oc218 : ∀ pc, Mnp (c218 pc) ∧ Okp RX12 cX12_fails 3 none "fails" false pc (c218 pc) := by
  intro pc
  unfold c218
  split
  · exact ⟨mn_sLR, o218_0⟩
  · exact ⟨mn_sLI, o218_1⟩
  · exact ⟨mn_sPI, o218_2⟩
  · exact ⟨mn_sLR, o218_5⟩
  · exact ⟨mn_sLI, o218_6⟩
  · exact ⟨mn_sPI, o218_7⟩
  · exact ⟨mn_sLR, o218_10⟩
  · exact ⟨mn_sGR, o218_11⟩
  · exact ⟨mn_sTh, o218_14⟩
  · exact ⟨mn_sX, ok_X⟩
theorem o219_0 : Okp RX12 cX12_fault 2 (some .int) "fault" false 0 (sLR 0 1) := ok_aload_n (by decide +kernel : decode cX12_fault 0 = .ok (.aload_n 0, 1)) rfl
theorem o219_1 : Okp RX12 cX12_fault 2 (some .int) "fault" false 1 (sK 0 2) := ok_iconst (by decide +kernel : decode cX12_fault 1 = .ok (.iconst 0, 1)) (by decide)
theorem o219_2 : Okp RX12 cX12_fault 2 (some .int) "fault" false 2 (sPI 13 0 5) := ok_putI (by decide +kernel : decode cX12_fault 2 = .ok (.putfield 227, 3)) fw_X12_227 ⟨⟨tyX12_ok, nmX12⟩, Or.inl rfl, rfl⟩ rfl
theorem o219_5 : Okp RX12 cX12_fault 2 (some .int) "fault" false 5 (sLR 0 6) := ok_aload_n (by decide +kernel : decode cX12_fault 5 = .ok (.aload_n 0, 1)) rfl
theorem o219_6 : Okp RX12 cX12_fault 2 (some .int) "fault" false 6 (sGI 13 24 9) := ok_getI (by decide +kernel : decode cX12_fault 6 = .ok (.getfield 236, 3)) fw_X12_236 rfl
theorem o219_9 : Okp RX12 cX12_fault 2 (some .int) "fault" false 9 (sI1 1 16 12) := ok_if_ne (by decide +kernel : decode cX12_fault 9 = .ok (.ifCond .ne 7, 3)) (by decide)
theorem o219_12 : Okp RX12 cX12_fault 2 (some .int) "fault" false 12 (sK (-1) 13) := ok_iconst (by decide +kernel : decode cX12_fault 12 = .ok (.iconst (-1), 1)) (by decide)
theorem o219_13 : Okp RX12 cX12_fault 2 (some .int) "fault" false 13 (sGo 40) := ok_goto (by decide +kernel : decode cX12_fault 13 = .ok (.goto 27, 3)) (by decide)
theorem o219_16 : Okp RX12 cX12_fault 2 (some .int) "fault" false 16 (sLI 1 17) := ok_iload_n (by decide +kernel : decode cX12_fault 16 = .ok (.iload_n 1, 1)) rfl
theorem o219_17 : Okp RX12 cX12_fault 2 (some .int) "fault" false 17 (sI1 1 27 20) := ok_if_ne (by decide +kernel : decode cX12_fault 17 = .ok (.ifCond .ne 10, 3)) (by decide)
theorem o219_20 : Okp RX12 cX12_fault 2 (some .int) "fault" false 20 (sLR 0 21) := ok_aload_n (by decide +kernel : decode cX12_fault 20 = .ok (.aload_n 0, 1)) rfl
theorem o219_21 : Okp RX12 cX12_fault 2 (some .int) "fault" false 21 (sGI 13 22 24) := ok_getI (by decide +kernel : decode cX12_fault 21 = .ok (.getfield 233, 3)) fw_X12_233 rfl
theorem o219_24 : Okp RX12 cX12_fault 2 (some .int) "fault" false 24 (sGo 40) := ok_goto (by decide +kernel : decode cX12_fault 24 = .ok (.goto 16, 3)) (by decide)
theorem o219_27 : Okp RX12 cX12_fault 2 (some .int) "fault" false 27 (sLI 1 28) := ok_iload_n (by decide +kernel : decode cX12_fault 27 = .ok (.iload_n 1, 1)) rfl
theorem o219_28 : Okp RX12 cX12_fault 2 (some .int) "fault" false 28 (sK 1 29) := ok_iconst (by decide +kernel : decode cX12_fault 28 = .ok (.iconst 1, 1)) (by decide)
theorem o219_29 : Okp RX12 cX12_fault 2 (some .int) "fault" false 29 (sI2 1 39 32) := ok_icmp_ne (by decide +kernel : decode cX12_fault 29 = .ok (.if_icmp .ne 10, 3)) (by decide)
theorem o219_32 : Okp RX12 cX12_fault 2 (some .int) "fault" false 32 (sLR 0 33) := ok_aload_n (by decide +kernel : decode cX12_fault 32 = .ok (.aload_n 0, 1)) rfl
theorem o219_33 : Okp RX12 cX12_fault 2 (some .int) "fault" false 33 (sGI 13 23 36) := ok_getI (by decide +kernel : decode cX12_fault 33 = .ok (.getfield 72, 3)) fw_X12_72 rfl
theorem o219_36 : Okp RX12 cX12_fault 2 (some .int) "fault" false 36 (sGo 40) := ok_goto (by decide +kernel : decode cX12_fault 36 = .ok (.goto 4, 3)) (by decide)
theorem o219_39 : Okp RX12 cX12_fault 2 (some .int) "fault" false 39 (sK (-1) 40) := ok_iconst (by decide +kernel : decode cX12_fault 39 = .ok (.iconst (-1), 1)) (by decide)
theorem o219_40 : Okp RX12 cX12_fault 2 (some .int) "fault" false 40 sRI := ok_iret rfl (by decide +kernel : decode cX12_fault 40 = .ok (.ireturn, 1))
theorem oc219_0 : ∀ pc, Mnp (c219_0 pc) ∧ Okp RX12 cX12_fault 2 (some .int) "fault" false pc (c219_0 pc) := by
  intro pc
  unfold c219_0
  split
  · exact ⟨mn_sLR, o219_0⟩
  · exact ⟨mn_sK, o219_1⟩
  · exact ⟨mn_sPI, o219_2⟩
  · exact ⟨mn_sLR, o219_5⟩
  · exact ⟨mn_sGI, o219_6⟩
  · exact ⟨mn_sI1, o219_9⟩
  · exact ⟨mn_sK, o219_12⟩
  · exact ⟨mn_sGo, o219_13⟩
  · exact ⟨mn_sLI, o219_16⟩
  · exact ⟨mn_sI1, o219_17⟩
  · exact ⟨mn_sLR, o219_20⟩
  · exact ⟨mn_sGI, o219_21⟩
  · exact ⟨mn_sX, ok_X⟩
theorem oc219_1 : ∀ pc, Mnp (c219_1 pc) ∧ Okp RX12 cX12_fault 2 (some .int) "fault" false pc (c219_1 pc) := by
  intro pc
  unfold c219_1
  split
  · exact ⟨mn_sGo, o219_24⟩
  · exact ⟨mn_sLI, o219_27⟩
  · exact ⟨mn_sK, o219_28⟩
  · exact ⟨mn_sI2, o219_29⟩
  · exact ⟨mn_sLR, o219_32⟩
  · exact ⟨mn_sGI, o219_33⟩
  · exact ⟨mn_sGo, o219_36⟩
  · exact ⟨mn_sK, o219_39⟩
  · exact ⟨mn_sRI, o219_40⟩
  · exact ⟨mn_sX, ok_X⟩
theorem oc219 : ∀ pc, Mnp (c219 pc) ∧ Okp RX12 cX12_fault 2 (some .int) "fault" false pc (c219 pc) := by
  intro pc
  unfold c219
  split
  · exact oc219_0 pc
  · exact oc219_1 pc
  · exact ⟨mn_sX, ok_X⟩
theorem o220_0 : Okp RX12 cX12_byteAt 3 (some .int) "byteAt" false 0 (sLI 2 1) := ok_iload_n (by decide +kernel : decode cX12_byteAt 0 = .ok (.iload_n 2, 1)) rfl
theorem o220_1 : Okp RX12 cX12_byteAt 3 (some .int) "byteAt" false 1 (sI1 2 33 4) := ok_if_lt (by decide +kernel : decode cX12_byteAt 1 = .ok (.ifCond .lt 32, 3)) (by decide)
theorem o220_4 : Okp RX12 cX12_byteAt 3 (some .int) "byteAt" false 4 (sLI 2 5) := ok_iload_n (by decide +kernel : decode cX12_byteAt 4 = .ok (.iload_n 2, 1)) rfl
theorem o220_5 : Okp RX12 cX12_byteAt 3 (some .int) "byteAt" false 5 (sLR 0 6) := ok_aload_n (by decide +kernel : decode cX12_byteAt 5 = .ok (.aload_n 0, 1)) rfl
theorem o220_6 : Okp RX12 cX12_byteAt 3 (some .int) "byteAt" false 6 (sGR 13 4 9) := ok_getR (by decide +kernel : decode cX12_byteAt 6 = .ok (.getfield 16, 3)) fw_X12_16 rfl
theorem o220_9 : Okp RX12 cX12_byteAt 3 (some .int) "byteAt" false 9 (sLI 1 10) := ok_iload_n (by decide +kernel : decode cX12_byteAt 9 = .ok (.iload_n 1, 1)) rfl
theorem o220_10 : Okp RX12 cX12_byteAt 3 (some .int) "byteAt" false 10 (sIA 11) := ok_iaload (by decide +kernel : decode cX12_byteAt 10 = .ok (.iaload, 1))
theorem o220_11 : Okp RX12 cX12_byteAt 3 (some .int) "byteAt" false 11 (sI2 3 33 14) := ok_icmp_ge (by decide +kernel : decode cX12_byteAt 11 = .ok (.if_icmp .ge 22, 3)) (by decide)
theorem o220_14 : Okp RX12 cX12_byteAt 3 (some .int) "byteAt" false 14 (sLR 0 15) := ok_aload_n (by decide +kernel : decode cX12_byteAt 14 = .ok (.aload_n 0, 1)) rfl
theorem o220_15 : Okp RX12 cX12_byteAt 3 (some .int) "byteAt" false 15 (sGR 13 3 18) := ok_getR (by decide +kernel : decode cX12_byteAt 15 = .ok (.getfield 13, 3)) fw_X12_13 rfl
theorem o220_18 : Okp RX12 cX12_byteAt 3 (some .int) "byteAt" false 18 (sK 2000 21) := ok_sipush (by decide +kernel : decode cX12_byteAt 18 = .ok (.sipush 2000, 3)) (by decide)
theorem o220_21 : Okp RX12 cX12_byteAt 3 (some .int) "byteAt" false 21 (sLI 1 22) := ok_iload_n (by decide +kernel : decode cX12_byteAt 21 = .ok (.iload_n 1, 1)) rfl
theorem o220_22 : Okp RX12 cX12_byteAt 3 (some .int) "byteAt" false 22 (sB2 fMul 23) := ok_imul (by decide +kernel : decode cX12_byteAt 22 = .ok (.imul, 1))
theorem o220_23 : Okp RX12 cX12_byteAt 3 (some .int) "byteAt" false 23 (sLI 2 24) := ok_iload_n (by decide +kernel : decode cX12_byteAt 23 = .ok (.iload_n 2, 1)) rfl
theorem o220_24 : Okp RX12 cX12_byteAt 3 (some .int) "byteAt" false 24 (sB2 fAdd 25) := ok_iadd (by decide +kernel : decode cX12_byteAt 24 = .ok (.iadd, 1))
theorem o220_25 : Okp RX12 cX12_byteAt 3 (some .int) "byteAt" false 25 (sBA 26) := ok_baload (by decide +kernel : decode cX12_byteAt 25 = .ok (.baload, 1))
theorem o220_26 : Okp RX12 cX12_byteAt 3 (some .int) "byteAt" false 26 (sK 255 29) := ok_sipush (by decide +kernel : decode cX12_byteAt 26 = .ok (.sipush 255, 3)) (by decide)
theorem o220_29 : Okp RX12 cX12_byteAt 3 (some .int) "byteAt" false 29 (sB2 fAnd 30) := ok_iand (by decide +kernel : decode cX12_byteAt 29 = .ok (.iand, 1))
theorem o220_30 : Okp RX12 cX12_byteAt 3 (some .int) "byteAt" false 30 (sGo 34) := ok_goto (by decide +kernel : decode cX12_byteAt 30 = .ok (.goto 4, 3)) (by decide)
theorem o220_33 : Okp RX12 cX12_byteAt 3 (some .int) "byteAt" false 33 (sK (-1) 34) := ok_iconst (by decide +kernel : decode cX12_byteAt 33 = .ok (.iconst (-1), 1)) (by decide)
theorem o220_34 : Okp RX12 cX12_byteAt 3 (some .int) "byteAt" false 34 sRI := ok_iret rfl (by decide +kernel : decode cX12_byteAt 34 = .ok (.ireturn, 1))
theorem oc220_0 : ∀ pc, Mnp (c220_0 pc) ∧ Okp RX12 cX12_byteAt 3 (some .int) "byteAt" false pc (c220_0 pc) := by
  intro pc
  unfold c220_0
  split
  · exact ⟨mn_sLI, o220_0⟩
  · exact ⟨mn_sI1, o220_1⟩
  · exact ⟨mn_sLI, o220_4⟩
  · exact ⟨mn_sLR, o220_5⟩
  · exact ⟨mn_sGR, o220_6⟩
  · exact ⟨mn_sLI, o220_9⟩
  · exact ⟨mn_sIA, o220_10⟩
  · exact ⟨mn_sI2, o220_11⟩
  · exact ⟨mn_sLR, o220_14⟩
  · exact ⟨mn_sGR, o220_15⟩
  · exact ⟨mn_sK, o220_18⟩
  · exact ⟨mn_sLI, o220_21⟩
  · exact ⟨mn_sB2, o220_22⟩
  · exact ⟨mn_sLI, o220_23⟩
  · exact ⟨mn_sX, ok_X⟩
theorem oc220_1 : ∀ pc, Mnp (c220_1 pc) ∧ Okp RX12 cX12_byteAt 3 (some .int) "byteAt" false pc (c220_1 pc) := by
  intro pc
  unfold c220_1
  split
  · exact ⟨mn_sB2, o220_24⟩
  · exact ⟨mn_sBA, o220_25⟩
  · exact ⟨mn_sK, o220_26⟩
  · exact ⟨mn_sB2, o220_29⟩
  · exact ⟨mn_sGo, o220_30⟩
  · exact ⟨mn_sK, o220_33⟩
  · exact ⟨mn_sRI, o220_34⟩
  · exact ⟨mn_sX, ok_X⟩
theorem oc220 : ∀ pc, Mnp (c220 pc) ∧ Okp RX12 cX12_byteAt 3 (some .int) "byteAt" false pc (c220 pc) := by
  intro pc
  unfold c220
  split
  · exact oc220_0 pc
  · exact oc220_1 pc
  · exact ⟨mn_sX, ok_X⟩
theorem o221_0 : Okp RX12 cX12_number 4 (some .int) "number" false 0 (sLR 0 1) := ok_aload_n (by decide +kernel : decode cX12_number 0 = .ok (.aload_n 0, 1)) rfl
theorem o221_1 : Okp RX12 cX12_number 4 (some .int) "number" false 1 (sLR 0 2) := ok_aload_n (by decide +kernel : decode cX12_number 1 = .ok (.aload_n 0, 1)) rfl
theorem o221_2 : Okp RX12 cX12_number 4 (some .int) "number" false 2 (sGI 13 27 5) := ok_getI (by decide +kernel : decode cX12_number 2 = .ok (.getfield 240, 3)) fw_X12_240 rfl
theorem o221_5 : Okp RX12 cX12_number 4 (some .int) "number" false 5 (sLR 0 6) := ok_aload_n (by decide +kernel : decode cX12_number 5 = .ok (.aload_n 0, 1)) rfl
theorem o221_6 : Okp RX12 cX12_number 4 (some .int) "number" false 6 (sGI 13 26 9) := ok_getI (by decide +kernel : decode cX12_number 6 = .ok (.getfield 243, 3)) fw_X12_243 rfl
theorem o221_9 : Okp RX12 cX12_number 4 (some .int) "number" false 9 (sCV false 220 3 13 12) := ok_cv (by decide +kernel : decode cX12_number 9 = .ok (.invokevirtual 246, 3)) mw_X12_246 rfl (by decide) wm_X12_byteAt wse_X12_byteAt (by decide) rfl
theorem o221_12 : Okp RX12 cX12_number 4 (some .int) "number" false 12 (sSI 3 13) := ok_istore_n (by decide +kernel : decode cX12_number 12 = .ok (.istore_n 3, 1)) rfl (by decide) (by decide)
theorem o221_13 : Okp RX12 cX12_number 4 (some .int) "number" false 13 (sLI 3 14) := ok_iload_n (by decide +kernel : decode cX12_number 13 = .ok (.iload_n 3, 1)) rfl
theorem o221_14 : Okp RX12 cX12_number 4 (some .int) "number" false 14 (sLI 1 15) := ok_iload_n (by decide +kernel : decode cX12_number 14 = .ok (.iload_n 1, 1)) rfl
theorem o221_15 : Okp RX12 cX12_number 4 (some .int) "number" false 15 (sI2 2 23 18) := ok_icmp_lt (by decide +kernel : decode cX12_number 15 = .ok (.if_icmp .lt 8, 3)) (by decide)
theorem o221_18 : Okp RX12 cX12_number 4 (some .int) "number" false 18 (sLI 3 19) := ok_iload_n (by decide +kernel : decode cX12_number 18 = .ok (.iload_n 3, 1)) rfl
theorem o221_19 : Okp RX12 cX12_number 4 (some .int) "number" false 19 (sLI 2 20) := ok_iload_n (by decide +kernel : decode cX12_number 19 = .ok (.iload_n 2, 1)) rfl
theorem o221_20 : Okp RX12 cX12_number 4 (some .int) "number" false 20 (sI2 5 32 23) := ok_icmp_le (by decide +kernel : decode cX12_number 20 = .ok (.if_icmp .le 12, 3)) (by decide)
theorem o221_23 : Okp RX12 cX12_number 4 (some .int) "number" false 23 (sLR 0 24) := ok_aload_n (by decide +kernel : decode cX12_number 23 = .ok (.aload_n 0, 1)) rfl
theorem o221_24 : Okp RX12 cX12_number 4 (some .int) "number" false 24 (sK 1 25) := ok_iconst (by decide +kernel : decode cX12_number 24 = .ok (.iconst 1, 1)) (by decide)
theorem o221_25 : Okp RX12 cX12_number 4 (some .int) "number" false 25 (sLR 0 26) := ok_aload_n (by decide +kernel : decode cX12_number 25 = .ok (.aload_n 0, 1)) rfl
theorem o221_26 : Okp RX12 cX12_number 4 (some .int) "number" false 26 (sGI 13 26 29) := ok_getI (by decide +kernel : decode cX12_number 26 = .ok (.getfield 243, 3)) fw_X12_243 rfl
theorem o221_29 : Okp RX12 cX12_number 4 (some .int) "number" false 29 (sCV false 218 3 13 32) := ok_cvT (by decide +kernel : decode cX12_number 29 = .ok (.invokevirtual 250, 3)) mw_X12_250 rfl rfl (by decide) wm_X12_fails wse_X12_fails (by decide)
theorem o221_32 : Okp RX12 cX12_number 4 (some .int) "number" false 32 (sLR 0 33) := ok_aload_n (by decide +kernel : decode cX12_number 32 = .ok (.aload_n 0, 1)) rfl
theorem o221_33 : Okp RX12 cX12_number 4 (some .int) "number" false 33 (sDup 34) := ok_dup (by decide +kernel : decode cX12_number 33 = .ok (.dup, 1))
theorem o221_34 : Okp RX12 cX12_number 4 (some .int) "number" false 34 (sGI 13 26 37) := ok_getI (by decide +kernel : decode cX12_number 34 = .ok (.getfield 243, 3)) fw_X12_243 rfl
theorem o221_37 : Okp RX12 cX12_number 4 (some .int) "number" false 37 (sK 1 38) := ok_iconst (by decide +kernel : decode cX12_number 37 = .ok (.iconst 1, 1)) (by decide)
theorem o221_38 : Okp RX12 cX12_number 4 (some .int) "number" false 38 (sB2 fAdd 39) := ok_iadd (by decide +kernel : decode cX12_number 38 = .ok (.iadd, 1))
theorem o221_39 : Okp RX12 cX12_number 4 (some .int) "number" false 39 (sPI 13 26 42) := ok_putI (by decide +kernel : decode cX12_number 39 = .ok (.putfield 243, 3)) fw_X12_243 ⟨⟨tyX12_ok, nmX12⟩, Or.inl rfl, rfl⟩ rfl
theorem o221_42 : Okp RX12 cX12_number 4 (some .int) "number" false 42 (sLI 3 43) := ok_iload_n (by decide +kernel : decode cX12_number 42 = .ok (.iload_n 3, 1)) rfl
theorem o221_43 : Okp RX12 cX12_number 4 (some .int) "number" false 43 sRI := ok_iret rfl (by decide +kernel : decode cX12_number 43 = .ok (.ireturn, 1))
theorem oc221_0 : ∀ pc, Mnp (c221_0 pc) ∧ Okp RX12 cX12_number 4 (some .int) "number" false pc (c221_0 pc) := by
  intro pc
  unfold c221_0
  split
  · exact ⟨mn_sLR, o221_0⟩
  · exact ⟨mn_sLR, o221_1⟩
  · exact ⟨mn_sGI, o221_2⟩
  · exact ⟨mn_sLR, o221_5⟩
  · exact ⟨mn_sGI, o221_6⟩
  · exact ⟨mn_sCV, o221_9⟩
  · exact ⟨mn_sSI, o221_12⟩
  · exact ⟨mn_sLI, o221_13⟩
  · exact ⟨mn_sLI, o221_14⟩
  · exact ⟨mn_sI2, o221_15⟩
  · exact ⟨mn_sLI, o221_18⟩
  · exact ⟨mn_sLI, o221_19⟩
  · exact ⟨mn_sI2, o221_20⟩
  · exact ⟨mn_sLR, o221_23⟩
  · exact ⟨mn_sX, ok_X⟩
theorem oc221_1 : ∀ pc, Mnp (c221_1 pc) ∧ Okp RX12 cX12_number 4 (some .int) "number" false pc (c221_1 pc) := by
  intro pc
  unfold c221_1
  split
  · exact ⟨mn_sK, o221_24⟩
  · exact ⟨mn_sLR, o221_25⟩
  · exact ⟨mn_sGI, o221_26⟩
  · exact ⟨mn_sCV, o221_29⟩
  · exact ⟨mn_sLR, o221_32⟩
  · exact ⟨mn_sDup, o221_33⟩
  · exact ⟨mn_sGI, o221_34⟩
  · exact ⟨mn_sK, o221_37⟩
  · exact ⟨mn_sB2, o221_38⟩
  · exact ⟨mn_sPI, o221_39⟩
  · exact ⟨mn_sLI, o221_42⟩
  · exact ⟨mn_sRI, o221_43⟩
  · exact ⟨mn_sX, ok_X⟩
theorem oc221 : ∀ pc, Mnp (c221 pc) ∧ Okp RX12 cX12_number 4 (some .int) "number" false pc (c221 pc) := by
  intro pc
  unfold c221
  split
  · exact oc221_0 pc
  · exact oc221_1 pc
  · exact ⟨mn_sX, ok_X⟩
