theorem o105_0 : Okp RX6 cX6_isLoadAlike 5 (some .boolean) "isLoadAlike" false 0 (sLI 2 1) := ok_iload_n (by decide +kernel : decode cX6_isLoadAlike 0 = .ok (.iload_n 2, 1)) rfl
theorem o105_1 : Okp RX6 cX6_isLoadAlike 5 (some .boolean) "isLoadAlike" false 1 (sCS false 207 1 4) := ok_cs (by decide +kernel : decode cX6_isLoadAlike 1 = .ok (.invokestatic 110, 3)) mw_X6_110 wt_X11_kindOf (by decide) rfl
theorem o105_4 : Okp RX6 cX6_isLoadAlike 5 (some .boolean) "isLoadAlike" false 4 (sLI 4 6) := ok_iload (by decide +kernel : decode cX6_isLoadAlike 4 = .ok (.iload 4, 2))
theorem o105_6 : Okp RX6 cX6_isLoadAlike 5 (some .boolean) "isLoadAlike" false 6 (sCS false 207 1 9) := ok_cs (by decide +kernel : decode cX6_isLoadAlike 6 = .ok (.invokestatic 110, 3)) mw_X6_110 wt_X11_kindOf (by decide) rfl
theorem o105_9 : Okp RX6 cX6_isLoadAlike 5 (some .boolean) "isLoadAlike" false 9 (sI2 0 14 12) := ok_icmp_eq (by decide +kernel : decode cX6_isLoadAlike 9 = .ok (.if_icmp .eq 5, 3)) (by decide)
theorem o105_12 : Okp RX6 cX6_isLoadAlike 5 (some .boolean) "isLoadAlike" false 12 (sK 0 13) := ok_iconst (by decide +kernel : decode cX6_isLoadAlike 12 = .ok (.iconst 0, 1)) (by decide)
theorem o105_13 : Okp RX6 cX6_isLoadAlike 5 (some .boolean) "isLoadAlike" false 13 sRZ := ok_zret rfl (by decide +kernel : decode cX6_isLoadAlike 13 = .ok (.ireturn, 1))
theorem o105_14 : Okp RX6 cX6_isLoadAlike 5 (some .boolean) "isLoadAlike" false 14 (sLI 2 15) := ok_iload_n (by decide +kernel : decode cX6_isLoadAlike 14 = .ok (.iload_n 2, 1)) rfl
theorem o105_15 : Okp RX6 cX6_isLoadAlike 5 (some .boolean) "isLoadAlike" false 15 (sCS false 207 1 18) := ok_cs (by decide +kernel : decode cX6_isLoadAlike 15 = .ok (.invokestatic 110, 3)) mw_X6_110 wt_X11_kindOf (by decide) rfl
theorem o105_18 : Okp RX6 cX6_isLoadAlike 5 (some .boolean) "isLoadAlike" false 18 (sK 4 19) := ok_iconst (by decide +kernel : decode cX6_isLoadAlike 18 = .ok (.iconst 4, 1)) (by decide)
theorem o105_19 : Okp RX6 cX6_isLoadAlike 5 (some .boolean) "isLoadAlike" false 19 (sI2 1 48 22) := ok_icmp_ne (by decide +kernel : decode cX6_isLoadAlike 19 = .ok (.if_icmp .ne 29, 3)) (by decide)
theorem o105_22 : Okp RX6 cX6_isLoadAlike 5 (some .boolean) "isLoadAlike" false 22 (sLR 1 23) := ok_aload_n (by decide +kernel : decode cX6_isLoadAlike 22 = .ok (.aload_n 1, 1)) rfl
theorem o105_23 : Okp RX6 cX6_isLoadAlike 5 (some .boolean) "isLoadAlike" false 23 (sLI 2 24) := ok_iload_n (by decide +kernel : decode cX6_isLoadAlike 23 = .ok (.iload_n 2, 1)) rfl
theorem o105_24 : Okp RX6 cX6_isLoadAlike 5 (some .boolean) "isLoadAlike" false 24 (sCS false 208 1 27) := ok_cs (by decide +kernel : decode cX6_isLoadAlike 24 = .ok (.invokestatic 122, 3)) mw_X6_122 wt_X11_namedBy (by decide) rfl
theorem o105_27 : Okp RX6 cX6_isLoadAlike 5 (some .boolean) "isLoadAlike" false 27 (sCV false 152 2 10 30) := ok_cv (by decide +kernel : decode cX6_isLoadAlike 27 = .ok (.invokevirtual 160, 3)) mw_X6_160 rfl (by decide) wm_X9_sizeOfRecord wse_X9_sizeOfRecord (by decide) rfl
theorem o105_30 : Okp RX6 cX6_isLoadAlike 5 (some .boolean) "isLoadAlike" false 30 (sLR 3 31) := ok_aload_n (by decide +kernel : decode cX6_isLoadAlike 30 = .ok (.aload_n 3, 1)) rfl
theorem o105_31 : Okp RX6 cX6_isLoadAlike 5 (some .boolean) "isLoadAlike" false 31 (sLI 4 33) := ok_iload (by decide +kernel : decode cX6_isLoadAlike 31 = .ok (.iload 4, 2))
theorem o105_33 : Okp RX6 cX6_isLoadAlike 5 (some .boolean) "isLoadAlike" false 33 (sCS false 208 1 36) := ok_cs (by decide +kernel : decode cX6_isLoadAlike 33 = .ok (.invokestatic 122, 3)) mw_X6_122 wt_X11_namedBy (by decide) rfl
theorem o105_36 : Okp RX6 cX6_isLoadAlike 5 (some .boolean) "isLoadAlike" false 36 (sCV false 152 2 10 39) := ok_cv (by decide +kernel : decode cX6_isLoadAlike 36 = .ok (.invokevirtual 160, 3)) mw_X6_160 rfl (by decide) wm_X9_sizeOfRecord wse_X9_sizeOfRecord (by decide) rfl
theorem o105_39 : Okp RX6 cX6_isLoadAlike 5 (some .boolean) "isLoadAlike" false 39 (sI2 1 46 42) := ok_icmp_ne (by decide +kernel : decode cX6_isLoadAlike 39 = .ok (.if_icmp .ne 7, 3)) (by decide)
theorem o105_42 : Okp RX6 cX6_isLoadAlike 5 (some .boolean) "isLoadAlike" false 42 (sK 1 43) := ok_iconst (by decide +kernel : decode cX6_isLoadAlike 42 = .ok (.iconst 1, 1)) (by decide)
theorem o105_43 : Okp RX6 cX6_isLoadAlike 5 (some .boolean) "isLoadAlike" false 43 (sGo 47) := ok_goto (by decide +kernel : decode cX6_isLoadAlike 43 = .ok (.goto 4, 3)) (by decide)
theorem o105_46 : Okp RX6 cX6_isLoadAlike 5 (some .boolean) "isLoadAlike" false 46 (sK 0 47) := ok_iconst (by decide +kernel : decode cX6_isLoadAlike 46 = .ok (.iconst 0, 1)) (by decide)
theorem o105_47 : Okp RX6 cX6_isLoadAlike 5 (some .boolean) "isLoadAlike" false 47 sRZ := ok_zret rfl (by decide +kernel : decode cX6_isLoadAlike 47 = .ok (.ireturn, 1))
theorem o105_48 : Okp RX6 cX6_isLoadAlike 5 (some .boolean) "isLoadAlike" false 48 (sLI 2 49) := ok_iload_n (by decide +kernel : decode cX6_isLoadAlike 48 = .ok (.iload_n 2, 1)) rfl
theorem o105_49 : Okp RX6 cX6_isLoadAlike 5 (some .boolean) "isLoadAlike" false 49 (sCS false 207 1 52) := ok_cs (by decide +kernel : decode cX6_isLoadAlike 49 = .ok (.invokestatic 110, 3)) mw_X6_110 wt_X11_kindOf (by decide) rfl
theorem o105_52 : Okp RX6 cX6_isLoadAlike 5 (some .boolean) "isLoadAlike" false 52 (sK 5 53) := ok_iconst (by decide +kernel : decode cX6_isLoadAlike 52 = .ok (.iconst 5, 1)) (by decide)
theorem o105_53 : Okp RX6 cX6_isLoadAlike 5 (some .boolean) "isLoadAlike" false 53 (sI2 1 99 56) := ok_icmp_ne (by decide +kernel : decode cX6_isLoadAlike 53 = .ok (.if_icmp .ne 46, 3)) (by decide)
theorem o105_56 : Okp RX6 cX6_isLoadAlike 5 (some .boolean) "isLoadAlike" false 56 (sLR 0 57) := ok_aload_n (by decide +kernel : decode cX6_isLoadAlike 56 = .ok (.aload_n 0, 1)) rfl
theorem o105_57 : Okp RX6 cX6_isLoadAlike 5 (some .boolean) "isLoadAlike" false 57 (sLI 2 58) := ok_iload_n (by decide +kernel : decode cX6_isLoadAlike 57 = .ok (.iload_n 2, 1)) rfl
theorem o105_58 : Okp RX6 cX6_isLoadAlike 5 (some .boolean) "isLoadAlike" false 58 (sCS false 208 1 61) := ok_cs (by decide +kernel : decode cX6_isLoadAlike 58 = .ok (.invokestatic 122, 3)) mw_X6_122 wt_X11_namedBy (by decide) rfl
theorem o105_61 : Okp RX6 cX6_isLoadAlike 5 (some .boolean) "isLoadAlike" false 61 (sLI 4 63) := ok_iload (by decide +kernel : decode cX6_isLoadAlike 61 = .ok (.iload 4, 2))
theorem o105_63 : Okp RX6 cX6_isLoadAlike 5 (some .boolean) "isLoadAlike" false 63 (sCS false 208 1 66) := ok_cs (by decide +kernel : decode cX6_isLoadAlike 63 = .ok (.invokestatic 122, 3)) mw_X6_122 wt_X11_namedBy (by decide) rfl
theorem o105_66 : Okp RX6 cX6_isLoadAlike 5 (some .boolean) "isLoadAlike" false 66 (sCV false 103 3 7 69) := ok_cv (by decide +kernel : decode cX6_isLoadAlike 66 = .ok (.invokevirtual 129, 3)) mw_X6_129 rfl (by decide) wm_X6_addPair wse_X6_addPair (by decide) rfl
theorem o105_69 : Okp RX6 cX6_isLoadAlike 5 (some .boolean) "isLoadAlike" false 69 (sLI 2 70) := ok_iload_n (by decide +kernel : decode cX6_isLoadAlike 69 = .ok (.iload_n 2, 1)) rfl
theorem o105_70 : Okp RX6 cX6_isLoadAlike 5 (some .boolean) "isLoadAlike" false 70 (sCS false 209 1 73) := ok_cs (by decide +kernel : decode cX6_isLoadAlike 70 = .ok (.invokestatic 113, 3)) mw_X6_113 wt_X11_stateOfEnd (by decide) rfl
theorem o105_73 : Okp RX6 cX6_isLoadAlike 5 (some .boolean) "isLoadAlike" false 73 (sLI 4 75) := ok_iload (by decide +kernel : decode cX6_isLoadAlike 73 = .ok (.iload 4, 2))
theorem o105_75 : Okp RX6 cX6_isLoadAlike 5 (some .boolean) "isLoadAlike" false 75 (sCS false 209 1 78) := ok_cs (by decide +kernel : decode cX6_isLoadAlike 75 = .ok (.invokestatic 113, 3)) mw_X6_113 wt_X11_stateOfEnd (by decide) rfl
theorem o105_78 : Okp RX6 cX6_isLoadAlike 5 (some .boolean) "isLoadAlike" false 78 (sI2 1 97 81) := ok_icmp_ne (by decide +kernel : decode cX6_isLoadAlike 78 = .ok (.if_icmp .ne 19, 3)) (by decide)
theorem o105_81 : Okp RX6 cX6_isLoadAlike 5 (some .boolean) "isLoadAlike" false 81 (sLI 2 82) := ok_iload_n (by decide +kernel : decode cX6_isLoadAlike 81 = .ok (.iload_n 2, 1)) rfl
theorem o105_82 : Okp RX6 cX6_isLoadAlike 5 (some .boolean) "isLoadAlike" false 82 (sCS false 210 1 85) := ok_cs (by decide +kernel : decode cX6_isLoadAlike 82 = .ok (.invokestatic 119, 3)) mw_X6_119 wt_X11_sideOfEnd (by decide) rfl
theorem o105_85 : Okp RX6 cX6_isLoadAlike 5 (some .boolean) "isLoadAlike" false 85 (sLI 4 87) := ok_iload (by decide +kernel : decode cX6_isLoadAlike 85 = .ok (.iload 4, 2))
theorem o105_87 : Okp RX6 cX6_isLoadAlike 5 (some .boolean) "isLoadAlike" false 87 (sCS false 210 1 90) := ok_cs (by decide +kernel : decode cX6_isLoadAlike 87 = .ok (.invokestatic 119, 3)) mw_X6_119 wt_X11_sideOfEnd (by decide) rfl
theorem o105_90 : Okp RX6 cX6_isLoadAlike 5 (some .boolean) "isLoadAlike" false 90 (sI2 1 97 93) := ok_icmp_ne (by decide +kernel : decode cX6_isLoadAlike 90 = .ok (.if_icmp .ne 7, 3)) (by decide)
theorem o105_93 : Okp RX6 cX6_isLoadAlike 5 (some .boolean) "isLoadAlike" false 93 (sK 1 94) := ok_iconst (by decide +kernel : decode cX6_isLoadAlike 93 = .ok (.iconst 1, 1)) (by decide)
theorem o105_94 : Okp RX6 cX6_isLoadAlike 5 (some .boolean) "isLoadAlike" false 94 (sGo 98) := ok_goto (by decide +kernel : decode cX6_isLoadAlike 94 = .ok (.goto 4, 3)) (by decide)
theorem o105_97 : Okp RX6 cX6_isLoadAlike 5 (some .boolean) "isLoadAlike" false 97 (sK 0 98) := ok_iconst (by decide +kernel : decode cX6_isLoadAlike 97 = .ok (.iconst 0, 1)) (by decide)
theorem o105_98 : Okp RX6 cX6_isLoadAlike 5 (some .boolean) "isLoadAlike" false 98 sRZ := ok_zret rfl (by decide +kernel : decode cX6_isLoadAlike 98 = .ok (.ireturn, 1))
theorem o105_99 : Okp RX6 cX6_isLoadAlike 5 (some .boolean) "isLoadAlike" false 99 (sK 1 100) := ok_iconst (by decide +kernel : decode cX6_isLoadAlike 99 = .ok (.iconst 1, 1)) (by decide)
theorem o105_100 : Okp RX6 cX6_isLoadAlike 5 (some .boolean) "isLoadAlike" false 100 sRZ := ok_zret rfl (by decide +kernel : decode cX6_isLoadAlike 100 = .ok (.ireturn, 1))
theorem oc105_0 : ∀ pc, Mnp (c105_0 pc) ∧ Okp RX6 cX6_isLoadAlike 5 (some .boolean) "isLoadAlike" false pc (c105_0 pc) := by
  intro pc
  unfold c105_0
  split
  · exact ⟨mn_sLI, o105_0⟩
  · exact ⟨mn_sCS, o105_1⟩
  · exact ⟨mn_sLI, o105_4⟩
  · exact ⟨mn_sCS, o105_6⟩
  · exact ⟨mn_sI2, o105_9⟩
  · exact ⟨mn_sK, o105_12⟩
  · exact ⟨mn_sRZ, o105_13⟩
  · exact ⟨mn_sLI, o105_14⟩
  · exact ⟨mn_sCS, o105_15⟩
  · exact ⟨mn_sK, o105_18⟩
  · exact ⟨mn_sI2, o105_19⟩
  · exact ⟨mn_sLR, o105_22⟩
  · exact ⟨mn_sLI, o105_23⟩
  · exact ⟨mn_sX, ok_X⟩
theorem oc105_1 : ∀ pc, Mnp (c105_1 pc) ∧ Okp RX6 cX6_isLoadAlike 5 (some .boolean) "isLoadAlike" false pc (c105_1 pc) := by
  intro pc
  unfold c105_1
  split
  · exact ⟨mn_sCS, o105_24⟩
  · exact ⟨mn_sCV, o105_27⟩
  · exact ⟨mn_sLR, o105_30⟩
  · exact ⟨mn_sLI, o105_31⟩
  · exact ⟨mn_sCS, o105_33⟩
  · exact ⟨mn_sCV, o105_36⟩
  · exact ⟨mn_sI2, o105_39⟩
  · exact ⟨mn_sK, o105_42⟩
  · exact ⟨mn_sGo, o105_43⟩
  · exact ⟨mn_sK, o105_46⟩
  · exact ⟨mn_sRZ, o105_47⟩
  · exact ⟨mn_sX, ok_X⟩
theorem oc105_2 : ∀ pc, Mnp (c105_2 pc) ∧ Okp RX6 cX6_isLoadAlike 5 (some .boolean) "isLoadAlike" false pc (c105_2 pc) := by
  intro pc
  unfold c105_2
  split
  · exact ⟨mn_sLI, o105_48⟩
  · exact ⟨mn_sCS, o105_49⟩
  · exact ⟨mn_sK, o105_52⟩
  · exact ⟨mn_sI2, o105_53⟩
  · exact ⟨mn_sLR, o105_56⟩
  · exact ⟨mn_sLI, o105_57⟩
  · exact ⟨mn_sCS, o105_58⟩
  · exact ⟨mn_sLI, o105_61⟩
  · exact ⟨mn_sCS, o105_63⟩
  · exact ⟨mn_sCV, o105_66⟩
  · exact ⟨mn_sLI, o105_69⟩
  · exact ⟨mn_sCS, o105_70⟩
  · exact ⟨mn_sX, ok_X⟩
theorem oc105_3 : ∀ pc, Mnp (c105_3 pc) ∧ Okp RX6 cX6_isLoadAlike 5 (some .boolean) "isLoadAlike" false pc (c105_3 pc) := by
  intro pc
  unfold c105_3
  split
  · exact ⟨mn_sLI, o105_73⟩
  · exact ⟨mn_sCS, o105_75⟩
  · exact ⟨mn_sI2, o105_78⟩
  · exact ⟨mn_sLI, o105_81⟩
  · exact ⟨mn_sCS, o105_82⟩
  · exact ⟨mn_sLI, o105_85⟩
  · exact ⟨mn_sCS, o105_87⟩
  · exact ⟨mn_sI2, o105_90⟩
  · exact ⟨mn_sK, o105_93⟩
  · exact ⟨mn_sGo, o105_94⟩
  · exact ⟨mn_sX, ok_X⟩
theorem oc105_4 : ∀ pc, Mnp (c105_4 pc) ∧ Okp RX6 cX6_isLoadAlike 5 (some .boolean) "isLoadAlike" false pc (c105_4 pc) := by
  intro pc
  unfold c105_4
  split
  · exact ⟨mn_sK, o105_97⟩
  · exact ⟨mn_sRZ, o105_98⟩
  · exact ⟨mn_sK, o105_99⟩
  · exact ⟨mn_sRZ, o105_100⟩
  · exact ⟨mn_sX, ok_X⟩
theorem oc105 : ∀ pc, Mnp (c105 pc) ∧ Okp RX6 cX6_isLoadAlike 5 (some .boolean) "isLoadAlike" false pc (c105 pc) := by
  intro pc
  unfold c105
  split
  · exact oc105_0 pc
  · exact oc105_1 pc
  · exact oc105_2 pc
  · exact oc105_3 pc
  · exact oc105_4 pc
  · exact ⟨mn_sX, ok_X⟩
theorem o106_0 : Okp RX7 cX7_init 6 none "<init>" false 0 (sLR 0 1) := ok_aload_n (by decide +kernel : decode cX7_init 0 = .ok (.aload_n 0, 1)) rfl
theorem o106_1 : Okp RX7 cX7_init 6 none "<init>" false 1 (sCt 4) := ok_oinit (by decide +kernel : decode cX7_init 1 = .ok (.invokespecial 3, 3)) wq_X7_3 wq_i wq_c
theorem o106_4 : Okp RX7 cX7_init 6 none "<init>" false 4 (sLR 0 5) := ok_aload_n (by decide +kernel : decode cX7_init 4 = .ok (.aload_n 0, 1)) rfl
theorem o106_5 : Okp RX7 cX7_init 6 none "<init>" false 5 (sK 0 6) := ok_iconst (by decide +kernel : decode cX7_init 5 = .ok (.iconst 0, 1)) (by decide)
theorem o106_6 : Okp RX7 cX7_init 6 none "<init>" false 6 (sPI 8 6 9) := ok_putI (by decide +kernel : decode cX7_init 6 = .ok (.putfield 9, 3)) fw_X7_9 ⟨⟨tyX7_ok, nmX7⟩, Or.inl rfl, rfl⟩ rfl
theorem o106_9 : Okp RX7 cX7_init 6 none "<init>" false 9 (sLR 0 10) := ok_aload_n (by decide +kernel : decode cX7_init 9 = .ok (.aload_n 0, 1)) rfl
theorem o106_10 : Okp RX7 cX7_init 6 none "<init>" false 10 (sNul 11) := ok_null (by decide +kernel : decode cX7_init 10 = .ok (.aconst_null, 1))
theorem o106_11 : Okp RX7 cX7_init 6 none "<init>" false 11 (sPR 8 8 14) := ok_putR (by decide +kernel : decode cX7_init 11 = .ok (.putfield 15, 3)) fw_X7_15 ⟨⟨tyX7_ok, nmX7⟩, Or.inl rfl, rfl⟩ (Or.inr ⟨_, rfl⟩) rfl
theorem o106_14 : Okp RX7 cX7_init 6 none "<init>" false 14 (sLR 0 15) := ok_aload_n (by decide +kernel : decode cX7_init 14 = .ok (.aload_n 0, 1)) rfl
theorem o106_15 : Okp RX7 cX7_init 6 none "<init>" false 15 (sNul 16) := ok_null (by decide +kernel : decode cX7_init 15 = .ok (.aconst_null, 1))
theorem o106_16 : Okp RX7 cX7_init 6 none "<init>" false 16 (sPR 8 9 19) := ok_putR (by decide +kernel : decode cX7_init 16 = .ok (.putfield 19, 3)) fw_X7_19 ⟨⟨tyX7_ok, nmX7⟩, Or.inl rfl, rfl⟩ (Or.inr ⟨_, rfl⟩) rfl
theorem o106_19 : Okp RX7 cX7_init 6 none "<init>" false 19 (sLR 0 20) := ok_aload_n (by decide +kernel : decode cX7_init 19 = .ok (.aload_n 0, 1)) rfl
theorem o106_20 : Okp RX7 cX7_init 6 none "<init>" false 20 (sLR 1 21) := ok_aload_n (by decide +kernel : decode cX7_init 20 = .ok (.aload_n 1, 1)) rfl
theorem o106_21 : Okp RX7 cX7_init 6 none "<init>" false 21 (sPR 8 1 24) := ok_putR (by decide +kernel : decode cX7_init 21 = .ok (.putfield 22, 3)) fw_X7_22 ⟨⟨tyX7_ok, nmX7⟩, Or.inr ⟨rfl, rfl, rfl⟩, rfl⟩ (Or.inr ⟨_, rfl⟩) rfl
theorem o106_24 : Okp RX7 cX7_init 6 none "<init>" false 24 (sLR 0 25) := ok_aload_n (by decide +kernel : decode cX7_init 24 = .ok (.aload_n 0, 1)) rfl
theorem o106_25 : Okp RX7 cX7_init 6 none "<init>" false 25 (sLR 1 26) := ok_aload_n (by decide +kernel : decode cX7_init 25 = .ok (.aload_n 1, 1)) rfl
theorem o106_26 : Okp RX7 cX7_init 6 none "<init>" false 26 (sLen 27) := ok_alen (by decide +kernel : decode cX7_init 26 = .ok (.arraylength, 1))
theorem o106_27 : Okp RX7 cX7_init 6 none "<init>" false 27 (sPI 8 0 30) := ok_putI (by decide +kernel : decode cX7_init 27 = .ok (.putfield 25, 3)) fw_X7_25 ⟨⟨tyX7_ok, nmX7⟩, Or.inr ⟨rfl, rfl, rfl⟩, rfl⟩ rfl
theorem o106_30 : Okp RX7 cX7_init 6 none "<init>" false 30 (sLR 0 31) := ok_aload_n (by decide +kernel : decode cX7_init 30 = .ok (.aload_n 0, 1)) rfl
theorem o106_31 : Okp RX7 cX7_init 6 none "<init>" false 31 (sLI 2 32) := ok_iload_n (by decide +kernel : decode cX7_init 31 = .ok (.iload_n 2, 1)) rfl
theorem o106_32 : Okp RX7 cX7_init 6 none "<init>" false 32 (sPI 8 2 35) := ok_putI (by decide +kernel : decode cX7_init 32 = .ok (.putfield 28, 3)) fw_X7_28 ⟨⟨tyX7_ok, nmX7⟩, Or.inr ⟨rfl, rfl, rfl⟩, rfl⟩ rfl
theorem o106_35 : Okp RX7 cX7_init 6 none "<init>" false 35 (sLR 0 36) := ok_aload_n (by decide +kernel : decode cX7_init 35 = .ok (.aload_n 0, 1)) rfl
theorem o106_36 : Okp RX7 cX7_init 6 none "<init>" false 36 (sLI 3 37) := ok_iload_n (by decide +kernel : decode cX7_init 36 = .ok (.iload_n 3, 1)) rfl
theorem o106_37 : Okp RX7 cX7_init 6 none "<init>" false 37 (sPI 8 3 40) := ok_putI (by decide +kernel : decode cX7_init 37 = .ok (.putfield 31, 3)) fw_X7_31 ⟨⟨tyX7_ok, nmX7⟩, Or.inr ⟨rfl, rfl, rfl⟩, rfl⟩ rfl
theorem o106_40 : Okp RX7 cX7_init 6 none "<init>" false 40 (sLR 0 41) := ok_aload_n (by decide +kernel : decode cX7_init 40 = .ok (.aload_n 0, 1)) rfl
theorem o106_41 : Okp RX7 cX7_init 6 none "<init>" false 41 (sLI 4 43) := ok_iload (by decide +kernel : decode cX7_init 41 = .ok (.iload 4, 2))
theorem o106_43 : Okp RX7 cX7_init 6 none "<init>" false 43 (sPI 8 4 46) := ok_putI (by decide +kernel : decode cX7_init 43 = .ok (.putfield 34, 3)) fw_X7_34 ⟨⟨tyX7_ok, nmX7⟩, Or.inr ⟨rfl, rfl, rfl⟩, rfl⟩ rfl
theorem o106_46 : Okp RX7 cX7_init 6 none "<init>" false 46 (sLR 0 47) := ok_aload_n (by decide +kernel : decode cX7_init 46 = .ok (.aload_n 0, 1)) rfl
theorem o106_47 : Okp RX7 cX7_init 6 none "<init>" false 47 (sLI 5 49) := ok_iload (by decide +kernel : decode cX7_init 47 = .ok (.iload 5, 2))
theorem o106_49 : Okp RX7 cX7_init 6 none "<init>" false 49 (sPI 8 5 52) := ok_putI (by decide +kernel : decode cX7_init 49 = .ok (.putfield 37, 3)) fw_X7_37 ⟨⟨tyX7_ok, nmX7⟩, Or.inr ⟨rfl, rfl, rfl⟩, rfl⟩ rfl
theorem o106_52 : Okp RX7 cX7_init 6 none "<init>" false 52 (sLR 0 53) := ok_aload_n (by decide +kernel : decode cX7_init 52 = .ok (.aload_n 0, 1)) rfl
theorem o106_53 : Okp RX7 cX7_init 6 none "<init>" false 53 (sK 0 54) := ok_iconst (by decide +kernel : decode cX7_init 53 = .ok (.iconst 0, 1)) (by decide)
theorem o106_54 : Okp RX7 cX7_init 6 none "<init>" false 54 (sLI 4 56) := ok_iload (by decide +kernel : decode cX7_init 54 = .ok (.iload 4, 2))
theorem o106_56 : Okp RX7 cX7_init 6 none "<init>" false 56 (sM2 fMax 59) := ok_max (by decide +kernel : decode cX7_init 56 = .ok (.invokestatic 40, 3)) wq_X7_40 wq_smax wq_im wq_cmax
theorem o106_59 : Okp RX7 cX7_init 6 none "<init>" false 59 (sNA 16 61) := ok_newZ (by decide +kernel : decode cX7_init 59 = .ok (.newarray .boolean, 2)) wa_boolean
theorem o106_61 : Okp RX7 cX7_init 6 none "<init>" false 61 (sPR 8 7 64) := ok_putR (by decide +kernel : decode cX7_init 61 = .ok (.putfield 46, 3)) fw_X7_46 ⟨⟨tyX7_ok, nmX7⟩, Or.inr ⟨rfl, rfl, rfl⟩, rfl⟩ (Or.inr ⟨_, rfl⟩) rfl
theorem o106_64 : Okp RX7 cX7_init 6 none "<init>" false 64 sRV := ok_vret rfl (by decide +kernel : decode cX7_init 64 = .ok (.return_, 1))
theorem oc106_0 : ∀ pc, Mnp (c106_0 pc) ∧ Okp RX7 cX7_init 6 none "<init>" false pc (c106_0 pc) := by
  intro pc
  unfold c106_0
  split
  · exact ⟨mn_sLR, o106_0⟩
  · exact ⟨mn_sCt, o106_1⟩
  · exact ⟨mn_sLR, o106_4⟩
  · exact ⟨mn_sK, o106_5⟩
  · exact ⟨mn_sPI, o106_6⟩
  · exact ⟨mn_sLR, o106_9⟩
  · exact ⟨mn_sNul, o106_10⟩
  · exact ⟨mn_sPR, o106_11⟩
  · exact ⟨mn_sLR, o106_14⟩
  · exact ⟨mn_sNul, o106_15⟩
  · exact ⟨mn_sPR, o106_16⟩
  · exact ⟨mn_sLR, o106_19⟩
  · exact ⟨mn_sLR, o106_20⟩
  · exact ⟨mn_sPR, o106_21⟩
  · exact ⟨mn_sX, ok_X⟩
theorem oc106_1 : ∀ pc, Mnp (c106_1 pc) ∧ Okp RX7 cX7_init 6 none "<init>" false pc (c106_1 pc) := by
  intro pc
  unfold c106_1
  split
  · exact ⟨mn_sLR, o106_24⟩
  · exact ⟨mn_sLR, o106_25⟩
  · exact ⟨mn_sLen, o106_26⟩
  · exact ⟨mn_sPI, o106_27⟩
  · exact ⟨mn_sLR, o106_30⟩
  · exact ⟨mn_sLI, o106_31⟩
  · exact ⟨mn_sPI, o106_32⟩
  · exact ⟨mn_sLR, o106_35⟩
  · exact ⟨mn_sLI, o106_36⟩
  · exact ⟨mn_sPI, o106_37⟩
  · exact ⟨mn_sLR, o106_40⟩
  · exact ⟨mn_sLI, o106_41⟩
  · exact ⟨mn_sPI, o106_43⟩
  · exact ⟨mn_sLR, o106_46⟩
  · exact ⟨mn_sLI, o106_47⟩
  · exact ⟨mn_sX, ok_X⟩
theorem oc106_2 : ∀ pc, Mnp (c106_2 pc) ∧ Okp RX7 cX7_init 6 none "<init>" false pc (c106_2 pc) := by
  intro pc
  unfold c106_2
  split
  · exact ⟨mn_sPI, o106_49⟩
  · exact ⟨mn_sLR, o106_52⟩
  · exact ⟨mn_sK, o106_53⟩
  · exact ⟨mn_sLI, o106_54⟩
  · exact ⟨mn_sM2, o106_56⟩
  · exact ⟨mn_sNA, o106_59⟩
  · exact ⟨mn_sPR, o106_61⟩
  · exact ⟨mn_sRV, o106_64⟩
  · exact ⟨mn_sX, ok_X⟩
theorem oc106 : ∀ pc, Mnp (c106 pc) ∧ Okp RX7 cX7_init 6 none "<init>" false pc (c106 pc) := by
  intro pc
  unfold c106
  split
  · exact oc106_0 pc
  · exact oc106_1 pc
  · exact oc106_2 pc
  · exact ⟨mn_sX, ok_X⟩
theorem o107_0 : Okp RX7 cX7_typeOfParameter 2 (some .int) "typeOfParameter" false 0 (sLI 1 1) := ok_iload_n (by decide +kernel : decode cX7_typeOfParameter 0 = .ok (.iload_n 1, 1)) rfl
theorem o107_1 : Okp RX7 cX7_typeOfParameter 2 (some .int) "typeOfParameter" false 1 (sI1 2 13 4) := ok_if_lt (by decide +kernel : decode cX7_typeOfParameter 1 = .ok (.ifCond .lt 12, 3)) (by decide)
theorem o107_4 : Okp RX7 cX7_typeOfParameter 2 (some .int) "typeOfParameter" false 4 (sLI 1 5) := ok_iload_n (by decide +kernel : decode cX7_typeOfParameter 4 = .ok (.iload_n 1, 1)) rfl
theorem o107_5 : Okp RX7 cX7_typeOfParameter 2 (some .int) "typeOfParameter" false 5 (sLR 0 6) := ok_aload_n (by decide +kernel : decode cX7_typeOfParameter 5 = .ok (.aload_n 0, 1)) rfl
theorem o107_6 : Okp RX7 cX7_typeOfParameter 2 (some .int) "typeOfParameter" false 6 (sGR 8 1 9) := ok_getR (by decide +kernel : decode cX7_typeOfParameter 6 = .ok (.getfield 22, 3)) fw_X7_22 rfl
theorem o107_9 : Okp RX7 cX7_typeOfParameter 2 (some .int) "typeOfParameter" false 9 (sLen 10) := ok_alen (by decide +kernel : decode cX7_typeOfParameter 9 = .ok (.arraylength, 1))
theorem o107_10 : Okp RX7 cX7_typeOfParameter 2 (some .int) "typeOfParameter" false 10 (sI2 2 17 13) := ok_icmp_lt (by decide +kernel : decode cX7_typeOfParameter 10 = .ok (.if_icmp .lt 7, 3)) (by decide)
theorem o107_13 : Okp RX7 cX7_typeOfParameter 2 (some .int) "typeOfParameter" false 13 (sK (-1) 14) := ok_iconst (by decide +kernel : decode cX7_typeOfParameter 13 = .ok (.iconst (-1), 1)) (by decide)
theorem o107_14 : Okp RX7 cX7_typeOfParameter 2 (some .int) "typeOfParameter" false 14 (sGo 23) := ok_goto (by decide +kernel : decode cX7_typeOfParameter 14 = .ok (.goto 9, 3)) (by decide)
theorem o107_17 : Okp RX7 cX7_typeOfParameter 2 (some .int) "typeOfParameter" false 17 (sLR 0 18) := ok_aload_n (by decide +kernel : decode cX7_typeOfParameter 17 = .ok (.aload_n 0, 1)) rfl
theorem o107_18 : Okp RX7 cX7_typeOfParameter 2 (some .int) "typeOfParameter" false 18 (sGR 8 1 21) := ok_getR (by decide +kernel : decode cX7_typeOfParameter 18 = .ok (.getfield 22, 3)) fw_X7_22 rfl
theorem o107_21 : Okp RX7 cX7_typeOfParameter 2 (some .int) "typeOfParameter" false 21 (sLI 1 22) := ok_iload_n (by decide +kernel : decode cX7_typeOfParameter 21 = .ok (.iload_n 1, 1)) rfl
theorem o107_22 : Okp RX7 cX7_typeOfParameter 2 (some .int) "typeOfParameter" false 22 (sIA 23) := ok_iaload (by decide +kernel : decode cX7_typeOfParameter 22 = .ok (.iaload, 1))
theorem o107_23 : Okp RX7 cX7_typeOfParameter 2 (some .int) "typeOfParameter" false 23 sRI := ok_iret rfl (by decide +kernel : decode cX7_typeOfParameter 23 = .ok (.ireturn, 1))
theorem oc107 : ∀ pc, Mnp (c107 pc) ∧ Okp RX7 cX7_typeOfParameter 2 (some .int) "typeOfParameter" false pc (c107 pc) := by
  intro pc
  unfold c107
  split
  · exact ⟨mn_sLI, o107_0⟩
  · exact ⟨mn_sI1, o107_1⟩
  · exact ⟨mn_sLI, o107_4⟩
  · exact ⟨mn_sLR, o107_5⟩
  · exact ⟨mn_sGR, o107_6⟩
  · exact ⟨mn_sLen, o107_9⟩
  · exact ⟨mn_sI2, o107_10⟩
  · exact ⟨mn_sK, o107_13⟩
  · exact ⟨mn_sGo, o107_14⟩
  · exact ⟨mn_sLR, o107_17⟩
  · exact ⟨mn_sGR, o107_18⟩
  · exact ⟨mn_sLI, o107_21⟩
  · exact ⟨mn_sIA, o107_22⟩
  · exact ⟨mn_sRI, o107_23⟩
  · exact ⟨mn_sX, ok_X⟩
theorem o108_0 : Okp RX7 cX7_beginsAt 2 (some .boolean) "beginsAt" false 0 (sLI 1 1) := ok_iload_n (by decide +kernel : decode cX7_beginsAt 0 = .ok (.iload_n 1, 1)) rfl
theorem o108_1 : Okp RX7 cX7_beginsAt 2 (some .boolean) "beginsAt" false 1 (sI1 2 26 4) := ok_if_lt (by decide +kernel : decode cX7_beginsAt 1 = .ok (.ifCond .lt 25, 3)) (by decide)
theorem o108_4 : Okp RX7 cX7_beginsAt 2 (some .boolean) "beginsAt" false 4 (sLI 1 5) := ok_iload_n (by decide +kernel : decode cX7_beginsAt 4 = .ok (.iload_n 1, 1)) rfl
theorem o108_5 : Okp RX7 cX7_beginsAt 2 (some .boolean) "beginsAt" false 5 (sLR 0 6) := ok_aload_n (by decide +kernel : decode cX7_beginsAt 5 = .ok (.aload_n 0, 1)) rfl
theorem o108_6 : Okp RX7 cX7_beginsAt 2 (some .boolean) "beginsAt" false 6 (sGR 8 7 9) := ok_getR (by decide +kernel : decode cX7_beginsAt 6 = .ok (.getfield 46, 3)) fw_X7_46 rfl
theorem o108_9 : Okp RX7 cX7_beginsAt 2 (some .boolean) "beginsAt" false 9 (sLen 10) := ok_alen (by decide +kernel : decode cX7_beginsAt 9 = .ok (.arraylength, 1))
theorem o108_10 : Okp RX7 cX7_beginsAt 2 (some .boolean) "beginsAt" false 10 (sI2 3 26 13) := ok_icmp_ge (by decide +kernel : decode cX7_beginsAt 10 = .ok (.if_icmp .ge 16, 3)) (by decide)
theorem o108_13 : Okp RX7 cX7_beginsAt 2 (some .boolean) "beginsAt" false 13 (sLR 0 14) := ok_aload_n (by decide +kernel : decode cX7_beginsAt 13 = .ok (.aload_n 0, 1)) rfl
theorem o108_14 : Okp RX7 cX7_beginsAt 2 (some .boolean) "beginsAt" false 14 (sGR 8 7 17) := ok_getR (by decide +kernel : decode cX7_beginsAt 14 = .ok (.getfield 46, 3)) fw_X7_46 rfl
theorem o108_17 : Okp RX7 cX7_beginsAt 2 (some .boolean) "beginsAt" false 17 (sLI 1 18) := ok_iload_n (by decide +kernel : decode cX7_beginsAt 17 = .ok (.iload_n 1, 1)) rfl
theorem o108_18 : Okp RX7 cX7_beginsAt 2 (some .boolean) "beginsAt" false 18 (sBA 19) := ok_baload (by decide +kernel : decode cX7_beginsAt 18 = .ok (.baload, 1))
theorem o108_19 : Okp RX7 cX7_beginsAt 2 (some .boolean) "beginsAt" false 19 (sI1 0 26 22) := ok_if_eq (by decide +kernel : decode cX7_beginsAt 19 = .ok (.ifCond .eq 7, 3)) (by decide)
theorem o108_22 : Okp RX7 cX7_beginsAt 2 (some .boolean) "beginsAt" false 22 (sK 1 23) := ok_iconst (by decide +kernel : decode cX7_beginsAt 22 = .ok (.iconst 1, 1)) (by decide)
theorem o108_23 : Okp RX7 cX7_beginsAt 2 (some .boolean) "beginsAt" false 23 (sGo 27) := ok_goto (by decide +kernel : decode cX7_beginsAt 23 = .ok (.goto 4, 3)) (by decide)
theorem o108_26 : Okp RX7 cX7_beginsAt 2 (some .boolean) "beginsAt" false 26 (sK 0 27) := ok_iconst (by decide +kernel : decode cX7_beginsAt 26 = .ok (.iconst 0, 1)) (by decide)
theorem o108_27 : Okp RX7 cX7_beginsAt 2 (some .boolean) "beginsAt" false 27 sRZ := ok_zret rfl (by decide +kernel : decode cX7_beginsAt 27 = .ok (.ireturn, 1))
theorem oc108_0 : ∀ pc, Mnp (c108_0 pc) ∧ Okp RX7 cX7_beginsAt 2 (some .boolean) "beginsAt" false pc (c108_0 pc) := by
  intro pc
  unfold c108_0
  split
  · exact ⟨mn_sLI, o108_0⟩
  · exact ⟨mn_sI1, o108_1⟩
  · exact ⟨mn_sLI, o108_4⟩
  · exact ⟨mn_sLR, o108_5⟩
  · exact ⟨mn_sGR, o108_6⟩
  · exact ⟨mn_sLen, o108_9⟩
  · exact ⟨mn_sI2, o108_10⟩
  · exact ⟨mn_sLR, o108_13⟩
  · exact ⟨mn_sGR, o108_14⟩
  · exact ⟨mn_sLI, o108_17⟩
  · exact ⟨mn_sBA, o108_18⟩
  · exact ⟨mn_sI1, o108_19⟩
  · exact ⟨mn_sK, o108_22⟩
  · exact ⟨mn_sGo, o108_23⟩
  · exact ⟨mn_sX, ok_X⟩
theorem oc108_1 : ∀ pc, Mnp (c108_1 pc) ∧ Okp RX7 cX7_beginsAt 2 (some .boolean) "beginsAt" false pc (c108_1 pc) := by
  intro pc
  unfold c108_1
  split
  · exact ⟨mn_sK, o108_26⟩
  · exact ⟨mn_sRZ, o108_27⟩
  · exact ⟨mn_sX, ok_X⟩
theorem oc108 : ∀ pc, Mnp (c108 pc) ∧ Okp RX7 cX7_beginsAt 2 (some .boolean) "beginsAt" false pc (c108 pc) := by
  intro pc
  unfold c108
  split
  · exact oc108_0 pc
  · exact oc108_1 pc
  · exact ⟨mn_sX, ok_X⟩
theorem o109_0 : Okp RX7 cX7_setBegin 2 none "setBegin" false 0 (sLI 1 1) := ok_iload_n (by decide +kernel : decode cX7_setBegin 0 = .ok (.iload_n 1, 1)) rfl
theorem o109_1 : Okp RX7 cX7_setBegin 2 none "setBegin" false 1 (sI1 2 20 4) := ok_if_lt (by decide +kernel : decode cX7_setBegin 1 = .ok (.ifCond .lt 19, 3)) (by decide)
theorem o109_4 : Okp RX7 cX7_setBegin 2 none "setBegin" false 4 (sLI 1 5) := ok_iload_n (by decide +kernel : decode cX7_setBegin 4 = .ok (.iload_n 1, 1)) rfl
theorem o109_5 : Okp RX7 cX7_setBegin 2 none "setBegin" false 5 (sLR 0 6) := ok_aload_n (by decide +kernel : decode cX7_setBegin 5 = .ok (.aload_n 0, 1)) rfl
theorem o109_6 : Okp RX7 cX7_setBegin 2 none "setBegin" false 6 (sGR 8 7 9) := ok_getR (by decide +kernel : decode cX7_setBegin 6 = .ok (.getfield 46, 3)) fw_X7_46 rfl
theorem o109_9 : Okp RX7 cX7_setBegin 2 none "setBegin" false 9 (sLen 10) := ok_alen (by decide +kernel : decode cX7_setBegin 9 = .ok (.arraylength, 1))
theorem o109_10 : Okp RX7 cX7_setBegin 2 none "setBegin" false 10 (sI2 3 20 13) := ok_icmp_ge (by decide +kernel : decode cX7_setBegin 10 = .ok (.if_icmp .ge 10, 3)) (by decide)
theorem o109_13 : Okp RX7 cX7_setBegin 2 none "setBegin" false 13 (sLR 0 14) := ok_aload_n (by decide +kernel : decode cX7_setBegin 13 = .ok (.aload_n 0, 1)) rfl
theorem o109_14 : Okp RX7 cX7_setBegin 2 none "setBegin" false 14 (sGR 8 7 17) := ok_getR (by decide +kernel : decode cX7_setBegin 14 = .ok (.getfield 46, 3)) fw_X7_46 rfl
theorem o109_17 : Okp RX7 cX7_setBegin 2 none "setBegin" false 17 (sLI 1 18) := ok_iload_n (by decide +kernel : decode cX7_setBegin 17 = .ok (.iload_n 1, 1)) rfl
theorem o109_18 : Okp RX7 cX7_setBegin 2 none "setBegin" false 18 (sK 1 19) := ok_iconst (by decide +kernel : decode cX7_setBegin 18 = .ok (.iconst 1, 1)) (by decide)
theorem o109_19 : Okp RX7 cX7_setBegin 2 none "setBegin" false 19 (sBS 20) := ok_bastore (by decide +kernel : decode cX7_setBegin 19 = .ok (.bastore, 1))
theorem o109_20 : Okp RX7 cX7_setBegin 2 none "setBegin" false 20 sRV := ok_vret rfl (by decide +kernel : decode cX7_setBegin 20 = .ok (.return_, 1))
theorem oc109 : ∀ pc, Mnp (c109 pc) ∧ Okp RX7 cX7_setBegin 2 none "setBegin" false pc (c109 pc) := by
  intro pc
  unfold c109
  split
  · exact ⟨mn_sLI, o109_0⟩
  · exact ⟨mn_sI1, o109_1⟩
  · exact ⟨mn_sLI, o109_4⟩
  · exact ⟨mn_sLR, o109_5⟩
  · exact ⟨mn_sGR, o109_6⟩
  · exact ⟨mn_sLen, o109_9⟩
  · exact ⟨mn_sI2, o109_10⟩
  · exact ⟨mn_sLR, o109_13⟩
  · exact ⟨mn_sGR, o109_14⟩
  · exact ⟨mn_sLI, o109_17⟩
  · exact ⟨mn_sK, o109_18⟩
  · exact ⟨mn_sBS, o109_19⟩
  · exact ⟨mn_sRV, o109_20⟩
  · exact ⟨mn_sX, ok_X⟩
theorem o110_0 : Okp RX7 cX7_prepare 2 none "prepare" false 0 (sLR 0 1) := ok_aload_n (by decide +kernel : decode cX7_prepare 0 = .ok (.aload_n 0, 1)) rfl
theorem o110_1 : Okp RX7 cX7_prepare 2 none "prepare" false 1 (sLR 0 2) := ok_aload_n (by decide +kernel : decode cX7_prepare 1 = .ok (.aload_n 0, 1)) rfl
theorem o110_2 : Okp RX7 cX7_prepare 2 none "prepare" false 2 (sGR 8 7 5) := ok_getR (by decide +kernel : decode cX7_prepare 2 = .ok (.getfield 46, 3)) fw_X7_46 rfl
theorem o110_5 : Okp RX7 cX7_prepare 2 none "prepare" false 5 (sLen 6) := ok_alen (by decide +kernel : decode cX7_prepare 5 = .ok (.arraylength, 1))
theorem o110_6 : Okp RX7 cX7_prepare 2 none "prepare" false 6 (sNA 15 8) := ok_newI (by decide +kernel : decode cX7_prepare 6 = .ok (.newarray .int, 2)) wa_int
theorem o110_8 : Okp RX7 cX7_prepare 2 none "prepare" false 8 (sPR 8 8 11) := ok_putR (by decide +kernel : decode cX7_prepare 8 = .ok (.putfield 15, 3)) fw_X7_15 ⟨⟨tyX7_ok, nmX7⟩, Or.inl rfl, rfl⟩ (Or.inr ⟨_, rfl⟩) rfl
theorem o110_11 : Okp RX7 cX7_prepare 2 none "prepare" false 11 (sLR 0 12) := ok_aload_n (by decide +kernel : decode cX7_prepare 11 = .ok (.aload_n 0, 1)) rfl
theorem o110_12 : Okp RX7 cX7_prepare 2 none "prepare" false 12 (sLR 0 13) := ok_aload_n (by decide +kernel : decode cX7_prepare 12 = .ok (.aload_n 0, 1)) rfl
theorem o110_13 : Okp RX7 cX7_prepare 2 none "prepare" false 13 (sGR 8 7 16) := ok_getR (by decide +kernel : decode cX7_prepare 13 = .ok (.getfield 46, 3)) fw_X7_46 rfl
theorem o110_16 : Okp RX7 cX7_prepare 2 none "prepare" false 16 (sLen 17) := ok_alen (by decide +kernel : decode cX7_prepare 16 = .ok (.arraylength, 1))
theorem o110_17 : Okp RX7 cX7_prepare 2 none "prepare" false 17 (sK 26 19) := ok_bipush (by decide +kernel : decode cX7_prepare 17 = .ok (.bipush 26, 2)) (by decide)
theorem o110_19 : Okp RX7 cX7_prepare 2 none "prepare" false 19 (sB2 fMul 20) := ok_imul (by decide +kernel : decode cX7_prepare 19 = .ok (.imul, 1))
theorem o110_20 : Okp RX7 cX7_prepare 2 none "prepare" false 20 (sNA 15 22) := ok_newI (by decide +kernel : decode cX7_prepare 20 = .ok (.newarray .int, 2)) wa_int
theorem o110_22 : Okp RX7 cX7_prepare 2 none "prepare" false 22 (sPR 8 9 25) := ok_putR (by decide +kernel : decode cX7_prepare 22 = .ok (.putfield 19, 3)) fw_X7_19 ⟨⟨tyX7_ok, nmX7⟩, Or.inl rfl, rfl⟩ (Or.inr ⟨_, rfl⟩) rfl
theorem o110_25 : Okp RX7 cX7_prepare 2 none "prepare" false 25 (sK 0 26) := ok_iconst (by decide +kernel : decode cX7_prepare 25 = .ok (.iconst 0, 1)) (by decide)
theorem o110_26 : Okp RX7 cX7_prepare 2 none "prepare" false 26 (sSI 1 27) := ok_istore_n (by decide +kernel : decode cX7_prepare 26 = .ok (.istore_n 1, 1)) rfl (by decide) (by decide)
theorem o110_27 : Okp RX7 cX7_prepare 2 none "prepare" false 27 (sLI 1 28) := ok_iload_n (by decide +kernel : decode cX7_prepare 27 = .ok (.iload_n 1, 1)) rfl
theorem o110_28 : Okp RX7 cX7_prepare 2 none "prepare" false 28 (sLR 0 29) := ok_aload_n (by decide +kernel : decode cX7_prepare 28 = .ok (.aload_n 0, 1)) rfl
theorem o110_29 : Okp RX7 cX7_prepare 2 none "prepare" false 29 (sGR 8 8 32) := ok_getR (by decide +kernel : decode cX7_prepare 29 = .ok (.getfield 15, 3)) fw_X7_15 rfl
theorem o110_32 : Okp RX7 cX7_prepare 2 none "prepare" false 32 (sLen 33) := ok_alen (by decide +kernel : decode cX7_prepare 32 = .ok (.arraylength, 1))
theorem o110_33 : Okp RX7 cX7_prepare 2 none "prepare" false 33 (sI2 3 49 36) := ok_icmp_ge (by decide +kernel : decode cX7_prepare 33 = .ok (.if_icmp .ge 16, 3)) (by decide)
theorem o110_36 : Okp RX7 cX7_prepare 2 none "prepare" false 36 (sLR 0 37) := ok_aload_n (by decide +kernel : decode cX7_prepare 36 = .ok (.aload_n 0, 1)) rfl
theorem o110_37 : Okp RX7 cX7_prepare 2 none "prepare" false 37 (sGR 8 8 40) := ok_getR (by decide +kernel : decode cX7_prepare 37 = .ok (.getfield 15, 3)) fw_X7_15 rfl
theorem o110_40 : Okp RX7 cX7_prepare 2 none "prepare" false 40 (sLI 1 41) := ok_iload_n (by decide +kernel : decode cX7_prepare 40 = .ok (.iload_n 1, 1)) rfl
theorem o110_41 : Okp RX7 cX7_prepare 2 none "prepare" false 41 (sK (-1) 42) := ok_iconst (by decide +kernel : decode cX7_prepare 41 = .ok (.iconst (-1), 1)) (by decide)
theorem o110_42 : Okp RX7 cX7_prepare 2 none "prepare" false 42 (sIS 43) := ok_iastore (by decide +kernel : decode cX7_prepare 42 = .ok (.iastore, 1))
theorem o110_43 : Okp RX7 cX7_prepare 2 none "prepare" false 43 (sInc 1 1 46) := ok_iinc (by decide +kernel : decode cX7_prepare 43 = .ok (.iinc 1 1, 3)) (by decide) (by decide)
theorem o110_46 : Okp RX7 cX7_prepare 2 none "prepare" false 46 (sGo 27) := ok_goto (by decide +kernel : decode cX7_prepare 46 = .ok (.goto (-19), 3)) (by decide)
theorem o110_49 : Okp RX7 cX7_prepare 2 none "prepare" false 49 sRV := ok_vret rfl (by decide +kernel : decode cX7_prepare 49 = .ok (.return_, 1))
theorem oc110_0 : ∀ pc, Mnp (c110_0 pc) ∧ Okp RX7 cX7_prepare 2 none "prepare" false pc (c110_0 pc) := by
  intro pc
  unfold c110_0
  split
  · exact ⟨mn_sLR, o110_0⟩
  · exact ⟨mn_sLR, o110_1⟩
  · exact ⟨mn_sGR, o110_2⟩
  · exact ⟨mn_sLen, o110_5⟩
  · exact ⟨mn_sNA, o110_6⟩
  · exact ⟨mn_sPR, o110_8⟩
  · exact ⟨mn_sLR, o110_11⟩
  · exact ⟨mn_sLR, o110_12⟩
  · exact ⟨mn_sGR, o110_13⟩
  · exact ⟨mn_sLen, o110_16⟩
  · exact ⟨mn_sK, o110_17⟩
  · exact ⟨mn_sB2, o110_19⟩
  · exact ⟨mn_sNA, o110_20⟩
  · exact ⟨mn_sPR, o110_22⟩
  · exact ⟨mn_sX, ok_X⟩
theorem oc110_1 : ∀ pc, Mnp (c110_1 pc) ∧ Okp RX7 cX7_prepare 2 none "prepare" false pc (c110_1 pc) := by
  intro pc
  unfold c110_1
  split
  · exact ⟨mn_sK, o110_25⟩
  · exact ⟨mn_sSI, o110_26⟩
  · exact ⟨mn_sLI, o110_27⟩
  · exact ⟨mn_sLR, o110_28⟩
  · exact ⟨mn_sGR, o110_29⟩
  · exact ⟨mn_sLen, o110_32⟩
  · exact ⟨mn_sI2, o110_33⟩
  · exact ⟨mn_sLR, o110_36⟩
  · exact ⟨mn_sGR, o110_37⟩
  · exact ⟨mn_sLI, o110_40⟩
  · exact ⟨mn_sK, o110_41⟩
  · exact ⟨mn_sIS, o110_42⟩
  · exact ⟨mn_sInc, o110_43⟩
  · exact ⟨mn_sGo, o110_46⟩
  · exact ⟨mn_sX, ok_X⟩
theorem oc110_2 : ∀ pc, Mnp (c110_2 pc) ∧ Okp RX7 cX7_prepare 2 none "prepare" false pc (c110_2 pc) := by
  intro pc
  unfold c110_2
  split
  · exact ⟨mn_sRV, o110_49⟩
  · exact ⟨mn_sX, ok_X⟩
theorem oc110 : ∀ pc, Mnp (c110 pc) ∧ Okp RX7 cX7_prepare 2 none "prepare" false pc (c110 pc) := by
  intro pc
  unfold c110
  split
  · exact oc110_0 pc
  · exact oc110_1 pc
  · exact oc110_2 pc
  · exact ⟨mn_sX, ok_X⟩
theorem o111_0 : Okp RX7 cX7_heightAt 2 (some .int) "heightAt" false 0 (sLR 0 1) := ok_aload_n (by decide +kernel : decode cX7_heightAt 0 = .ok (.aload_n 0, 1)) rfl
theorem o111_1 : Okp RX7 cX7_heightAt 2 (some .int) "heightAt" false 1 (sGR 8 8 4) := ok_getR (by decide +kernel : decode cX7_heightAt 1 = .ok (.getfield 15, 3)) fw_X7_15 rfl
theorem o111_4 : Okp RX7 cX7_heightAt 2 (some .int) "heightAt" false 4 (sNl 20 7) := ok_ifnull (by decide +kernel : decode cX7_heightAt 4 = .ok (.ifnull 16, 3)) (by decide)
theorem o111_7 : Okp RX7 cX7_heightAt 2 (some .int) "heightAt" false 7 (sLI 1 8) := ok_iload_n (by decide +kernel : decode cX7_heightAt 7 = .ok (.iload_n 1, 1)) rfl
theorem o111_8 : Okp RX7 cX7_heightAt 2 (some .int) "heightAt" false 8 (sI1 2 20 11) := ok_if_lt (by decide +kernel : decode cX7_heightAt 8 = .ok (.ifCond .lt 12, 3)) (by decide)
theorem o111_11 : Okp RX7 cX7_heightAt 2 (some .int) "heightAt" false 11 (sLI 1 12) := ok_iload_n (by decide +kernel : decode cX7_heightAt 11 = .ok (.iload_n 1, 1)) rfl
theorem o111_12 : Okp RX7 cX7_heightAt 2 (some .int) "heightAt" false 12 (sLR 0 13) := ok_aload_n (by decide +kernel : decode cX7_heightAt 12 = .ok (.aload_n 0, 1)) rfl
theorem o111_13 : Okp RX7 cX7_heightAt 2 (some .int) "heightAt" false 13 (sGR 8 8 16) := ok_getR (by decide +kernel : decode cX7_heightAt 13 = .ok (.getfield 15, 3)) fw_X7_15 rfl
theorem o111_16 : Okp RX7 cX7_heightAt 2 (some .int) "heightAt" false 16 (sLen 17) := ok_alen (by decide +kernel : decode cX7_heightAt 16 = .ok (.arraylength, 1))
theorem o111_17 : Okp RX7 cX7_heightAt 2 (some .int) "heightAt" false 17 (sI2 2 24 20) := ok_icmp_lt (by decide +kernel : decode cX7_heightAt 17 = .ok (.if_icmp .lt 7, 3)) (by decide)
theorem o111_20 : Okp RX7 cX7_heightAt 2 (some .int) "heightAt" false 20 (sK (-1) 21) := ok_iconst (by decide +kernel : decode cX7_heightAt 20 = .ok (.iconst (-1), 1)) (by decide)
theorem o111_21 : Okp RX7 cX7_heightAt 2 (some .int) "heightAt" false 21 (sGo 30) := ok_goto (by decide +kernel : decode cX7_heightAt 21 = .ok (.goto 9, 3)) (by decide)
theorem o111_24 : Okp RX7 cX7_heightAt 2 (some .int) "heightAt" false 24 (sLR 0 25) := ok_aload_n (by decide +kernel : decode cX7_heightAt 24 = .ok (.aload_n 0, 1)) rfl
theorem o111_25 : Okp RX7 cX7_heightAt 2 (some .int) "heightAt" false 25 (sGR 8 8 28) := ok_getR (by decide +kernel : decode cX7_heightAt 25 = .ok (.getfield 15, 3)) fw_X7_15 rfl
theorem o111_28 : Okp RX7 cX7_heightAt 2 (some .int) "heightAt" false 28 (sLI 1 29) := ok_iload_n (by decide +kernel : decode cX7_heightAt 28 = .ok (.iload_n 1, 1)) rfl
theorem o111_29 : Okp RX7 cX7_heightAt 2 (some .int) "heightAt" false 29 (sIA 30) := ok_iaload (by decide +kernel : decode cX7_heightAt 29 = .ok (.iaload, 1))
theorem o111_30 : Okp RX7 cX7_heightAt 2 (some .int) "heightAt" false 30 sRI := ok_iret rfl (by decide +kernel : decode cX7_heightAt 30 = .ok (.ireturn, 1))
theorem oc111_0 : ∀ pc, Mnp (c111_0 pc) ∧ Okp RX7 cX7_heightAt 2 (some .int) "heightAt" false pc (c111_0 pc) := by
  intro pc
  unfold c111_0
  split
  · exact ⟨mn_sLR, o111_0⟩
  · exact ⟨mn_sGR, o111_1⟩
  · exact ⟨mn_sNl, o111_4⟩
  · exact ⟨mn_sLI, o111_7⟩
  · exact ⟨mn_sI1, o111_8⟩
  · exact ⟨mn_sLI, o111_11⟩
  · exact ⟨mn_sLR, o111_12⟩
  · exact ⟨mn_sGR, o111_13⟩
  · exact ⟨mn_sLen, o111_16⟩
  · exact ⟨mn_sI2, o111_17⟩
  · exact ⟨mn_sK, o111_20⟩
  · exact ⟨mn_sGo, o111_21⟩
  · exact ⟨mn_sX, ok_X⟩
theorem oc111_1 : ∀ pc, Mnp (c111_1 pc) ∧ Okp RX7 cX7_heightAt 2 (some .int) "heightAt" false pc (c111_1 pc) := by
  intro pc
  unfold c111_1
  split
  · exact ⟨mn_sLR, o111_24⟩
  · exact ⟨mn_sGR, o111_25⟩
  · exact ⟨mn_sLI, o111_28⟩
  · exact ⟨mn_sIA, o111_29⟩
  · exact ⟨mn_sRI, o111_30⟩
  · exact ⟨mn_sX, ok_X⟩
theorem oc111 : ∀ pc, Mnp (c111 pc) ∧ Okp RX7 cX7_heightAt 2 (some .int) "heightAt" false pc (c111 pc) := by
  intro pc
  unfold c111
  split
  · exact oc111_0 pc
  · exact oc111_1 pc
  · exact ⟨mn_sX, ok_X⟩
theorem o112_0 : Okp RX7 cX7_setHeight 3 none "setHeight" false 0 (sLR 0 1) := ok_aload_n (by decide +kernel : decode cX7_setHeight 0 = .ok (.aload_n 0, 1)) rfl
theorem o112_1 : Okp RX7 cX7_setHeight 3 none "setHeight" false 1 (sGR 8 8 4) := ok_getR (by decide +kernel : decode cX7_setHeight 1 = .ok (.getfield 15, 3)) fw_X7_15 rfl
theorem o112_4 : Okp RX7 cX7_setHeight 3 none "setHeight" false 4 (sNl 39 7) := ok_ifnull (by decide +kernel : decode cX7_setHeight 4 = .ok (.ifnull 35, 3)) (by decide)
theorem o112_7 : Okp RX7 cX7_setHeight 3 none "setHeight" false 7 (sLI 1 8) := ok_iload_n (by decide +kernel : decode cX7_setHeight 7 = .ok (.iload_n 1, 1)) rfl
theorem o112_8 : Okp RX7 cX7_setHeight 3 none "setHeight" false 8 (sI1 2 39 11) := ok_if_lt (by decide +kernel : decode cX7_setHeight 8 = .ok (.ifCond .lt 31, 3)) (by decide)
theorem o112_11 : Okp RX7 cX7_setHeight 3 none "setHeight" false 11 (sLI 1 12) := ok_iload_n (by decide +kernel : decode cX7_setHeight 11 = .ok (.iload_n 1, 1)) rfl
theorem o112_12 : Okp RX7 cX7_setHeight 3 none "setHeight" false 12 (sLR 0 13) := ok_aload_n (by decide +kernel : decode cX7_setHeight 12 = .ok (.aload_n 0, 1)) rfl
theorem o112_13 : Okp RX7 cX7_setHeight 3 none "setHeight" false 13 (sGR 8 8 16) := ok_getR (by decide +kernel : decode cX7_setHeight 13 = .ok (.getfield 15, 3)) fw_X7_15 rfl
theorem o112_16 : Okp RX7 cX7_setHeight 3 none "setHeight" false 16 (sLen 17) := ok_alen (by decide +kernel : decode cX7_setHeight 16 = .ok (.arraylength, 1))
theorem o112_17 : Okp RX7 cX7_setHeight 3 none "setHeight" false 17 (sI2 3 39 20) := ok_icmp_ge (by decide +kernel : decode cX7_setHeight 17 = .ok (.if_icmp .ge 22, 3)) (by decide)
theorem o112_20 : Okp RX7 cX7_setHeight 3 none "setHeight" false 20 (sLR 0 21) := ok_aload_n (by decide +kernel : decode cX7_setHeight 20 = .ok (.aload_n 0, 1)) rfl
theorem o112_21 : Okp RX7 cX7_setHeight 3 none "setHeight" false 21 (sGR 8 8 24) := ok_getR (by decide +kernel : decode cX7_setHeight 21 = .ok (.getfield 15, 3)) fw_X7_15 rfl
theorem o112_24 : Okp RX7 cX7_setHeight 3 none "setHeight" false 24 (sLI 1 25) := ok_iload_n (by decide +kernel : decode cX7_setHeight 24 = .ok (.iload_n 1, 1)) rfl
theorem o112_25 : Okp RX7 cX7_setHeight 3 none "setHeight" false 25 (sLI 2 26) := ok_iload_n (by decide +kernel : decode cX7_setHeight 25 = .ok (.iload_n 2, 1)) rfl
theorem o112_26 : Okp RX7 cX7_setHeight 3 none "setHeight" false 26 (sIS 27) := ok_iastore (by decide +kernel : decode cX7_setHeight 26 = .ok (.iastore, 1))
theorem o112_27 : Okp RX7 cX7_setHeight 3 none "setHeight" false 27 (sLR 0 28) := ok_aload_n (by decide +kernel : decode cX7_setHeight 27 = .ok (.aload_n 0, 1)) rfl
theorem o112_28 : Okp RX7 cX7_setHeight 3 none "setHeight" false 28 (sLR 0 29) := ok_aload_n (by decide +kernel : decode cX7_setHeight 28 = .ok (.aload_n 0, 1)) rfl
theorem o112_29 : Okp RX7 cX7_setHeight 3 none "setHeight" false 29 (sGI 8 6 32) := ok_getI (by decide +kernel : decode cX7_setHeight 29 = .ok (.getfield 9, 3)) fw_X7_9 rfl
theorem o112_32 : Okp RX7 cX7_setHeight 3 none "setHeight" false 32 (sLI 2 33) := ok_iload_n (by decide +kernel : decode cX7_setHeight 32 = .ok (.iload_n 2, 1)) rfl
theorem o112_33 : Okp RX7 cX7_setHeight 3 none "setHeight" false 33 (sM2 fMax 36) := ok_max (by decide +kernel : decode cX7_setHeight 33 = .ok (.invokestatic 40, 3)) wq_X7_40 wq_smax wq_im wq_cmax
theorem o112_36 : Okp RX7 cX7_setHeight 3 none "setHeight" false 36 (sPI 8 6 39) := ok_putI (by decide +kernel : decode cX7_setHeight 36 = .ok (.putfield 9, 3)) fw_X7_9 ⟨⟨tyX7_ok, nmX7⟩, Or.inl rfl, rfl⟩ rfl
theorem o112_39 : Okp RX7 cX7_setHeight 3 none "setHeight" false 39 sRV := ok_vret rfl (by decide +kernel : decode cX7_setHeight 39 = .ok (.return_, 1))
theorem oc112_0 : ∀ pc, Mnp (c112_0 pc) ∧ Okp RX7 cX7_setHeight 3 none "setHeight" false pc (c112_0 pc) := by
  intro pc
  unfold c112_0
  split
  · exact ⟨mn_sLR, o112_0⟩
  · exact ⟨mn_sGR, o112_1⟩
  · exact ⟨mn_sNl, o112_4⟩
  · exact ⟨mn_sLI, o112_7⟩
  · exact ⟨mn_sI1, o112_8⟩
  · exact ⟨mn_sLI, o112_11⟩
  · exact ⟨mn_sLR, o112_12⟩
  · exact ⟨mn_sGR, o112_13⟩
  · exact ⟨mn_sLen, o112_16⟩
  · exact ⟨mn_sI2, o112_17⟩
  · exact ⟨mn_sLR, o112_20⟩
  · exact ⟨mn_sGR, o112_21⟩
  · exact ⟨mn_sX, ok_X⟩
theorem oc112_1 : ∀ pc, Mnp (c112_1 pc) ∧ Okp RX7 cX7_setHeight 3 none "setHeight" false pc (c112_1 pc) := by
  intro pc
  unfold c112_1
  split
  · exact ⟨mn_sLI, o112_24⟩
  · exact ⟨mn_sLI, o112_25⟩
  · exact ⟨mn_sIS, o112_26⟩
  · exact ⟨mn_sLR, o112_27⟩
  · exact ⟨mn_sLR, o112_28⟩
  · exact ⟨mn_sGI, o112_29⟩
  · exact ⟨mn_sLI, o112_32⟩
  · exact ⟨mn_sM2, o112_33⟩
  · exact ⟨mn_sPI, o112_36⟩
  · exact ⟨mn_sRV, o112_39⟩
  · exact ⟨mn_sX, ok_X⟩
theorem oc112 : ∀ pc, Mnp (c112 pc) ∧ Okp RX7 cX7_setHeight 3 none "setHeight" false pc (c112 pc) := by
  intro pc
  unfold c112
  split
  · exact oc112_0 pc
  · exact oc112_1 pc
  · exact ⟨mn_sX, ok_X⟩
theorem o113_0 : Okp RX7 cX7_typeComing 4 (some .int) "typeComing" false 0 (sLI 1 1) := ok_iload_n (by decide +kernel : decode cX7_typeComing 0 = .ok (.iload_n 1, 1)) rfl
theorem o113_1 : Okp RX7 cX7_typeComing 4 (some .int) "typeComing" false 1 (sK 26 3) := ok_bipush (by decide +kernel : decode cX7_typeComing 1 = .ok (.bipush 26, 2)) (by decide)
theorem o113_3 : Okp RX7 cX7_typeComing 4 (some .int) "typeComing" false 3 (sB2 fMul 4) := ok_imul (by decide +kernel : decode cX7_typeComing 3 = .ok (.imul, 1))
theorem o113_4 : Okp RX7 cX7_typeComing 4 (some .int) "typeComing" false 4 (sLI 2 5) := ok_iload_n (by decide +kernel : decode cX7_typeComing 4 = .ok (.iload_n 2, 1)) rfl
theorem o113_5 : Okp RX7 cX7_typeComing 4 (some .int) "typeComing" false 5 (sB2 fAdd 6) := ok_iadd (by decide +kernel : decode cX7_typeComing 5 = .ok (.iadd, 1))
theorem o113_6 : Okp RX7 cX7_typeComing 4 (some .int) "typeComing" false 6 (sSI 3 7) := ok_istore_n (by decide +kernel : decode cX7_typeComing 6 = .ok (.istore_n 3, 1)) rfl (by decide) (by decide)
theorem o113_7 : Okp RX7 cX7_typeComing 4 (some .int) "typeComing" false 7 (sLR 0 8) := ok_aload_n (by decide +kernel : decode cX7_typeComing 7 = .ok (.aload_n 0, 1)) rfl
theorem o113_8 : Okp RX7 cX7_typeComing 4 (some .int) "typeComing" false 8 (sGR 8 9 11) := ok_getR (by decide +kernel : decode cX7_typeComing 8 = .ok (.getfield 19, 3)) fw_X7_19 rfl
theorem o113_11 : Okp RX7 cX7_typeComing 4 (some .int) "typeComing" false 11 (sNl 27 14) := ok_ifnull (by decide +kernel : decode cX7_typeComing 11 = .ok (.ifnull 16, 3)) (by decide)
theorem o113_14 : Okp RX7 cX7_typeComing 4 (some .int) "typeComing" false 14 (sLI 3 15) := ok_iload_n (by decide +kernel : decode cX7_typeComing 14 = .ok (.iload_n 3, 1)) rfl
theorem o113_15 : Okp RX7 cX7_typeComing 4 (some .int) "typeComing" false 15 (sI1 2 27 18) := ok_if_lt (by decide +kernel : decode cX7_typeComing 15 = .ok (.ifCond .lt 12, 3)) (by decide)
theorem o113_18 : Okp RX7 cX7_typeComing 4 (some .int) "typeComing" false 18 (sLI 3 19) := ok_iload_n (by decide +kernel : decode cX7_typeComing 18 = .ok (.iload_n 3, 1)) rfl
theorem o113_19 : Okp RX7 cX7_typeComing 4 (some .int) "typeComing" false 19 (sLR 0 20) := ok_aload_n (by decide +kernel : decode cX7_typeComing 19 = .ok (.aload_n 0, 1)) rfl
theorem o113_20 : Okp RX7 cX7_typeComing 4 (some .int) "typeComing" false 20 (sGR 8 9 23) := ok_getR (by decide +kernel : decode cX7_typeComing 20 = .ok (.getfield 19, 3)) fw_X7_19 rfl
theorem o113_23 : Okp RX7 cX7_typeComing 4 (some .int) "typeComing" false 23 (sLen 24) := ok_alen (by decide +kernel : decode cX7_typeComing 23 = .ok (.arraylength, 1))
theorem o113_24 : Okp RX7 cX7_typeComing 4 (some .int) "typeComing" false 24 (sI2 2 32 27) := ok_icmp_lt (by decide +kernel : decode cX7_typeComing 24 = .ok (.if_icmp .lt 8, 3)) (by decide)
theorem o113_27 : Okp RX7 cX7_typeComing 4 (some .int) "typeComing" false 27 (sK 7 29) := ok_bipush (by decide +kernel : decode cX7_typeComing 27 = .ok (.bipush 7, 2)) (by decide)
theorem o113_29 : Okp RX7 cX7_typeComing 4 (some .int) "typeComing" false 29 (sGo 38) := ok_goto (by decide +kernel : decode cX7_typeComing 29 = .ok (.goto 9, 3)) (by decide)
theorem o113_32 : Okp RX7 cX7_typeComing 4 (some .int) "typeComing" false 32 (sLR 0 33) := ok_aload_n (by decide +kernel : decode cX7_typeComing 32 = .ok (.aload_n 0, 1)) rfl
theorem o113_33 : Okp RX7 cX7_typeComing 4 (some .int) "typeComing" false 33 (sGR 8 9 36) := ok_getR (by decide +kernel : decode cX7_typeComing 33 = .ok (.getfield 19, 3)) fw_X7_19 rfl
theorem o113_36 : Okp RX7 cX7_typeComing 4 (some .int) "typeComing" false 36 (sLI 3 37) := ok_iload_n (by decide +kernel : decode cX7_typeComing 36 = .ok (.iload_n 3, 1)) rfl
theorem o113_37 : Okp RX7 cX7_typeComing 4 (some .int) "typeComing" false 37 (sIA 38) := ok_iaload (by decide +kernel : decode cX7_typeComing 37 = .ok (.iaload, 1))
theorem o113_38 : Okp RX7 cX7_typeComing 4 (some .int) "typeComing" false 38 sRI := ok_iret rfl (by decide +kernel : decode cX7_typeComing 38 = .ok (.ireturn, 1))
theorem oc113_0 : ∀ pc, Mnp (c113_0 pc) ∧ Okp RX7 cX7_typeComing 4 (some .int) "typeComing" false pc (c113_0 pc) := by
  intro pc
  unfold c113_0
  split
  · exact ⟨mn_sLI, o113_0⟩
  · exact ⟨mn_sK, o113_1⟩
  · exact ⟨mn_sB2, o113_3⟩
  · exact ⟨mn_sLI, o113_4⟩
  · exact ⟨mn_sB2, o113_5⟩
  · exact ⟨mn_sSI, o113_6⟩
  · exact ⟨mn_sLR, o113_7⟩
  · exact ⟨mn_sGR, o113_8⟩
  · exact ⟨mn_sNl, o113_11⟩
  · exact ⟨mn_sLI, o113_14⟩
  · exact ⟨mn_sI1, o113_15⟩
  · exact ⟨mn_sLI, o113_18⟩
  · exact ⟨mn_sLR, o113_19⟩
  · exact ⟨mn_sGR, o113_20⟩
  · exact ⟨mn_sLen, o113_23⟩
  · exact ⟨mn_sX, ok_X⟩
theorem oc113_1 : ∀ pc, Mnp (c113_1 pc) ∧ Okp RX7 cX7_typeComing 4 (some .int) "typeComing" false pc (c113_1 pc) := by
  intro pc
  unfold c113_1
  split
  · exact ⟨mn_sI2, o113_24⟩
  · exact ⟨mn_sK, o113_27⟩
  · exact ⟨mn_sGo, o113_29⟩
  · exact ⟨mn_sLR, o113_32⟩
  · exact ⟨mn_sGR, o113_33⟩
  · exact ⟨mn_sLI, o113_36⟩
  · exact ⟨mn_sIA, o113_37⟩
  · exact ⟨mn_sRI, o113_38⟩
  · exact ⟨mn_sX, ok_X⟩
theorem oc113 : ∀ pc, Mnp (c113 pc) ∧ Okp RX7 cX7_typeComing 4 (some .int) "typeComing" false pc (c113 pc) := by
  intro pc
  unfold c113
  split
  · exact oc113_0 pc
  · exact oc113_1 pc
  · exact ⟨mn_sX, ok_X⟩
theorem o114_0 : Okp RX7 cX7_setComing 5 none "setComing" false 0 (sLI 1 1) := ok_iload_n (by decide +kernel : decode cX7_setComing 0 = .ok (.iload_n 1, 1)) rfl
theorem o114_1 : Okp RX7 cX7_setComing 5 none "setComing" false 1 (sK 26 3) := ok_bipush (by decide +kernel : decode cX7_setComing 1 = .ok (.bipush 26, 2)) (by decide)
theorem o114_3 : Okp RX7 cX7_setComing 5 none "setComing" false 3 (sB2 fMul 4) := ok_imul (by decide +kernel : decode cX7_setComing 3 = .ok (.imul, 1))
theorem o114_4 : Okp RX7 cX7_setComing 5 none "setComing" false 4 (sLI 2 5) := ok_iload_n (by decide +kernel : decode cX7_setComing 4 = .ok (.iload_n 2, 1)) rfl
theorem o114_5 : Okp RX7 cX7_setComing 5 none "setComing" false 5 (sB2 fAdd 6) := ok_iadd (by decide +kernel : decode cX7_setComing 5 = .ok (.iadd, 1))
theorem o114_6 : Okp RX7 cX7_setComing 5 none "setComing" false 6 (sSI 4 8) := ok_istore (by decide +kernel : decode cX7_setComing 6 = .ok (.istore 4, 2)) (by decide) (by decide)
theorem o114_8 : Okp RX7 cX7_setComing 5 none "setComing" false 8 (sLR 0 9) := ok_aload_n (by decide +kernel : decode cX7_setComing 8 = .ok (.aload_n 0, 1)) rfl
theorem o114_9 : Okp RX7 cX7_setComing 5 none "setComing" false 9 (sGR 8 9 12) := ok_getR (by decide +kernel : decode cX7_setComing 9 = .ok (.getfield 19, 3)) fw_X7_19 rfl
theorem o114_12 : Okp RX7 cX7_setComing 5 none "setComing" false 12 (sNl 38 15) := ok_ifnull (by decide +kernel : decode cX7_setComing 12 = .ok (.ifnull 26, 3)) (by decide)
theorem o114_15 : Okp RX7 cX7_setComing 5 none "setComing" false 15 (sLI 4 17) := ok_iload (by decide +kernel : decode cX7_setComing 15 = .ok (.iload 4, 2))
theorem o114_17 : Okp RX7 cX7_setComing 5 none "setComing" false 17 (sI1 2 38 20) := ok_if_lt (by decide +kernel : decode cX7_setComing 17 = .ok (.ifCond .lt 21, 3)) (by decide)
theorem o114_20 : Okp RX7 cX7_setComing 5 none "setComing" false 20 (sLI 4 22) := ok_iload (by decide +kernel : decode cX7_setComing 20 = .ok (.iload 4, 2))
theorem o114_22 : Okp RX7 cX7_setComing 5 none "setComing" false 22 (sLR 0 23) := ok_aload_n (by decide +kernel : decode cX7_setComing 22 = .ok (.aload_n 0, 1)) rfl
theorem o114_23 : Okp RX7 cX7_setComing 5 none "setComing" false 23 (sGR 8 9 26) := ok_getR (by decide +kernel : decode cX7_setComing 23 = .ok (.getfield 19, 3)) fw_X7_19 rfl
theorem o114_26 : Okp RX7 cX7_setComing 5 none "setComing" false 26 (sLen 27) := ok_alen (by decide +kernel : decode cX7_setComing 26 = .ok (.arraylength, 1))
theorem o114_27 : Okp RX7 cX7_setComing 5 none "setComing" false 27 (sI2 3 38 30) := ok_icmp_ge (by decide +kernel : decode cX7_setComing 27 = .ok (.if_icmp .ge 11, 3)) (by decide)
theorem o114_30 : Okp RX7 cX7_setComing 5 none "setComing" false 30 (sLR 0 31) := ok_aload_n (by decide +kernel : decode cX7_setComing 30 = .ok (.aload_n 0, 1)) rfl
theorem o114_31 : Okp RX7 cX7_setComing 5 none "setComing" false 31 (sGR 8 9 34) := ok_getR (by decide +kernel : decode cX7_setComing 31 = .ok (.getfield 19, 3)) fw_X7_19 rfl
theorem o114_34 : Okp RX7 cX7_setComing 5 none "setComing" false 34 (sLI 4 36) := ok_iload (by decide +kernel : decode cX7_setComing 34 = .ok (.iload 4, 2))
theorem o114_36 : Okp RX7 cX7_setComing 5 none "setComing" false 36 (sLI 3 37) := ok_iload_n (by decide +kernel : decode cX7_setComing 36 = .ok (.iload_n 3, 1)) rfl
theorem o114_37 : Okp RX7 cX7_setComing 5 none "setComing" false 37 (sIS 38) := ok_iastore (by decide +kernel : decode cX7_setComing 37 = .ok (.iastore, 1))
theorem o114_38 : Okp RX7 cX7_setComing 5 none "setComing" false 38 sRV := ok_vret rfl (by decide +kernel : decode cX7_setComing 38 = .ok (.return_, 1))
theorem oc114_0 : ∀ pc, Mnp (c114_0 pc) ∧ Okp RX7 cX7_setComing 5 none "setComing" false pc (c114_0 pc) := by
  intro pc
  unfold c114_0
  split
  · exact ⟨mn_sLI, o114_0⟩
  · exact ⟨mn_sK, o114_1⟩
  · exact ⟨mn_sB2, o114_3⟩
  · exact ⟨mn_sLI, o114_4⟩
  · exact ⟨mn_sB2, o114_5⟩
  · exact ⟨mn_sSI, o114_6⟩
  · exact ⟨mn_sLR, o114_8⟩
  · exact ⟨mn_sGR, o114_9⟩
  · exact ⟨mn_sNl, o114_12⟩
  · exact ⟨mn_sLI, o114_15⟩
  · exact ⟨mn_sI1, o114_17⟩
  · exact ⟨mn_sLI, o114_20⟩
  · exact ⟨mn_sLR, o114_22⟩
  · exact ⟨mn_sGR, o114_23⟩
  · exact ⟨mn_sX, ok_X⟩
theorem oc114_1 : ∀ pc, Mnp (c114_1 pc) ∧ Okp RX7 cX7_setComing 5 none "setComing" false pc (c114_1 pc) := by
  intro pc
  unfold c114_1
  split
  · exact ⟨mn_sLen, o114_26⟩
  · exact ⟨mn_sI2, o114_27⟩
  · exact ⟨mn_sLR, o114_30⟩
  · exact ⟨mn_sGR, o114_31⟩
  · exact ⟨mn_sLI, o114_34⟩
  · exact ⟨mn_sLI, o114_36⟩
  · exact ⟨mn_sIS, o114_37⟩
  · exact ⟨mn_sRV, o114_38⟩
  · exact ⟨mn_sX, ok_X⟩
theorem oc114 : ∀ pc, Mnp (c114 pc) ∧ Okp RX7 cX7_setComing 5 none "setComing" false pc (c114 pc) := by
  intro pc
  unfold c114
  split
  · exact oc114_0 pc
  · exact oc114_1 pc
  · exact ⟨mn_sX, ok_X⟩
theorem o115_0 : Okp RX8 cX8_init 3 none "<init>" false 0 (sLR 0 1) := ok_aload_n (by decide +kernel : decode cX8_init 0 = .ok (.aload_n 0, 1)) rfl
theorem o115_1 : Okp RX8 cX8_init 3 none "<init>" false 1 (sCt 4) := ok_oinit (by decide +kernel : decode cX8_init 1 = .ok (.invokespecial 5, 3)) wq_X8_5 wq_i wq_c
theorem o115_4 : Okp RX8 cX8_init 3 none "<init>" false 4 (sLR 0 5) := ok_aload_n (by decide +kernel : decode cX8_init 4 = .ok (.aload_n 0, 1)) rfl
theorem o115_5 : Okp RX8 cX8_init 3 none "<init>" false 5 (sK 0 6) := ok_iconst (by decide +kernel : decode cX8_init 5 = .ok (.iconst 0, 1)) (by decide)
theorem o115_6 : Okp RX8 cX8_init 3 none "<init>" false 6 (sPI 9 2 9) := ok_putI (by decide +kernel : decode cX8_init 6 = .ok (.putfield 11, 3)) fw_X8_11 ⟨⟨tyX8_ok, nmX8⟩, Or.inl rfl, rfl⟩ rfl
theorem o115_9 : Okp RX8 cX8_init 3 none "<init>" false 9 (sLR 0 10) := ok_aload_n (by decide +kernel : decode cX8_init 9 = .ok (.aload_n 0, 1)) rfl
theorem o115_10 : Okp RX8 cX8_init 3 none "<init>" false 10 (sK 0 11) := ok_iconst (by decide +kernel : decode cX8_init 10 = .ok (.iconst 0, 1)) (by decide)
theorem o115_11 : Okp RX8 cX8_init 3 none "<init>" false 11 (sPI 9 3 14) := ok_putI (by decide +kernel : decode cX8_init 11 = .ok (.putfield 15, 3)) fw_X8_15 ⟨⟨tyX8_ok, nmX8⟩, Or.inl rfl, rfl⟩ rfl
theorem o115_14 : Okp RX8 cX8_init 3 none "<init>" false 14 (sLR 0 15) := ok_aload_n (by decide +kernel : decode cX8_init 14 = .ok (.aload_n 0, 1)) rfl
theorem o115_15 : Okp RX8 cX8_init 3 none "<init>" false 15 (sK 4 16) := ok_iconst (by decide +kernel : decode cX8_init 15 = .ok (.iconst 4, 1)) (by decide)
theorem o115_16 : Okp RX8 cX8_init 3 none "<init>" false 16 (sPI 9 4 19) := ok_putI (by decide +kernel : decode cX8_init 16 = .ok (.putfield 18, 3)) fw_X8_18 ⟨⟨tyX8_ok, nmX8⟩, Or.inl rfl, rfl⟩ rfl
theorem o115_19 : Okp RX8 cX8_init 3 none "<init>" false 19 (sLR 0 20) := ok_aload_n (by decide +kernel : decode cX8_init 19 = .ok (.aload_n 0, 1)) rfl
theorem o115_20 : Okp RX8 cX8_init 3 none "<init>" false 20 (sK 0 21) := ok_iconst (by decide +kernel : decode cX8_init 20 = .ok (.iconst 0, 1)) (by decide)
theorem o115_21 : Okp RX8 cX8_init 3 none "<init>" false 21 (sPI 9 5 24) := ok_putI (by decide +kernel : decode cX8_init 21 = .ok (.putfield 21, 3)) fw_X8_21 ⟨⟨tyX8_ok, nmX8⟩, Or.inl rfl, rfl⟩ rfl
theorem o115_24 : Okp RX8 cX8_init 3 none "<init>" false 24 (sLR 0 25) := ok_aload_n (by decide +kernel : decode cX8_init 24 = .ok (.aload_n 0, 1)) rfl
theorem o115_25 : Okp RX8 cX8_init 3 none "<init>" false 25 (sK 0 26) := ok_iconst (by decide +kernel : decode cX8_init 25 = .ok (.iconst 0, 1)) (by decide)
theorem o115_26 : Okp RX8 cX8_init 3 none "<init>" false 26 (sPI 9 6 29) := ok_putI (by decide +kernel : decode cX8_init 26 = .ok (.putfield 24, 3)) fw_X8_24 ⟨⟨tyX8_ok, nmX8⟩, Or.inl rfl, rfl⟩ rfl
theorem o115_29 : Okp RX8 cX8_init 3 none "<init>" false 29 (sLR 0 30) := ok_aload_n (by decide +kernel : decode cX8_init 29 = .ok (.aload_n 0, 1)) rfl
theorem o115_30 : Okp RX8 cX8_init 3 none "<init>" false 30 (sK 0 31) := ok_iconst (by decide +kernel : decode cX8_init 30 = .ok (.iconst 0, 1)) (by decide)
theorem o115_31 : Okp RX8 cX8_init 3 none "<init>" false 31 (sPI 9 7 34) := ok_putI (by decide +kernel : decode cX8_init 31 = .ok (.putfield 27, 3)) fw_X8_27 ⟨⟨tyX8_ok, nmX8⟩, Or.inl rfl, rfl⟩ rfl
theorem o115_34 : Okp RX8 cX8_init 3 none "<init>" false 34 (sLR 0 35) := ok_aload_n (by decide +kernel : decode cX8_init 34 = .ok (.aload_n 0, 1)) rfl
theorem o115_35 : Okp RX8 cX8_init 3 none "<init>" false 35 (sK 0 36) := ok_iconst (by decide +kernel : decode cX8_init 35 = .ok (.iconst 0, 1)) (by decide)
theorem o115_36 : Okp RX8 cX8_init 3 none "<init>" false 36 (sPI 9 8 39) := ok_putI (by decide +kernel : decode cX8_init 36 = .ok (.putfield 30, 3)) fw_X8_30 ⟨⟨tyX8_ok, nmX8⟩, Or.inl rfl, rfl⟩ rfl
theorem o115_39 : Okp RX8 cX8_init 3 none "<init>" false 39 (sLR 0 40) := ok_aload_n (by decide +kernel : decode cX8_init 39 = .ok (.aload_n 0, 1)) rfl
theorem o115_40 : Okp RX8 cX8_init 3 none "<init>" false 40 (sK 16 42) := ok_bipush (by decide +kernel : decode cX8_init 40 = .ok (.bipush 16, 2)) (by decide)
theorem o115_42 : Okp RX8 cX8_init 3 none "<init>" false 42 (sNA 15 44) := ok_newI (by decide +kernel : decode cX8_init 42 = .ok (.newarray .int, 2)) wa_int
theorem o115_44 : Okp RX8 cX8_init 3 none "<init>" false 44 (sPR 9 9 47) := ok_putR (by decide +kernel : decode cX8_init 44 = .ok (.putfield 33, 3)) fw_X8_33 ⟨⟨tyX8_ok, nmX8⟩, Or.inr ⟨rfl, rfl, rfl⟩, rfl⟩ (Or.inr ⟨_, rfl⟩) rfl
theorem o115_47 : Okp RX8 cX8_init 3 none "<init>" false 47 (sLR 0 48) := ok_aload_n (by decide +kernel : decode cX8_init 47 = .ok (.aload_n 0, 1)) rfl
theorem o115_48 : Okp RX8 cX8_init 3 none "<init>" false 48 (sK 16 50) := ok_bipush (by decide +kernel : decode cX8_init 48 = .ok (.bipush 16, 2)) (by decide)
theorem o115_50 : Okp RX8 cX8_init 3 none "<init>" false 50 (sNA 15 52) := ok_newI (by decide +kernel : decode cX8_init 50 = .ok (.newarray .int, 2)) wa_int
theorem o115_52 : Okp RX8 cX8_init 3 none "<init>" false 52 (sPR 9 10 55) := ok_putR (by decide +kernel : decode cX8_init 52 = .ok (.putfield 37, 3)) fw_X8_37 ⟨⟨tyX8_ok, nmX8⟩, Or.inr ⟨rfl, rfl, rfl⟩, rfl⟩ (Or.inr ⟨_, rfl⟩) rfl
theorem o115_55 : Okp RX8 cX8_init 3 none "<init>" false 55 (sLR 0 56) := ok_aload_n (by decide +kernel : decode cX8_init 55 = .ok (.aload_n 0, 1)) rfl
theorem o115_56 : Okp RX8 cX8_init 3 none "<init>" false 56 (sK 16 58) := ok_bipush (by decide +kernel : decode cX8_init 56 = .ok (.bipush 16, 2)) (by decide)
theorem o115_58 : Okp RX8 cX8_init 3 none "<init>" false 58 (sNA 15 60) := ok_newI (by decide +kernel : decode cX8_init 58 = .ok (.newarray .int, 2)) wa_int
theorem o115_60 : Okp RX8 cX8_init 3 none "<init>" false 60 (sPR 9 11 63) := ok_putR (by decide +kernel : decode cX8_init 60 = .ok (.putfield 40, 3)) fw_X8_40 ⟨⟨tyX8_ok, nmX8⟩, Or.inr ⟨rfl, rfl, rfl⟩, rfl⟩ (Or.inr ⟨_, rfl⟩) rfl
theorem o115_63 : Okp RX8 cX8_init 3 none "<init>" false 63 (sLR 0 64) := ok_aload_n (by decide +kernel : decode cX8_init 63 = .ok (.aload_n 0, 1)) rfl
theorem o115_64 : Okp RX8 cX8_init 3 none "<init>" false 64 (sK 416 67) := ok_sipush (by decide +kernel : decode cX8_init 64 = .ok (.sipush 416, 3)) (by decide)
theorem o115_67 : Okp RX8 cX8_init 3 none "<init>" false 67 (sNA 15 69) := ok_newI (by decide +kernel : decode cX8_init 67 = .ok (.newarray .int, 2)) wa_int
theorem o115_69 : Okp RX8 cX8_init 3 none "<init>" false 69 (sPR 9 12 72) := ok_putR (by decide +kernel : decode cX8_init 69 = .ok (.putfield 43, 3)) fw_X8_43 ⟨⟨tyX8_ok, nmX8⟩, Or.inr ⟨rfl, rfl, rfl⟩, rfl⟩ (Or.inr ⟨_, rfl⟩) rfl
theorem o115_72 : Okp RX8 cX8_init 3 none "<init>" false 72 (sLR 0 73) := ok_aload_n (by decide +kernel : decode cX8_init 72 = .ok (.aload_n 0, 1)) rfl
theorem o115_73 : Okp RX8 cX8_init 3 none "<init>" false 73 (sK 416 76) := ok_sipush (by decide +kernel : decode cX8_init 73 = .ok (.sipush 416, 3)) (by decide)
theorem o115_76 : Okp RX8 cX8_init 3 none "<init>" false 76 (sNA 15 78) := ok_newI (by decide +kernel : decode cX8_init 76 = .ok (.newarray .int, 2)) wa_int
theorem o115_78 : Okp RX8 cX8_init 3 none "<init>" false 78 (sPR 9 13 81) := ok_putR (by decide +kernel : decode cX8_init 78 = .ok (.putfield 46, 3)) fw_X8_46 ⟨⟨tyX8_ok, nmX8⟩, Or.inr ⟨rfl, rfl, rfl⟩, rfl⟩ (Or.inr ⟨_, rfl⟩) rfl
theorem o115_81 : Okp RX8 cX8_init 3 none "<init>" false 81 (sLR 0 82) := ok_aload_n (by decide +kernel : decode cX8_init 81 = .ok (.aload_n 0, 1)) rfl
theorem o115_82 : Okp RX8 cX8_init 3 none "<init>" false 82 (sK 0 83) := ok_iconst (by decide +kernel : decode cX8_init 82 = .ok (.iconst 0, 1)) (by decide)
theorem o115_83 : Okp RX8 cX8_init 3 none "<init>" false 83 (sPI 9 14 86) := ok_putI (by decide +kernel : decode cX8_init 83 = .ok (.putfield 49, 3)) fw_X8_49 ⟨⟨tyX8_ok, nmX8⟩, Or.inl rfl, rfl⟩ rfl
theorem o115_86 : Okp RX8 cX8_init 3 none "<init>" false 86 (sLR 0 87) := ok_aload_n (by decide +kernel : decode cX8_init 86 = .ok (.aload_n 0, 1)) rfl
theorem o115_87 : Okp RX8 cX8_init 3 none "<init>" false 87 (sK 1025 90) := ok_sipush (by decide +kernel : decode cX8_init 87 = .ok (.sipush 1025, 3)) (by decide)
theorem o115_90 : Okp RX8 cX8_init 3 none "<init>" false 90 (sNA 15 92) := ok_newI (by decide +kernel : decode cX8_init 90 = .ok (.newarray .int, 2)) wa_int
theorem o115_92 : Okp RX8 cX8_init 3 none "<init>" false 92 (sPR 9 15 95) := ok_putR (by decide +kernel : decode cX8_init 92 = .ok (.putfield 52, 3)) fw_X8_52 ⟨⟨tyX8_ok, nmX8⟩, Or.inl rfl, rfl⟩ (Or.inr ⟨_, rfl⟩) rfl
theorem o115_95 : Okp RX8 cX8_init 3 none "<init>" false 95 (sLR 0 96) := ok_aload_n (by decide +kernel : decode cX8_init 95 = .ok (.aload_n 0, 1)) rfl
theorem o115_96 : Okp RX8 cX8_init 3 none "<init>" false 96 (sK 1 97) := ok_iconst (by decide +kernel : decode cX8_init 96 = .ok (.iconst 1, 1)) (by decide)
theorem o115_97 : Okp RX8 cX8_init 3 none "<init>" false 97 (sPI 9 16 100) := ok_putI (by decide +kernel : decode cX8_init 97 = .ok (.putfield 55, 3)) fw_X8_55 ⟨⟨tyX8_ok, nmX8⟩, Or.inl rfl, rfl⟩ rfl
theorem o115_100 : Okp RX8 cX8_init 3 none "<init>" false 100 (sLR 0 101) := ok_aload_n (by decide +kernel : decode cX8_init 100 = .ok (.aload_n 0, 1)) rfl
theorem o115_101 : Okp RX8 cX8_init 3 none "<init>" false 101 (sLI 1 102) := ok_iload_n (by decide +kernel : decode cX8_init 101 = .ok (.iload_n 1, 1)) rfl
theorem o115_102 : Okp RX8 cX8_init 3 none "<init>" false 102 (sPI 9 0 105) := ok_putI (by decide +kernel : decode cX8_init 102 = .ok (.putfield 58, 3)) fw_X8_58 ⟨⟨tyX8_ok, nmX8⟩, Or.inr ⟨rfl, rfl, rfl⟩, rfl⟩ rfl
theorem o115_105 : Okp RX8 cX8_init 3 none "<init>" false 105 (sLR 0 106) := ok_aload_n (by decide +kernel : decode cX8_init 105 = .ok (.aload_n 0, 1)) rfl
theorem o115_106 : Okp RX8 cX8_init 3 none "<init>" false 106 (sLR 2 107) := ok_aload_n (by decide +kernel : decode cX8_init 106 = .ok (.aload_n 2, 1)) rfl
theorem o115_107 : Okp RX8 cX8_init 3 none "<init>" false 107 (sPR 9 1 110) := ok_putR (by decide +kernel : decode cX8_init 107 = .ok (.putfield 61, 3)) fw_X8_61 ⟨⟨tyX8_ok, nmX8⟩, Or.inl rfl, rfl⟩ (Or.inl ⟨_, rfl⟩) rfl
theorem o115_110 : Okp RX8 cX8_init 3 none "<init>" false 110 sRV := ok_vret rfl (by decide +kernel : decode cX8_init 110 = .ok (.return_, 1))
theorem oc115_0 : ∀ pc, Mnp (c115_0 pc) ∧ Okp RX8 cX8_init 3 none "<init>" false pc (c115_0 pc) := by
  intro pc
  unfold c115_0
  split
  · exact ⟨mn_sLR, o115_0⟩
  · exact ⟨mn_sCt, o115_1⟩
  · exact ⟨mn_sLR, o115_4⟩
  · exact ⟨mn_sK, o115_5⟩
  · exact ⟨mn_sPI, o115_6⟩
  · exact ⟨mn_sLR, o115_9⟩
  · exact ⟨mn_sK, o115_10⟩
  · exact ⟨mn_sPI, o115_11⟩
  · exact ⟨mn_sLR, o115_14⟩
  · exact ⟨mn_sK, o115_15⟩
  · exact ⟨mn_sPI, o115_16⟩
  · exact ⟨mn_sLR, o115_19⟩
  · exact ⟨mn_sK, o115_20⟩
  · exact ⟨mn_sPI, o115_21⟩
  · exact ⟨mn_sX, ok_X⟩
theorem oc115_1 : ∀ pc, Mnp (c115_1 pc) ∧ Okp RX8 cX8_init 3 none "<init>" false pc (c115_1 pc) := by
  intro pc
  unfold c115_1
  split
  · exact ⟨mn_sLR, o115_24⟩
  · exact ⟨mn_sK, o115_25⟩
  · exact ⟨mn_sPI, o115_26⟩
  · exact ⟨mn_sLR, o115_29⟩
  · exact ⟨mn_sK, o115_30⟩
  · exact ⟨mn_sPI, o115_31⟩
  · exact ⟨mn_sLR, o115_34⟩
  · exact ⟨mn_sK, o115_35⟩
  · exact ⟨mn_sPI, o115_36⟩
  · exact ⟨mn_sLR, o115_39⟩
  · exact ⟨mn_sK, o115_40⟩
  · exact ⟨mn_sNA, o115_42⟩
  · exact ⟨mn_sPR, o115_44⟩
  · exact ⟨mn_sLR, o115_47⟩
  · exact ⟨mn_sX, ok_X⟩
theorem oc115_2 : ∀ pc, Mnp (c115_2 pc) ∧ Okp RX8 cX8_init 3 none "<init>" false pc (c115_2 pc) := by
  intro pc
  unfold c115_2
  split
  · exact ⟨mn_sK, o115_48⟩
  · exact ⟨mn_sNA, o115_50⟩
  · exact ⟨mn_sPR, o115_52⟩
  · exact ⟨mn_sLR, o115_55⟩
  · exact ⟨mn_sK, o115_56⟩
  · exact ⟨mn_sNA, o115_58⟩
  · exact ⟨mn_sPR, o115_60⟩
  · exact ⟨mn_sLR, o115_63⟩
  · exact ⟨mn_sK, o115_64⟩
  · exact ⟨mn_sNA, o115_67⟩
  · exact ⟨mn_sPR, o115_69⟩
  · exact ⟨mn_sX, ok_X⟩
theorem oc115_3 : ∀ pc, Mnp (c115_3 pc) ∧ Okp RX8 cX8_init 3 none "<init>" false pc (c115_3 pc) := by
  intro pc
  unfold c115_3
  split
  · exact ⟨mn_sLR, o115_72⟩
  · exact ⟨mn_sK, o115_73⟩
  · exact ⟨mn_sNA, o115_76⟩
  · exact ⟨mn_sPR, o115_78⟩
  · exact ⟨mn_sLR, o115_81⟩
  · exact ⟨mn_sK, o115_82⟩
  · exact ⟨mn_sPI, o115_83⟩
  · exact ⟨mn_sLR, o115_86⟩
  · exact ⟨mn_sK, o115_87⟩
  · exact ⟨mn_sNA, o115_90⟩
  · exact ⟨mn_sPR, o115_92⟩
  · exact ⟨mn_sLR, o115_95⟩
  · exact ⟨mn_sX, ok_X⟩
theorem oc115_4 : ∀ pc, Mnp (c115_4 pc) ∧ Okp RX8 cX8_init 3 none "<init>" false pc (c115_4 pc) := by
  intro pc
  unfold c115_4
  split
  · exact ⟨mn_sK, o115_96⟩
  · exact ⟨mn_sPI, o115_97⟩
  · exact ⟨mn_sLR, o115_100⟩
  · exact ⟨mn_sLI, o115_101⟩
  · exact ⟨mn_sPI, o115_102⟩
  · exact ⟨mn_sLR, o115_105⟩
  · exact ⟨mn_sLR, o115_106⟩
  · exact ⟨mn_sPR, o115_107⟩
  · exact ⟨mn_sRV, o115_110⟩
  · exact ⟨mn_sX, ok_X⟩
theorem oc115 : ∀ pc, Mnp (c115 pc) ∧ Okp RX8 cX8_init 3 none "<init>" false pc (c115 pc) := by
  intro pc
  unfold c115
  split
  · exact oc115_0 pc
  · exact oc115_1 pc
  · exact oc115_2 pc
  · exact oc115_3 pc
  · exact oc115_4 pc
  · exact ⟨mn_sX, ok_X⟩
theorem o116_0 : Okp RX8 cX8_begin 5 none "begin" false 0 (sLR 0 1) := ok_aload_n (by decide +kernel : decode cX8_begin 0 = .ok (.aload_n 0, 1)) rfl
theorem o116_1 : Okp RX8 cX8_begin 5 none "begin" false 1 (sLR 1 2) := ok_aload_n (by decide +kernel : decode cX8_begin 1 = .ok (.aload_n 1, 1)) rfl
theorem o116_2 : Okp RX8 cX8_begin 5 none "begin" false 2 (sPR 9 1 5) := ok_putR (by decide +kernel : decode cX8_begin 2 = .ok (.putfield 61, 3)) fw_X8_61 ⟨⟨tyX8_ok, nmX8⟩, Or.inl rfl, rfl⟩ (Or.inl ⟨_, rfl⟩) rfl
theorem o116_5 : Okp RX8 cX8_begin 5 none "begin" false 5 (sLR 0 6) := ok_aload_n (by decide +kernel : decode cX8_begin 5 = .ok (.aload_n 0, 1)) rfl
theorem o116_6 : Okp RX8 cX8_begin 5 none "begin" false 6 (sLI 2 7) := ok_iload_n (by decide +kernel : decode cX8_begin 6 = .ok (.iload_n 2, 1)) rfl
theorem o116_7 : Okp RX8 cX8_begin 5 none "begin" false 7 (sPI 9 2 10) := ok_putI (by decide +kernel : decode cX8_begin 7 = .ok (.putfield 11, 3)) fw_X8_11 ⟨⟨tyX8_ok, nmX8⟩, Or.inl rfl, rfl⟩ rfl
theorem o116_10 : Okp RX8 cX8_begin 5 none "begin" false 10 (sLR 0 11) := ok_aload_n (by decide +kernel : decode cX8_begin 10 = .ok (.aload_n 0, 1)) rfl
theorem o116_11 : Okp RX8 cX8_begin 5 none "begin" false 11 (sK 0 12) := ok_iconst (by decide +kernel : decode cX8_begin 11 = .ok (.iconst 0, 1)) (by decide)
theorem o116_12 : Okp RX8 cX8_begin 5 none "begin" false 12 (sLI 4 14) := ok_iload (by decide +kernel : decode cX8_begin 12 = .ok (.iload 4, 2))
theorem o116_14 : Okp RX8 cX8_begin 5 none "begin" false 14 (sK 1024 17) := ok_sipush (by decide +kernel : decode cX8_begin 14 = .ok (.sipush 1024, 3)) (by decide)
theorem o116_17 : Okp RX8 cX8_begin 5 none "begin" false 17 (sM2 fMin 20) := ok_min (by decide +kernel : decode cX8_begin 17 = .ok (.invokestatic 65, 3)) wq_X8_65 wq_smin wq_im wq_cmin
theorem o116_20 : Okp RX8 cX8_begin 5 none "begin" false 20 (sM2 fMax 23) := ok_max (by decide +kernel : decode cX8_begin 20 = .ok (.invokestatic 71, 3)) wq_X8_71 wq_smax wq_im wq_cmax
theorem o116_23 : Okp RX8 cX8_begin 5 none "begin" false 23 (sPI 9 3 26) := ok_putI (by decide +kernel : decode cX8_begin 23 = .ok (.putfield 15, 3)) fw_X8_15 ⟨⟨tyX8_ok, nmX8⟩, Or.inl rfl, rfl⟩ rfl
theorem o116_26 : Okp RX8 cX8_begin 5 none "begin" false 26 (sLR 0 27) := ok_aload_n (by decide +kernel : decode cX8_begin 26 = .ok (.aload_n 0, 1)) rfl
theorem o116_27 : Okp RX8 cX8_begin 5 none "begin" false 27 (sK 1 28) := ok_iconst (by decide +kernel : decode cX8_begin 27 = .ok (.iconst 1, 1)) (by decide)
theorem o116_28 : Okp RX8 cX8_begin 5 none "begin" false 28 (sPI 9 4 31) := ok_putI (by decide +kernel : decode cX8_begin 28 = .ok (.putfield 18, 3)) fw_X8_18 ⟨⟨tyX8_ok, nmX8⟩, Or.inl rfl, rfl⟩ rfl
theorem o116_31 : Okp RX8 cX8_begin 5 none "begin" false 31 (sLR 0 32) := ok_aload_n (by decide +kernel : decode cX8_begin 31 = .ok (.aload_n 0, 1)) rfl
theorem o116_32 : Okp RX8 cX8_begin 5 none "begin" false 32 (sK 0 33) := ok_iconst (by decide +kernel : decode cX8_begin 32 = .ok (.iconst 0, 1)) (by decide)
theorem o116_33 : Okp RX8 cX8_begin 5 none "begin" false 33 (sPI 9 5 36) := ok_putI (by decide +kernel : decode cX8_begin 33 = .ok (.putfield 21, 3)) fw_X8_21 ⟨⟨tyX8_ok, nmX8⟩, Or.inl rfl, rfl⟩ rfl
theorem o116_36 : Okp RX8 cX8_begin 5 none "begin" false 36 (sLR 0 37) := ok_aload_n (by decide +kernel : decode cX8_begin 36 = .ok (.aload_n 0, 1)) rfl
theorem o116_37 : Okp RX8 cX8_begin 5 none "begin" false 37 (sK 0 38) := ok_iconst (by decide +kernel : decode cX8_begin 37 = .ok (.iconst 0, 1)) (by decide)
theorem o116_38 : Okp RX8 cX8_begin 5 none "begin" false 38 (sPI 9 6 41) := ok_putI (by decide +kernel : decode cX8_begin 38 = .ok (.putfield 24, 3)) fw_X8_24 ⟨⟨tyX8_ok, nmX8⟩, Or.inl rfl, rfl⟩ rfl
theorem o116_41 : Okp RX8 cX8_begin 5 none "begin" false 41 (sLR 0 42) := ok_aload_n (by decide +kernel : decode cX8_begin 41 = .ok (.aload_n 0, 1)) rfl
theorem o116_42 : Okp RX8 cX8_begin 5 none "begin" false 42 (sK 0 43) := ok_iconst (by decide +kernel : decode cX8_begin 42 = .ok (.iconst 0, 1)) (by decide)
theorem o116_43 : Okp RX8 cX8_begin 5 none "begin" false 43 (sPI 9 7 46) := ok_putI (by decide +kernel : decode cX8_begin 43 = .ok (.putfield 27, 3)) fw_X8_27 ⟨⟨tyX8_ok, nmX8⟩, Or.inl rfl, rfl⟩ rfl
theorem o116_46 : Okp RX8 cX8_begin 5 none "begin" false 46 (sLR 0 47) := ok_aload_n (by decide +kernel : decode cX8_begin 46 = .ok (.aload_n 0, 1)) rfl
theorem o116_47 : Okp RX8 cX8_begin 5 none "begin" false 47 (sK 1 48) := ok_iconst (by decide +kernel : decode cX8_begin 47 = .ok (.iconst 1, 1)) (by decide)
theorem o116_48 : Okp RX8 cX8_begin 5 none "begin" false 48 (sPI 9 16 51) := ok_putI (by decide +kernel : decode cX8_begin 48 = .ok (.putfield 55, 3)) fw_X8_55 ⟨⟨tyX8_ok, nmX8⟩, Or.inl rfl, rfl⟩ rfl
theorem o116_51 : Okp RX8 cX8_begin 5 none "begin" false 51 (sLR 0 52) := ok_aload_n (by decide +kernel : decode cX8_begin 51 = .ok (.aload_n 0, 1)) rfl
theorem o116_52 : Okp RX8 cX8_begin 5 none "begin" false 52 (sLI 3 53) := ok_iload_n (by decide +kernel : decode cX8_begin 52 = .ok (.iload_n 3, 1)) rfl
theorem o116_53 : Okp RX8 cX8_begin 5 none "begin" false 53 (sCV false 118 2 9 56) := ok_cv (by decide +kernel : decode cX8_begin 53 = .ok (.invokevirtual 74, 3)) mw_X8_74 rfl (by decide) wm_X8_enter wse_X8_enter (by decide) rfl
theorem o116_56 : Okp RX8 cX8_begin 5 none "begin" false 56 (sPop 57) := ok_pop (by decide +kernel : decode cX8_begin 56 = .ok (.pop, 1))
theorem o116_57 : Okp RX8 cX8_begin 5 none "begin" false 57 sRV := ok_vret rfl (by decide +kernel : decode cX8_begin 57 = .ok (.return_, 1))
theorem oc116_0 : ∀ pc, Mnp (c116_0 pc) ∧ Okp RX8 cX8_begin 5 none "begin" false pc (c116_0 pc) := by
  intro pc
  unfold c116_0
  split
  · exact ⟨mn_sLR, o116_0⟩
  · exact ⟨mn_sLR, o116_1⟩
  · exact ⟨mn_sPR, o116_2⟩
  · exact ⟨mn_sLR, o116_5⟩
  · exact ⟨mn_sLI, o116_6⟩
  · exact ⟨mn_sPI, o116_7⟩
  · exact ⟨mn_sLR, o116_10⟩
  · exact ⟨mn_sK, o116_11⟩
  · exact ⟨mn_sLI, o116_12⟩
  · exact ⟨mn_sK, o116_14⟩
  · exact ⟨mn_sM2, o116_17⟩
  · exact ⟨mn_sM2, o116_20⟩
  · exact ⟨mn_sPI, o116_23⟩
  · exact ⟨mn_sX, ok_X⟩
theorem oc116_1 : ∀ pc, Mnp (c116_1 pc) ∧ Okp RX8 cX8_begin 5 none "begin" false pc (c116_1 pc) := by
  intro pc
  unfold c116_1
  split
  · exact ⟨mn_sLR, o116_26⟩
  · exact ⟨mn_sK, o116_27⟩
  · exact ⟨mn_sPI, o116_28⟩
  · exact ⟨mn_sLR, o116_31⟩
  · exact ⟨mn_sK, o116_32⟩
  · exact ⟨mn_sPI, o116_33⟩
  · exact ⟨mn_sLR, o116_36⟩
  · exact ⟨mn_sK, o116_37⟩
  · exact ⟨mn_sPI, o116_38⟩
  · exact ⟨mn_sLR, o116_41⟩
  · exact ⟨mn_sK, o116_42⟩
  · exact ⟨mn_sPI, o116_43⟩
  · exact ⟨mn_sLR, o116_46⟩
  · exact ⟨mn_sK, o116_47⟩
  · exact ⟨mn_sX, ok_X⟩
theorem oc116_2 : ∀ pc, Mnp (c116_2 pc) ∧ Okp RX8 cX8_begin 5 none "begin" false pc (c116_2 pc) := by
  intro pc
  unfold c116_2
  split
  · exact ⟨mn_sPI, o116_48⟩
  · exact ⟨mn_sLR, o116_51⟩
  · exact ⟨mn_sLI, o116_52⟩
  · exact ⟨mn_sCV, o116_53⟩
  · exact ⟨mn_sPop, o116_56⟩
  · exact ⟨mn_sRV, o116_57⟩
  · exact ⟨mn_sX, ok_X⟩
theorem oc116 : ∀ pc, Mnp (c116 pc) ∧ Okp RX8 cX8_begin 5 none "begin" false pc (c116 pc) := by
  intro pc
  unfold c116
  split
  · exact oc116_0 pc
  · exact oc116_1 pc
  · exact oc116_2 pc
  · exact ⟨mn_sX, ok_X⟩
theorem o117_0 : Okp RX8 cX8_isOver 1 (some .boolean) "isOver" false 0 (sLR 0 1) := ok_aload_n (by decide +kernel : decode cX8_isOver 0 = .ok (.aload_n 0, 1)) rfl
theorem o117_1 : Okp RX8 cX8_isOver 1 (some .boolean) "isOver" false 1 (sGI 9 4 4) := ok_getI (by decide +kernel : decode cX8_isOver 1 = .ok (.getfield 18, 3)) fw_X8_18 rfl
theorem o117_4 : Okp RX8 cX8_isOver 1 (some .boolean) "isOver" false 4 (sK 4 5) := ok_iconst (by decide +kernel : decode cX8_isOver 4 = .ok (.iconst 4, 1)) (by decide)
theorem o117_5 : Okp RX8 cX8_isOver 1 (some .boolean) "isOver" false 5 (sI2 3 16 8) := ok_icmp_ge (by decide +kernel : decode cX8_isOver 5 = .ok (.if_icmp .ge 11, 3)) (by decide)
theorem o117_8 : Okp RX8 cX8_isOver 1 (some .boolean) "isOver" false 8 (sLR 0 9) := ok_aload_n (by decide +kernel : decode cX8_isOver 8 = .ok (.aload_n 0, 1)) rfl
theorem o117_9 : Okp RX8 cX8_isOver 1 (some .boolean) "isOver" false 9 (sGI 9 7 12) := ok_getI (by decide +kernel : decode cX8_isOver 9 = .ok (.getfield 27, 3)) fw_X8_27 rfl
theorem o117_12 : Okp RX8 cX8_isOver 1 (some .boolean) "isOver" false 12 (sK 1 13) := ok_iconst (by decide +kernel : decode cX8_isOver 12 = .ok (.iconst 1, 1)) (by decide)
theorem o117_13 : Okp RX8 cX8_isOver 1 (some .boolean) "isOver" false 13 (sI2 3 20 16) := ok_icmp_ge (by decide +kernel : decode cX8_isOver 13 = .ok (.if_icmp .ge 7, 3)) (by decide)
theorem o117_16 : Okp RX8 cX8_isOver 1 (some .boolean) "isOver" false 16 (sK 1 17) := ok_iconst (by decide +kernel : decode cX8_isOver 16 = .ok (.iconst 1, 1)) (by decide)
theorem o117_17 : Okp RX8 cX8_isOver 1 (some .boolean) "isOver" false 17 (sGo 21) := ok_goto (by decide +kernel : decode cX8_isOver 17 = .ok (.goto 4, 3)) (by decide)
theorem o117_20 : Okp RX8 cX8_isOver 1 (some .boolean) "isOver" false 20 (sK 0 21) := ok_iconst (by decide +kernel : decode cX8_isOver 20 = .ok (.iconst 0, 1)) (by decide)
theorem o117_21 : Okp RX8 cX8_isOver 1 (some .boolean) "isOver" false 21 sRZ := ok_zret rfl (by decide +kernel : decode cX8_isOver 21 = .ok (.ireturn, 1))
theorem oc117 : ∀ pc, Mnp (c117 pc) ∧ Okp RX8 cX8_isOver 1 (some .boolean) "isOver" false pc (c117 pc) := by
  intro pc
  unfold c117
  split
  · exact ⟨mn_sLR, o117_0⟩
  · exact ⟨mn_sGI, o117_1⟩
  · exact ⟨mn_sK, o117_4⟩
  · exact ⟨mn_sI2, o117_5⟩
  · exact ⟨mn_sLR, o117_8⟩
  · exact ⟨mn_sGI, o117_9⟩
  · exact ⟨mn_sK, o117_12⟩
  · exact ⟨mn_sI2, o117_13⟩
  · exact ⟨mn_sK, o117_16⟩
  · exact ⟨mn_sGo, o117_17⟩
  · exact ⟨mn_sK, o117_20⟩
  · exact ⟨mn_sRZ, o117_21⟩
  · exact ⟨mn_sX, ok_X⟩
theorem o118_0 : Okp RX8 cX8_enter 3 (some .boolean) "enter" false 0 (sLR 0 1) := ok_aload_n (by decide +kernel : decode cX8_enter 0 = .ok (.aload_n 0, 1)) rfl
theorem o118_1 : Okp RX8 cX8_enter 3 (some .boolean) "enter" false 1 (sGI 9 7 4) := ok_getI (by decide +kernel : decode cX8_enter 1 = .ok (.getfield 27, 3)) fw_X8_27 rfl
theorem o118_4 : Okp RX8 cX8_enter 3 (some .boolean) "enter" false 4 (sK 16 6) := ok_bipush (by decide +kernel : decode cX8_enter 4 = .ok (.bipush 16, 2)) (by decide)
theorem o118_6 : Okp RX8 cX8_enter 3 (some .boolean) "enter" false 6 (sI2 2 11 9) := ok_icmp_lt (by decide +kernel : decode cX8_enter 6 = .ok (.if_icmp .lt 5, 3)) (by decide)
theorem o118_9 : Okp RX8 cX8_enter 3 (some .boolean) "enter" false 9 (sK 0 10) := ok_iconst (by decide +kernel : decode cX8_enter 9 = .ok (.iconst 0, 1)) (by decide)
theorem o118_10 : Okp RX8 cX8_enter 3 (some .boolean) "enter" false 10 sRZ := ok_zret rfl (by decide +kernel : decode cX8_enter 10 = .ok (.ireturn, 1))
theorem o118_11 : Okp RX8 cX8_enter 3 (some .boolean) "enter" false 11 (sLR 0 12) := ok_aload_n (by decide +kernel : decode cX8_enter 11 = .ok (.aload_n 0, 1)) rfl
theorem o118_12 : Okp RX8 cX8_enter 3 (some .boolean) "enter" false 12 (sLR 0 13) := ok_aload_n (by decide +kernel : decode cX8_enter 12 = .ok (.aload_n 0, 1)) rfl
theorem o118_13 : Okp RX8 cX8_enter 3 (some .boolean) "enter" false 13 (sGI 9 7 16) := ok_getI (by decide +kernel : decode cX8_enter 13 = .ok (.getfield 27, 3)) fw_X8_27 rfl
theorem o118_16 : Okp RX8 cX8_enter 3 (some .boolean) "enter" false 16 (sPI 9 8 19) := ok_putI (by decide +kernel : decode cX8_enter 16 = .ok (.putfield 30, 3)) fw_X8_30 ⟨⟨tyX8_ok, nmX8⟩, Or.inl rfl, rfl⟩ rfl
theorem o118_19 : Okp RX8 cX8_enter 3 (some .boolean) "enter" false 19 (sLR 0 20) := ok_aload_n (by decide +kernel : decode cX8_enter 19 = .ok (.aload_n 0, 1)) rfl
theorem o118_20 : Okp RX8 cX8_enter 3 (some .boolean) "enter" false 20 (sDup 21) := ok_dup (by decide +kernel : decode cX8_enter 20 = .ok (.dup, 1))
theorem o118_21 : Okp RX8 cX8_enter 3 (some .boolean) "enter" false 21 (sGI 9 7 24) := ok_getI (by decide +kernel : decode cX8_enter 21 = .ok (.getfield 27, 3)) fw_X8_27 rfl
theorem o118_24 : Okp RX8 cX8_enter 3 (some .boolean) "enter" false 24 (sK 1 25) := ok_iconst (by decide +kernel : decode cX8_enter 24 = .ok (.iconst 1, 1)) (by decide)
theorem o118_25 : Okp RX8 cX8_enter 3 (some .boolean) "enter" false 25 (sB2 fAdd 26) := ok_iadd (by decide +kernel : decode cX8_enter 25 = .ok (.iadd, 1))
theorem o118_26 : Okp RX8 cX8_enter 3 (some .boolean) "enter" false 26 (sPI 9 7 29) := ok_putI (by decide +kernel : decode cX8_enter 26 = .ok (.putfield 27, 3)) fw_X8_27 ⟨⟨tyX8_ok, nmX8⟩, Or.inl rfl, rfl⟩ rfl
theorem o118_29 : Okp RX8 cX8_enter 3 (some .boolean) "enter" false 29 (sLR 0 30) := ok_aload_n (by decide +kernel : decode cX8_enter 29 = .ok (.aload_n 0, 1)) rfl
theorem o118_30 : Okp RX8 cX8_enter 3 (some .boolean) "enter" false 30 (sGR 9 9 33) := ok_getR (by decide +kernel : decode cX8_enter 30 = .ok (.getfield 33, 3)) fw_X8_33 rfl
theorem o118_33 : Okp RX8 cX8_enter 3 (some .boolean) "enter" false 33 (sLR 0 34) := ok_aload_n (by decide +kernel : decode cX8_enter 33 = .ok (.aload_n 0, 1)) rfl
theorem o118_34 : Okp RX8 cX8_enter 3 (some .boolean) "enter" false 34 (sGI 9 8 37) := ok_getI (by decide +kernel : decode cX8_enter 34 = .ok (.getfield 30, 3)) fw_X8_30 rfl
theorem o118_37 : Okp RX8 cX8_enter 3 (some .boolean) "enter" false 37 (sLI 1 38) := ok_iload_n (by decide +kernel : decode cX8_enter 37 = .ok (.iload_n 1, 1)) rfl
theorem o118_38 : Okp RX8 cX8_enter 3 (some .boolean) "enter" false 38 (sIS 39) := ok_iastore (by decide +kernel : decode cX8_enter 38 = .ok (.iastore, 1))
theorem o118_39 : Okp RX8 cX8_enter 3 (some .boolean) "enter" false 39 (sLR 0 40) := ok_aload_n (by decide +kernel : decode cX8_enter 39 = .ok (.aload_n 0, 1)) rfl
theorem o118_40 : Okp RX8 cX8_enter 3 (some .boolean) "enter" false 40 (sGR 9 10 43) := ok_getR (by decide +kernel : decode cX8_enter 40 = .ok (.getfield 37, 3)) fw_X8_37 rfl
theorem o118_43 : Okp RX8 cX8_enter 3 (some .boolean) "enter" false 43 (sLR 0 44) := ok_aload_n (by decide +kernel : decode cX8_enter 43 = .ok (.aload_n 0, 1)) rfl
theorem o118_44 : Okp RX8 cX8_enter 3 (some .boolean) "enter" false 44 (sGI 9 8 47) := ok_getI (by decide +kernel : decode cX8_enter 44 = .ok (.getfield 30, 3)) fw_X8_30 rfl
theorem o118_47 : Okp RX8 cX8_enter 3 (some .boolean) "enter" false 47 (sK 0 48) := ok_iconst (by decide +kernel : decode cX8_enter 47 = .ok (.iconst 0, 1)) (by decide)
theorem o118_48 : Okp RX8 cX8_enter 3 (some .boolean) "enter" false 48 (sIS 49) := ok_iastore (by decide +kernel : decode cX8_enter 48 = .ok (.iastore, 1))
theorem o118_49 : Okp RX8 cX8_enter 3 (some .boolean) "enter" false 49 (sLR 0 50) := ok_aload_n (by decide +kernel : decode cX8_enter 49 = .ok (.aload_n 0, 1)) rfl
theorem o118_50 : Okp RX8 cX8_enter 3 (some .boolean) "enter" false 50 (sGR 9 11 53) := ok_getR (by decide +kernel : decode cX8_enter 50 = .ok (.getfield 40, 3)) fw_X8_40 rfl
theorem o118_53 : Okp RX8 cX8_enter 3 (some .boolean) "enter" false 53 (sLR 0 54) := ok_aload_n (by decide +kernel : decode cX8_enter 53 = .ok (.aload_n 0, 1)) rfl
theorem o118_54 : Okp RX8 cX8_enter 3 (some .boolean) "enter" false 54 (sGI 9 8 57) := ok_getI (by decide +kernel : decode cX8_enter 54 = .ok (.getfield 30, 3)) fw_X8_30 rfl
theorem o118_57 : Okp RX8 cX8_enter 3 (some .boolean) "enter" false 57 (sK 0 58) := ok_iconst (by decide +kernel : decode cX8_enter 57 = .ok (.iconst 0, 1)) (by decide)
theorem o118_58 : Okp RX8 cX8_enter 3 (some .boolean) "enter" false 58 (sIS 59) := ok_iastore (by decide +kernel : decode cX8_enter 58 = .ok (.iastore, 1))
theorem o118_59 : Okp RX8 cX8_enter 3 (some .boolean) "enter" false 59 (sLR 0 60) := ok_aload_n (by decide +kernel : decode cX8_enter 59 = .ok (.aload_n 0, 1)) rfl
theorem o118_60 : Okp RX8 cX8_enter 3 (some .boolean) "enter" false 60 (sGI 9 8 63) := ok_getI (by decide +kernel : decode cX8_enter 60 = .ok (.getfield 30, 3)) fw_X8_30 rfl
theorem o118_63 : Okp RX8 cX8_enter 3 (some .boolean) "enter" false 63 (sK 26 65) := ok_bipush (by decide +kernel : decode cX8_enter 63 = .ok (.bipush 26, 2)) (by decide)
theorem o118_65 : Okp RX8 cX8_enter 3 (some .boolean) "enter" false 65 (sB2 fMul 66) := ok_imul (by decide +kernel : decode cX8_enter 65 = .ok (.imul, 1))
theorem o118_66 : Okp RX8 cX8_enter 3 (some .boolean) "enter" false 66 (sK 16 68) := ok_bipush (by decide +kernel : decode cX8_enter 66 = .ok (.bipush 16, 2)) (by decide)
theorem o118_68 : Okp RX8 cX8_enter 3 (some .boolean) "enter" false 68 (sB2 fAdd 69) := ok_iadd (by decide +kernel : decode cX8_enter 68 = .ok (.iadd, 1))
theorem o118_69 : Okp RX8 cX8_enter 3 (some .boolean) "enter" false 69 (sSI 2 70) := ok_istore_n (by decide +kernel : decode cX8_enter 69 = .ok (.istore_n 2, 1)) rfl (by decide) (by decide)
theorem o118_70 : Okp RX8 cX8_enter 3 (some .boolean) "enter" false 70 (sLI 2 71) := ok_iload_n (by decide +kernel : decode cX8_enter 70 = .ok (.iload_n 2, 1)) rfl
theorem o118_71 : Okp RX8 cX8_enter 3 (some .boolean) "enter" false 71 (sLR 0 72) := ok_aload_n (by decide +kernel : decode cX8_enter 71 = .ok (.aload_n 0, 1)) rfl
theorem o118_72 : Okp RX8 cX8_enter 3 (some .boolean) "enter" false 72 (sGI 9 8 75) := ok_getI (by decide +kernel : decode cX8_enter 72 = .ok (.getfield 30, 3)) fw_X8_30 rfl
theorem o118_75 : Okp RX8 cX8_enter 3 (some .boolean) "enter" false 75 (sK 1 76) := ok_iconst (by decide +kernel : decode cX8_enter 75 = .ok (.iconst 1, 1)) (by decide)
theorem o118_76 : Okp RX8 cX8_enter 3 (some .boolean) "enter" false 76 (sB2 fAdd 77) := ok_iadd (by decide +kernel : decode cX8_enter 76 = .ok (.iadd, 1))
theorem o118_77 : Okp RX8 cX8_enter 3 (some .boolean) "enter" false 77 (sK 26 79) := ok_bipush (by decide +kernel : decode cX8_enter 77 = .ok (.bipush 26, 2)) (by decide)
theorem o118_79 : Okp RX8 cX8_enter 3 (some .boolean) "enter" false 79 (sB2 fMul 80) := ok_imul (by decide +kernel : decode cX8_enter 79 = .ok (.imul, 1))
theorem o118_80 : Okp RX8 cX8_enter 3 (some .boolean) "enter" false 80 (sI2 3 104 83) := ok_icmp_ge (by decide +kernel : decode cX8_enter 80 = .ok (.if_icmp .ge 24, 3)) (by decide)
theorem o118_83 : Okp RX8 cX8_enter 3 (some .boolean) "enter" false 83 (sLR 0 84) := ok_aload_n (by decide +kernel : decode cX8_enter 83 = .ok (.aload_n 0, 1)) rfl
theorem o118_84 : Okp RX8 cX8_enter 3 (some .boolean) "enter" false 84 (sGR 9 12 87) := ok_getR (by decide +kernel : decode cX8_enter 84 = .ok (.getfield 43, 3)) fw_X8_43 rfl
theorem o118_87 : Okp RX8 cX8_enter 3 (some .boolean) "enter" false 87 (sLI 2 88) := ok_iload_n (by decide +kernel : decode cX8_enter 87 = .ok (.iload_n 2, 1)) rfl
theorem o118_88 : Okp RX8 cX8_enter 3 (some .boolean) "enter" false 88 (sK 7 90) := ok_bipush (by decide +kernel : decode cX8_enter 88 = .ok (.bipush 7, 2)) (by decide)
theorem o118_90 : Okp RX8 cX8_enter 3 (some .boolean) "enter" false 90 (sIS 91) := ok_iastore (by decide +kernel : decode cX8_enter 90 = .ok (.iastore, 1))
theorem o118_91 : Okp RX8 cX8_enter 3 (some .boolean) "enter" false 91 (sLR 0 92) := ok_aload_n (by decide +kernel : decode cX8_enter 91 = .ok (.aload_n 0, 1)) rfl
theorem o118_92 : Okp RX8 cX8_enter 3 (some .boolean) "enter" false 92 (sGR 9 13 95) := ok_getR (by decide +kernel : decode cX8_enter 92 = .ok (.getfield 46, 3)) fw_X8_46 rfl
theorem o118_95 : Okp RX8 cX8_enter 3 (some .boolean) "enter" false 95 (sLI 2 96) := ok_iload_n (by decide +kernel : decode cX8_enter 95 = .ok (.iload_n 2, 1)) rfl
theorem o118_96 : Okp RX8 cX8_enter 3 (some .boolean) "enter" false 96 (sK 0 97) := ok_iconst (by decide +kernel : decode cX8_enter 96 = .ok (.iconst 0, 1)) (by decide)
theorem o118_97 : Okp RX8 cX8_enter 3 (some .boolean) "enter" false 97 (sIS 98) := ok_iastore (by decide +kernel : decode cX8_enter 97 = .ok (.iastore, 1))
theorem o118_98 : Okp RX8 cX8_enter 3 (some .boolean) "enter" false 98 (sInc 2 1 101) := ok_iinc (by decide +kernel : decode cX8_enter 98 = .ok (.iinc 2 1, 3)) (by decide) (by decide)
theorem o118_101 : Okp RX8 cX8_enter 3 (some .boolean) "enter" false 101 (sGo 70) := ok_goto (by decide +kernel : decode cX8_enter 101 = .ok (.goto (-31), 3)) (by decide)
theorem o118_104 : Okp RX8 cX8_enter 3 (some .boolean) "enter" false 104 (sK 1 105) := ok_iconst (by decide +kernel : decode cX8_enter 104 = .ok (.iconst 1, 1)) (by decide)
theorem o118_105 : Okp RX8 cX8_enter 3 (some .boolean) "enter" false 105 sRZ := ok_zret rfl (by decide +kernel : decode cX8_enter 105 = .ok (.ireturn, 1))
theorem oc118_0 : ∀ pc, Mnp (c118_0 pc) ∧ Okp RX8 cX8_enter 3 (some .boolean) "enter" false pc (c118_0 pc) := by
  intro pc
  unfold c118_0
  split
  · exact ⟨mn_sLR, o118_0⟩
  · exact ⟨mn_sGI, o118_1⟩
  · exact ⟨mn_sK, o118_4⟩
  · exact ⟨mn_sI2, o118_6⟩
  · exact ⟨mn_sK, o118_9⟩
  · exact ⟨mn_sRZ, o118_10⟩
  · exact ⟨mn_sLR, o118_11⟩
  · exact ⟨mn_sLR, o118_12⟩
  · exact ⟨mn_sGI, o118_13⟩
  · exact ⟨mn_sPI, o118_16⟩
  · exact ⟨mn_sLR, o118_19⟩
  · exact ⟨mn_sDup, o118_20⟩
  · exact ⟨mn_sGI, o118_21⟩
  · exact ⟨mn_sX, ok_X⟩
theorem oc118_1 : ∀ pc, Mnp (c118_1 pc) ∧ Okp RX8 cX8_enter 3 (some .boolean) "enter" false pc (c118_1 pc) := by
  intro pc
  unfold c118_1
  split
  · exact ⟨mn_sK, o118_24⟩
  · exact ⟨mn_sB2, o118_25⟩
  · exact ⟨mn_sPI, o118_26⟩
  · exact ⟨mn_sLR, o118_29⟩
  · exact ⟨mn_sGR, o118_30⟩
  · exact ⟨mn_sLR, o118_33⟩
  · exact ⟨mn_sGI, o118_34⟩
  · exact ⟨mn_sLI, o118_37⟩
  · exact ⟨mn_sIS, o118_38⟩
  · exact ⟨mn_sLR, o118_39⟩
  · exact ⟨mn_sGR, o118_40⟩
  · exact ⟨mn_sLR, o118_43⟩
  · exact ⟨mn_sGI, o118_44⟩
  · exact ⟨mn_sK, o118_47⟩
  · exact ⟨mn_sX, ok_X⟩
theorem oc118_2 : ∀ pc, Mnp (c118_2 pc) ∧ Okp RX8 cX8_enter 3 (some .boolean) "enter" false pc (c118_2 pc) := by
  intro pc
  unfold c118_2
  split
  · exact ⟨mn_sIS, o118_48⟩
  · exact ⟨mn_sLR, o118_49⟩
  · exact ⟨mn_sGR, o118_50⟩
  · exact ⟨mn_sLR, o118_53⟩
  · exact ⟨mn_sGI, o118_54⟩
  · exact ⟨mn_sK, o118_57⟩
  · exact ⟨mn_sIS, o118_58⟩
  · exact ⟨mn_sLR, o118_59⟩
  · exact ⟨mn_sGI, o118_60⟩
  · exact ⟨mn_sK, o118_63⟩
  · exact ⟨mn_sB2, o118_65⟩
  · exact ⟨mn_sK, o118_66⟩
  · exact ⟨mn_sB2, o118_68⟩
  · exact ⟨mn_sSI, o118_69⟩
  · exact ⟨mn_sLI, o118_70⟩
  · exact ⟨mn_sLR, o118_71⟩
  · exact ⟨mn_sX, ok_X⟩
theorem oc118_3 : ∀ pc, Mnp (c118_3 pc) ∧ Okp RX8 cX8_enter 3 (some .boolean) "enter" false pc (c118_3 pc) := by
  intro pc
  unfold c118_3
  split
  · exact ⟨mn_sGI, o118_72⟩
  · exact ⟨mn_sK, o118_75⟩
  · exact ⟨mn_sB2, o118_76⟩
  · exact ⟨mn_sK, o118_77⟩
  · exact ⟨mn_sB2, o118_79⟩
  · exact ⟨mn_sI2, o118_80⟩
  · exact ⟨mn_sLR, o118_83⟩
  · exact ⟨mn_sGR, o118_84⟩
  · exact ⟨mn_sLI, o118_87⟩
  · exact ⟨mn_sK, o118_88⟩
  · exact ⟨mn_sIS, o118_90⟩
  · exact ⟨mn_sLR, o118_91⟩
  · exact ⟨mn_sGR, o118_92⟩
  · exact ⟨mn_sLI, o118_95⟩
  · exact ⟨mn_sX, ok_X⟩
theorem oc118_4 : ∀ pc, Mnp (c118_4 pc) ∧ Okp RX8 cX8_enter 3 (some .boolean) "enter" false pc (c118_4 pc) := by
  intro pc
  unfold c118_4
  split
  · exact ⟨mn_sK, o118_96⟩
  · exact ⟨mn_sIS, o118_97⟩
  · exact ⟨mn_sInc, o118_98⟩
  · exact ⟨mn_sGo, o118_101⟩
  · exact ⟨mn_sK, o118_104⟩
  · exact ⟨mn_sRZ, o118_105⟩
  · exact ⟨mn_sX, ok_X⟩
theorem oc118 : ∀ pc, Mnp (c118 pc) ∧ Okp RX8 cX8_enter 3 (some .boolean) "enter" false pc (c118 pc) := by
  intro pc
  unfold c118
  split
  · exact oc118_0 pc
  · exact oc118_1 pc
  · exact oc118_2 pc
  · exact oc118_3 pc
  · exact oc118_4 pc
  · exact ⟨mn_sX, ok_X⟩
theorem o119_0 : Okp RX8 cX8_leave 1 none "leave" false 0 (sLR 0 1) := ok_aload_n (by decide +kernel : decode cX8_leave 0 = .ok (.aload_n 0, 1)) rfl
theorem o119_1 : Okp RX8 cX8_leave 1 none "leave" false 1 (sGI 9 7 4) := ok_getI (by decide +kernel : decode cX8_leave 1 = .ok (.getfield 27, 3)) fw_X8_27 rfl
theorem o119_4 : Okp RX8 cX8_leave 1 none "leave" false 4 (sK 1 5) := ok_iconst (by decide +kernel : decode cX8_leave 4 = .ok (.iconst 1, 1)) (by decide)
theorem o119_5 : Okp RX8 cX8_leave 1 none "leave" false 5 (sI2 5 28 8) := ok_icmp_le (by decide +kernel : decode cX8_leave 5 = .ok (.if_icmp .le 23, 3)) (by decide)
theorem o119_8 : Okp RX8 cX8_leave 1 none "leave" false 8 (sLR 0 9) := ok_aload_n (by decide +kernel : decode cX8_leave 8 = .ok (.aload_n 0, 1)) rfl
theorem o119_9 : Okp RX8 cX8_leave 1 none "leave" false 9 (sDup 10) := ok_dup (by decide +kernel : decode cX8_leave 9 = .ok (.dup, 1))
theorem o119_10 : Okp RX8 cX8_leave 1 none "leave" false 10 (sGI 9 7 13) := ok_getI (by decide +kernel : decode cX8_leave 10 = .ok (.getfield 27, 3)) fw_X8_27 rfl
theorem o119_13 : Okp RX8 cX8_leave 1 none "leave" false 13 (sK 1 14) := ok_iconst (by decide +kernel : decode cX8_leave 13 = .ok (.iconst 1, 1)) (by decide)
theorem o119_14 : Okp RX8 cX8_leave 1 none "leave" false 14 (sB2 fSub 15) := ok_isub (by decide +kernel : decode cX8_leave 14 = .ok (.isub, 1))
theorem o119_15 : Okp RX8 cX8_leave 1 none "leave" false 15 (sPI 9 7 18) := ok_putI (by decide +kernel : decode cX8_leave 15 = .ok (.putfield 27, 3)) fw_X8_27 ⟨⟨tyX8_ok, nmX8⟩, Or.inl rfl, rfl⟩ rfl
theorem o119_18 : Okp RX8 cX8_leave 1 none "leave" false 18 (sLR 0 19) := ok_aload_n (by decide +kernel : decode cX8_leave 18 = .ok (.aload_n 0, 1)) rfl
theorem o119_19 : Okp RX8 cX8_leave 1 none "leave" false 19 (sLR 0 20) := ok_aload_n (by decide +kernel : decode cX8_leave 19 = .ok (.aload_n 0, 1)) rfl
theorem o119_20 : Okp RX8 cX8_leave 1 none "leave" false 20 (sGI 9 7 23) := ok_getI (by decide +kernel : decode cX8_leave 20 = .ok (.getfield 27, 3)) fw_X8_27 rfl
theorem o119_23 : Okp RX8 cX8_leave 1 none "leave" false 23 (sK 1 24) := ok_iconst (by decide +kernel : decode cX8_leave 23 = .ok (.iconst 1, 1)) (by decide)
theorem o119_24 : Okp RX8 cX8_leave 1 none "leave" false 24 (sB2 fSub 25) := ok_isub (by decide +kernel : decode cX8_leave 24 = .ok (.isub, 1))
theorem o119_25 : Okp RX8 cX8_leave 1 none "leave" false 25 (sPI 9 8 28) := ok_putI (by decide +kernel : decode cX8_leave 25 = .ok (.putfield 30, 3)) fw_X8_30 ⟨⟨tyX8_ok, nmX8⟩, Or.inl rfl, rfl⟩ rfl
theorem o119_28 : Okp RX8 cX8_leave 1 none "leave" false 28 sRV := ok_vret rfl (by decide +kernel : decode cX8_leave 28 = .ok (.return_, 1))
theorem oc119_0 : ∀ pc, Mnp (c119_0 pc) ∧ Okp RX8 cX8_leave 1 none "leave" false pc (c119_0 pc) := by
  intro pc
  unfold c119_0
  split
  · exact ⟨mn_sLR, o119_0⟩
  · exact ⟨mn_sGI, o119_1⟩
  · exact ⟨mn_sK, o119_4⟩
  · exact ⟨mn_sI2, o119_5⟩
  · exact ⟨mn_sLR, o119_8⟩
  · exact ⟨mn_sDup, o119_9⟩
  · exact ⟨mn_sGI, o119_10⟩
  · exact ⟨mn_sK, o119_13⟩
  · exact ⟨mn_sB2, o119_14⟩
  · exact ⟨mn_sPI, o119_15⟩
  · exact ⟨mn_sLR, o119_18⟩
  · exact ⟨mn_sLR, o119_19⟩
  · exact ⟨mn_sGI, o119_20⟩
  · exact ⟨mn_sK, o119_23⟩
  · exact ⟨mn_sX, ok_X⟩
theorem oc119_1 : ∀ pc, Mnp (c119_1 pc) ∧ Okp RX8 cX8_leave 1 none "leave" false pc (c119_1 pc) := by
  intro pc
  unfold c119_1
  split
  · exact ⟨mn_sB2, o119_24⟩
  · exact ⟨mn_sPI, o119_25⟩
  · exact ⟨mn_sRV, o119_28⟩
  · exact ⟨mn_sX, ok_X⟩
theorem oc119 : ∀ pc, Mnp (c119 pc) ∧ Okp RX8 cX8_leave 1 none "leave" false pc (c119 pc) := by
  intro pc
  unfold c119
  split
  · exact oc119_0 pc
  · exact oc119_1 pc
  · exact ⟨mn_sX, ok_X⟩
theorem o120_0 : Okp RX8 cX8_function 1 (some .int) "function" false 0 (sLR 0 1) := ok_aload_n (by decide +kernel : decode cX8_function 0 = .ok (.aload_n 0, 1)) rfl
theorem o120_1 : Okp RX8 cX8_function 1 (some .int) "function" false 1 (sGR 9 9 4) := ok_getR (by decide +kernel : decode cX8_function 1 = .ok (.getfield 33, 3)) fw_X8_33 rfl
theorem o120_4 : Okp RX8 cX8_function 1 (some .int) "function" false 4 (sLR 0 5) := ok_aload_n (by decide +kernel : decode cX8_function 4 = .ok (.aload_n 0, 1)) rfl
theorem o120_5 : Okp RX8 cX8_function 1 (some .int) "function" false 5 (sGI 9 8 8) := ok_getI (by decide +kernel : decode cX8_function 5 = .ok (.getfield 30, 3)) fw_X8_30 rfl
theorem o120_8 : Okp RX8 cX8_function 1 (some .int) "function" false 8 (sIA 9) := ok_iaload (by decide +kernel : decode cX8_function 8 = .ok (.iaload, 1))
theorem o120_9 : Okp RX8 cX8_function 1 (some .int) "function" false 9 sRI := ok_iret rfl (by decide +kernel : decode cX8_function 9 = .ok (.ireturn, 1))
theorem oc120 : ∀ pc, Mnp (c120 pc) ∧ Okp RX8 cX8_function 1 (some .int) "function" false pc (c120 pc) := by
  intro pc
  unfold c120
  split
  · exact ⟨mn_sLR, o120_0⟩
  · exact ⟨mn_sGR, o120_1⟩
  · exact ⟨mn_sLR, o120_4⟩
  · exact ⟨mn_sGI, o120_5⟩
  · exact ⟨mn_sIA, o120_8⟩
  · exact ⟨mn_sRI, o120_9⟩
  · exact ⟨mn_sX, ok_X⟩
theorem o121_0 : Okp RX8 cX8_routine 1 (some (.object "SealedProcesses$Routine")) "routine" false 0 (sLR 0 1) := ok_aload_n (by decide +kernel : decode cX8_routine 0 = .ok (.aload_n 0, 1)) rfl
theorem o121_1 : Okp RX8 cX8_routine 1 (some (.object "SealedProcesses$Routine")) "routine" false 1 (sGR 9 1 4) := ok_getR (by decide +kernel : decode cX8_routine 1 = .ok (.getfield 61, 3)) fw_X8_61 rfl
theorem o121_4 : Okp RX8 cX8_routine 1 (some (.object "SealedProcesses$Routine")) "routine" false 4 (sLR 0 5) := ok_aload_n (by decide +kernel : decode cX8_routine 4 = .ok (.aload_n 0, 1)) rfl
theorem o121_5 : Okp RX8 cX8_routine 1 (some (.object "SealedProcesses$Routine")) "routine" false 5 (sGR 9 9 8) := ok_getR (by decide +kernel : decode cX8_routine 5 = .ok (.getfield 33, 3)) fw_X8_33 rfl
theorem o121_8 : Okp RX8 cX8_routine 1 (some (.object "SealedProcesses$Routine")) "routine" false 8 (sLR 0 9) := ok_aload_n (by decide +kernel : decode cX8_routine 8 = .ok (.aload_n 0, 1)) rfl
theorem o121_9 : Okp RX8 cX8_routine 1 (some (.object "SealedProcesses$Routine")) "routine" false 9 (sGI 9 8 12) := ok_getI (by decide +kernel : decode cX8_routine 9 = .ok (.getfield 30, 3)) fw_X8_30 rfl
theorem o121_12 : Okp RX8 cX8_routine 1 (some (.object "SealedProcesses$Routine")) "routine" false 12 (sIA 13) := ok_iaload (by decide +kernel : decode cX8_routine 12 = .ok (.iaload, 1))
theorem o121_13 : Okp RX8 cX8_routine 1 (some (.object "SealedProcesses$Routine")) "routine" false 13 (sCV false 149 2 10 16) := ok_cv (by decide +kernel : decode cX8_routine 13 = .ok (.invokevirtual 78, 3)) mw_X8_78 rfl (by decide) wm_X9_routineAt wse_X9_routineAt (by decide) rfl
theorem o121_16 : Okp RX8 cX8_routine 1 (some (.object "SealedProcesses$Routine")) "routine" false 16 sRR := ok_aret rfl (Or.inl ⟨_, rfl⟩) (by decide +kernel : decode cX8_routine 16 = .ok (.areturn, 1))
theorem oc121 : ∀ pc, Mnp (c121 pc) ∧ Okp RX8 cX8_routine 1 (some (.object "SealedProcesses$Routine")) "routine" false pc (c121 pc) := by
  intro pc
  unfold c121
  split
  · exact ⟨mn_sLR, o121_0⟩
  · exact ⟨mn_sGR, o121_1⟩
  · exact ⟨mn_sLR, o121_4⟩
  · exact ⟨mn_sGR, o121_5⟩
  · exact ⟨mn_sLR, o121_8⟩
  · exact ⟨mn_sGI, o121_9⟩
  · exact ⟨mn_sIA, o121_12⟩
  · exact ⟨mn_sCV, o121_13⟩
  · exact ⟨mn_sRR, o121_16⟩
  · exact ⟨mn_sX, ok_X⟩
theorem o122_0 : Okp RX8 cX8_localCount 2 (some .int) "localCount" false 0 (sLR 0 1) := ok_aload_n (by decide +kernel : decode cX8_localCount 0 = .ok (.aload_n 0, 1)) rfl
theorem o122_1 : Okp RX8 cX8_localCount 2 (some .int) "localCount" false 1 (sCV false 121 1 9 4) := ok_cv (by decide +kernel : decode cX8_localCount 1 = .ok (.invokevirtual 84, 3)) mw_X8_84 rfl (by decide) wm_X8_routine wse_X8_routine (by decide) rfl
theorem o122_4 : Okp RX8 cX8_localCount 2 (some .int) "localCount" false 4 (sSR 1 5) := ok_astore_n (by decide +kernel : decode cX8_localCount 4 = .ok (.astore_n 1, 1)) rfl (by decide) (by decide)
theorem o122_5 : Okp RX8 cX8_localCount 2 (some .int) "localCount" false 5 (sLR 1 6) := ok_aload_n (by decide +kernel : decode cX8_localCount 5 = .ok (.aload_n 1, 1)) rfl
theorem o122_6 : Okp RX8 cX8_localCount 2 (some .int) "localCount" false 6 (sNl 9 13) := ok_ifnonnull (by decide +kernel : decode cX8_localCount 6 = .ok (.ifnonnull 7, 3)) (by decide)
theorem o122_9 : Okp RX8 cX8_localCount 2 (some .int) "localCount" false 9 (sK 0 10) := ok_iconst (by decide +kernel : decode cX8_localCount 9 = .ok (.iconst 0, 1)) (by decide)
theorem o122_10 : Okp RX8 cX8_localCount 2 (some .int) "localCount" false 10 (sGo 17) := ok_goto (by decide +kernel : decode cX8_localCount 10 = .ok (.goto 7, 3)) (by decide)
theorem o122_13 : Okp RX8 cX8_localCount 2 (some .int) "localCount" false 13 (sLR 1 14) := ok_aload_n (by decide +kernel : decode cX8_localCount 13 = .ok (.aload_n 1, 1)) rfl
theorem o122_14 : Okp RX8 cX8_localCount 2 (some .int) "localCount" false 14 (sGI 8 3 17) := ok_getI (by decide +kernel : decode cX8_localCount 14 = .ok (.getfield 88, 3)) fw_X8_88 rfl
theorem o122_17 : Okp RX8 cX8_localCount 2 (some .int) "localCount" false 17 sRI := ok_iret rfl (by decide +kernel : decode cX8_localCount 17 = .ok (.ireturn, 1))
theorem oc122 : ∀ pc, Mnp (c122 pc) ∧ Okp RX8 cX8_localCount 2 (some .int) "localCount" false pc (c122 pc) := by
  intro pc
  unfold c122
  split
  · exact ⟨mn_sLR, o122_0⟩
  · exact ⟨mn_sCV, o122_1⟩
  · exact ⟨mn_sSR, o122_4⟩
  · exact ⟨mn_sLR, o122_5⟩
  · exact ⟨mn_sNl, o122_6⟩
  · exact ⟨mn_sK, o122_9⟩
  · exact ⟨mn_sGo, o122_10⟩
  · exact ⟨mn_sLR, o122_13⟩
  · exact ⟨mn_sGI, o122_14⟩
  · exact ⟨mn_sRI, o122_17⟩
  · exact ⟨mn_sX, ok_X⟩
theorem o123_0 : Okp RX8 cX8_place 1 (some .int) "place" false 0 (sLR 0 1) := ok_aload_n (by decide +kernel : decode cX8_place 0 = .ok (.aload_n 0, 1)) rfl
theorem o123_1 : Okp RX8 cX8_place 1 (some .int) "place" false 1 (sGR 9 10 4) := ok_getR (by decide +kernel : decode cX8_place 1 = .ok (.getfield 37, 3)) fw_X8_37 rfl
theorem o123_4 : Okp RX8 cX8_place 1 (some .int) "place" false 4 (sLR 0 5) := ok_aload_n (by decide +kernel : decode cX8_place 4 = .ok (.aload_n 0, 1)) rfl
theorem o123_5 : Okp RX8 cX8_place 1 (some .int) "place" false 5 (sGI 9 8 8) := ok_getI (by decide +kernel : decode cX8_place 5 = .ok (.getfield 30, 3)) fw_X8_30 rfl
theorem o123_8 : Okp RX8 cX8_place 1 (some .int) "place" false 8 (sIA 9) := ok_iaload (by decide +kernel : decode cX8_place 8 = .ok (.iaload, 1))
theorem o123_9 : Okp RX8 cX8_place 1 (some .int) "place" false 9 sRI := ok_iret rfl (by decide +kernel : decode cX8_place 9 = .ok (.ireturn, 1))
theorem oc123 : ∀ pc, Mnp (c123 pc) ∧ Okp RX8 cX8_place 1 (some .int) "place" false pc (c123 pc) := by
  intro pc
  unfold c123
  split
  · exact ⟨mn_sLR, o123_0⟩
  · exact ⟨mn_sGR, o123_1⟩
  · exact ⟨mn_sLR, o123_4⟩
  · exact ⟨mn_sGI, o123_5⟩
  · exact ⟨mn_sIA, o123_8⟩
  · exact ⟨mn_sRI, o123_9⟩
  · exact ⟨mn_sX, ok_X⟩
theorem o124_0 : Okp RX8 cX8_goTo 2 none "goTo" false 0 (sLR 0 1) := ok_aload_n (by decide +kernel : decode cX8_goTo 0 = .ok (.aload_n 0, 1)) rfl
theorem o124_1 : Okp RX8 cX8_goTo 2 none "goTo" false 1 (sGR 9 10 4) := ok_getR (by decide +kernel : decode cX8_goTo 1 = .ok (.getfield 37, 3)) fw_X8_37 rfl
theorem o124_4 : Okp RX8 cX8_goTo 2 none "goTo" false 4 (sLR 0 5) := ok_aload_n (by decide +kernel : decode cX8_goTo 4 = .ok (.aload_n 0, 1)) rfl
theorem o124_5 : Okp RX8 cX8_goTo 2 none "goTo" false 5 (sGI 9 8 8) := ok_getI (by decide +kernel : decode cX8_goTo 5 = .ok (.getfield 30, 3)) fw_X8_30 rfl
theorem o124_8 : Okp RX8 cX8_goTo 2 none "goTo" false 8 (sLI 1 9) := ok_iload_n (by decide +kernel : decode cX8_goTo 8 = .ok (.iload_n 1, 1)) rfl
theorem o124_9 : Okp RX8 cX8_goTo 2 none "goTo" false 9 (sIS 10) := ok_iastore (by decide +kernel : decode cX8_goTo 9 = .ok (.iastore, 1))
theorem o124_10 : Okp RX8 cX8_goTo 2 none "goTo" false 10 sRV := ok_vret rfl (by decide +kernel : decode cX8_goTo 10 = .ok (.return_, 1))
theorem oc124 : ∀ pc, Mnp (c124 pc) ∧ Okp RX8 cX8_goTo 2 none "goTo" false pc (c124 pc) := by
  intro pc
  unfold c124
  split
  · exact ⟨mn_sLR, o124_0⟩
  · exact ⟨mn_sGR, o124_1⟩
  · exact ⟨mn_sLR, o124_4⟩
  · exact ⟨mn_sGI, o124_5⟩
  · exact ⟨mn_sLI, o124_8⟩
  · exact ⟨mn_sIS, o124_9⟩
  · exact ⟨mn_sRV, o124_10⟩
  · exact ⟨mn_sX, ok_X⟩
theorem o125_0 : Okp RX8 cX8_height 1 (some .int) "height" false 0 (sLR 0 1) := ok_aload_n (by decide +kernel : decode cX8_height 0 = .ok (.aload_n 0, 1)) rfl
theorem o125_1 : Okp RX8 cX8_height 1 (some .int) "height" false 1 (sGR 9 11 4) := ok_getR (by decide +kernel : decode cX8_height 1 = .ok (.getfield 40, 3)) fw_X8_40 rfl
theorem o125_4 : Okp RX8 cX8_height 1 (some .int) "height" false 4 (sLR 0 5) := ok_aload_n (by decide +kernel : decode cX8_height 4 = .ok (.aload_n 0, 1)) rfl
theorem o125_5 : Okp RX8 cX8_height 1 (some .int) "height" false 5 (sGI 9 8 8) := ok_getI (by decide +kernel : decode cX8_height 5 = .ok (.getfield 30, 3)) fw_X8_30 rfl
theorem o125_8 : Okp RX8 cX8_height 1 (some .int) "height" false 8 (sIA 9) := ok_iaload (by decide +kernel : decode cX8_height 8 = .ok (.iaload, 1))
theorem o125_9 : Okp RX8 cX8_height 1 (some .int) "height" false 9 sRI := ok_iret rfl (by decide +kernel : decode cX8_height 9 = .ok (.ireturn, 1))
theorem oc125 : ∀ pc, Mnp (c125 pc) ∧ Okp RX8 cX8_height 1 (some .int) "height" false pc (c125 pc) := by
  intro pc
  unfold c125
  split
  · exact ⟨mn_sLR, o125_0⟩
  · exact ⟨mn_sGR, o125_1⟩
  · exact ⟨mn_sLR, o125_4⟩
  · exact ⟨mn_sGI, o125_5⟩
  · exact ⟨mn_sIA, o125_8⟩
  · exact ⟨mn_sRI, o125_9⟩
  · exact ⟨mn_sX, ok_X⟩
theorem o126_0 : Okp RX8 cX8_addressOfNext 2 (some .int) "addressOfNext" false 0 (sLR 0 1) := ok_aload_n (by decide +kernel : decode cX8_addressOfNext 0 = .ok (.aload_n 0, 1)) rfl
theorem o126_1 : Okp RX8 cX8_addressOfNext 2 (some .int) "addressOfNext" false 1 (sCV false 121 1 9 4) := ok_cv (by decide +kernel : decode cX8_addressOfNext 1 = .ok (.invokevirtual 84, 3)) mw_X8_84 rfl (by decide) wm_X8_routine wse_X8_routine (by decide) rfl
theorem o126_4 : Okp RX8 cX8_addressOfNext 2 (some .int) "addressOfNext" false 4 (sSR 1 5) := ok_astore_n (by decide +kernel : decode cX8_addressOfNext 4 = .ok (.astore_n 1, 1)) rfl (by decide) (by decide)
theorem o126_5 : Okp RX8 cX8_addressOfNext 2 (some .int) "addressOfNext" false 5 (sLR 1 6) := ok_aload_n (by decide +kernel : decode cX8_addressOfNext 5 = .ok (.aload_n 1, 1)) rfl
theorem o126_6 : Okp RX8 cX8_addressOfNext 2 (some .int) "addressOfNext" false 6 (sNl 9 13) := ok_ifnonnull (by decide +kernel : decode cX8_addressOfNext 6 = .ok (.ifnonnull 7, 3)) (by decide)
theorem o126_9 : Okp RX8 cX8_addressOfNext 2 (some .int) "addressOfNext" false 9 (sK (-1) 10) := ok_iconst (by decide +kernel : decode cX8_addressOfNext 9 = .ok (.iconst (-1), 1)) (by decide)
theorem o126_10 : Okp RX8 cX8_addressOfNext 2 (some .int) "addressOfNext" false 10 (sGo 27) := ok_goto (by decide +kernel : decode cX8_addressOfNext 10 = .ok (.goto 17, 3)) (by decide)
theorem o126_13 : Okp RX8 cX8_addressOfNext 2 (some .int) "addressOfNext" false 13 (sLR 1 14) := ok_aload_n (by decide +kernel : decode cX8_addressOfNext 13 = .ok (.aload_n 1, 1)) rfl
theorem o126_14 : Okp RX8 cX8_addressOfNext 2 (some .int) "addressOfNext" false 14 (sGI 8 5 17) := ok_getI (by decide +kernel : decode cX8_addressOfNext 14 = .ok (.getfield 93, 3)) fw_X8_93 rfl
theorem o126_17 : Okp RX8 cX8_addressOfNext 2 (some .int) "addressOfNext" false 17 (sLR 0 18) := ok_aload_n (by decide +kernel : decode cX8_addressOfNext 17 = .ok (.aload_n 0, 1)) rfl
theorem o126_18 : Okp RX8 cX8_addressOfNext 2 (some .int) "addressOfNext" false 18 (sGR 9 10 21) := ok_getR (by decide +kernel : decode cX8_addressOfNext 18 = .ok (.getfield 37, 3)) fw_X8_37 rfl
theorem o126_21 : Okp RX8 cX8_addressOfNext 2 (some .int) "addressOfNext" false 21 (sLR 0 22) := ok_aload_n (by decide +kernel : decode cX8_addressOfNext 21 = .ok (.aload_n 0, 1)) rfl
theorem o126_22 : Okp RX8 cX8_addressOfNext 2 (some .int) "addressOfNext" false 22 (sGI 9 8 25) := ok_getI (by decide +kernel : decode cX8_addressOfNext 22 = .ok (.getfield 30, 3)) fw_X8_30 rfl
theorem o126_25 : Okp RX8 cX8_addressOfNext 2 (some .int) "addressOfNext" false 25 (sIA 26) := ok_iaload (by decide +kernel : decode cX8_addressOfNext 25 = .ok (.iaload, 1))
theorem o126_26 : Okp RX8 cX8_addressOfNext 2 (some .int) "addressOfNext" false 26 (sB2 fAdd 27) := ok_iadd (by decide +kernel : decode cX8_addressOfNext 26 = .ok (.iadd, 1))
theorem o126_27 : Okp RX8 cX8_addressOfNext 2 (some .int) "addressOfNext" false 27 sRI := ok_iret rfl (by decide +kernel : decode cX8_addressOfNext 27 = .ok (.ireturn, 1))
theorem oc126_0 : ∀ pc, Mnp (c126_0 pc) ∧ Okp RX8 cX8_addressOfNext 2 (some .int) "addressOfNext" false pc (c126_0 pc) := by
  intro pc
  unfold c126_0
  split
  · exact ⟨mn_sLR, o126_0⟩
  · exact ⟨mn_sCV, o126_1⟩
  · exact ⟨mn_sSR, o126_4⟩
  · exact ⟨mn_sLR, o126_5⟩
  · exact ⟨mn_sNl, o126_6⟩
  · exact ⟨mn_sK, o126_9⟩
  · exact ⟨mn_sGo, o126_10⟩
  · exact ⟨mn_sLR, o126_13⟩
  · exact ⟨mn_sGI, o126_14⟩
  · exact ⟨mn_sLR, o126_17⟩
  · exact ⟨mn_sGR, o126_18⟩
  · exact ⟨mn_sLR, o126_21⟩
  · exact ⟨mn_sGI, o126_22⟩
  · exact ⟨mn_sX, ok_X⟩
theorem oc126_1 : ∀ pc, Mnp (c126_1 pc) ∧ Okp RX8 cX8_addressOfNext 2 (some .int) "addressOfNext" false pc (c126_1 pc) := by
  intro pc
  unfold c126_1
  split
  · exact ⟨mn_sIA, o126_25⟩
  · exact ⟨mn_sB2, o126_26⟩
  · exact ⟨mn_sRI, o126_27⟩
  · exact ⟨mn_sX, ok_X⟩
theorem oc126 : ∀ pc, Mnp (c126 pc) ∧ Okp RX8 cX8_addressOfNext 2 (some .int) "addressOfNext" false pc (c126 pc) := by
  intro pc
  unfold c126
  split
  · exact oc126_0 pc
  · exact oc126_1 pc
  · exact ⟨mn_sX, ok_X⟩
theorem o127_0 : Okp RX8 cX8_push 4 none "push" false 0 (sLR 0 1) := ok_aload_n (by decide +kernel : decode cX8_push 0 = .ok (.aload_n 0, 1)) rfl
theorem o127_1 : Okp RX8 cX8_push 4 none "push" false 1 (sGR 9 11 4) := ok_getR (by decide +kernel : decode cX8_push 1 = .ok (.getfield 40, 3)) fw_X8_40 rfl
theorem o127_4 : Okp RX8 cX8_push 4 none "push" false 4 (sLR 0 5) := ok_aload_n (by decide +kernel : decode cX8_push 4 = .ok (.aload_n 0, 1)) rfl
theorem o127_5 : Okp RX8 cX8_push 4 none "push" false 5 (sGI 9 8 8) := ok_getI (by decide +kernel : decode cX8_push 5 = .ok (.getfield 30, 3)) fw_X8_30 rfl
theorem o127_8 : Okp RX8 cX8_push 4 none "push" false 8 (sIA 9) := ok_iaload (by decide +kernel : decode cX8_push 8 = .ok (.iaload, 1))
theorem o127_9 : Okp RX8 cX8_push 4 none "push" false 9 (sSI 3 10) := ok_istore_n (by decide +kernel : decode cX8_push 9 = .ok (.istore_n 3, 1)) rfl (by decide) (by decide)
theorem o127_10 : Okp RX8 cX8_push 4 none "push" false 10 (sLI 3 11) := ok_iload_n (by decide +kernel : decode cX8_push 10 = .ok (.iload_n 3, 1)) rfl
theorem o127_11 : Okp RX8 cX8_push 4 none "push" false 11 (sI1 2 62 14) := ok_if_lt (by decide +kernel : decode cX8_push 11 = .ok (.ifCond .lt 51, 3)) (by decide)
theorem o127_14 : Okp RX8 cX8_push 4 none "push" false 14 (sLI 3 15) := ok_iload_n (by decide +kernel : decode cX8_push 14 = .ok (.iload_n 3, 1)) rfl
theorem o127_15 : Okp RX8 cX8_push 4 none "push" false 15 (sK 16 17) := ok_bipush (by decide +kernel : decode cX8_push 15 = .ok (.bipush 16, 2)) (by decide)
theorem o127_17 : Okp RX8 cX8_push 4 none "push" false 17 (sI2 3 62 20) := ok_icmp_ge (by decide +kernel : decode cX8_push 17 = .ok (.if_icmp .ge 45, 3)) (by decide)
theorem o127_20 : Okp RX8 cX8_push 4 none "push" false 20 (sLR 0 21) := ok_aload_n (by decide +kernel : decode cX8_push 20 = .ok (.aload_n 0, 1)) rfl
theorem o127_21 : Okp RX8 cX8_push 4 none "push" false 21 (sGR 9 12 24) := ok_getR (by decide +kernel : decode cX8_push 21 = .ok (.getfield 43, 3)) fw_X8_43 rfl
theorem o127_24 : Okp RX8 cX8_push 4 none "push" false 24 (sLR 0 25) := ok_aload_n (by decide +kernel : decode cX8_push 24 = .ok (.aload_n 0, 1)) rfl
theorem o127_25 : Okp RX8 cX8_push 4 none "push" false 25 (sGI 9 8 28) := ok_getI (by decide +kernel : decode cX8_push 25 = .ok (.getfield 30, 3)) fw_X8_30 rfl
theorem o127_28 : Okp RX8 cX8_push 4 none "push" false 28 (sK 26 30) := ok_bipush (by decide +kernel : decode cX8_push 28 = .ok (.bipush 26, 2)) (by decide)
theorem o127_30 : Okp RX8 cX8_push 4 none "push" false 30 (sB2 fMul 31) := ok_imul (by decide +kernel : decode cX8_push 30 = .ok (.imul, 1))
theorem o127_31 : Okp RX8 cX8_push 4 none "push" false 31 (sLI 3 32) := ok_iload_n (by decide +kernel : decode cX8_push 31 = .ok (.iload_n 3, 1)) rfl
theorem o127_32 : Okp RX8 cX8_push 4 none "push" false 32 (sB2 fAdd 33) := ok_iadd (by decide +kernel : decode cX8_push 32 = .ok (.iadd, 1))
theorem o127_33 : Okp RX8 cX8_push 4 none "push" false 33 (sLI 1 34) := ok_iload_n (by decide +kernel : decode cX8_push 33 = .ok (.iload_n 1, 1)) rfl
theorem o127_34 : Okp RX8 cX8_push 4 none "push" false 34 (sIS 35) := ok_iastore (by decide +kernel : decode cX8_push 34 = .ok (.iastore, 1))
theorem o127_35 : Okp RX8 cX8_push 4 none "push" false 35 (sLR 0 36) := ok_aload_n (by decide +kernel : decode cX8_push 35 = .ok (.aload_n 0, 1)) rfl
theorem o127_36 : Okp RX8 cX8_push 4 none "push" false 36 (sGR 9 13 39) := ok_getR (by decide +kernel : decode cX8_push 36 = .ok (.getfield 46, 3)) fw_X8_46 rfl
theorem o127_39 : Okp RX8 cX8_push 4 none "push" false 39 (sLR 0 40) := ok_aload_n (by decide +kernel : decode cX8_push 39 = .ok (.aload_n 0, 1)) rfl
theorem o127_40 : Okp RX8 cX8_push 4 none "push" false 40 (sGI 9 8 43) := ok_getI (by decide +kernel : decode cX8_push 40 = .ok (.getfield 30, 3)) fw_X8_30 rfl
theorem o127_43 : Okp RX8 cX8_push 4 none "push" false 43 (sK 26 45) := ok_bipush (by decide +kernel : decode cX8_push 43 = .ok (.bipush 26, 2)) (by decide)
theorem o127_45 : Okp RX8 cX8_push 4 none "push" false 45 (sB2 fMul 46) := ok_imul (by decide +kernel : decode cX8_push 45 = .ok (.imul, 1))
theorem o127_46 : Okp RX8 cX8_push 4 none "push" false 46 (sLI 3 47) := ok_iload_n (by decide +kernel : decode cX8_push 46 = .ok (.iload_n 3, 1)) rfl
theorem o127_47 : Okp RX8 cX8_push 4 none "push" false 47 (sB2 fAdd 48) := ok_iadd (by decide +kernel : decode cX8_push 47 = .ok (.iadd, 1))
theorem o127_48 : Okp RX8 cX8_push 4 none "push" false 48 (sLI 2 49) := ok_iload_n (by decide +kernel : decode cX8_push 48 = .ok (.iload_n 2, 1)) rfl
theorem o127_49 : Okp RX8 cX8_push 4 none "push" false 49 (sIS 50) := ok_iastore (by decide +kernel : decode cX8_push 49 = .ok (.iastore, 1))
theorem o127_50 : Okp RX8 cX8_push 4 none "push" false 50 (sLR 0 51) := ok_aload_n (by decide +kernel : decode cX8_push 50 = .ok (.aload_n 0, 1)) rfl
theorem o127_51 : Okp RX8 cX8_push 4 none "push" false 51 (sGR 9 11 54) := ok_getR (by decide +kernel : decode cX8_push 51 = .ok (.getfield 40, 3)) fw_X8_40 rfl
theorem o127_54 : Okp RX8 cX8_push 4 none "push" false 54 (sLR 0 55) := ok_aload_n (by decide +kernel : decode cX8_push 54 = .ok (.aload_n 0, 1)) rfl
theorem o127_55 : Okp RX8 cX8_push 4 none "push" false 55 (sGI 9 8 58) := ok_getI (by decide +kernel : decode cX8_push 55 = .ok (.getfield 30, 3)) fw_X8_30 rfl
theorem o127_58 : Okp RX8 cX8_push 4 none "push" false 58 (sLI 3 59) := ok_iload_n (by decide +kernel : decode cX8_push 58 = .ok (.iload_n 3, 1)) rfl
theorem o127_59 : Okp RX8 cX8_push 4 none "push" false 59 (sK 1 60) := ok_iconst (by decide +kernel : decode cX8_push 59 = .ok (.iconst 1, 1)) (by decide)
theorem o127_60 : Okp RX8 cX8_push 4 none "push" false 60 (sB2 fAdd 61) := ok_iadd (by decide +kernel : decode cX8_push 60 = .ok (.iadd, 1))
theorem o127_61 : Okp RX8 cX8_push 4 none "push" false 61 (sIS 62) := ok_iastore (by decide +kernel : decode cX8_push 61 = .ok (.iastore, 1))
theorem o127_62 : Okp RX8 cX8_push 4 none "push" false 62 sRV := ok_vret rfl (by decide +kernel : decode cX8_push 62 = .ok (.return_, 1))
theorem oc127_0 : ∀ pc, Mnp (c127_0 pc) ∧ Okp RX8 cX8_push 4 none "push" false pc (c127_0 pc) := by
  intro pc
  unfold c127_0
  split
  · exact ⟨mn_sLR, o127_0⟩
  · exact ⟨mn_sGR, o127_1⟩
  · exact ⟨mn_sLR, o127_4⟩
  · exact ⟨mn_sGI, o127_5⟩
  · exact ⟨mn_sIA, o127_8⟩
  · exact ⟨mn_sSI, o127_9⟩
  · exact ⟨mn_sLI, o127_10⟩
  · exact ⟨mn_sI1, o127_11⟩
  · exact ⟨mn_sLI, o127_14⟩
  · exact ⟨mn_sK, o127_15⟩
  · exact ⟨mn_sI2, o127_17⟩
  · exact ⟨mn_sLR, o127_20⟩
  · exact ⟨mn_sGR, o127_21⟩
  · exact ⟨mn_sX, ok_X⟩
theorem oc127_1 : ∀ pc, Mnp (c127_1 pc) ∧ Okp RX8 cX8_push 4 none "push" false pc (c127_1 pc) := by
  intro pc
  unfold c127_1
  split
  · exact ⟨mn_sLR, o127_24⟩
  · exact ⟨mn_sGI, o127_25⟩
  · exact ⟨mn_sK, o127_28⟩
  · exact ⟨mn_sB2, o127_30⟩
  · exact ⟨mn_sLI, o127_31⟩
  · exact ⟨mn_sB2, o127_32⟩
  · exact ⟨mn_sLI, o127_33⟩
  · exact ⟨mn_sIS, o127_34⟩
  · exact ⟨mn_sLR, o127_35⟩
  · exact ⟨mn_sGR, o127_36⟩
  · exact ⟨mn_sLR, o127_39⟩
  · exact ⟨mn_sGI, o127_40⟩
  · exact ⟨mn_sK, o127_43⟩
  · exact ⟨mn_sB2, o127_45⟩
  · exact ⟨mn_sLI, o127_46⟩
  · exact ⟨mn_sB2, o127_47⟩
  · exact ⟨mn_sX, ok_X⟩
theorem oc127_2 : ∀ pc, Mnp (c127_2 pc) ∧ Okp RX8 cX8_push 4 none "push" false pc (c127_2 pc) := by
  intro pc
  unfold c127_2
  split
  · exact ⟨mn_sLI, o127_48⟩
  · exact ⟨mn_sIS, o127_49⟩
  · exact ⟨mn_sLR, o127_50⟩
  · exact ⟨mn_sGR, o127_51⟩
  · exact ⟨mn_sLR, o127_54⟩
  · exact ⟨mn_sGI, o127_55⟩
  · exact ⟨mn_sLI, o127_58⟩
  · exact ⟨mn_sK, o127_59⟩
  · exact ⟨mn_sB2, o127_60⟩
  · exact ⟨mn_sIS, o127_61⟩
  · exact ⟨mn_sRV, o127_62⟩
  · exact ⟨mn_sX, ok_X⟩
theorem oc127 : ∀ pc, Mnp (c127 pc) ∧ Okp RX8 cX8_push 4 none "push" false pc (c127 pc) := by
  intro pc
  unfold c127
  split
  · exact oc127_0 pc
  · exact oc127_1 pc
  · exact oc127_2 pc
  · exact ⟨mn_sX, ok_X⟩
theorem o128_0 : Okp RX8 cX8_pop 2 (some .int) "pop" false 0 (sLR 0 1) := ok_aload_n (by decide +kernel : decode cX8_pop 0 = .ok (.aload_n 0, 1)) rfl
theorem o128_1 : Okp RX8 cX8_pop 2 (some .int) "pop" false 1 (sGR 9 11 4) := ok_getR (by decide +kernel : decode cX8_pop 1 = .ok (.getfield 40, 3)) fw_X8_40 rfl
theorem o128_4 : Okp RX8 cX8_pop 2 (some .int) "pop" false 4 (sLR 0 5) := ok_aload_n (by decide +kernel : decode cX8_pop 4 = .ok (.aload_n 0, 1)) rfl
theorem o128_5 : Okp RX8 cX8_pop 2 (some .int) "pop" false 5 (sGI 9 8 8) := ok_getI (by decide +kernel : decode cX8_pop 5 = .ok (.getfield 30, 3)) fw_X8_30 rfl
theorem o128_8 : Okp RX8 cX8_pop 2 (some .int) "pop" false 8 (sIA 9) := ok_iaload (by decide +kernel : decode cX8_pop 8 = .ok (.iaload, 1))
theorem o128_9 : Okp RX8 cX8_pop 2 (some .int) "pop" false 9 (sK 1 10) := ok_iconst (by decide +kernel : decode cX8_pop 9 = .ok (.iconst 1, 1)) (by decide)
theorem o128_10 : Okp RX8 cX8_pop 2 (some .int) "pop" false 10 (sB2 fSub 11) := ok_isub (by decide +kernel : decode cX8_pop 10 = .ok (.isub, 1))
theorem o128_11 : Okp RX8 cX8_pop 2 (some .int) "pop" false 11 (sSI 1 12) := ok_istore_n (by decide +kernel : decode cX8_pop 11 = .ok (.istore_n 1, 1)) rfl (by decide) (by decide)
theorem o128_12 : Okp RX8 cX8_pop 2 (some .int) "pop" false 12 (sLI 1 13) := ok_iload_n (by decide +kernel : decode cX8_pop 12 = .ok (.iload_n 1, 1)) rfl
theorem o128_13 : Okp RX8 cX8_pop 2 (some .int) "pop" false 13 (sI1 3 24 16) := ok_if_ge (by decide +kernel : decode cX8_pop 13 = .ok (.ifCond .ge 11, 3)) (by decide)
theorem o128_16 : Okp RX8 cX8_pop 2 (some .int) "pop" false 16 (sLR 0 17) := ok_aload_n (by decide +kernel : decode cX8_pop 16 = .ok (.aload_n 0, 1)) rfl
theorem o128_17 : Okp RX8 cX8_pop 2 (some .int) "pop" false 17 (sK 7 19) := ok_bipush (by decide +kernel : decode cX8_pop 17 = .ok (.bipush 7, 2)) (by decide)
theorem o128_19 : Okp RX8 cX8_pop 2 (some .int) "pop" false 19 (sPI 9 14 22) := ok_putI (by decide +kernel : decode cX8_pop 19 = .ok (.putfield 49, 3)) fw_X8_49 ⟨⟨tyX8_ok, nmX8⟩, Or.inl rfl, rfl⟩ rfl
theorem o128_22 : Okp RX8 cX8_pop 2 (some .int) "pop" false 22 (sK 0 23) := ok_iconst (by decide +kernel : decode cX8_pop 22 = .ok (.iconst 0, 1)) (by decide)
theorem o128_23 : Okp RX8 cX8_pop 2 (some .int) "pop" false 23 sRI := ok_iret rfl (by decide +kernel : decode cX8_pop 23 = .ok (.ireturn, 1))
theorem o128_24 : Okp RX8 cX8_pop 2 (some .int) "pop" false 24 (sLR 0 25) := ok_aload_n (by decide +kernel : decode cX8_pop 24 = .ok (.aload_n 0, 1)) rfl
theorem o128_25 : Okp RX8 cX8_pop 2 (some .int) "pop" false 25 (sGR 9 11 28) := ok_getR (by decide +kernel : decode cX8_pop 25 = .ok (.getfield 40, 3)) fw_X8_40 rfl
theorem o128_28 : Okp RX8 cX8_pop 2 (some .int) "pop" false 28 (sLR 0 29) := ok_aload_n (by decide +kernel : decode cX8_pop 28 = .ok (.aload_n 0, 1)) rfl
theorem o128_29 : Okp RX8 cX8_pop 2 (some .int) "pop" false 29 (sGI 9 8 32) := ok_getI (by decide +kernel : decode cX8_pop 29 = .ok (.getfield 30, 3)) fw_X8_30 rfl
theorem o128_32 : Okp RX8 cX8_pop 2 (some .int) "pop" false 32 (sLI 1 33) := ok_iload_n (by decide +kernel : decode cX8_pop 32 = .ok (.iload_n 1, 1)) rfl
theorem o128_33 : Okp RX8 cX8_pop 2 (some .int) "pop" false 33 (sIS 34) := ok_iastore (by decide +kernel : decode cX8_pop 33 = .ok (.iastore, 1))
theorem o128_34 : Okp RX8 cX8_pop 2 (some .int) "pop" false 34 (sLR 0 35) := ok_aload_n (by decide +kernel : decode cX8_pop 34 = .ok (.aload_n 0, 1)) rfl
theorem o128_35 : Okp RX8 cX8_pop 2 (some .int) "pop" false 35 (sLR 0 36) := ok_aload_n (by decide +kernel : decode cX8_pop 35 = .ok (.aload_n 0, 1)) rfl
theorem o128_36 : Okp RX8 cX8_pop 2 (some .int) "pop" false 36 (sGR 9 12 39) := ok_getR (by decide +kernel : decode cX8_pop 36 = .ok (.getfield 43, 3)) fw_X8_43 rfl
theorem o128_39 : Okp RX8 cX8_pop 2 (some .int) "pop" false 39 (sLR 0 40) := ok_aload_n (by decide +kernel : decode cX8_pop 39 = .ok (.aload_n 0, 1)) rfl
theorem o128_40 : Okp RX8 cX8_pop 2 (some .int) "pop" false 40 (sGI 9 8 43) := ok_getI (by decide +kernel : decode cX8_pop 40 = .ok (.getfield 30, 3)) fw_X8_30 rfl
theorem o128_43 : Okp RX8 cX8_pop 2 (some .int) "pop" false 43 (sK 26 45) := ok_bipush (by decide +kernel : decode cX8_pop 43 = .ok (.bipush 26, 2)) (by decide)
theorem o128_45 : Okp RX8 cX8_pop 2 (some .int) "pop" false 45 (sB2 fMul 46) := ok_imul (by decide +kernel : decode cX8_pop 45 = .ok (.imul, 1))
theorem o128_46 : Okp RX8 cX8_pop 2 (some .int) "pop" false 46 (sLI 1 47) := ok_iload_n (by decide +kernel : decode cX8_pop 46 = .ok (.iload_n 1, 1)) rfl
theorem o128_47 : Okp RX8 cX8_pop 2 (some .int) "pop" false 47 (sB2 fAdd 48) := ok_iadd (by decide +kernel : decode cX8_pop 47 = .ok (.iadd, 1))
theorem o128_48 : Okp RX8 cX8_pop 2 (some .int) "pop" false 48 (sIA 49) := ok_iaload (by decide +kernel : decode cX8_pop 48 = .ok (.iaload, 1))
theorem o128_49 : Okp RX8 cX8_pop 2 (some .int) "pop" false 49 (sPI 9 14 52) := ok_putI (by decide +kernel : decode cX8_pop 49 = .ok (.putfield 49, 3)) fw_X8_49 ⟨⟨tyX8_ok, nmX8⟩, Or.inl rfl, rfl⟩ rfl
theorem o128_52 : Okp RX8 cX8_pop 2 (some .int) "pop" false 52 (sLR 0 53) := ok_aload_n (by decide +kernel : decode cX8_pop 52 = .ok (.aload_n 0, 1)) rfl
theorem o128_53 : Okp RX8 cX8_pop 2 (some .int) "pop" false 53 (sGR 9 13 56) := ok_getR (by decide +kernel : decode cX8_pop 53 = .ok (.getfield 46, 3)) fw_X8_46 rfl
theorem o128_56 : Okp RX8 cX8_pop 2 (some .int) "pop" false 56 (sLR 0 57) := ok_aload_n (by decide +kernel : decode cX8_pop 56 = .ok (.aload_n 0, 1)) rfl
theorem o128_57 : Okp RX8 cX8_pop 2 (some .int) "pop" false 57 (sGI 9 8 60) := ok_getI (by decide +kernel : decode cX8_pop 57 = .ok (.getfield 30, 3)) fw_X8_30 rfl
theorem o128_60 : Okp RX8 cX8_pop 2 (some .int) "pop" false 60 (sK 26 62) := ok_bipush (by decide +kernel : decode cX8_pop 60 = .ok (.bipush 26, 2)) (by decide)
theorem o128_62 : Okp RX8 cX8_pop 2 (some .int) "pop" false 62 (sB2 fMul 63) := ok_imul (by decide +kernel : decode cX8_pop 62 = .ok (.imul, 1))
theorem o128_63 : Okp RX8 cX8_pop 2 (some .int) "pop" false 63 (sLI 1 64) := ok_iload_n (by decide +kernel : decode cX8_pop 63 = .ok (.iload_n 1, 1)) rfl
theorem o128_64 : Okp RX8 cX8_pop 2 (some .int) "pop" false 64 (sB2 fAdd 65) := ok_iadd (by decide +kernel : decode cX8_pop 64 = .ok (.iadd, 1))
theorem o128_65 : Okp RX8 cX8_pop 2 (some .int) "pop" false 65 (sIA 66) := ok_iaload (by decide +kernel : decode cX8_pop 65 = .ok (.iaload, 1))
theorem o128_66 : Okp RX8 cX8_pop 2 (some .int) "pop" false 66 sRI := ok_iret rfl (by decide +kernel : decode cX8_pop 66 = .ok (.ireturn, 1))
theorem oc128_0 : ∀ pc, Mnp (c128_0 pc) ∧ Okp RX8 cX8_pop 2 (some .int) "pop" false pc (c128_0 pc) := by
  intro pc
  unfold c128_0
  split
  · exact ⟨mn_sLR, o128_0⟩
  · exact ⟨mn_sGR, o128_1⟩
  · exact ⟨mn_sLR, o128_4⟩
  · exact ⟨mn_sGI, o128_5⟩
  · exact ⟨mn_sIA, o128_8⟩
  · exact ⟨mn_sK, o128_9⟩
  · exact ⟨mn_sB2, o128_10⟩
  · exact ⟨mn_sSI, o128_11⟩
  · exact ⟨mn_sLI, o128_12⟩
  · exact ⟨mn_sI1, o128_13⟩
  · exact ⟨mn_sLR, o128_16⟩
  · exact ⟨mn_sK, o128_17⟩
  · exact ⟨mn_sPI, o128_19⟩
  · exact ⟨mn_sK, o128_22⟩
  · exact ⟨mn_sRI, o128_23⟩
  · exact ⟨mn_sX, ok_X⟩
theorem oc128_1 : ∀ pc, Mnp (c128_1 pc) ∧ Okp RX8 cX8_pop 2 (some .int) "pop" false pc (c128_1 pc) := by
  intro pc
  unfold c128_1
  split
  · exact ⟨mn_sLR, o128_24⟩
  · exact ⟨mn_sGR, o128_25⟩
  · exact ⟨mn_sLR, o128_28⟩
  · exact ⟨mn_sGI, o128_29⟩
  · exact ⟨mn_sLI, o128_32⟩
  · exact ⟨mn_sIS, o128_33⟩
  · exact ⟨mn_sLR, o128_34⟩
  · exact ⟨mn_sLR, o128_35⟩
  · exact ⟨mn_sGR, o128_36⟩
  · exact ⟨mn_sLR, o128_39⟩
  · exact ⟨mn_sGI, o128_40⟩
  · exact ⟨mn_sK, o128_43⟩
  · exact ⟨mn_sB2, o128_45⟩
  · exact ⟨mn_sLI, o128_46⟩
  · exact ⟨mn_sB2, o128_47⟩
  · exact ⟨mn_sX, ok_X⟩
theorem oc128_2 : ∀ pc, Mnp (c128_2 pc) ∧ Okp RX8 cX8_pop 2 (some .int) "pop" false pc (c128_2 pc) := by
  intro pc
  unfold c128_2
  split
  · exact ⟨mn_sIA, o128_48⟩
  · exact ⟨mn_sPI, o128_49⟩
  · exact ⟨mn_sLR, o128_52⟩
  · exact ⟨mn_sGR, o128_53⟩
  · exact ⟨mn_sLR, o128_56⟩
  · exact ⟨mn_sGI, o128_57⟩
  · exact ⟨mn_sK, o128_60⟩
  · exact ⟨mn_sB2, o128_62⟩
  · exact ⟨mn_sLI, o128_63⟩
  · exact ⟨mn_sB2, o128_64⟩
  · exact ⟨mn_sIA, o128_65⟩
  · exact ⟨mn_sRI, o128_66⟩
  · exact ⟨mn_sX, ok_X⟩
theorem oc128 : ∀ pc, Mnp (c128 pc) ∧ Okp RX8 cX8_pop 2 (some .int) "pop" false pc (c128 pc) := by
  intro pc
  unfold c128
  split
  · exact oc128_0 pc
  · exact oc128_1 pc
  · exact oc128_2 pc
  · exact ⟨mn_sX, ok_X⟩
theorem o129_0 : Okp RX8 cX8_setLocal 4 none "setLocal" false 0 (sLI 1 1) := ok_iload_n (by decide +kernel : decode cX8_setLocal 0 = .ok (.iload_n 1, 1)) rfl
theorem o129_1 : Okp RX8 cX8_setLocal 4 none "setLocal" false 1 (sI1 2 46 4) := ok_if_lt (by decide +kernel : decode cX8_setLocal 1 = .ok (.ifCond .lt 45, 3)) (by decide)
theorem o129_4 : Okp RX8 cX8_setLocal 4 none "setLocal" false 4 (sLI 1 5) := ok_iload_n (by decide +kernel : decode cX8_setLocal 4 = .ok (.iload_n 1, 1)) rfl
theorem o129_5 : Okp RX8 cX8_setLocal 4 none "setLocal" false 5 (sK 10 7) := ok_bipush (by decide +kernel : decode cX8_setLocal 5 = .ok (.bipush 10, 2)) (by decide)
theorem o129_7 : Okp RX8 cX8_setLocal 4 none "setLocal" false 7 (sI2 3 46 10) := ok_icmp_ge (by decide +kernel : decode cX8_setLocal 7 = .ok (.if_icmp .ge 39, 3)) (by decide)
theorem o129_10 : Okp RX8 cX8_setLocal 4 none "setLocal" false 10 (sLR 0 11) := ok_aload_n (by decide +kernel : decode cX8_setLocal 10 = .ok (.aload_n 0, 1)) rfl
theorem o129_11 : Okp RX8 cX8_setLocal 4 none "setLocal" false 11 (sGR 9 12 14) := ok_getR (by decide +kernel : decode cX8_setLocal 11 = .ok (.getfield 43, 3)) fw_X8_43 rfl
theorem o129_14 : Okp RX8 cX8_setLocal 4 none "setLocal" false 14 (sLR 0 15) := ok_aload_n (by decide +kernel : decode cX8_setLocal 14 = .ok (.aload_n 0, 1)) rfl
theorem o129_15 : Okp RX8 cX8_setLocal 4 none "setLocal" false 15 (sGI 9 8 18) := ok_getI (by decide +kernel : decode cX8_setLocal 15 = .ok (.getfield 30, 3)) fw_X8_30 rfl
theorem o129_18 : Okp RX8 cX8_setLocal 4 none "setLocal" false 18 (sK 26 20) := ok_bipush (by decide +kernel : decode cX8_setLocal 18 = .ok (.bipush 26, 2)) (by decide)
theorem o129_20 : Okp RX8 cX8_setLocal 4 none "setLocal" false 20 (sB2 fMul 21) := ok_imul (by decide +kernel : decode cX8_setLocal 20 = .ok (.imul, 1))
theorem o129_21 : Okp RX8 cX8_setLocal 4 none "setLocal" false 21 (sK 16 23) := ok_bipush (by decide +kernel : decode cX8_setLocal 21 = .ok (.bipush 16, 2)) (by decide)
theorem o129_23 : Okp RX8 cX8_setLocal 4 none "setLocal" false 23 (sB2 fAdd 24) := ok_iadd (by decide +kernel : decode cX8_setLocal 23 = .ok (.iadd, 1))
theorem o129_24 : Okp RX8 cX8_setLocal 4 none "setLocal" false 24 (sLI 1 25) := ok_iload_n (by decide +kernel : decode cX8_setLocal 24 = .ok (.iload_n 1, 1)) rfl
theorem o129_25 : Okp RX8 cX8_setLocal 4 none "setLocal" false 25 (sB2 fAdd 26) := ok_iadd (by decide +kernel : decode cX8_setLocal 25 = .ok (.iadd, 1))
theorem o129_26 : Okp RX8 cX8_setLocal 4 none "setLocal" false 26 (sLI 2 27) := ok_iload_n (by decide +kernel : decode cX8_setLocal 26 = .ok (.iload_n 2, 1)) rfl
theorem o129_27 : Okp RX8 cX8_setLocal 4 none "setLocal" false 27 (sIS 28) := ok_iastore (by decide +kernel : decode cX8_setLocal 27 = .ok (.iastore, 1))
theorem o129_28 : Okp RX8 cX8_setLocal 4 none "setLocal" false 28 (sLR 0 29) := ok_aload_n (by decide +kernel : decode cX8_setLocal 28 = .ok (.aload_n 0, 1)) rfl
theorem o129_29 : Okp RX8 cX8_setLocal 4 none "setLocal" false 29 (sGR 9 13 32) := ok_getR (by decide +kernel : decode cX8_setLocal 29 = .ok (.getfield 46, 3)) fw_X8_46 rfl
theorem o129_32 : Okp RX8 cX8_setLocal 4 none "setLocal" false 32 (sLR 0 33) := ok_aload_n (by decide +kernel : decode cX8_setLocal 32 = .ok (.aload_n 0, 1)) rfl
theorem o129_33 : Okp RX8 cX8_setLocal 4 none "setLocal" false 33 (sGI 9 8 36) := ok_getI (by decide +kernel : decode cX8_setLocal 33 = .ok (.getfield 30, 3)) fw_X8_30 rfl
theorem o129_36 : Okp RX8 cX8_setLocal 4 none "setLocal" false 36 (sK 26 38) := ok_bipush (by decide +kernel : decode cX8_setLocal 36 = .ok (.bipush 26, 2)) (by decide)
theorem o129_38 : Okp RX8 cX8_setLocal 4 none "setLocal" false 38 (sB2 fMul 39) := ok_imul (by decide +kernel : decode cX8_setLocal 38 = .ok (.imul, 1))
theorem o129_39 : Okp RX8 cX8_setLocal 4 none "setLocal" false 39 (sK 16 41) := ok_bipush (by decide +kernel : decode cX8_setLocal 39 = .ok (.bipush 16, 2)) (by decide)
theorem o129_41 : Okp RX8 cX8_setLocal 4 none "setLocal" false 41 (sB2 fAdd 42) := ok_iadd (by decide +kernel : decode cX8_setLocal 41 = .ok (.iadd, 1))
theorem o129_42 : Okp RX8 cX8_setLocal 4 none "setLocal" false 42 (sLI 1 43) := ok_iload_n (by decide +kernel : decode cX8_setLocal 42 = .ok (.iload_n 1, 1)) rfl
theorem o129_43 : Okp RX8 cX8_setLocal 4 none "setLocal" false 43 (sB2 fAdd 44) := ok_iadd (by decide +kernel : decode cX8_setLocal 43 = .ok (.iadd, 1))
theorem o129_44 : Okp RX8 cX8_setLocal 4 none "setLocal" false 44 (sLI 3 45) := ok_iload_n (by decide +kernel : decode cX8_setLocal 44 = .ok (.iload_n 3, 1)) rfl
theorem o129_45 : Okp RX8 cX8_setLocal 4 none "setLocal" false 45 (sIS 46) := ok_iastore (by decide +kernel : decode cX8_setLocal 45 = .ok (.iastore, 1))
theorem o129_46 : Okp RX8 cX8_setLocal 4 none "setLocal" false 46 sRV := ok_vret rfl (by decide +kernel : decode cX8_setLocal 46 = .ok (.return_, 1))
theorem oc129_0 : ∀ pc, Mnp (c129_0 pc) ∧ Okp RX8 cX8_setLocal 4 none "setLocal" false pc (c129_0 pc) := by
  intro pc
  unfold c129_0
  split
  · exact ⟨mn_sLI, o129_0⟩
  · exact ⟨mn_sI1, o129_1⟩
  · exact ⟨mn_sLI, o129_4⟩
  · exact ⟨mn_sK, o129_5⟩
  · exact ⟨mn_sI2, o129_7⟩
  · exact ⟨mn_sLR, o129_10⟩
  · exact ⟨mn_sGR, o129_11⟩
  · exact ⟨mn_sLR, o129_14⟩
  · exact ⟨mn_sGI, o129_15⟩
  · exact ⟨mn_sK, o129_18⟩
  · exact ⟨mn_sB2, o129_20⟩
  · exact ⟨mn_sK, o129_21⟩
  · exact ⟨mn_sB2, o129_23⟩
  · exact ⟨mn_sX, ok_X⟩
theorem oc129_1 : ∀ pc, Mnp (c129_1 pc) ∧ Okp RX8 cX8_setLocal 4 none "setLocal" false pc (c129_1 pc) := by
  intro pc
  unfold c129_1
  split
  · exact ⟨mn_sLI, o129_24⟩
  · exact ⟨mn_sB2, o129_25⟩
  · exact ⟨mn_sLI, o129_26⟩
  · exact ⟨mn_sIS, o129_27⟩
  · exact ⟨mn_sLR, o129_28⟩
  · exact ⟨mn_sGR, o129_29⟩
  · exact ⟨mn_sLR, o129_32⟩
  · exact ⟨mn_sGI, o129_33⟩
  · exact ⟨mn_sK, o129_36⟩
  · exact ⟨mn_sB2, o129_38⟩
  · exact ⟨mn_sK, o129_39⟩
  · exact ⟨mn_sB2, o129_41⟩
  · exact ⟨mn_sLI, o129_42⟩
  · exact ⟨mn_sB2, o129_43⟩
  · exact ⟨mn_sLI, o129_44⟩
  · exact ⟨mn_sIS, o129_45⟩
  · exact ⟨mn_sRV, o129_46⟩
  · exact ⟨mn_sX, ok_X⟩
theorem oc129 : ∀ pc, Mnp (c129 pc) ∧ Okp RX8 cX8_setLocal 4 none "setLocal" false pc (c129 pc) := by
  intro pc
  unfold c129
  split
  · exact oc129_0 pc
  · exact oc129_1 pc
  · exact ⟨mn_sX, ok_X⟩
theorem o130_0 : Okp RX8 cX8_kindIn 2 (some .int) "kindIn" false 0 (sLI 1 1) := ok_iload_n (by decide +kernel : decode cX8_kindIn 0 = .ok (.iload_n 1, 1)) rfl
theorem o130_1 : Okp RX8 cX8_kindIn 2 (some .int) "kindIn" false 1 (sI1 2 10 4) := ok_if_lt (by decide +kernel : decode cX8_kindIn 1 = .ok (.ifCond .lt 9, 3)) (by decide)
theorem o130_4 : Okp RX8 cX8_kindIn 2 (some .int) "kindIn" false 4 (sLI 1 5) := ok_iload_n (by decide +kernel : decode cX8_kindIn 4 = .ok (.iload_n 1, 1)) rfl
theorem o130_5 : Okp RX8 cX8_kindIn 2 (some .int) "kindIn" false 5 (sK 26 7) := ok_bipush (by decide +kernel : decode cX8_kindIn 5 = .ok (.bipush 26, 2)) (by decide)
theorem o130_7 : Okp RX8 cX8_kindIn 2 (some .int) "kindIn" false 7 (sI2 2 15 10) := ok_icmp_lt (by decide +kernel : decode cX8_kindIn 7 = .ok (.if_icmp .lt 8, 3)) (by decide)
theorem o130_10 : Okp RX8 cX8_kindIn 2 (some .int) "kindIn" false 10 (sK 7 12) := ok_bipush (by decide +kernel : decode cX8_kindIn 10 = .ok (.bipush 7, 2)) (by decide)
theorem o130_12 : Okp RX8 cX8_kindIn 2 (some .int) "kindIn" false 12 (sGo 29) := ok_goto (by decide +kernel : decode cX8_kindIn 12 = .ok (.goto 17, 3)) (by decide)
theorem o130_15 : Okp RX8 cX8_kindIn 2 (some .int) "kindIn" false 15 (sLR 0 16) := ok_aload_n (by decide +kernel : decode cX8_kindIn 15 = .ok (.aload_n 0, 1)) rfl
theorem o130_16 : Okp RX8 cX8_kindIn 2 (some .int) "kindIn" false 16 (sGR 9 12 19) := ok_getR (by decide +kernel : decode cX8_kindIn 16 = .ok (.getfield 43, 3)) fw_X8_43 rfl
theorem o130_19 : Okp RX8 cX8_kindIn 2 (some .int) "kindIn" false 19 (sLR 0 20) := ok_aload_n (by decide +kernel : decode cX8_kindIn 19 = .ok (.aload_n 0, 1)) rfl
theorem o130_20 : Okp RX8 cX8_kindIn 2 (some .int) "kindIn" false 20 (sGI 9 8 23) := ok_getI (by decide +kernel : decode cX8_kindIn 20 = .ok (.getfield 30, 3)) fw_X8_30 rfl
theorem o130_23 : Okp RX8 cX8_kindIn 2 (some .int) "kindIn" false 23 (sK 26 25) := ok_bipush (by decide +kernel : decode cX8_kindIn 23 = .ok (.bipush 26, 2)) (by decide)
theorem o130_25 : Okp RX8 cX8_kindIn 2 (some .int) "kindIn" false 25 (sB2 fMul 26) := ok_imul (by decide +kernel : decode cX8_kindIn 25 = .ok (.imul, 1))
theorem o130_26 : Okp RX8 cX8_kindIn 2 (some .int) "kindIn" false 26 (sLI 1 27) := ok_iload_n (by decide +kernel : decode cX8_kindIn 26 = .ok (.iload_n 1, 1)) rfl
theorem o130_27 : Okp RX8 cX8_kindIn 2 (some .int) "kindIn" false 27 (sB2 fAdd 28) := ok_iadd (by decide +kernel : decode cX8_kindIn 27 = .ok (.iadd, 1))
theorem o130_28 : Okp RX8 cX8_kindIn 2 (some .int) "kindIn" false 28 (sIA 29) := ok_iaload (by decide +kernel : decode cX8_kindIn 28 = .ok (.iaload, 1))
theorem o130_29 : Okp RX8 cX8_kindIn 2 (some .int) "kindIn" false 29 sRI := ok_iret rfl (by decide +kernel : decode cX8_kindIn 29 = .ok (.ireturn, 1))
theorem oc130_0 : ∀ pc, Mnp (c130_0 pc) ∧ Okp RX8 cX8_kindIn 2 (some .int) "kindIn" false pc (c130_0 pc) := by
  intro pc
  unfold c130_0
  split
  · exact ⟨mn_sLI, o130_0⟩
  · exact ⟨mn_sI1, o130_1⟩
  · exact ⟨mn_sLI, o130_4⟩
  · exact ⟨mn_sK, o130_5⟩
  · exact ⟨mn_sI2, o130_7⟩
  · exact ⟨mn_sK, o130_10⟩
  · exact ⟨mn_sGo, o130_12⟩
  · exact ⟨mn_sLR, o130_15⟩
  · exact ⟨mn_sGR, o130_16⟩
  · exact ⟨mn_sLR, o130_19⟩
  · exact ⟨mn_sGI, o130_20⟩
  · exact ⟨mn_sK, o130_23⟩
  · exact ⟨mn_sX, ok_X⟩
theorem oc130_1 : ∀ pc, Mnp (c130_1 pc) ∧ Okp RX8 cX8_kindIn 2 (some .int) "kindIn" false pc (c130_1 pc) := by
  intro pc
  unfold c130_1
  split
  · exact ⟨mn_sB2, o130_25⟩
  · exact ⟨mn_sLI, o130_26⟩
  · exact ⟨mn_sB2, o130_27⟩
  · exact ⟨mn_sIA, o130_28⟩
  · exact ⟨mn_sRI, o130_29⟩
  · exact ⟨mn_sX, ok_X⟩
theorem oc130 : ∀ pc, Mnp (c130 pc) ∧ Okp RX8 cX8_kindIn 2 (some .int) "kindIn" false pc (c130 pc) := by
  intro pc
  unfold c130
  split
  · exact oc130_0 pc
  · exact oc130_1 pc
  · exact ⟨mn_sX, ok_X⟩
theorem o131_0 : Okp RX8 cX8_numberIn 2 (some .int) "numberIn" false 0 (sLI 1 1) := ok_iload_n (by decide +kernel : decode cX8_numberIn 0 = .ok (.iload_n 1, 1)) rfl
theorem o131_1 : Okp RX8 cX8_numberIn 2 (some .int) "numberIn" false 1 (sI1 2 10 4) := ok_if_lt (by decide +kernel : decode cX8_numberIn 1 = .ok (.ifCond .lt 9, 3)) (by decide)
theorem o131_4 : Okp RX8 cX8_numberIn 2 (some .int) "numberIn" false 4 (sLI 1 5) := ok_iload_n (by decide +kernel : decode cX8_numberIn 4 = .ok (.iload_n 1, 1)) rfl
theorem o131_5 : Okp RX8 cX8_numberIn 2 (some .int) "numberIn" false 5 (sK 26 7) := ok_bipush (by decide +kernel : decode cX8_numberIn 5 = .ok (.bipush 26, 2)) (by decide)
theorem o131_7 : Okp RX8 cX8_numberIn 2 (some .int) "numberIn" false 7 (sI2 2 14 10) := ok_icmp_lt (by decide +kernel : decode cX8_numberIn 7 = .ok (.if_icmp .lt 7, 3)) (by decide)
theorem o131_10 : Okp RX8 cX8_numberIn 2 (some .int) "numberIn" false 10 (sK 0 11) := ok_iconst (by decide +kernel : decode cX8_numberIn 10 = .ok (.iconst 0, 1)) (by decide)
theorem o131_11 : Okp RX8 cX8_numberIn 2 (some .int) "numberIn" false 11 (sGo 28) := ok_goto (by decide +kernel : decode cX8_numberIn 11 = .ok (.goto 17, 3)) (by decide)
theorem o131_14 : Okp RX8 cX8_numberIn 2 (some .int) "numberIn" false 14 (sLR 0 15) := ok_aload_n (by decide +kernel : decode cX8_numberIn 14 = .ok (.aload_n 0, 1)) rfl
theorem o131_15 : Okp RX8 cX8_numberIn 2 (some .int) "numberIn" false 15 (sGR 9 13 18) := ok_getR (by decide +kernel : decode cX8_numberIn 15 = .ok (.getfield 46, 3)) fw_X8_46 rfl
theorem o131_18 : Okp RX8 cX8_numberIn 2 (some .int) "numberIn" false 18 (sLR 0 19) := ok_aload_n (by decide +kernel : decode cX8_numberIn 18 = .ok (.aload_n 0, 1)) rfl
theorem o131_19 : Okp RX8 cX8_numberIn 2 (some .int) "numberIn" false 19 (sGI 9 8 22) := ok_getI (by decide +kernel : decode cX8_numberIn 19 = .ok (.getfield 30, 3)) fw_X8_30 rfl
theorem o131_22 : Okp RX8 cX8_numberIn 2 (some .int) "numberIn" false 22 (sK 26 24) := ok_bipush (by decide +kernel : decode cX8_numberIn 22 = .ok (.bipush 26, 2)) (by decide)
theorem o131_24 : Okp RX8 cX8_numberIn 2 (some .int) "numberIn" false 24 (sB2 fMul 25) := ok_imul (by decide +kernel : decode cX8_numberIn 24 = .ok (.imul, 1))
theorem o131_25 : Okp RX8 cX8_numberIn 2 (some .int) "numberIn" false 25 (sLI 1 26) := ok_iload_n (by decide +kernel : decode cX8_numberIn 25 = .ok (.iload_n 1, 1)) rfl
theorem o131_26 : Okp RX8 cX8_numberIn 2 (some .int) "numberIn" false 26 (sB2 fAdd 27) := ok_iadd (by decide +kernel : decode cX8_numberIn 26 = .ok (.iadd, 1))
theorem o131_27 : Okp RX8 cX8_numberIn 2 (some .int) "numberIn" false 27 (sIA 28) := ok_iaload (by decide +kernel : decode cX8_numberIn 27 = .ok (.iaload, 1))
theorem o131_28 : Okp RX8 cX8_numberIn 2 (some .int) "numberIn" false 28 sRI := ok_iret rfl (by decide +kernel : decode cX8_numberIn 28 = .ok (.ireturn, 1))
theorem oc131_0 : ∀ pc, Mnp (c131_0 pc) ∧ Okp RX8 cX8_numberIn 2 (some .int) "numberIn" false pc (c131_0 pc) := by
  intro pc
  unfold c131_0
  split
  · exact ⟨mn_sLI, o131_0⟩
  · exact ⟨mn_sI1, o131_1⟩
  · exact ⟨mn_sLI, o131_4⟩
  · exact ⟨mn_sK, o131_5⟩
  · exact ⟨mn_sI2, o131_7⟩
  · exact ⟨mn_sK, o131_10⟩
  · exact ⟨mn_sGo, o131_11⟩
  · exact ⟨mn_sLR, o131_14⟩
  · exact ⟨mn_sGR, o131_15⟩
  · exact ⟨mn_sLR, o131_18⟩
  · exact ⟨mn_sGI, o131_19⟩
  · exact ⟨mn_sK, o131_22⟩
  · exact ⟨mn_sX, ok_X⟩
theorem oc131_1 : ∀ pc, Mnp (c131_1 pc) ∧ Okp RX8 cX8_numberIn 2 (some .int) "numberIn" false pc (c131_1 pc) := by
  intro pc
  unfold c131_1
  split
  · exact ⟨mn_sB2, o131_24⟩
  · exact ⟨mn_sLI, o131_25⟩
  · exact ⟨mn_sB2, o131_26⟩
  · exact ⟨mn_sIA, o131_27⟩
  · exact ⟨mn_sRI, o131_28⟩
  · exact ⟨mn_sX, ok_X⟩
theorem oc131 : ∀ pc, Mnp (c131 pc) ∧ Okp RX8 cX8_numberIn 2 (some .int) "numberIn" false pc (c131 pc) := by
  intro pc
  unfold c131
  split
  · exact oc131_0 pc
  · exact oc131_1 pc
  · exact ⟨mn_sX, ok_X⟩
theorem o132_0 : Okp RX8 cX8_highest 1 (some .int) "highest" false 0 (sLR 0 1) := ok_aload_n (by decide +kernel : decode cX8_highest 0 = .ok (.aload_n 0, 1)) rfl
theorem o132_1 : Okp RX8 cX8_highest 1 (some .int) "highest" false 1 (sLR 0 2) := ok_aload_n (by decide +kernel : decode cX8_highest 1 = .ok (.aload_n 0, 1)) rfl
theorem o132_2 : Okp RX8 cX8_highest 1 (some .int) "highest" false 2 (sGR 9 11 5) := ok_getR (by decide +kernel : decode cX8_highest 2 = .ok (.getfield 40, 3)) fw_X8_40 rfl
theorem o132_5 : Okp RX8 cX8_highest 1 (some .int) "highest" false 5 (sLR 0 6) := ok_aload_n (by decide +kernel : decode cX8_highest 5 = .ok (.aload_n 0, 1)) rfl
theorem o132_6 : Okp RX8 cX8_highest 1 (some .int) "highest" false 6 (sGI 9 8 9) := ok_getI (by decide +kernel : decode cX8_highest 6 = .ok (.getfield 30, 3)) fw_X8_30 rfl
theorem o132_9 : Okp RX8 cX8_highest 1 (some .int) "highest" false 9 (sIA 10) := ok_iaload (by decide +kernel : decode cX8_highest 9 = .ok (.iaload, 1))
theorem o132_10 : Okp RX8 cX8_highest 1 (some .int) "highest" false 10 (sK 1 11) := ok_iconst (by decide +kernel : decode cX8_highest 10 = .ok (.iconst 1, 1)) (by decide)
theorem o132_11 : Okp RX8 cX8_highest 1 (some .int) "highest" false 11 (sB2 fSub 12) := ok_isub (by decide +kernel : decode cX8_highest 11 = .ok (.isub, 1))
theorem o132_12 : Okp RX8 cX8_highest 1 (some .int) "highest" false 12 (sCV false 131 2 9 15) := ok_cv (by decide +kernel : decode cX8_highest 12 = .ok (.invokevirtual 96, 3)) mw_X8_96 rfl (by decide) wm_X8_numberIn wse_X8_numberIn (by decide) rfl
theorem o132_15 : Okp RX8 cX8_highest 1 (some .int) "highest" false 15 sRI := ok_iret rfl (by decide +kernel : decode cX8_highest 15 = .ok (.ireturn, 1))
theorem oc132 : ∀ pc, Mnp (c132 pc) ∧ Okp RX8 cX8_highest 1 (some .int) "highest" false pc (c132 pc) := by
  intro pc
  unfold c132
  split
  · exact ⟨mn_sLR, o132_0⟩
  · exact ⟨mn_sLR, o132_1⟩
  · exact ⟨mn_sGR, o132_2⟩
  · exact ⟨mn_sLR, o132_5⟩
  · exact ⟨mn_sGI, o132_6⟩
  · exact ⟨mn_sIA, o132_9⟩
  · exact ⟨mn_sK, o132_10⟩
  · exact ⟨mn_sB2, o132_11⟩
  · exact ⟨mn_sCV, o132_12⟩
  · exact ⟨mn_sRI, o132_15⟩
  · exact ⟨mn_sX, ok_X⟩
theorem o133_0 : Okp RX8 cX8_shown 3 (some .int) "shown" false 0 (sLR 0 1) := ok_aload_n (by decide +kernel : decode cX8_shown 0 = .ok (.aload_n 0, 1)) rfl
theorem o133_1 : Okp RX8 cX8_shown 3 (some .int) "shown" false 1 (sLI 1 2) := ok_iload_n (by decide +kernel : decode cX8_shown 1 = .ok (.iload_n 1, 1)) rfl
theorem o133_2 : Okp RX8 cX8_shown 3 (some .int) "shown" false 2 (sCV false 131 2 9 5) := ok_cv (by decide +kernel : decode cX8_shown 2 = .ok (.invokevirtual 96, 3)) mw_X8_96 rfl (by decide) wm_X8_numberIn wse_X8_numberIn (by decide) rfl
theorem o133_5 : Okp RX8 cX8_shown 3 (some .int) "shown" false 5 (sSI 2 6) := ok_istore_n (by decide +kernel : decode cX8_shown 5 = .ok (.istore_n 2, 1)) rfl (by decide) (by decide)
theorem o133_6 : Okp RX8 cX8_shown 3 (some .int) "shown" false 6 (sLR 0 7) := ok_aload_n (by decide +kernel : decode cX8_shown 6 = .ok (.aload_n 0, 1)) rfl
theorem o133_7 : Okp RX8 cX8_shown 3 (some .int) "shown" false 7 (sLI 1 8) := ok_iload_n (by decide +kernel : decode cX8_shown 7 = .ok (.iload_n 1, 1)) rfl
theorem o133_8 : Okp RX8 cX8_shown 3 (some .int) "shown" false 8 (sCV false 130 2 9 11) := ok_cv (by decide +kernel : decode cX8_shown 8 = .ok (.invokevirtual 100, 3)) mw_X8_100 rfl (by decide) wm_X8_kindIn wse_X8_kindIn (by decide) rfl
theorem o133_11 : Okp RX8 cX8_shown 3 (some .int) "shown" false 11 (sK 1 12) := ok_iconst (by decide +kernel : decode cX8_shown 11 = .ok (.iconst 1, 1)) (by decide)
theorem o133_12 : Okp RX8 cX8_shown 3 (some .int) "shown" false 12 (sI2 1 27 15) := ok_icmp_ne (by decide +kernel : decode cX8_shown 12 = .ok (.if_icmp .ne 15, 3)) (by decide)
theorem o133_15 : Okp RX8 cX8_shown 3 (some .int) "shown" false 15 (sLI 2 16) := ok_iload_n (by decide +kernel : decode cX8_shown 15 = .ok (.iload_n 2, 1)) rfl
theorem o133_16 : Okp RX8 cX8_shown 3 (some .int) "shown" false 16 (sI1 1 23 19) := ok_if_ne (by decide +kernel : decode cX8_shown 16 = .ok (.ifCond .ne 7, 3)) (by decide)
theorem o133_19 : Okp RX8 cX8_shown 3 (some .int) "shown" false 19 (sK 0 20) := ok_iconst (by decide +kernel : decode cX8_shown 19 = .ok (.iconst 0, 1)) (by decide)
theorem o133_20 : Okp RX8 cX8_shown 3 (some .int) "shown" false 20 (sGo 28) := ok_goto (by decide +kernel : decode cX8_shown 20 = .ok (.goto 8, 3)) (by decide)
theorem o133_23 : Okp RX8 cX8_shown 3 (some .int) "shown" false 23 (sK 1 24) := ok_iconst (by decide +kernel : decode cX8_shown 23 = .ok (.iconst 1, 1)) (by decide)
theorem o133_24 : Okp RX8 cX8_shown 3 (some .int) "shown" false 24 (sGo 28) := ok_goto (by decide +kernel : decode cX8_shown 24 = .ok (.goto 4, 3)) (by decide)
theorem o133_27 : Okp RX8 cX8_shown 3 (some .int) "shown" false 27 (sLI 2 28) := ok_iload_n (by decide +kernel : decode cX8_shown 27 = .ok (.iload_n 2, 1)) rfl
theorem o133_28 : Okp RX8 cX8_shown 3 (some .int) "shown" false 28 sRI := ok_iret rfl (by decide +kernel : decode cX8_shown 28 = .ok (.ireturn, 1))
theorem oc133_0 : ∀ pc, Mnp (c133_0 pc) ∧ Okp RX8 cX8_shown 3 (some .int) "shown" false pc (c133_0 pc) := by
  intro pc
  unfold c133_0
  split
  · exact ⟨mn_sLR, o133_0⟩
  · exact ⟨mn_sLI, o133_1⟩
  · exact ⟨mn_sCV, o133_2⟩
  · exact ⟨mn_sSI, o133_5⟩
  · exact ⟨mn_sLR, o133_6⟩
  · exact ⟨mn_sLI, o133_7⟩
  · exact ⟨mn_sCV, o133_8⟩
  · exact ⟨mn_sK, o133_11⟩
  · exact ⟨mn_sI2, o133_12⟩
  · exact ⟨mn_sLI, o133_15⟩
  · exact ⟨mn_sI1, o133_16⟩
  · exact ⟨mn_sK, o133_19⟩
  · exact ⟨mn_sGo, o133_20⟩
  · exact ⟨mn_sK, o133_23⟩
  · exact ⟨mn_sX, ok_X⟩
theorem oc133_1 : ∀ pc, Mnp (c133_1 pc) ∧ Okp RX8 cX8_shown 3 (some .int) "shown" false pc (c133_1 pc) := by
  intro pc
  unfold c133_1
  split
  · exact ⟨mn_sGo, o133_24⟩
  · exact ⟨mn_sLI, o133_27⟩
  · exact ⟨mn_sRI, o133_28⟩
  · exact ⟨mn_sX, ok_X⟩
theorem oc133 : ∀ pc, Mnp (c133 pc) ∧ Okp RX8 cX8_shown 3 (some .int) "shown" false pc (c133 pc) := by
  intro pc
  unfold c133
  split
  · exact oc133_0 pc
  · exact oc133_1 pc
  · exact ⟨mn_sX, ok_X⟩
theorem o134_0 : Okp RX8 cX8_cellAt 2 (some .int) "cellAt" false 0 (sLI 1 1) := ok_iload_n (by decide +kernel : decode cX8_cellAt 0 = .ok (.iload_n 1, 1)) rfl
theorem o134_1 : Okp RX8 cX8_cellAt 2 (some .int) "cellAt" false 1 (sK 1 2) := ok_iconst (by decide +kernel : decode cX8_cellAt 1 = .ok (.iconst 1, 1)) (by decide)
theorem o134_2 : Okp RX8 cX8_cellAt 2 (some .int) "cellAt" false 2 (sI2 2 12 5) := ok_icmp_lt (by decide +kernel : decode cX8_cellAt 2 = .ok (.if_icmp .lt 10, 3)) (by decide)
theorem o134_5 : Okp RX8 cX8_cellAt 2 (some .int) "cellAt" false 5 (sLI 1 6) := ok_iload_n (by decide +kernel : decode cX8_cellAt 5 = .ok (.iload_n 1, 1)) rfl
theorem o134_6 : Okp RX8 cX8_cellAt 2 (some .int) "cellAt" false 6 (sK 1024 9) := ok_sipush (by decide +kernel : decode cX8_cellAt 6 = .ok (.sipush 1024, 3)) (by decide)
theorem o134_9 : Okp RX8 cX8_cellAt 2 (some .int) "cellAt" false 9 (sI2 5 16 12) := ok_icmp_le (by decide +kernel : decode cX8_cellAt 9 = .ok (.if_icmp .le 7, 3)) (by decide)
theorem o134_12 : Okp RX8 cX8_cellAt 2 (some .int) "cellAt" false 12 (sK 0 13) := ok_iconst (by decide +kernel : decode cX8_cellAt 12 = .ok (.iconst 0, 1)) (by decide)
theorem o134_13 : Okp RX8 cX8_cellAt 2 (some .int) "cellAt" false 13 (sGo 22) := ok_goto (by decide +kernel : decode cX8_cellAt 13 = .ok (.goto 9, 3)) (by decide)
theorem o134_16 : Okp RX8 cX8_cellAt 2 (some .int) "cellAt" false 16 (sLR 0 17) := ok_aload_n (by decide +kernel : decode cX8_cellAt 16 = .ok (.aload_n 0, 1)) rfl
theorem o134_17 : Okp RX8 cX8_cellAt 2 (some .int) "cellAt" false 17 (sGR 9 15 20) := ok_getR (by decide +kernel : decode cX8_cellAt 17 = .ok (.getfield 52, 3)) fw_X8_52 rfl
theorem o134_20 : Okp RX8 cX8_cellAt 2 (some .int) "cellAt" false 20 (sLI 1 21) := ok_iload_n (by decide +kernel : decode cX8_cellAt 20 = .ok (.iload_n 1, 1)) rfl
theorem o134_21 : Okp RX8 cX8_cellAt 2 (some .int) "cellAt" false 21 (sIA 22) := ok_iaload (by decide +kernel : decode cX8_cellAt 21 = .ok (.iaload, 1))
theorem o134_22 : Okp RX8 cX8_cellAt 2 (some .int) "cellAt" false 22 sRI := ok_iret rfl (by decide +kernel : decode cX8_cellAt 22 = .ok (.ireturn, 1))
theorem oc134 : ∀ pc, Mnp (c134 pc) ∧ Okp RX8 cX8_cellAt 2 (some .int) "cellAt" false pc (c134 pc) := by
  intro pc
  unfold c134
  split
  · exact ⟨mn_sLI, o134_0⟩
  · exact ⟨mn_sK, o134_1⟩
  · exact ⟨mn_sI2, o134_2⟩
  · exact ⟨mn_sLI, o134_5⟩
  · exact ⟨mn_sK, o134_6⟩
  · exact ⟨mn_sI2, o134_9⟩
  · exact ⟨mn_sK, o134_12⟩
  · exact ⟨mn_sGo, o134_13⟩
  · exact ⟨mn_sLR, o134_16⟩
  · exact ⟨mn_sGR, o134_17⟩
  · exact ⟨mn_sLI, o134_20⟩
  · exact ⟨mn_sIA, o134_21⟩
  · exact ⟨mn_sRI, o134_22⟩
  · exact ⟨mn_sX, ok_X⟩
theorem o135_0 : Okp RX8 cX8_setCell 3 none "setCell" false 0 (sLI 1 1) := ok_iload_n (by decide +kernel : decode cX8_setCell 0 = .ok (.iload_n 1, 1)) rfl
theorem o135_1 : Okp RX8 cX8_setCell 3 none "setCell" false 1 (sK 1 2) := ok_iconst (by decide +kernel : decode cX8_setCell 1 = .ok (.iconst 1, 1)) (by decide)
theorem o135_2 : Okp RX8 cX8_setCell 3 none "setCell" false 2 (sI2 2 19 5) := ok_icmp_lt (by decide +kernel : decode cX8_setCell 2 = .ok (.if_icmp .lt 17, 3)) (by decide)
theorem o135_5 : Okp RX8 cX8_setCell 3 none "setCell" false 5 (sLI 1 6) := ok_iload_n (by decide +kernel : decode cX8_setCell 5 = .ok (.iload_n 1, 1)) rfl
theorem o135_6 : Okp RX8 cX8_setCell 3 none "setCell" false 6 (sK 1024 9) := ok_sipush (by decide +kernel : decode cX8_setCell 6 = .ok (.sipush 1024, 3)) (by decide)
theorem o135_9 : Okp RX8 cX8_setCell 3 none "setCell" false 9 (sI2 4 19 12) := ok_icmp_gt (by decide +kernel : decode cX8_setCell 9 = .ok (.if_icmp .gt 10, 3)) (by decide)
theorem o135_12 : Okp RX8 cX8_setCell 3 none "setCell" false 12 (sLR 0 13) := ok_aload_n (by decide +kernel : decode cX8_setCell 12 = .ok (.aload_n 0, 1)) rfl
theorem o135_13 : Okp RX8 cX8_setCell 3 none "setCell" false 13 (sGR 9 15 16) := ok_getR (by decide +kernel : decode cX8_setCell 13 = .ok (.getfield 52, 3)) fw_X8_52 rfl
theorem o135_16 : Okp RX8 cX8_setCell 3 none "setCell" false 16 (sLI 1 17) := ok_iload_n (by decide +kernel : decode cX8_setCell 16 = .ok (.iload_n 1, 1)) rfl
theorem o135_17 : Okp RX8 cX8_setCell 3 none "setCell" false 17 (sLI 2 18) := ok_iload_n (by decide +kernel : decode cX8_setCell 17 = .ok (.iload_n 2, 1)) rfl
theorem o135_18 : Okp RX8 cX8_setCell 3 none "setCell" false 18 (sIS 19) := ok_iastore (by decide +kernel : decode cX8_setCell 18 = .ok (.iastore, 1))
theorem o135_19 : Okp RX8 cX8_setCell 3 none "setCell" false 19 sRV := ok_vret rfl (by decide +kernel : decode cX8_setCell 19 = .ok (.return_, 1))
theorem oc135 : ∀ pc, Mnp (c135 pc) ∧ Okp RX8 cX8_setCell 3 none "setCell" false pc (c135 pc) := by
  intro pc
  unfold c135
  split
  · exact ⟨mn_sLI, o135_0⟩
  · exact ⟨mn_sK, o135_1⟩
  · exact ⟨mn_sI2, o135_2⟩
  · exact ⟨mn_sLI, o135_5⟩
  · exact ⟨mn_sK, o135_6⟩
  · exact ⟨mn_sI2, o135_9⟩
  · exact ⟨mn_sLR, o135_12⟩
  · exact ⟨mn_sGR, o135_13⟩
  · exact ⟨mn_sLI, o135_16⟩
  · exact ⟨mn_sLI, o135_17⟩
  · exact ⟨mn_sIS, o135_18⟩
  · exact ⟨mn_sRV, o135_19⟩
  · exact ⟨mn_sX, ok_X⟩
theorem o136_0 : Okp RX8 cX8_room 1 (some .int) "room" false 0 (sLR 0 1) := ok_aload_n (by decide +kernel : decode cX8_room 0 = .ok (.aload_n 0, 1)) rfl
theorem o136_1 : Okp RX8 cX8_room 1 (some .int) "room" false 1 (sGI 9 3 4) := ok_getI (by decide +kernel : decode cX8_room 1 = .ok (.getfield 15, 3)) fw_X8_15 rfl
theorem o136_4 : Okp RX8 cX8_room 1 (some .int) "room" false 4 (sK 1 5) := ok_iconst (by decide +kernel : decode cX8_room 4 = .ok (.iconst 1, 1)) (by decide)
theorem o136_5 : Okp RX8 cX8_room 1 (some .int) "room" false 5 (sB2 fAdd 6) := ok_iadd (by decide +kernel : decode cX8_room 5 = .ok (.iadd, 1))
theorem o136_6 : Okp RX8 cX8_room 1 (some .int) "room" false 6 (sLR 0 7) := ok_aload_n (by decide +kernel : decode cX8_room 6 = .ok (.aload_n 0, 1)) rfl
theorem o136_7 : Okp RX8 cX8_room 1 (some .int) "room" false 7 (sGI 9 16 10) := ok_getI (by decide +kernel : decode cX8_room 7 = .ok (.getfield 55, 3)) fw_X8_55 rfl
theorem o136_10 : Okp RX8 cX8_room 1 (some .int) "room" false 10 (sB2 fSub 11) := ok_isub (by decide +kernel : decode cX8_room 10 = .ok (.isub, 1))
theorem o136_11 : Okp RX8 cX8_room 1 (some .int) "room" false 11 sRI := ok_iret rfl (by decide +kernel : decode cX8_room 11 = .ok (.ireturn, 1))
theorem oc136 : ∀ pc, Mnp (c136 pc) ∧ Okp RX8 cX8_room 1 (some .int) "room" false pc (c136 pc) := by
  intro pc
  unfold c136
  split
  · exact ⟨mn_sLR, o136_0⟩
  · exact ⟨mn_sGI, o136_1⟩
  · exact ⟨mn_sK, o136_4⟩
  · exact ⟨mn_sB2, o136_5⟩
  · exact ⟨mn_sLR, o136_6⟩
  · exact ⟨mn_sGI, o136_7⟩
  · exact ⟨mn_sB2, o136_10⟩
  · exact ⟨mn_sRI, o136_11⟩
  · exact ⟨mn_sX, ok_X⟩
theorem o137_0 : Okp RX8 cX8_make 5 (some .int) "make" false 0 (sLR 0 1) := ok_aload_n (by decide +kernel : decode cX8_make 0 = .ok (.aload_n 0, 1)) rfl
theorem o137_1 : Okp RX8 cX8_make 5 (some .int) "make" false 1 (sGI 9 16 4) := ok_getI (by decide +kernel : decode cX8_make 1 = .ok (.getfield 55, 3)) fw_X8_55 rfl
theorem o137_4 : Okp RX8 cX8_make 5 (some .int) "make" false 4 (sSI 2 5) := ok_istore_n (by decide +kernel : decode cX8_make 4 = .ok (.istore_n 2, 1)) rfl (by decide) (by decide)
theorem o137_5 : Okp RX8 cX8_make 5 (some .int) "make" false 5 (sK 1 6) := ok_iconst (by decide +kernel : decode cX8_make 5 = .ok (.iconst 1, 1)) (by decide)
theorem o137_6 : Okp RX8 cX8_make 5 (some .int) "make" false 6 (sLI 1 7) := ok_iload_n (by decide +kernel : decode cX8_make 6 = .ok (.iload_n 1, 1)) rfl
theorem o137_7 : Okp RX8 cX8_make 5 (some .int) "make" false 7 (sK 65535 9) := ok_ldc (by decide +kernel : decode cX8_make 7 = .ok (.ldc 103, 2)) wk_X8_103 (by decide)
theorem o137_9 : Okp RX8 cX8_make 5 (some .int) "make" false 9 (sB2 fAnd 10) := ok_iand (by decide +kernel : decode cX8_make 9 = .ok (.iand, 1))
theorem o137_10 : Okp RX8 cX8_make 5 (some .int) "make" false 10 (sB2 fAdd 11) := ok_iadd (by decide +kernel : decode cX8_make 10 = .ok (.iadd, 1))
theorem o137_11 : Okp RX8 cX8_make 5 (some .int) "make" false 11 (sSI 3 12) := ok_istore_n (by decide +kernel : decode cX8_make 11 = .ok (.istore_n 3, 1)) rfl (by decide) (by decide)
theorem o137_12 : Okp RX8 cX8_make 5 (some .int) "make" false 12 (sLI 3 13) := ok_iload_n (by decide +kernel : decode cX8_make 12 = .ok (.iload_n 3, 1)) rfl
theorem o137_13 : Okp RX8 cX8_make 5 (some .int) "make" false 13 (sLR 0 14) := ok_aload_n (by decide +kernel : decode cX8_make 13 = .ok (.aload_n 0, 1)) rfl
theorem o137_14 : Okp RX8 cX8_make 5 (some .int) "make" false 14 (sCV false 136 1 9 17) := ok_cv (by decide +kernel : decode cX8_make 14 = .ok (.invokevirtual 104, 3)) mw_X8_104 rfl (by decide) wm_X8_room wse_X8_room (by decide) rfl
theorem o137_17 : Okp RX8 cX8_make 5 (some .int) "make" false 17 (sI2 5 22 20) := ok_icmp_le (by decide +kernel : decode cX8_make 17 = .ok (.if_icmp .le 5, 3)) (by decide)
theorem o137_20 : Okp RX8 cX8_make 5 (some .int) "make" false 20 (sK 0 21) := ok_iconst (by decide +kernel : decode cX8_make 20 = .ok (.iconst 0, 1)) (by decide)
theorem o137_21 : Okp RX8 cX8_make 5 (some .int) "make" false 21 sRI := ok_iret rfl (by decide +kernel : decode cX8_make 21 = .ok (.ireturn, 1))
theorem o137_22 : Okp RX8 cX8_make 5 (some .int) "make" false 22 (sLR 0 23) := ok_aload_n (by decide +kernel : decode cX8_make 22 = .ok (.aload_n 0, 1)) rfl
theorem o137_23 : Okp RX8 cX8_make 5 (some .int) "make" false 23 (sLI 2 24) := ok_iload_n (by decide +kernel : decode cX8_make 23 = .ok (.iload_n 2, 1)) rfl
theorem o137_24 : Okp RX8 cX8_make 5 (some .int) "make" false 24 (sLI 1 25) := ok_iload_n (by decide +kernel : decode cX8_make 24 = .ok (.iload_n 1, 1)) rfl
theorem o137_25 : Okp RX8 cX8_make 5 (some .int) "make" false 25 (sCV false 135 3 9 28) := ok_cv (by decide +kernel : decode cX8_make 25 = .ok (.invokevirtual 108, 3)) mw_X8_108 rfl (by decide) wm_X8_setCell wse_X8_setCell (by decide) rfl
theorem o137_28 : Okp RX8 cX8_make 5 (some .int) "make" false 28 (sK 1 29) := ok_iconst (by decide +kernel : decode cX8_make 28 = .ok (.iconst 1, 1)) (by decide)
theorem o137_29 : Okp RX8 cX8_make 5 (some .int) "make" false 29 (sSI 4 31) := ok_istore (by decide +kernel : decode cX8_make 29 = .ok (.istore 4, 2)) (by decide) (by decide)
theorem o137_31 : Okp RX8 cX8_make 5 (some .int) "make" false 31 (sLI 4 33) := ok_iload (by decide +kernel : decode cX8_make 31 = .ok (.iload 4, 2))
theorem o137_33 : Okp RX8 cX8_make 5 (some .int) "make" false 33 (sLI 3 34) := ok_iload_n (by decide +kernel : decode cX8_make 33 = .ok (.iload_n 3, 1)) rfl
theorem o137_34 : Okp RX8 cX8_make 5 (some .int) "make" false 34 (sI2 3 52 37) := ok_icmp_ge (by decide +kernel : decode cX8_make 34 = .ok (.if_icmp .ge 18, 3)) (by decide)
theorem o137_37 : Okp RX8 cX8_make 5 (some .int) "make" false 37 (sLR 0 38) := ok_aload_n (by decide +kernel : decode cX8_make 37 = .ok (.aload_n 0, 1)) rfl
theorem o137_38 : Okp RX8 cX8_make 5 (some .int) "make" false 38 (sLI 2 39) := ok_iload_n (by decide +kernel : decode cX8_make 38 = .ok (.iload_n 2, 1)) rfl
theorem o137_39 : Okp RX8 cX8_make 5 (some .int) "make" false 39 (sLI 4 41) := ok_iload (by decide +kernel : decode cX8_make 39 = .ok (.iload 4, 2))
theorem o137_41 : Okp RX8 cX8_make 5 (some .int) "make" false 41 (sB2 fAdd 42) := ok_iadd (by decide +kernel : decode cX8_make 41 = .ok (.iadd, 1))
theorem o137_42 : Okp RX8 cX8_make 5 (some .int) "make" false 42 (sK 0 43) := ok_iconst (by decide +kernel : decode cX8_make 42 = .ok (.iconst 0, 1)) (by decide)
theorem o137_43 : Okp RX8 cX8_make 5 (some .int) "make" false 43 (sCV false 135 3 9 46) := ok_cv (by decide +kernel : decode cX8_make 43 = .ok (.invokevirtual 108, 3)) mw_X8_108 rfl (by decide) wm_X8_setCell wse_X8_setCell (by decide) rfl
theorem o137_46 : Okp RX8 cX8_make 5 (some .int) "make" false 46 (sInc 4 1 49) := ok_iinc (by decide +kernel : decode cX8_make 46 = .ok (.iinc 4 1, 3)) (by decide) (by decide)
theorem o137_49 : Okp RX8 cX8_make 5 (some .int) "make" false 49 (sGo 31) := ok_goto (by decide +kernel : decode cX8_make 49 = .ok (.goto (-18), 3)) (by decide)
theorem o137_52 : Okp RX8 cX8_make 5 (some .int) "make" false 52 (sLR 0 53) := ok_aload_n (by decide +kernel : decode cX8_make 52 = .ok (.aload_n 0, 1)) rfl
theorem o137_53 : Okp RX8 cX8_make 5 (some .int) "make" false 53 (sDup 54) := ok_dup (by decide +kernel : decode cX8_make 53 = .ok (.dup, 1))
theorem o137_54 : Okp RX8 cX8_make 5 (some .int) "make" false 54 (sGI 9 16 57) := ok_getI (by decide +kernel : decode cX8_make 54 = .ok (.getfield 55, 3)) fw_X8_55 rfl
theorem o137_57 : Okp RX8 cX8_make 5 (some .int) "make" false 57 (sLI 3 58) := ok_iload_n (by decide +kernel : decode cX8_make 57 = .ok (.iload_n 3, 1)) rfl
theorem o137_58 : Okp RX8 cX8_make 5 (some .int) "make" false 58 (sB2 fAdd 59) := ok_iadd (by decide +kernel : decode cX8_make 58 = .ok (.iadd, 1))
theorem o137_59 : Okp RX8 cX8_make 5 (some .int) "make" false 59 (sPI 9 16 62) := ok_putI (by decide +kernel : decode cX8_make 59 = .ok (.putfield 55, 3)) fw_X8_55 ⟨⟨tyX8_ok, nmX8⟩, Or.inl rfl, rfl⟩ rfl
theorem o137_62 : Okp RX8 cX8_make 5 (some .int) "make" false 62 (sLI 2 63) := ok_iload_n (by decide +kernel : decode cX8_make 62 = .ok (.iload_n 2, 1)) rfl
theorem o137_63 : Okp RX8 cX8_make 5 (some .int) "make" false 63 sRI := ok_iret rfl (by decide +kernel : decode cX8_make 63 = .ok (.ireturn, 1))
theorem oc137_0 : ∀ pc, Mnp (c137_0 pc) ∧ Okp RX8 cX8_make 5 (some .int) "make" false pc (c137_0 pc) := by
  intro pc
  unfold c137_0
  split
  · exact ⟨mn_sLR, o137_0⟩
  · exact ⟨mn_sGI, o137_1⟩
  · exact ⟨mn_sSI, o137_4⟩
  · exact ⟨mn_sK, o137_5⟩
  · exact ⟨mn_sLI, o137_6⟩
  · exact ⟨mn_sK, o137_7⟩
  · exact ⟨mn_sB2, o137_9⟩
  · exact ⟨mn_sB2, o137_10⟩
  · exact ⟨mn_sSI, o137_11⟩
  · exact ⟨mn_sLI, o137_12⟩
  · exact ⟨mn_sLR, o137_13⟩
  · exact ⟨mn_sCV, o137_14⟩
  · exact ⟨mn_sI2, o137_17⟩
  · exact ⟨mn_sK, o137_20⟩
  · exact ⟨mn_sRI, o137_21⟩
  · exact ⟨mn_sLR, o137_22⟩
  · exact ⟨mn_sLI, o137_23⟩
  · exact ⟨mn_sX, ok_X⟩
theorem oc137_1 : ∀ pc, Mnp (c137_1 pc) ∧ Okp RX8 cX8_make 5 (some .int) "make" false pc (c137_1 pc) := by
  intro pc
  unfold c137_1
  split
  · exact ⟨mn_sLI, o137_24⟩
  · exact ⟨mn_sCV, o137_25⟩
  · exact ⟨mn_sK, o137_28⟩
  · exact ⟨mn_sSI, o137_29⟩
  · exact ⟨mn_sLI, o137_31⟩
  · exact ⟨mn_sLI, o137_33⟩
  · exact ⟨mn_sI2, o137_34⟩
  · exact ⟨mn_sLR, o137_37⟩
  · exact ⟨mn_sLI, o137_38⟩
  · exact ⟨mn_sLI, o137_39⟩
  · exact ⟨mn_sB2, o137_41⟩
  · exact ⟨mn_sK, o137_42⟩
  · exact ⟨mn_sCV, o137_43⟩
  · exact ⟨mn_sInc, o137_46⟩
  · exact ⟨mn_sX, ok_X⟩
theorem oc137_2 : ∀ pc, Mnp (c137_2 pc) ∧ Okp RX8 cX8_make 5 (some .int) "make" false pc (c137_2 pc) := by
  intro pc
  unfold c137_2
  split
  · exact ⟨mn_sGo, o137_49⟩
  · exact ⟨mn_sLR, o137_52⟩
  · exact ⟨mn_sDup, o137_53⟩
  · exact ⟨mn_sGI, o137_54⟩
  · exact ⟨mn_sLI, o137_57⟩
  · exact ⟨mn_sB2, o137_58⟩
  · exact ⟨mn_sPI, o137_59⟩
  · exact ⟨mn_sLI, o137_62⟩
  · exact ⟨mn_sRI, o137_63⟩
  · exact ⟨mn_sX, ok_X⟩
theorem oc137 : ∀ pc, Mnp (c137 pc) ∧ Okp RX8 cX8_make 5 (some .int) "make" false pc (c137 pc) := by
  intro pc
  unfold c137
  split
  · exact oc137_0 pc
  · exact oc137_1 pc
  · exact oc137_2 pc
  · exact ⟨mn_sX, ok_X⟩
theorem o138_0 : Okp RX8 cX8_lengthOf 2 (some .int) "lengthOf" false 0 (sLR 0 1) := ok_aload_n (by decide +kernel : decode cX8_lengthOf 0 = .ok (.aload_n 0, 1)) rfl
theorem o138_1 : Okp RX8 cX8_lengthOf 2 (some .int) "lengthOf" false 1 (sLI 1 2) := ok_iload_n (by decide +kernel : decode cX8_lengthOf 1 = .ok (.iload_n 1, 1)) rfl
theorem o138_2 : Okp RX8 cX8_lengthOf 2 (some .int) "lengthOf" false 2 (sCV false 134 2 9 5) := ok_cv (by decide +kernel : decode cX8_lengthOf 2 = .ok (.invokevirtual 112, 3)) mw_X8_112 rfl (by decide) wm_X8_cellAt wse_X8_cellAt (by decide) rfl
theorem o138_5 : Okp RX8 cX8_lengthOf 2 (some .int) "lengthOf" false 5 (sK 65535 7) := ok_ldc (by decide +kernel : decode cX8_lengthOf 5 = .ok (.ldc 103, 2)) wk_X8_103 (by decide)
theorem o138_7 : Okp RX8 cX8_lengthOf 2 (some .int) "lengthOf" false 7 (sB2 fAnd 8) := ok_iand (by decide +kernel : decode cX8_lengthOf 7 = .ok (.iand, 1))
theorem o138_8 : Okp RX8 cX8_lengthOf 2 (some .int) "lengthOf" false 8 sRI := ok_iret rfl (by decide +kernel : decode cX8_lengthOf 8 = .ok (.ireturn, 1))
theorem oc138 : ∀ pc, Mnp (c138 pc) ∧ Okp RX8 cX8_lengthOf 2 (some .int) "lengthOf" false pc (c138 pc) := by
  intro pc
  unfold c138
  split
  · exact ⟨mn_sLR, o138_0⟩
  · exact ⟨mn_sLI, o138_1⟩
  · exact ⟨mn_sCV, o138_2⟩
  · exact ⟨mn_sK, o138_5⟩
  · exact ⟨mn_sB2, o138_7⟩
  · exact ⟨mn_sRI, o138_8⟩
  · exact ⟨mn_sX, ok_X⟩
theorem o139_0 : Okp RX8 cX8_kindOfItem 2 (some .int) "kindOfItem" false 0 (sLR 0 1) := ok_aload_n (by decide +kernel : decode cX8_kindOfItem 0 = .ok (.aload_n 0, 1)) rfl
theorem o139_1 : Okp RX8 cX8_kindOfItem 2 (some .int) "kindOfItem" false 1 (sLI 1 2) := ok_iload_n (by decide +kernel : decode cX8_kindOfItem 1 = .ok (.iload_n 1, 1)) rfl
theorem o139_2 : Okp RX8 cX8_kindOfItem 2 (some .int) "kindOfItem" false 2 (sCV false 134 2 9 5) := ok_cv (by decide +kernel : decode cX8_kindOfItem 2 = .ok (.invokevirtual 112, 3)) mw_X8_112 rfl (by decide) wm_X8_cellAt wse_X8_cellAt (by decide) rfl
theorem o139_5 : Okp RX8 cX8_kindOfItem 2 (some .int) "kindOfItem" false 5 (sK 589824 7) := ok_ldc (by decide +kernel : decode cX8_kindOfItem 5 = .ok (.ldc 115, 2)) wk_X8_115 (by decide)
theorem o139_7 : Okp RX8 cX8_kindOfItem 2 (some .int) "kindOfItem" false 7 (sI2 2 14 10) := ok_icmp_lt (by decide +kernel : decode cX8_kindOfItem 7 = .ok (.if_icmp .lt 7, 3)) (by decide)
theorem o139_10 : Okp RX8 cX8_kindOfItem 2 (some .int) "kindOfItem" false 10 (sK 1 11) := ok_iconst (by decide +kernel : decode cX8_kindOfItem 10 = .ok (.iconst 1, 1)) (by decide)
theorem o139_11 : Okp RX8 cX8_kindOfItem 2 (some .int) "kindOfItem" false 11 (sGo 15) := ok_goto (by decide +kernel : decode cX8_kindOfItem 11 = .ok (.goto 4, 3)) (by decide)
theorem o139_14 : Okp RX8 cX8_kindOfItem 2 (some .int) "kindOfItem" false 14 (sK 0 15) := ok_iconst (by decide +kernel : decode cX8_kindOfItem 14 = .ok (.iconst 0, 1)) (by decide)
theorem o139_15 : Okp RX8 cX8_kindOfItem 2 (some .int) "kindOfItem" false 15 sRI := ok_iret rfl (by decide +kernel : decode cX8_kindOfItem 15 = .ok (.ireturn, 1))
theorem oc139 : ∀ pc, Mnp (c139 pc) ∧ Okp RX8 cX8_kindOfItem 2 (some .int) "kindOfItem" false pc (c139 pc) := by
  intro pc
  unfold c139
  split
  · exact ⟨mn_sLR, o139_0⟩
  · exact ⟨mn_sLI, o139_1⟩
  · exact ⟨mn_sCV, o139_2⟩
  · exact ⟨mn_sK, o139_5⟩
  · exact ⟨mn_sI2, o139_7⟩
  · exact ⟨mn_sK, o139_10⟩
  · exact ⟨mn_sGo, o139_11⟩
  · exact ⟨mn_sK, o139_14⟩
  · exact ⟨mn_sRI, o139_15⟩
  · exact ⟨mn_sX, ok_X⟩
theorem o140_0 : Okp RX8 cX8_kindOfField 4 (some .int) "kindOfField" false 0 (sLR 0 1) := ok_aload_n (by decide +kernel : decode cX8_kindOfField 0 = .ok (.aload_n 0, 1)) rfl
theorem o140_1 : Okp RX8 cX8_kindOfField 4 (some .int) "kindOfField" false 1 (sGR 9 1 4) := ok_getR (by decide +kernel : decode cX8_kindOfField 1 = .ok (.getfield 61, 3)) fw_X8_61 rfl
theorem o140_4 : Okp RX8 cX8_kindOfField 4 (some .int) "kindOfField" false 4 (sLR 0 5) := ok_aload_n (by decide +kernel : decode cX8_kindOfField 4 = .ok (.aload_n 0, 1)) rfl
theorem o140_5 : Okp RX8 cX8_kindOfField 4 (some .int) "kindOfField" false 5 (sLI 1 6) := ok_iload_n (by decide +kernel : decode cX8_kindOfField 5 = .ok (.iload_n 1, 1)) rfl
theorem o140_6 : Okp RX8 cX8_kindOfField 4 (some .int) "kindOfField" false 6 (sCV false 134 2 9 9) := ok_cv (by decide +kernel : decode cX8_kindOfField 6 = .ok (.invokevirtual 112, 3)) mw_X8_112 rfl (by decide) wm_X8_cellAt wse_X8_cellAt (by decide) rfl
theorem o140_9 : Okp RX8 cX8_kindOfField 4 (some .int) "kindOfField" false 9 (sK 16 11) := ok_bipush (by decide +kernel : decode cX8_kindOfField 9 = .ok (.bipush 16, 2)) (by decide)
theorem o140_11 : Okp RX8 cX8_kindOfField 4 (some .int) "kindOfField" false 11 (sB2 fShr 12) := ok_ishr (by decide +kernel : decode cX8_kindOfField 11 = .ok (.ishr, 1))
theorem o140_12 : Okp RX8 cX8_kindOfField 4 (some .int) "kindOfField" false 12 (sCV false 154 2 10 15) := ok_cv (by decide +kernel : decode cX8_kindOfField 12 = .ok (.invokevirtual 116, 3)) mw_X8_116 rfl (by decide) wm_X9_pointersOf wse_X9_pointersOf (by decide) rfl
theorem o140_15 : Okp RX8 cX8_kindOfField 4 (some .int) "kindOfField" false 15 (sSI 3 16) := ok_istore_n (by decide +kernel : decode cX8_kindOfField 15 = .ok (.istore_n 3, 1)) rfl (by decide) (by decide)
theorem o140_16 : Okp RX8 cX8_kindOfField 4 (some .int) "kindOfField" false 16 (sLI 3 17) := ok_iload_n (by decide +kernel : decode cX8_kindOfField 16 = .ok (.iload_n 3, 1)) rfl
theorem o140_17 : Okp RX8 cX8_kindOfField 4 (some .int) "kindOfField" false 17 (sLI 2 18) := ok_iload_n (by decide +kernel : decode cX8_kindOfField 17 = .ok (.iload_n 2, 1)) rfl
theorem o140_18 : Okp RX8 cX8_kindOfField 4 (some .int) "kindOfField" false 18 (sB2 fShr 19) := ok_ishr (by decide +kernel : decode cX8_kindOfField 18 = .ok (.ishr, 1))
theorem o140_19 : Okp RX8 cX8_kindOfField 4 (some .int) "kindOfField" false 19 (sK 1 20) := ok_iconst (by decide +kernel : decode cX8_kindOfField 19 = .ok (.iconst 1, 1)) (by decide)
theorem o140_20 : Okp RX8 cX8_kindOfField 4 (some .int) "kindOfField" false 20 (sB2 fAnd 21) := ok_iand (by decide +kernel : decode cX8_kindOfField 20 = .ok (.iand, 1))
theorem o140_21 : Okp RX8 cX8_kindOfField 4 (some .int) "kindOfField" false 21 (sK 1 22) := ok_iconst (by decide +kernel : decode cX8_kindOfField 21 = .ok (.iconst 1, 1)) (by decide)
theorem o140_22 : Okp RX8 cX8_kindOfField 4 (some .int) "kindOfField" false 22 (sI2 1 29 25) := ok_icmp_ne (by decide +kernel : decode cX8_kindOfField 22 = .ok (.if_icmp .ne 7, 3)) (by decide)
theorem o140_25 : Okp RX8 cX8_kindOfField 4 (some .int) "kindOfField" false 25 (sK 1 26) := ok_iconst (by decide +kernel : decode cX8_kindOfField 25 = .ok (.iconst 1, 1)) (by decide)
theorem o140_26 : Okp RX8 cX8_kindOfField 4 (some .int) "kindOfField" false 26 (sGo 30) := ok_goto (by decide +kernel : decode cX8_kindOfField 26 = .ok (.goto 4, 3)) (by decide)
theorem o140_29 : Okp RX8 cX8_kindOfField 4 (some .int) "kindOfField" false 29 (sK 0 30) := ok_iconst (by decide +kernel : decode cX8_kindOfField 29 = .ok (.iconst 0, 1)) (by decide)
theorem o140_30 : Okp RX8 cX8_kindOfField 4 (some .int) "kindOfField" false 30 sRI := ok_iret rfl (by decide +kernel : decode cX8_kindOfField 30 = .ok (.ireturn, 1))
theorem oc140_0 : ∀ pc, Mnp (c140_0 pc) ∧ Okp RX8 cX8_kindOfField 4 (some .int) "kindOfField" false pc (c140_0 pc) := by
  intro pc
  unfold c140_0
  split
  · exact ⟨mn_sLR, o140_0⟩
  · exact ⟨mn_sGR, o140_1⟩
  · exact ⟨mn_sLR, o140_4⟩
  · exact ⟨mn_sLI, o140_5⟩
  · exact ⟨mn_sCV, o140_6⟩
  · exact ⟨mn_sK, o140_9⟩
  · exact ⟨mn_sB2, o140_11⟩
  · exact ⟨mn_sCV, o140_12⟩
  · exact ⟨mn_sSI, o140_15⟩
  · exact ⟨mn_sLI, o140_16⟩
  · exact ⟨mn_sLI, o140_17⟩
  · exact ⟨mn_sB2, o140_18⟩
  · exact ⟨mn_sK, o140_19⟩
  · exact ⟨mn_sB2, o140_20⟩
  · exact ⟨mn_sK, o140_21⟩
  · exact ⟨mn_sI2, o140_22⟩
  · exact ⟨mn_sX, ok_X⟩
theorem oc140_1 : ∀ pc, Mnp (c140_1 pc) ∧ Okp RX8 cX8_kindOfField 4 (some .int) "kindOfField" false pc (c140_1 pc) := by
  intro pc
  unfold c140_1
  split
  · exact ⟨mn_sK, o140_25⟩
  · exact ⟨mn_sGo, o140_26⟩
  · exact ⟨mn_sK, o140_29⟩
  · exact ⟨mn_sRI, o140_30⟩
  · exact ⟨mn_sX, ok_X⟩
theorem oc140 : ∀ pc, Mnp (c140 pc) ∧ Okp RX8 cX8_kindOfField 4 (some .int) "kindOfField" false pc (c140 pc) := by
  intro pc
  unfold c140
  split
  · exact oc140_0 pc
  · exact oc140_1 pc
  · exact ⟨mn_sX, ok_X⟩
theorem o141_0 : Okp RX8 cX8_collect 6 (some (.array .int)) "collect" false 0 (sLR 0 1) := ok_aload_n (by decide +kernel : decode cX8_collect 0 = .ok (.aload_n 0, 1)) rfl
theorem o141_1 : Okp RX8 cX8_collect 6 (some (.array .int)) "collect" false 1 (sGR 9 15 4) := ok_getR (by decide +kernel : decode cX8_collect 1 = .ok (.getfield 52, 3)) fw_X8_52 rfl
theorem o141_4 : Okp RX8 cX8_collect 6 (some (.array .int)) "collect" false 4 (sSR 2 5) := ok_astore_n (by decide +kernel : decode cX8_collect 4 = .ok (.astore_n 2, 1)) rfl (by decide) (by decide)
theorem o141_5 : Okp RX8 cX8_collect 6 (some (.array .int)) "collect" false 5 (sLR 0 6) := ok_aload_n (by decide +kernel : decode cX8_collect 5 = .ok (.aload_n 0, 1)) rfl
theorem o141_6 : Okp RX8 cX8_collect 6 (some (.array .int)) "collect" false 6 (sLR 1 7) := ok_aload_n (by decide +kernel : decode cX8_collect 6 = .ok (.aload_n 1, 1)) rfl
theorem o141_7 : Okp RX8 cX8_collect 6 (some (.array .int)) "collect" false 7 (sPR 9 15 10) := ok_putR (by decide +kernel : decode cX8_collect 7 = .ok (.putfield 52, 3)) fw_X8_52 ⟨⟨tyX8_ok, nmX8⟩, Or.inl rfl, rfl⟩ (Or.inr ⟨_, rfl⟩) rfl
theorem o141_10 : Okp RX8 cX8_collect 6 (some (.array .int)) "collect" false 10 (sLR 0 11) := ok_aload_n (by decide +kernel : decode cX8_collect 10 = .ok (.aload_n 0, 1)) rfl
theorem o141_11 : Okp RX8 cX8_collect 6 (some (.array .int)) "collect" false 11 (sK 1 12) := ok_iconst (by decide +kernel : decode cX8_collect 11 = .ok (.iconst 1, 1)) (by decide)
theorem o141_12 : Okp RX8 cX8_collect 6 (some (.array .int)) "collect" false 12 (sPI 9 16 15) := ok_putI (by decide +kernel : decode cX8_collect 12 = .ok (.putfield 55, 3)) fw_X8_55 ⟨⟨tyX8_ok, nmX8⟩, Or.inl rfl, rfl⟩ rfl
theorem o141_15 : Okp RX8 cX8_collect 6 (some (.array .int)) "collect" false 15 (sK 0 16) := ok_iconst (by decide +kernel : decode cX8_collect 15 = .ok (.iconst 0, 1)) (by decide)
theorem o141_16 : Okp RX8 cX8_collect 6 (some (.array .int)) "collect" false 16 (sSI 3 17) := ok_istore_n (by decide +kernel : decode cX8_collect 16 = .ok (.istore_n 3, 1)) rfl (by decide) (by decide)
theorem o141_17 : Okp RX8 cX8_collect 6 (some (.array .int)) "collect" false 17 (sLI 3 18) := ok_iload_n (by decide +kernel : decode cX8_collect 17 = .ok (.iload_n 3, 1)) rfl
theorem o141_18 : Okp RX8 cX8_collect 6 (some (.array .int)) "collect" false 18 (sLR 0 19) := ok_aload_n (by decide +kernel : decode cX8_collect 18 = .ok (.aload_n 0, 1)) rfl
theorem o141_19 : Okp RX8 cX8_collect 6 (some (.array .int)) "collect" false 19 (sGI 9 7 22) := ok_getI (by decide +kernel : decode cX8_collect 19 = .ok (.getfield 27, 3)) fw_X8_27 rfl
theorem o141_22 : Okp RX8 cX8_collect 6 (some (.array .int)) "collect" false 22 (sI2 3 110 25) := ok_icmp_ge (by decide +kernel : decode cX8_collect 22 = .ok (.if_icmp .ge 88, 3)) (by decide)
theorem o141_25 : Okp RX8 cX8_collect 6 (some (.array .int)) "collect" false 25 (sLI 3 26) := ok_iload_n (by decide +kernel : decode cX8_collect 25 = .ok (.iload_n 3, 1)) rfl
theorem o141_26 : Okp RX8 cX8_collect 6 (some (.array .int)) "collect" false 26 (sK 16 28) := ok_bipush (by decide +kernel : decode cX8_collect 26 = .ok (.bipush 16, 2)) (by decide)
theorem o141_28 : Okp RX8 cX8_collect 6 (some (.array .int)) "collect" false 28 (sI2 3 110 31) := ok_icmp_ge (by decide +kernel : decode cX8_collect 28 = .ok (.if_icmp .ge 82, 3)) (by decide)
theorem o141_31 : Okp RX8 cX8_collect 6 (some (.array .int)) "collect" false 31 (sK 0 32) := ok_iconst (by decide +kernel : decode cX8_collect 31 = .ok (.iconst 0, 1)) (by decide)
theorem o141_32 : Okp RX8 cX8_collect 6 (some (.array .int)) "collect" false 32 (sSI 4 34) := ok_istore (by decide +kernel : decode cX8_collect 32 = .ok (.istore 4, 2)) (by decide) (by decide)
theorem o141_34 : Okp RX8 cX8_collect 6 (some (.array .int)) "collect" false 34 (sLI 4 36) := ok_iload (by decide +kernel : decode cX8_collect 34 = .ok (.iload 4, 2))
theorem o141_36 : Okp RX8 cX8_collect 6 (some (.array .int)) "collect" false 36 (sK 26 38) := ok_bipush (by decide +kernel : decode cX8_collect 36 = .ok (.bipush 26, 2)) (by decide)
theorem o141_38 : Okp RX8 cX8_collect 6 (some (.array .int)) "collect" false 38 (sI2 3 104 41) := ok_icmp_ge (by decide +kernel : decode cX8_collect 38 = .ok (.if_icmp .ge 66, 3)) (by decide)
theorem o141_41 : Okp RX8 cX8_collect 6 (some (.array .int)) "collect" false 41 (sLI 3 42) := ok_iload_n (by decide +kernel : decode cX8_collect 41 = .ok (.iload_n 3, 1)) rfl
theorem o141_42 : Okp RX8 cX8_collect 6 (some (.array .int)) "collect" false 42 (sK 26 44) := ok_bipush (by decide +kernel : decode cX8_collect 42 = .ok (.bipush 26, 2)) (by decide)
theorem o141_44 : Okp RX8 cX8_collect 6 (some (.array .int)) "collect" false 44 (sB2 fMul 45) := ok_imul (by decide +kernel : decode cX8_collect 44 = .ok (.imul, 1))
theorem o141_45 : Okp RX8 cX8_collect 6 (some (.array .int)) "collect" false 45 (sLI 4 47) := ok_iload (by decide +kernel : decode cX8_collect 45 = .ok (.iload 4, 2))
theorem o141_47 : Okp RX8 cX8_collect 6 (some (.array .int)) "collect" false 47 (sB2 fAdd 48) := ok_iadd (by decide +kernel : decode cX8_collect 47 = .ok (.iadd, 1))
theorem o141_48 : Okp RX8 cX8_collect 6 (some (.array .int)) "collect" false 48 (sSI 5 50) := ok_istore (by decide +kernel : decode cX8_collect 48 = .ok (.istore 5, 2)) (by decide) (by decide)
theorem o141_50 : Okp RX8 cX8_collect 6 (some (.array .int)) "collect" false 50 (sLI 4 52) := ok_iload (by decide +kernel : decode cX8_collect 50 = .ok (.iload 4, 2))
theorem o141_52 : Okp RX8 cX8_collect 6 (some (.array .int)) "collect" false 52 (sK 16 54) := ok_bipush (by decide +kernel : decode cX8_collect 52 = .ok (.bipush 16, 2)) (by decide)
theorem o141_54 : Okp RX8 cX8_collect 6 (some (.array .int)) "collect" false 54 (sI2 3 68 57) := ok_icmp_ge (by decide +kernel : decode cX8_collect 54 = .ok (.if_icmp .ge 14, 3)) (by decide)
theorem o141_57 : Okp RX8 cX8_collect 6 (some (.array .int)) "collect" false 57 (sLI 4 59) := ok_iload (by decide +kernel : decode cX8_collect 57 = .ok (.iload 4, 2))
theorem o141_59 : Okp RX8 cX8_collect 6 (some (.array .int)) "collect" false 59 (sLR 0 60) := ok_aload_n (by decide +kernel : decode cX8_collect 59 = .ok (.aload_n 0, 1)) rfl
theorem o141_60 : Okp RX8 cX8_collect 6 (some (.array .int)) "collect" false 60 (sGR 9 11 63) := ok_getR (by decide +kernel : decode cX8_collect 60 = .ok (.getfield 40, 3)) fw_X8_40 rfl
theorem o141_63 : Okp RX8 cX8_collect 6 (some (.array .int)) "collect" false 63 (sLI 3 64) := ok_iload_n (by decide +kernel : decode cX8_collect 63 = .ok (.iload_n 3, 1)) rfl
theorem o141_64 : Okp RX8 cX8_collect 6 (some (.array .int)) "collect" false 64 (sIA 65) := ok_iaload (by decide +kernel : decode cX8_collect 64 = .ok (.iaload, 1))
theorem o141_65 : Okp RX8 cX8_collect 6 (some (.array .int)) "collect" false 65 (sI2 3 98 68) := ok_icmp_ge (by decide +kernel : decode cX8_collect 65 = .ok (.if_icmp .ge 33, 3)) (by decide)
theorem o141_68 : Okp RX8 cX8_collect 6 (some (.array .int)) "collect" false 68 (sLR 0 69) := ok_aload_n (by decide +kernel : decode cX8_collect 68 = .ok (.aload_n 0, 1)) rfl
theorem o141_69 : Okp RX8 cX8_collect 6 (some (.array .int)) "collect" false 69 (sGR 9 12 72) := ok_getR (by decide +kernel : decode cX8_collect 69 = .ok (.getfield 43, 3)) fw_X8_43 rfl
theorem o141_72 : Okp RX8 cX8_collect 6 (some (.array .int)) "collect" false 72 (sLI 5 74) := ok_iload (by decide +kernel : decode cX8_collect 72 = .ok (.iload 5, 2))
theorem o141_74 : Okp RX8 cX8_collect 6 (some (.array .int)) "collect" false 74 (sIA 75) := ok_iaload (by decide +kernel : decode cX8_collect 74 = .ok (.iaload, 1))
theorem o141_75 : Okp RX8 cX8_collect 6 (some (.array .int)) "collect" false 75 (sK 1 76) := ok_iconst (by decide +kernel : decode cX8_collect 75 = .ok (.iconst 1, 1)) (by decide)
theorem o141_76 : Okp RX8 cX8_collect 6 (some (.array .int)) "collect" false 76 (sI2 1 98 79) := ok_icmp_ne (by decide +kernel : decode cX8_collect 76 = .ok (.if_icmp .ne 22, 3)) (by decide)
theorem o141_79 : Okp RX8 cX8_collect 6 (some (.array .int)) "collect" false 79 (sLR 0 80) := ok_aload_n (by decide +kernel : decode cX8_collect 79 = .ok (.aload_n 0, 1)) rfl
theorem o141_80 : Okp RX8 cX8_collect 6 (some (.array .int)) "collect" false 80 (sGR 9 13 83) := ok_getR (by decide +kernel : decode cX8_collect 80 = .ok (.getfield 46, 3)) fw_X8_46 rfl
theorem o141_83 : Okp RX8 cX8_collect 6 (some (.array .int)) "collect" false 83 (sLI 5 85) := ok_iload (by decide +kernel : decode cX8_collect 83 = .ok (.iload 5, 2))
theorem o141_85 : Okp RX8 cX8_collect 6 (some (.array .int)) "collect" false 85 (sLR 0 86) := ok_aload_n (by decide +kernel : decode cX8_collect 85 = .ok (.aload_n 0, 1)) rfl
theorem o141_86 : Okp RX8 cX8_collect 6 (some (.array .int)) "collect" false 86 (sLR 2 87) := ok_aload_n (by decide +kernel : decode cX8_collect 86 = .ok (.aload_n 2, 1)) rfl
theorem o141_87 : Okp RX8 cX8_collect 6 (some (.array .int)) "collect" false 87 (sLR 0 88) := ok_aload_n (by decide +kernel : decode cX8_collect 87 = .ok (.aload_n 0, 1)) rfl
theorem o141_88 : Okp RX8 cX8_collect 6 (some (.array .int)) "collect" false 88 (sGR 9 13 91) := ok_getR (by decide +kernel : decode cX8_collect 88 = .ok (.getfield 46, 3)) fw_X8_46 rfl
theorem o141_91 : Okp RX8 cX8_collect 6 (some (.array .int)) "collect" false 91 (sLI 5 93) := ok_iload (by decide +kernel : decode cX8_collect 91 = .ok (.iload 5, 2))
theorem o141_93 : Okp RX8 cX8_collect 6 (some (.array .int)) "collect" false 93 (sIA 94) := ok_iaload (by decide +kernel : decode cX8_collect 93 = .ok (.iaload, 1))
theorem o141_94 : Okp RX8 cX8_collect 6 (some (.array .int)) "collect" false 94 (sCV false 142 3 9 97) := ok_cv (by decide +kernel : decode cX8_collect 94 = .ok (.invokevirtual 119, 3)) mw_X8_119 rfl (by decide) wm_X8_moved wse_X8_moved (by decide) rfl
theorem o141_97 : Okp RX8 cX8_collect 6 (some (.array .int)) "collect" false 97 (sIS 98) := ok_iastore (by decide +kernel : decode cX8_collect 97 = .ok (.iastore, 1))
theorem o141_98 : Okp RX8 cX8_collect 6 (some (.array .int)) "collect" false 98 (sInc 4 1 101) := ok_iinc (by decide +kernel : decode cX8_collect 98 = .ok (.iinc 4 1, 3)) (by decide) (by decide)
theorem o141_101 : Okp RX8 cX8_collect 6 (some (.array .int)) "collect" false 101 (sGo 34) := ok_goto (by decide +kernel : decode cX8_collect 101 = .ok (.goto (-67), 3)) (by decide)
theorem o141_104 : Okp RX8 cX8_collect 6 (some (.array .int)) "collect" false 104 (sInc 3 1 107) := ok_iinc (by decide +kernel : decode cX8_collect 104 = .ok (.iinc 3 1, 3)) (by decide) (by decide)
theorem o141_107 : Okp RX8 cX8_collect 6 (some (.array .int)) "collect" false 107 (sGo 17) := ok_goto (by decide +kernel : decode cX8_collect 107 = .ok (.goto (-90), 3)) (by decide)
theorem o141_110 : Okp RX8 cX8_collect 6 (some (.array .int)) "collect" false 110 (sK 1 111) := ok_iconst (by decide +kernel : decode cX8_collect 110 = .ok (.iconst 1, 1)) (by decide)
theorem o141_111 : Okp RX8 cX8_collect 6 (some (.array .int)) "collect" false 111 (sSI 3 112) := ok_istore_n (by decide +kernel : decode cX8_collect 111 = .ok (.istore_n 3, 1)) rfl (by decide) (by decide)
theorem o141_112 : Okp RX8 cX8_collect 6 (some (.array .int)) "collect" false 112 (sK 0 113) := ok_iconst (by decide +kernel : decode cX8_collect 112 = .ok (.iconst 0, 1)) (by decide)
theorem o141_113 : Okp RX8 cX8_collect 6 (some (.array .int)) "collect" false 113 (sSI 4 115) := ok_istore (by decide +kernel : decode cX8_collect 113 = .ok (.istore 4, 2)) (by decide) (by decide)
theorem o141_115 : Okp RX8 cX8_collect 6 (some (.array .int)) "collect" false 115 (sLI 4 117) := ok_iload (by decide +kernel : decode cX8_collect 115 = .ok (.iload 4, 2))
theorem o141_117 : Okp RX8 cX8_collect 6 (some (.array .int)) "collect" false 117 (sK 1024 120) := ok_sipush (by decide +kernel : decode cX8_collect 117 = .ok (.sipush 1024, 3)) (by decide)
theorem o141_120 : Okp RX8 cX8_collect 6 (some (.array .int)) "collect" false 120 (sI2 3 155 123) := ok_icmp_ge (by decide +kernel : decode cX8_collect 120 = .ok (.if_icmp .ge 35, 3)) (by decide)
theorem o141_123 : Okp RX8 cX8_collect 6 (some (.array .int)) "collect" false 123 (sLI 3 124) := ok_iload_n (by decide +kernel : decode cX8_collect 123 = .ok (.iload_n 3, 1)) rfl
theorem o141_124 : Okp RX8 cX8_collect 6 (some (.array .int)) "collect" false 124 (sLR 0 125) := ok_aload_n (by decide +kernel : decode cX8_collect 124 = .ok (.aload_n 0, 1)) rfl
theorem o141_125 : Okp RX8 cX8_collect 6 (some (.array .int)) "collect" false 125 (sGI 9 16 128) := ok_getI (by decide +kernel : decode cX8_collect 125 = .ok (.getfield 55, 3)) fw_X8_55 rfl
theorem o141_128 : Okp RX8 cX8_collect 6 (some (.array .int)) "collect" false 128 (sI2 3 155 131) := ok_icmp_ge (by decide +kernel : decode cX8_collect 128 = .ok (.if_icmp .ge 27, 3)) (by decide)
theorem o141_131 : Okp RX8 cX8_collect 6 (some (.array .int)) "collect" false 131 (sLI 3 132) := ok_iload_n (by decide +kernel : decode cX8_collect 131 = .ok (.iload_n 3, 1)) rfl
theorem o141_132 : Okp RX8 cX8_collect 6 (some (.array .int)) "collect" false 132 (sLR 0 133) := ok_aload_n (by decide +kernel : decode cX8_collect 132 = .ok (.aload_n 0, 1)) rfl
theorem o141_133 : Okp RX8 cX8_collect 6 (some (.array .int)) "collect" false 133 (sGR 9 15 136) := ok_getR (by decide +kernel : decode cX8_collect 133 = .ok (.getfield 52, 3)) fw_X8_52 rfl
theorem o141_136 : Okp RX8 cX8_collect 6 (some (.array .int)) "collect" false 136 (sLen 137) := ok_alen (by decide +kernel : decode cX8_collect 136 = .ok (.arraylength, 1))
theorem o141_137 : Okp RX8 cX8_collect 6 (some (.array .int)) "collect" false 137 (sI2 3 155 140) := ok_icmp_ge (by decide +kernel : decode cX8_collect 137 = .ok (.if_icmp .ge 18, 3)) (by decide)
theorem o141_140 : Okp RX8 cX8_collect 6 (some (.array .int)) "collect" false 140 (sLI 3 141) := ok_iload_n (by decide +kernel : decode cX8_collect 140 = .ok (.iload_n 3, 1)) rfl
theorem o141_141 : Okp RX8 cX8_collect 6 (some (.array .int)) "collect" false 141 (sLR 0 142) := ok_aload_n (by decide +kernel : decode cX8_collect 141 = .ok (.aload_n 0, 1)) rfl
theorem o141_142 : Okp RX8 cX8_collect 6 (some (.array .int)) "collect" false 142 (sLR 2 143) := ok_aload_n (by decide +kernel : decode cX8_collect 142 = .ok (.aload_n 2, 1)) rfl
theorem o141_143 : Okp RX8 cX8_collect 6 (some (.array .int)) "collect" false 143 (sLI 3 144) := ok_iload_n (by decide +kernel : decode cX8_collect 143 = .ok (.iload_n 3, 1)) rfl
theorem o141_144 : Okp RX8 cX8_collect 6 (some (.array .int)) "collect" false 144 (sCV false 143 3 9 147) := ok_cv (by decide +kernel : decode cX8_collect 144 = .ok (.invokevirtual 123, 3)) mw_X8_123 rfl (by decide) wm_X8_movePartsOf wse_X8_movePartsOf (by decide) rfl
theorem o141_147 : Okp RX8 cX8_collect 6 (some (.array .int)) "collect" false 147 (sB2 fAdd 148) := ok_iadd (by decide +kernel : decode cX8_collect 147 = .ok (.iadd, 1))
theorem o141_148 : Okp RX8 cX8_collect 6 (some (.array .int)) "collect" false 148 (sSI 3 149) := ok_istore_n (by decide +kernel : decode cX8_collect 148 = .ok (.istore_n 3, 1)) rfl (by decide) (by decide)
theorem o141_149 : Okp RX8 cX8_collect 6 (some (.array .int)) "collect" false 149 (sInc 4 1 152) := ok_iinc (by decide +kernel : decode cX8_collect 149 = .ok (.iinc 4 1, 3)) (by decide) (by decide)
theorem o141_152 : Okp RX8 cX8_collect 6 (some (.array .int)) "collect" false 152 (sGo 115) := ok_goto (by decide +kernel : decode cX8_collect 152 = .ok (.goto (-37), 3)) (by decide)
theorem o141_155 : Okp RX8 cX8_collect 6 (some (.array .int)) "collect" false 155 (sLR 2 156) := ok_aload_n (by decide +kernel : decode cX8_collect 155 = .ok (.aload_n 2, 1)) rfl
theorem o141_156 : Okp RX8 cX8_collect 6 (some (.array .int)) "collect" false 156 sRR := ok_aret rfl (Or.inr ⟨_, rfl⟩) (by decide +kernel : decode cX8_collect 156 = .ok (.areturn, 1))
theorem oc141_0 : ∀ pc, Mnp (c141_0 pc) ∧ Okp RX8 cX8_collect 6 (some (.array .int)) "collect" false pc (c141_0 pc) := by
  intro pc
  unfold c141_0
  split
  · exact ⟨mn_sLR, o141_0⟩
  · exact ⟨mn_sGR, o141_1⟩
  · exact ⟨mn_sSR, o141_4⟩
  · exact ⟨mn_sLR, o141_5⟩
  · exact ⟨mn_sLR, o141_6⟩
  · exact ⟨mn_sPR, o141_7⟩
  · exact ⟨mn_sLR, o141_10⟩
  · exact ⟨mn_sK, o141_11⟩
  · exact ⟨mn_sPI, o141_12⟩
  · exact ⟨mn_sK, o141_15⟩
  · exact ⟨mn_sSI, o141_16⟩
  · exact ⟨mn_sLI, o141_17⟩
  · exact ⟨mn_sLR, o141_18⟩
  · exact ⟨mn_sGI, o141_19⟩
  · exact ⟨mn_sI2, o141_22⟩
  · exact ⟨mn_sX, ok_X⟩
theorem oc141_1 : ∀ pc, Mnp (c141_1 pc) ∧ Okp RX8 cX8_collect 6 (some (.array .int)) "collect" false pc (c141_1 pc) := by
  intro pc
  unfold c141_1
  split
  · exact ⟨mn_sLI, o141_25⟩
  · exact ⟨mn_sK, o141_26⟩
  · exact ⟨mn_sI2, o141_28⟩
  · exact ⟨mn_sK, o141_31⟩
  · exact ⟨mn_sSI, o141_32⟩
  · exact ⟨mn_sLI, o141_34⟩
  · exact ⟨mn_sK, o141_36⟩
  · exact ⟨mn_sI2, o141_38⟩
  · exact ⟨mn_sLI, o141_41⟩
  · exact ⟨mn_sK, o141_42⟩
  · exact ⟨mn_sB2, o141_44⟩
  · exact ⟨mn_sLI, o141_45⟩
  · exact ⟨mn_sB2, o141_47⟩
  · exact ⟨mn_sX, ok_X⟩
theorem oc141_2 : ∀ pc, Mnp (c141_2 pc) ∧ Okp RX8 cX8_collect 6 (some (.array .int)) "collect" false pc (c141_2 pc) := by
  intro pc
  unfold c141_2
  split
  · exact ⟨mn_sSI, o141_48⟩
  · exact ⟨mn_sLI, o141_50⟩
  · exact ⟨mn_sK, o141_52⟩
  · exact ⟨mn_sI2, o141_54⟩
  · exact ⟨mn_sLI, o141_57⟩
  · exact ⟨mn_sLR, o141_59⟩
  · exact ⟨mn_sGR, o141_60⟩
  · exact ⟨mn_sLI, o141_63⟩
  · exact ⟨mn_sIA, o141_64⟩
  · exact ⟨mn_sI2, o141_65⟩
  · exact ⟨mn_sLR, o141_68⟩
  · exact ⟨mn_sGR, o141_69⟩
  · exact ⟨mn_sX, ok_X⟩
theorem oc141_3 : ∀ pc, Mnp (c141_3 pc) ∧ Okp RX8 cX8_collect 6 (some (.array .int)) "collect" false pc (c141_3 pc) := by
  intro pc
  unfold c141_3
  split
  · exact ⟨mn_sLI, o141_72⟩
  · exact ⟨mn_sIA, o141_74⟩
  · exact ⟨mn_sK, o141_75⟩
  · exact ⟨mn_sI2, o141_76⟩
  · exact ⟨mn_sLR, o141_79⟩
  · exact ⟨mn_sGR, o141_80⟩
  · exact ⟨mn_sLI, o141_83⟩
  · exact ⟨mn_sLR, o141_85⟩
  · exact ⟨mn_sLR, o141_86⟩
  · exact ⟨mn_sLR, o141_87⟩
  · exact ⟨mn_sGR, o141_88⟩
  · exact ⟨mn_sLI, o141_91⟩
  · exact ⟨mn_sIA, o141_93⟩
  · exact ⟨mn_sCV, o141_94⟩
  · exact ⟨mn_sX, ok_X⟩
theorem oc141_4 : ∀ pc, Mnp (c141_4 pc) ∧ Okp RX8 cX8_collect 6 (some (.array .int)) "collect" false pc (c141_4 pc) := by
  intro pc
  unfold c141_4
  split
  · exact ⟨mn_sIS, o141_97⟩
  · exact ⟨mn_sInc, o141_98⟩
  · exact ⟨mn_sGo, o141_101⟩
  · exact ⟨mn_sInc, o141_104⟩
  · exact ⟨mn_sGo, o141_107⟩
  · exact ⟨mn_sK, o141_110⟩
  · exact ⟨mn_sSI, o141_111⟩
  · exact ⟨mn_sK, o141_112⟩
  · exact ⟨mn_sSI, o141_113⟩
  · exact ⟨mn_sLI, o141_115⟩
  · exact ⟨mn_sK, o141_117⟩
  · exact ⟨mn_sX, ok_X⟩
theorem oc141_5 : ∀ pc, Mnp (c141_5 pc) ∧ Okp RX8 cX8_collect 6 (some (.array .int)) "collect" false pc (c141_5 pc) := by
  intro pc
  unfold c141_5
  split
  · exact ⟨mn_sI2, o141_120⟩
  · exact ⟨mn_sLI, o141_123⟩
  · exact ⟨mn_sLR, o141_124⟩
  · exact ⟨mn_sGI, o141_125⟩
  · exact ⟨mn_sI2, o141_128⟩
  · exact ⟨mn_sLI, o141_131⟩
  · exact ⟨mn_sLR, o141_132⟩
  · exact ⟨mn_sGR, o141_133⟩
  · exact ⟨mn_sLen, o141_136⟩
  · exact ⟨mn_sI2, o141_137⟩
  · exact ⟨mn_sLI, o141_140⟩
  · exact ⟨mn_sLR, o141_141⟩
  · exact ⟨mn_sLR, o141_142⟩
  · exact ⟨mn_sLI, o141_143⟩
  · exact ⟨mn_sX, ok_X⟩
theorem oc141_6 : ∀ pc, Mnp (c141_6 pc) ∧ Okp RX8 cX8_collect 6 (some (.array .int)) "collect" false pc (c141_6 pc) := by
  intro pc
  unfold c141_6
  split
  · exact ⟨mn_sCV, o141_144⟩
  · exact ⟨mn_sB2, o141_147⟩
  · exact ⟨mn_sSI, o141_148⟩
  · exact ⟨mn_sInc, o141_149⟩
  · exact ⟨mn_sGo, o141_152⟩
  · exact ⟨mn_sLR, o141_155⟩
  · exact ⟨mn_sRR, o141_156⟩
  · exact ⟨mn_sX, ok_X⟩
theorem oc141 : ∀ pc, Mnp (c141 pc) ∧ Okp RX8 cX8_collect 6 (some (.array .int)) "collect" false pc (c141 pc) := by
  intro pc
  unfold c141
  split
  · exact oc141_0 pc
  · exact oc141_1 pc
  · exact oc141_2 pc
  · exact oc141_3 pc
  · exact oc141_4 pc
  · exact oc141_5 pc
  · exact oc141_6 pc
  · exact ⟨mn_sX, ok_X⟩
theorem o142_0 : Okp RX8 cX8_moved 5 (some .int) "moved" false 0 (sLI 2 1) := ok_iload_n (by decide +kernel : decode cX8_moved 0 = .ok (.iload_n 2, 1)) rfl
theorem o142_1 : Okp RX8 cX8_moved 5 (some .int) "moved" false 1 (sK 1 2) := ok_iconst (by decide +kernel : decode cX8_moved 1 = .ok (.iconst 1, 1)) (by decide)
theorem o142_2 : Okp RX8 cX8_moved 5 (some .int) "moved" false 2 (sI2 2 18 5) := ok_icmp_lt (by decide +kernel : decode cX8_moved 2 = .ok (.if_icmp .lt 16, 3)) (by decide)
theorem o142_5 : Okp RX8 cX8_moved 5 (some .int) "moved" false 5 (sLI 2 6) := ok_iload_n (by decide +kernel : decode cX8_moved 5 = .ok (.iload_n 2, 1)) rfl
theorem o142_6 : Okp RX8 cX8_moved 5 (some .int) "moved" false 6 (sK 1024 9) := ok_sipush (by decide +kernel : decode cX8_moved 6 = .ok (.sipush 1024, 3)) (by decide)
theorem o142_9 : Okp RX8 cX8_moved 5 (some .int) "moved" false 9 (sI2 4 18 12) := ok_icmp_gt (by decide +kernel : decode cX8_moved 9 = .ok (.if_icmp .gt 9, 3)) (by decide)
theorem o142_12 : Okp RX8 cX8_moved 5 (some .int) "moved" false 12 (sLI 2 13) := ok_iload_n (by decide +kernel : decode cX8_moved 12 = .ok (.iload_n 2, 1)) rfl
theorem o142_13 : Okp RX8 cX8_moved 5 (some .int) "moved" false 13 (sLR 1 14) := ok_aload_n (by decide +kernel : decode cX8_moved 13 = .ok (.aload_n 1, 1)) rfl
theorem o142_14 : Okp RX8 cX8_moved 5 (some .int) "moved" false 14 (sLen 15) := ok_alen (by decide +kernel : decode cX8_moved 14 = .ok (.arraylength, 1))
theorem o142_15 : Okp RX8 cX8_moved 5 (some .int) "moved" false 15 (sI2 2 20 18) := ok_icmp_lt (by decide +kernel : decode cX8_moved 15 = .ok (.if_icmp .lt 5, 3)) (by decide)
theorem o142_18 : Okp RX8 cX8_moved 5 (some .int) "moved" false 18 (sK 0 19) := ok_iconst (by decide +kernel : decode cX8_moved 18 = .ok (.iconst 0, 1)) (by decide)
theorem o142_19 : Okp RX8 cX8_moved 5 (some .int) "moved" false 19 sRI := ok_iret rfl (by decide +kernel : decode cX8_moved 19 = .ok (.ireturn, 1))
theorem o142_20 : Okp RX8 cX8_moved 5 (some .int) "moved" false 20 (sLR 1 21) := ok_aload_n (by decide +kernel : decode cX8_moved 20 = .ok (.aload_n 1, 1)) rfl
theorem o142_21 : Okp RX8 cX8_moved 5 (some .int) "moved" false 21 (sLI 2 22) := ok_iload_n (by decide +kernel : decode cX8_moved 21 = .ok (.iload_n 2, 1)) rfl
theorem o142_22 : Okp RX8 cX8_moved 5 (some .int) "moved" false 22 (sIA 23) := ok_iaload (by decide +kernel : decode cX8_moved 22 = .ok (.iaload, 1))
theorem o142_23 : Okp RX8 cX8_moved 5 (some .int) "moved" false 23 (sI1 3 31 26) := ok_if_ge (by decide +kernel : decode cX8_moved 23 = .ok (.ifCond .ge 8, 3)) (by decide)
theorem o142_26 : Okp RX8 cX8_moved 5 (some .int) "moved" false 26 (sLR 1 27) := ok_aload_n (by decide +kernel : decode cX8_moved 26 = .ok (.aload_n 1, 1)) rfl
theorem o142_27 : Okp RX8 cX8_moved 5 (some .int) "moved" false 27 (sLI 2 28) := ok_iload_n (by decide +kernel : decode cX8_moved 27 = .ok (.iload_n 2, 1)) rfl
theorem o142_28 : Okp RX8 cX8_moved 5 (some .int) "moved" false 28 (sIA 29) := ok_iaload (by decide +kernel : decode cX8_moved 28 = .ok (.iaload, 1))
theorem o142_29 : Okp RX8 cX8_moved 5 (some .int) "moved" false 29 (sB1 fNeg 30) := ok_ineg (by decide +kernel : decode cX8_moved 29 = .ok (.ineg, 1))
theorem o142_30 : Okp RX8 cX8_moved 5 (some .int) "moved" false 30 sRI := ok_iret rfl (by decide +kernel : decode cX8_moved 30 = .ok (.ireturn, 1))
theorem o142_31 : Okp RX8 cX8_moved 5 (some .int) "moved" false 31 (sLR 0 32) := ok_aload_n (by decide +kernel : decode cX8_moved 31 = .ok (.aload_n 0, 1)) rfl
theorem o142_32 : Okp RX8 cX8_moved 5 (some .int) "moved" false 32 (sGI 9 16 35) := ok_getI (by decide +kernel : decode cX8_moved 32 = .ok (.getfield 55, 3)) fw_X8_55 rfl
theorem o142_35 : Okp RX8 cX8_moved 5 (some .int) "moved" false 35 (sSI 3 36) := ok_istore_n (by decide +kernel : decode cX8_moved 35 = .ok (.istore_n 3, 1)) rfl (by decide) (by decide)
theorem o142_36 : Okp RX8 cX8_moved 5 (some .int) "moved" false 36 (sK 1 37) := ok_iconst (by decide +kernel : decode cX8_moved 36 = .ok (.iconst 1, 1)) (by decide)
theorem o142_37 : Okp RX8 cX8_moved 5 (some .int) "moved" false 37 (sLR 1 38) := ok_aload_n (by decide +kernel : decode cX8_moved 37 = .ok (.aload_n 1, 1)) rfl
theorem o142_38 : Okp RX8 cX8_moved 5 (some .int) "moved" false 38 (sLI 2 39) := ok_iload_n (by decide +kernel : decode cX8_moved 38 = .ok (.iload_n 2, 1)) rfl
theorem o142_39 : Okp RX8 cX8_moved 5 (some .int) "moved" false 39 (sIA 40) := ok_iaload (by decide +kernel : decode cX8_moved 39 = .ok (.iaload, 1))
theorem o142_40 : Okp RX8 cX8_moved 5 (some .int) "moved" false 40 (sK 65535 42) := ok_ldc (by decide +kernel : decode cX8_moved 40 = .ok (.ldc 103, 2)) wk_X8_103 (by decide)
theorem o142_42 : Okp RX8 cX8_moved 5 (some .int) "moved" false 42 (sB2 fAnd 43) := ok_iand (by decide +kernel : decode cX8_moved 42 = .ok (.iand, 1))
theorem o142_43 : Okp RX8 cX8_moved 5 (some .int) "moved" false 43 (sB2 fAdd 44) := ok_iadd (by decide +kernel : decode cX8_moved 43 = .ok (.iadd, 1))
theorem o142_44 : Okp RX8 cX8_moved 5 (some .int) "moved" false 44 (sSI 4 46) := ok_istore (by decide +kernel : decode cX8_moved 44 = .ok (.istore 4, 2)) (by decide) (by decide)
theorem o142_46 : Okp RX8 cX8_moved 5 (some .int) "moved" false 46 (sLI 2 47) := ok_iload_n (by decide +kernel : decode cX8_moved 46 = .ok (.iload_n 2, 1)) rfl
theorem o142_47 : Okp RX8 cX8_moved 5 (some .int) "moved" false 47 (sLI 4 49) := ok_iload (by decide +kernel : decode cX8_moved 47 = .ok (.iload 4, 2))
theorem o142_49 : Okp RX8 cX8_moved 5 (some .int) "moved" false 49 (sB2 fAdd 50) := ok_iadd (by decide +kernel : decode cX8_moved 49 = .ok (.iadd, 1))
theorem o142_50 : Okp RX8 cX8_moved 5 (some .int) "moved" false 50 (sLR 1 51) := ok_aload_n (by decide +kernel : decode cX8_moved 50 = .ok (.aload_n 1, 1)) rfl
theorem o142_51 : Okp RX8 cX8_moved 5 (some .int) "moved" false 51 (sLen 52) := ok_alen (by decide +kernel : decode cX8_moved 51 = .ok (.arraylength, 1))
theorem o142_52 : Okp RX8 cX8_moved 5 (some .int) "moved" false 52 (sI2 4 71 55) := ok_icmp_gt (by decide +kernel : decode cX8_moved 52 = .ok (.if_icmp .gt 19, 3)) (by decide)
theorem o142_55 : Okp RX8 cX8_moved 5 (some .int) "moved" false 55 (sLI 3 56) := ok_iload_n (by decide +kernel : decode cX8_moved 55 = .ok (.iload_n 3, 1)) rfl
theorem o142_56 : Okp RX8 cX8_moved 5 (some .int) "moved" false 56 (sI1 2 71 59) := ok_if_lt (by decide +kernel : decode cX8_moved 56 = .ok (.ifCond .lt 15, 3)) (by decide)
theorem o142_59 : Okp RX8 cX8_moved 5 (some .int) "moved" false 59 (sLI 3 60) := ok_iload_n (by decide +kernel : decode cX8_moved 59 = .ok (.iload_n 3, 1)) rfl
theorem o142_60 : Okp RX8 cX8_moved 5 (some .int) "moved" false 60 (sLI 4 62) := ok_iload (by decide +kernel : decode cX8_moved 60 = .ok (.iload 4, 2))
theorem o142_62 : Okp RX8 cX8_moved 5 (some .int) "moved" false 62 (sB2 fAdd 63) := ok_iadd (by decide +kernel : decode cX8_moved 62 = .ok (.iadd, 1))
theorem o142_63 : Okp RX8 cX8_moved 5 (some .int) "moved" false 63 (sLR 0 64) := ok_aload_n (by decide +kernel : decode cX8_moved 63 = .ok (.aload_n 0, 1)) rfl
theorem o142_64 : Okp RX8 cX8_moved 5 (some .int) "moved" false 64 (sGR 9 15 67) := ok_getR (by decide +kernel : decode cX8_moved 64 = .ok (.getfield 52, 3)) fw_X8_52 rfl
theorem o142_67 : Okp RX8 cX8_moved 5 (some .int) "moved" false 67 (sLen 68) := ok_alen (by decide +kernel : decode cX8_moved 67 = .ok (.arraylength, 1))
theorem o142_68 : Okp RX8 cX8_moved 5 (some .int) "moved" false 68 (sI2 5 73 71) := ok_icmp_le (by decide +kernel : decode cX8_moved 68 = .ok (.if_icmp .le 5, 3)) (by decide)
theorem o142_71 : Okp RX8 cX8_moved 5 (some .int) "moved" false 71 (sK 0 72) := ok_iconst (by decide +kernel : decode cX8_moved 71 = .ok (.iconst 0, 1)) (by decide)
theorem o142_72 : Okp RX8 cX8_moved 5 (some .int) "moved" false 72 sRI := ok_iret rfl (by decide +kernel : decode cX8_moved 72 = .ok (.ireturn, 1))
theorem o142_73 : Okp RX8 cX8_moved 5 (some .int) "moved" false 73 (sLR 1 74) := ok_aload_n (by decide +kernel : decode cX8_moved 73 = .ok (.aload_n 1, 1)) rfl
theorem o142_74 : Okp RX8 cX8_moved 5 (some .int) "moved" false 74 (sLI 2 75) := ok_iload_n (by decide +kernel : decode cX8_moved 74 = .ok (.iload_n 2, 1)) rfl
theorem o142_75 : Okp RX8 cX8_moved 5 (some .int) "moved" false 75 (sLR 0 76) := ok_aload_n (by decide +kernel : decode cX8_moved 75 = .ok (.aload_n 0, 1)) rfl
theorem o142_76 : Okp RX8 cX8_moved 5 (some .int) "moved" false 76 (sGR 9 15 79) := ok_getR (by decide +kernel : decode cX8_moved 76 = .ok (.getfield 52, 3)) fw_X8_52 rfl
theorem o142_79 : Okp RX8 cX8_moved 5 (some .int) "moved" false 79 (sLI 3 80) := ok_iload_n (by decide +kernel : decode cX8_moved 79 = .ok (.iload_n 3, 1)) rfl
theorem o142_80 : Okp RX8 cX8_moved 5 (some .int) "moved" false 80 (sLI 4 82) := ok_iload (by decide +kernel : decode cX8_moved 80 = .ok (.iload 4, 2))
theorem o142_82 : Okp RX8 cX8_moved 5 (some .int) "moved" false 82 (sCp 85) := ok_acopy (by decide +kernel : decode cX8_moved 82 = .ok (.invokestatic 126, 3)) wq_X8_126 wq_na wq_sa wq_is
theorem o142_85 : Okp RX8 cX8_moved 5 (some .int) "moved" false 85 (sLR 1 86) := ok_aload_n (by decide +kernel : decode cX8_moved 85 = .ok (.aload_n 1, 1)) rfl
theorem o142_86 : Okp RX8 cX8_moved 5 (some .int) "moved" false 86 (sLI 2 87) := ok_iload_n (by decide +kernel : decode cX8_moved 86 = .ok (.iload_n 2, 1)) rfl
theorem o142_87 : Okp RX8 cX8_moved 5 (some .int) "moved" false 87 (sLI 3 88) := ok_iload_n (by decide +kernel : decode cX8_moved 87 = .ok (.iload_n 3, 1)) rfl
theorem o142_88 : Okp RX8 cX8_moved 5 (some .int) "moved" false 88 (sB1 fNeg 89) := ok_ineg (by decide +kernel : decode cX8_moved 88 = .ok (.ineg, 1))
theorem o142_89 : Okp RX8 cX8_moved 5 (some .int) "moved" false 89 (sIS 90) := ok_iastore (by decide +kernel : decode cX8_moved 89 = .ok (.iastore, 1))
theorem o142_90 : Okp RX8 cX8_moved 5 (some .int) "moved" false 90 (sLR 0 91) := ok_aload_n (by decide +kernel : decode cX8_moved 90 = .ok (.aload_n 0, 1)) rfl
theorem o142_91 : Okp RX8 cX8_moved 5 (some .int) "moved" false 91 (sLI 3 92) := ok_iload_n (by decide +kernel : decode cX8_moved 91 = .ok (.iload_n 3, 1)) rfl
theorem o142_92 : Okp RX8 cX8_moved 5 (some .int) "moved" false 92 (sLI 4 94) := ok_iload (by decide +kernel : decode cX8_moved 92 = .ok (.iload 4, 2))
theorem o142_94 : Okp RX8 cX8_moved 5 (some .int) "moved" false 94 (sB2 fAdd 95) := ok_iadd (by decide +kernel : decode cX8_moved 94 = .ok (.iadd, 1))
theorem o142_95 : Okp RX8 cX8_moved 5 (some .int) "moved" false 95 (sPI 9 16 98) := ok_putI (by decide +kernel : decode cX8_moved 95 = .ok (.putfield 55, 3)) fw_X8_55 ⟨⟨tyX8_ok, nmX8⟩, Or.inl rfl, rfl⟩ rfl
theorem o142_98 : Okp RX8 cX8_moved 5 (some .int) "moved" false 98 (sLI 3 99) := ok_iload_n (by decide +kernel : decode cX8_moved 98 = .ok (.iload_n 3, 1)) rfl
theorem o142_99 : Okp RX8 cX8_moved 5 (some .int) "moved" false 99 sRI := ok_iret rfl (by decide +kernel : decode cX8_moved 99 = .ok (.ireturn, 1))
theorem oc142_0 : ∀ pc, Mnp (c142_0 pc) ∧ Okp RX8 cX8_moved 5 (some .int) "moved" false pc (c142_0 pc) := by
  intro pc
  unfold c142_0
  split
  · exact ⟨mn_sLI, o142_0⟩
  · exact ⟨mn_sK, o142_1⟩
  · exact ⟨mn_sI2, o142_2⟩
  · exact ⟨mn_sLI, o142_5⟩
  · exact ⟨mn_sK, o142_6⟩
  · exact ⟨mn_sI2, o142_9⟩
  · exact ⟨mn_sLI, o142_12⟩
  · exact ⟨mn_sLR, o142_13⟩
  · exact ⟨mn_sLen, o142_14⟩
  · exact ⟨mn_sI2, o142_15⟩
  · exact ⟨mn_sK, o142_18⟩
  · exact ⟨mn_sRI, o142_19⟩
  · exact ⟨mn_sLR, o142_20⟩
  · exact ⟨mn_sLI, o142_21⟩
  · exact ⟨mn_sIA, o142_22⟩
  · exact ⟨mn_sI1, o142_23⟩
  · exact ⟨mn_sX, ok_X⟩
theorem oc142_1 : ∀ pc, Mnp (c142_1 pc) ∧ Okp RX8 cX8_moved 5 (some .int) "moved" false pc (c142_1 pc) := by
  intro pc
  unfold c142_1
  split
  · exact ⟨mn_sLR, o142_26⟩
  · exact ⟨mn_sLI, o142_27⟩
  · exact ⟨mn_sIA, o142_28⟩
  · exact ⟨mn_sB1, o142_29⟩
  · exact ⟨mn_sRI, o142_30⟩
  · exact ⟨mn_sLR, o142_31⟩
  · exact ⟨mn_sGI, o142_32⟩
  · exact ⟨mn_sSI, o142_35⟩
  · exact ⟨mn_sK, o142_36⟩
  · exact ⟨mn_sLR, o142_37⟩
  · exact ⟨mn_sLI, o142_38⟩
  · exact ⟨mn_sIA, o142_39⟩
  · exact ⟨mn_sK, o142_40⟩
  · exact ⟨mn_sB2, o142_42⟩
  · exact ⟨mn_sB2, o142_43⟩
  · exact ⟨mn_sSI, o142_44⟩
  · exact ⟨mn_sLI, o142_46⟩
  · exact ⟨mn_sLI, o142_47⟩
  · exact ⟨mn_sX, ok_X⟩
theorem oc142_2 : ∀ pc, Mnp (c142_2 pc) ∧ Okp RX8 cX8_moved 5 (some .int) "moved" false pc (c142_2 pc) := by
  intro pc
  unfold c142_2
  split
  · exact ⟨mn_sB2, o142_49⟩
  · exact ⟨mn_sLR, o142_50⟩
  · exact ⟨mn_sLen, o142_51⟩
  · exact ⟨mn_sI2, o142_52⟩
  · exact ⟨mn_sLI, o142_55⟩
  · exact ⟨mn_sI1, o142_56⟩
  · exact ⟨mn_sLI, o142_59⟩
  · exact ⟨mn_sLI, o142_60⟩
  · exact ⟨mn_sB2, o142_62⟩
  · exact ⟨mn_sLR, o142_63⟩
  · exact ⟨mn_sGR, o142_64⟩
  · exact ⟨mn_sLen, o142_67⟩
  · exact ⟨mn_sI2, o142_68⟩
  · exact ⟨mn_sK, o142_71⟩
  · exact ⟨mn_sX, ok_X⟩
theorem oc142_3 : ∀ pc, Mnp (c142_3 pc) ∧ Okp RX8 cX8_moved 5 (some .int) "moved" false pc (c142_3 pc) := by
  intro pc
  unfold c142_3
  split
  · exact ⟨mn_sRI, o142_72⟩
  · exact ⟨mn_sLR, o142_73⟩
  · exact ⟨mn_sLI, o142_74⟩
  · exact ⟨mn_sLR, o142_75⟩
  · exact ⟨mn_sGR, o142_76⟩
  · exact ⟨mn_sLI, o142_79⟩
  · exact ⟨mn_sLI, o142_80⟩
  · exact ⟨mn_sCp, o142_82⟩
  · exact ⟨mn_sLR, o142_85⟩
  · exact ⟨mn_sLI, o142_86⟩
  · exact ⟨mn_sLI, o142_87⟩
  · exact ⟨mn_sB1, o142_88⟩
  · exact ⟨mn_sIS, o142_89⟩
  · exact ⟨mn_sLR, o142_90⟩
  · exact ⟨mn_sLI, o142_91⟩
  · exact ⟨mn_sLI, o142_92⟩
  · exact ⟨mn_sB2, o142_94⟩
  · exact ⟨mn_sPI, o142_95⟩
  · exact ⟨mn_sX, ok_X⟩
theorem oc142_4 : ∀ pc, Mnp (c142_4 pc) ∧ Okp RX8 cX8_moved 5 (some .int) "moved" false pc (c142_4 pc) := by
  intro pc
  unfold c142_4
  split
  · exact ⟨mn_sLI, o142_98⟩
  · exact ⟨mn_sRI, o142_99⟩
  · exact ⟨mn_sX, ok_X⟩
theorem oc142 : ∀ pc, Mnp (c142 pc) ∧ Okp RX8 cX8_moved 5 (some .int) "moved" false pc (c142 pc) := by
  intro pc
  unfold c142
  split
  · exact oc142_0 pc
  · exact oc142_1 pc
  · exact oc142_2 pc
  · exact oc142_3 pc
  · exact oc142_4 pc
  · exact ⟨mn_sX, ok_X⟩
