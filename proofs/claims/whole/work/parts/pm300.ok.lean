theorem o0_0 : Okp RX0 cX0_init 1 none "<init>" false 0 (sLR 0 1) := ok_aload_n (by decide +kernel : decode cX0_init 0 = .ok (.aload_n 0, 1)) rfl
theorem o0_1 : Okp RX0 cX0_init 1 none "<init>" false 1 (sCt 4) := ok_oinit (by decide +kernel : decode cX0_init 1 = .ok (.invokespecial 3, 3)) wq_X0_3 wq_i wq_c
theorem o0_4 : Okp RX0 cX0_init 1 none "<init>" false 4 (sLR 0 5) := ok_aload_n (by decide +kernel : decode cX0_init 4 = .ok (.aload_n 0, 1)) rfl
theorem o0_5 : Okp RX0 cX0_init 1 none "<init>" false 5 (sK 128 8) := ok_sipush (by decide +kernel : decode cX0_init 5 = .ok (.sipush 128, 3)) (by decide)
theorem o0_8 : Okp RX0 cX0_init 1 none "<init>" false 8 (sNA 15 10) := ok_newI (by decide +kernel : decode cX0_init 8 = .ok (.newarray .int, 2)) wa_int
theorem o0_10 : Okp RX0 cX0_init 1 none "<init>" false 10 (sPR 1 0 13) := ok_putR (by decide +kernel : decode cX0_init 10 = .ok (.putfield 9, 3)) fw_X0_9 ⟨⟨tyX0_ok, nmX0⟩, Or.inr ⟨rfl, rfl, rfl⟩, rfl⟩ (Or.inr ⟨_, rfl⟩) rfl
theorem o0_13 : Okp RX0 cX0_init 1 none "<init>" false 13 (sLR 0 14) := ok_aload_n (by decide +kernel : decode cX0_init 13 = .ok (.aload_n 0, 1)) rfl
theorem o0_14 : Okp RX0 cX0_init 1 none "<init>" false 14 (sK 128 17) := ok_sipush (by decide +kernel : decode cX0_init 14 = .ok (.sipush 128, 3)) (by decide)
theorem o0_17 : Okp RX0 cX0_init 1 none "<init>" false 17 (sNA 15 19) := ok_newI (by decide +kernel : decode cX0_init 17 = .ok (.newarray .int, 2)) wa_int
theorem o0_19 : Okp RX0 cX0_init 1 none "<init>" false 19 (sPR 1 1 22) := ok_putR (by decide +kernel : decode cX0_init 19 = .ok (.putfield 15, 3)) fw_X0_15 ⟨⟨tyX0_ok, nmX0⟩, Or.inr ⟨rfl, rfl, rfl⟩, rfl⟩ (Or.inr ⟨_, rfl⟩) rfl
theorem o0_22 : Okp RX0 cX0_init 1 none "<init>" false 22 (sLR 0 23) := ok_aload_n (by decide +kernel : decode cX0_init 22 = .ok (.aload_n 0, 1)) rfl
theorem o0_23 : Okp RX0 cX0_init 1 none "<init>" false 23 (sK 768 26) := ok_sipush (by decide +kernel : decode cX0_init 23 = .ok (.sipush 768, 3)) (by decide)
theorem o0_26 : Okp RX0 cX0_init 1 none "<init>" false 26 (sNA 15 28) := ok_newI (by decide +kernel : decode cX0_init 26 = .ok (.newarray .int, 2)) wa_int
theorem o0_28 : Okp RX0 cX0_init 1 none "<init>" false 28 (sPR 1 2 31) := ok_putR (by decide +kernel : decode cX0_init 28 = .ok (.putfield 18, 3)) fw_X0_18 ⟨⟨tyX0_ok, nmX0⟩, Or.inr ⟨rfl, rfl, rfl⟩, rfl⟩ (Or.inr ⟨_, rfl⟩) rfl
theorem o0_31 : Okp RX0 cX0_init 1 none "<init>" false 31 (sLR 0 32) := ok_aload_n (by decide +kernel : decode cX0_init 31 = .ok (.aload_n 0, 1)) rfl
theorem o0_32 : Okp RX0 cX0_init 1 none "<init>" false 32 (sK 0 33) := ok_iconst (by decide +kernel : decode cX0_init 32 = .ok (.iconst 0, 1)) (by decide)
theorem o0_33 : Okp RX0 cX0_init 1 none "<init>" false 33 (sPI 1 3 36) := ok_putI (by decide +kernel : decode cX0_init 33 = .ok (.putfield 21, 3)) fw_X0_21 ⟨⟨tyX0_ok, nmX0⟩, Or.inl rfl, rfl⟩ rfl
theorem o0_36 : Okp RX0 cX0_init 1 none "<init>" false 36 (sLR 0 37) := ok_aload_n (by decide +kernel : decode cX0_init 36 = .ok (.aload_n 0, 1)) rfl
theorem o0_37 : Okp RX0 cX0_init 1 none "<init>" false 37 (sK 0 38) := ok_iconst (by decide +kernel : decode cX0_init 37 = .ok (.iconst 0, 1)) (by decide)
theorem o0_38 : Okp RX0 cX0_init 1 none "<init>" false 38 (sPI 1 4 41) := ok_putI (by decide +kernel : decode cX0_init 38 = .ok (.putfield 25, 3)) fw_X0_25 ⟨⟨tyX0_ok, nmX0⟩, Or.inl rfl, rfl⟩ rfl
theorem o0_41 : Okp RX0 cX0_init 1 none "<init>" false 41 sRV := ok_vret rfl (by decide +kernel : decode cX0_init 41 = .ok (.return_, 1))
theorem oc0_0 : ∀ pc, Mnp (c0_0 pc) ∧ Okp RX0 cX0_init 1 none "<init>" false pc (c0_0 pc) := by
  intro pc
  unfold c0_0
  split
  · exact ⟨mn_sLR, o0_0⟩
  · exact ⟨mn_sCt, o0_1⟩
  · exact ⟨mn_sLR, o0_4⟩
  · exact ⟨mn_sK, o0_5⟩
  · exact ⟨mn_sNA, o0_8⟩
  · exact ⟨mn_sPR, o0_10⟩
  · exact ⟨mn_sLR, o0_13⟩
  · exact ⟨mn_sK, o0_14⟩
  · exact ⟨mn_sNA, o0_17⟩
  · exact ⟨mn_sPR, o0_19⟩
  · exact ⟨mn_sLR, o0_22⟩
  · exact ⟨mn_sK, o0_23⟩
  · exact ⟨mn_sX, ok_X⟩
theorem oc0_1 : ∀ pc, Mnp (c0_1 pc) ∧ Okp RX0 cX0_init 1 none "<init>" false pc (c0_1 pc) := by
  intro pc
  unfold c0_1
  split
  · exact ⟨mn_sNA, o0_26⟩
  · exact ⟨mn_sPR, o0_28⟩
  · exact ⟨mn_sLR, o0_31⟩
  · exact ⟨mn_sK, o0_32⟩
  · exact ⟨mn_sPI, o0_33⟩
  · exact ⟨mn_sLR, o0_36⟩
  · exact ⟨mn_sK, o0_37⟩
  · exact ⟨mn_sPI, o0_38⟩
  · exact ⟨mn_sRV, o0_41⟩
  · exact ⟨mn_sX, ok_X⟩
theorem oc0 : ∀ pc, Mnp (c0 pc) ∧ Okp RX0 cX0_init 1 none "<init>" false pc (c0 pc) := by
  intro pc
  unfold c0
  split
  · exact oc0_0 pc
  · exact oc0_1 pc
  · exact ⟨mn_sX, ok_X⟩
theorem o1_0 : Okp RX0 cX0_clear 2 none "clear" false 0 (sK 0 1) := ok_iconst (by decide +kernel : decode cX0_clear 0 = .ok (.iconst 0, 1)) (by decide)
theorem o1_1 : Okp RX0 cX0_clear 2 none "clear" false 1 (sSI 1 2) := ok_istore_n (by decide +kernel : decode cX0_clear 1 = .ok (.istore_n 1, 1)) rfl (by decide) (by decide)
theorem o1_2 : Okp RX0 cX0_clear 2 none "clear" false 2 (sLI 1 3) := ok_iload_n (by decide +kernel : decode cX0_clear 2 = .ok (.iload_n 1, 1)) rfl
theorem o1_3 : Okp RX0 cX0_clear 2 none "clear" false 3 (sK 128 6) := ok_sipush (by decide +kernel : decode cX0_clear 3 = .ok (.sipush 128, 3)) (by decide)
theorem o1_6 : Okp RX0 cX0_clear 2 none "clear" false 6 (sI2 3 22 9) := ok_icmp_ge (by decide +kernel : decode cX0_clear 6 = .ok (.if_icmp .ge 16, 3)) (by decide)
theorem o1_9 : Okp RX0 cX0_clear 2 none "clear" false 9 (sLR 0 10) := ok_aload_n (by decide +kernel : decode cX0_clear 9 = .ok (.aload_n 0, 1)) rfl
theorem o1_10 : Okp RX0 cX0_clear 2 none "clear" false 10 (sGR 1 0 13) := ok_getR (by decide +kernel : decode cX0_clear 10 = .ok (.getfield 9, 3)) fw_X0_9 rfl
theorem o1_13 : Okp RX0 cX0_clear 2 none "clear" false 13 (sLI 1 14) := ok_iload_n (by decide +kernel : decode cX0_clear 13 = .ok (.iload_n 1, 1)) rfl
theorem o1_14 : Okp RX0 cX0_clear 2 none "clear" false 14 (sK 0 15) := ok_iconst (by decide +kernel : decode cX0_clear 14 = .ok (.iconst 0, 1)) (by decide)
theorem o1_15 : Okp RX0 cX0_clear 2 none "clear" false 15 (sIS 16) := ok_iastore (by decide +kernel : decode cX0_clear 15 = .ok (.iastore, 1))
theorem o1_16 : Okp RX0 cX0_clear 2 none "clear" false 16 (sInc 1 1 19) := ok_iinc (by decide +kernel : decode cX0_clear 16 = .ok (.iinc 1 1, 3)) (by decide) (by decide)
theorem o1_19 : Okp RX0 cX0_clear 2 none "clear" false 19 (sGo 2) := ok_goto (by decide +kernel : decode cX0_clear 19 = .ok (.goto (-17), 3)) (by decide)
theorem o1_22 : Okp RX0 cX0_clear 2 none "clear" false 22 (sLR 0 23) := ok_aload_n (by decide +kernel : decode cX0_clear 22 = .ok (.aload_n 0, 1)) rfl
theorem o1_23 : Okp RX0 cX0_clear 2 none "clear" false 23 (sK 0 24) := ok_iconst (by decide +kernel : decode cX0_clear 23 = .ok (.iconst 0, 1)) (by decide)
theorem o1_24 : Okp RX0 cX0_clear 2 none "clear" false 24 (sPI 1 3 27) := ok_putI (by decide +kernel : decode cX0_clear 24 = .ok (.putfield 21, 3)) fw_X0_21 ⟨⟨tyX0_ok, nmX0⟩, Or.inl rfl, rfl⟩ rfl
theorem o1_27 : Okp RX0 cX0_clear 2 none "clear" false 27 (sLR 0 28) := ok_aload_n (by decide +kernel : decode cX0_clear 27 = .ok (.aload_n 0, 1)) rfl
theorem o1_28 : Okp RX0 cX0_clear 2 none "clear" false 28 (sK 0 29) := ok_iconst (by decide +kernel : decode cX0_clear 28 = .ok (.iconst 0, 1)) (by decide)
theorem o1_29 : Okp RX0 cX0_clear 2 none "clear" false 29 (sPI 1 4 32) := ok_putI (by decide +kernel : decode cX0_clear 29 = .ok (.putfield 25, 3)) fw_X0_25 ⟨⟨tyX0_ok, nmX0⟩, Or.inl rfl, rfl⟩ rfl
theorem o1_32 : Okp RX0 cX0_clear 2 none "clear" false 32 sRV := ok_vret rfl (by decide +kernel : decode cX0_clear 32 = .ok (.return_, 1))
theorem oc1_0 : ∀ pc, Mnp (c1_0 pc) ∧ Okp RX0 cX0_clear 2 none "clear" false pc (c1_0 pc) := by
  intro pc
  unfold c1_0
  split
  · exact ⟨mn_sK, o1_0⟩
  · exact ⟨mn_sSI, o1_1⟩
  · exact ⟨mn_sLI, o1_2⟩
  · exact ⟨mn_sK, o1_3⟩
  · exact ⟨mn_sI2, o1_6⟩
  · exact ⟨mn_sLR, o1_9⟩
  · exact ⟨mn_sGR, o1_10⟩
  · exact ⟨mn_sLI, o1_13⟩
  · exact ⟨mn_sK, o1_14⟩
  · exact ⟨mn_sIS, o1_15⟩
  · exact ⟨mn_sInc, o1_16⟩
  · exact ⟨mn_sGo, o1_19⟩
  · exact ⟨mn_sLR, o1_22⟩
  · exact ⟨mn_sK, o1_23⟩
  · exact ⟨mn_sX, ok_X⟩
theorem oc1_1 : ∀ pc, Mnp (c1_1 pc) ∧ Okp RX0 cX0_clear 2 none "clear" false pc (c1_1 pc) := by
  intro pc
  unfold c1_1
  split
  · exact ⟨mn_sPI, o1_24⟩
  · exact ⟨mn_sLR, o1_27⟩
  · exact ⟨mn_sK, o1_28⟩
  · exact ⟨mn_sPI, o1_29⟩
  · exact ⟨mn_sRV, o1_32⟩
  · exact ⟨mn_sX, ok_X⟩
theorem oc1 : ∀ pc, Mnp (c1 pc) ∧ Okp RX0 cX0_clear 2 none "clear" false pc (c1 pc) := by
  intro pc
  unfold c1
  split
  · exact oc1_0 pc
  · exact oc1_1 pc
  · exact ⟨mn_sX, ok_X⟩
theorem o2_0 : Okp RX0 cX0_make 5 (some .int) "make" false 0 (sLI 1 1) := ok_iload_n (by decide +kernel : decode cX0_make 0 = .ok (.iload_n 1, 1)) rfl
theorem o2_1 : Okp RX0 cX0_make 5 (some .int) "make" false 1 (sK 1 2) := ok_iconst (by decide +kernel : decode cX0_make 1 = .ok (.iconst 1, 1)) (by decide)
theorem o2_2 : Okp RX0 cX0_make 5 (some .int) "make" false 2 (sI2 2 25 5) := ok_icmp_lt (by decide +kernel : decode cX0_make 2 = .ok (.if_icmp .lt 23, 3)) (by decide)
theorem o2_5 : Okp RX0 cX0_make 5 (some .int) "make" false 5 (sLI 1 6) := ok_iload_n (by decide +kernel : decode cX0_make 5 = .ok (.iload_n 1, 1)) rfl
theorem o2_6 : Okp RX0 cX0_make 5 (some .int) "make" false 6 (sK 6 8) := ok_bipush (by decide +kernel : decode cX0_make 6 = .ok (.bipush 6, 2)) (by decide)
theorem o2_8 : Okp RX0 cX0_make 5 (some .int) "make" false 8 (sI2 4 25 11) := ok_icmp_gt (by decide +kernel : decode cX0_make 8 = .ok (.if_icmp .gt 17, 3)) (by decide)
theorem o2_11 : Okp RX0 cX0_make 5 (some .int) "make" false 11 (sLR 0 12) := ok_aload_n (by decide +kernel : decode cX0_make 11 = .ok (.aload_n 0, 1)) rfl
theorem o2_12 : Okp RX0 cX0_make 5 (some .int) "make" false 12 (sGI 1 4 15) := ok_getI (by decide +kernel : decode cX0_make 12 = .ok (.getfield 25, 3)) fw_X0_25 rfl
theorem o2_15 : Okp RX0 cX0_make 5 (some .int) "make" false 15 (sLI 1 16) := ok_iload_n (by decide +kernel : decode cX0_make 15 = .ok (.iload_n 1, 1)) rfl
theorem o2_16 : Okp RX0 cX0_make 5 (some .int) "make" false 16 (sB2 fAdd 17) := ok_iadd (by decide +kernel : decode cX0_make 16 = .ok (.iadd, 1))
theorem o2_17 : Okp RX0 cX0_make 5 (some .int) "make" false 17 (sK 1 18) := ok_iconst (by decide +kernel : decode cX0_make 17 = .ok (.iconst 1, 1)) (by decide)
theorem o2_18 : Okp RX0 cX0_make 5 (some .int) "make" false 18 (sB2 fAdd 19) := ok_iadd (by decide +kernel : decode cX0_make 18 = .ok (.iadd, 1))
theorem o2_19 : Okp RX0 cX0_make 5 (some .int) "make" false 19 (sK 256 22) := ok_sipush (by decide +kernel : decode cX0_make 19 = .ok (.sipush 256, 3)) (by decide)
theorem o2_22 : Okp RX0 cX0_make 5 (some .int) "make" false 22 (sI2 5 27 25) := ok_icmp_le (by decide +kernel : decode cX0_make 22 = .ok (.if_icmp .le 5, 3)) (by decide)
theorem o2_25 : Okp RX0 cX0_make 5 (some .int) "make" false 25 (sK (-1) 26) := ok_iconst (by decide +kernel : decode cX0_make 25 = .ok (.iconst (-1), 1)) (by decide)
theorem o2_26 : Okp RX0 cX0_make 5 (some .int) "make" false 26 sRI := ok_iret rfl (by decide +kernel : decode cX0_make 26 = .ok (.ireturn, 1))
theorem o2_27 : Okp RX0 cX0_make 5 (some .int) "make" false 27 (sK 0 28) := ok_iconst (by decide +kernel : decode cX0_make 27 = .ok (.iconst 0, 1)) (by decide)
theorem o2_28 : Okp RX0 cX0_make 5 (some .int) "make" false 28 (sSI 3 29) := ok_istore_n (by decide +kernel : decode cX0_make 28 = .ok (.istore_n 3, 1)) rfl (by decide) (by decide)
theorem o2_29 : Okp RX0 cX0_make 5 (some .int) "make" false 29 (sLI 3 30) := ok_iload_n (by decide +kernel : decode cX0_make 29 = .ok (.iload_n 3, 1)) rfl
theorem o2_30 : Okp RX0 cX0_make 5 (some .int) "make" false 30 (sK 128 33) := ok_sipush (by decide +kernel : decode cX0_make 30 = .ok (.sipush 128, 3)) (by decide)
theorem o2_33 : Okp RX0 cX0_make 5 (some .int) "make" false 33 (sI2 3 118 36) := ok_icmp_ge (by decide +kernel : decode cX0_make 33 = .ok (.if_icmp .ge 85, 3)) (by decide)
theorem o2_36 : Okp RX0 cX0_make 5 (some .int) "make" false 36 (sLR 0 37) := ok_aload_n (by decide +kernel : decode cX0_make 36 = .ok (.aload_n 0, 1)) rfl
theorem o2_37 : Okp RX0 cX0_make 5 (some .int) "make" false 37 (sGR 1 0 40) := ok_getR (by decide +kernel : decode cX0_make 37 = .ok (.getfield 9, 3)) fw_X0_9 rfl
theorem o2_40 : Okp RX0 cX0_make 5 (some .int) "make" false 40 (sLI 3 41) := ok_iload_n (by decide +kernel : decode cX0_make 40 = .ok (.iload_n 3, 1)) rfl
theorem o2_41 : Okp RX0 cX0_make 5 (some .int) "make" false 41 (sIA 42) := ok_iaload (by decide +kernel : decode cX0_make 41 = .ok (.iaload, 1))
theorem o2_42 : Okp RX0 cX0_make 5 (some .int) "make" false 42 (sI1 1 112 45) := ok_if_ne (by decide +kernel : decode cX0_make 42 = .ok (.ifCond .ne 70, 3)) (by decide)
theorem o2_45 : Okp RX0 cX0_make 5 (some .int) "make" false 45 (sLR 0 46) := ok_aload_n (by decide +kernel : decode cX0_make 45 = .ok (.aload_n 0, 1)) rfl
theorem o2_46 : Okp RX0 cX0_make 5 (some .int) "make" false 46 (sGR 1 0 49) := ok_getR (by decide +kernel : decode cX0_make 46 = .ok (.getfield 9, 3)) fw_X0_9 rfl
theorem o2_49 : Okp RX0 cX0_make 5 (some .int) "make" false 49 (sLI 3 50) := ok_iload_n (by decide +kernel : decode cX0_make 49 = .ok (.iload_n 3, 1)) rfl
theorem o2_50 : Okp RX0 cX0_make 5 (some .int) "make" false 50 (sLI 1 51) := ok_iload_n (by decide +kernel : decode cX0_make 50 = .ok (.iload_n 1, 1)) rfl
theorem o2_51 : Okp RX0 cX0_make 5 (some .int) "make" false 51 (sIS 52) := ok_iastore (by decide +kernel : decode cX0_make 51 = .ok (.iastore, 1))
theorem o2_52 : Okp RX0 cX0_make 5 (some .int) "make" false 52 (sLR 0 53) := ok_aload_n (by decide +kernel : decode cX0_make 52 = .ok (.aload_n 0, 1)) rfl
theorem o2_53 : Okp RX0 cX0_make 5 (some .int) "make" false 53 (sGR 1 1 56) := ok_getR (by decide +kernel : decode cX0_make 53 = .ok (.getfield 15, 3)) fw_X0_15 rfl
theorem o2_56 : Okp RX0 cX0_make 5 (some .int) "make" false 56 (sLI 3 57) := ok_iload_n (by decide +kernel : decode cX0_make 56 = .ok (.iload_n 3, 1)) rfl
theorem o2_57 : Okp RX0 cX0_make 5 (some .int) "make" false 57 (sLI 2 58) := ok_iload_n (by decide +kernel : decode cX0_make 57 = .ok (.iload_n 2, 1)) rfl
theorem o2_58 : Okp RX0 cX0_make 5 (some .int) "make" false 58 (sIS 59) := ok_iastore (by decide +kernel : decode cX0_make 58 = .ok (.iastore, 1))
theorem o2_59 : Okp RX0 cX0_make 5 (some .int) "make" false 59 (sK 0 60) := ok_iconst (by decide +kernel : decode cX0_make 59 = .ok (.iconst 0, 1)) (by decide)
theorem o2_60 : Okp RX0 cX0_make 5 (some .int) "make" false 60 (sSI 4 62) := ok_istore (by decide +kernel : decode cX0_make 60 = .ok (.istore 4, 2)) (by decide) (by decide)
theorem o2_62 : Okp RX0 cX0_make 5 (some .int) "make" false 62 (sLI 4 64) := ok_iload (by decide +kernel : decode cX0_make 62 = .ok (.iload 4, 2))
theorem o2_64 : Okp RX0 cX0_make 5 (some .int) "make" false 64 (sK 6 66) := ok_bipush (by decide +kernel : decode cX0_make 64 = .ok (.bipush 6, 2)) (by decide)
theorem o2_66 : Okp RX0 cX0_make 5 (some .int) "make" false 66 (sI2 3 88 69) := ok_icmp_ge (by decide +kernel : decode cX0_make 66 = .ok (.if_icmp .ge 22, 3)) (by decide)
theorem o2_69 : Okp RX0 cX0_make 5 (some .int) "make" false 69 (sLR 0 70) := ok_aload_n (by decide +kernel : decode cX0_make 69 = .ok (.aload_n 0, 1)) rfl
theorem o2_70 : Okp RX0 cX0_make 5 (some .int) "make" false 70 (sGR 1 2 73) := ok_getR (by decide +kernel : decode cX0_make 70 = .ok (.getfield 18, 3)) fw_X0_18 rfl
theorem o2_73 : Okp RX0 cX0_make 5 (some .int) "make" false 73 (sLI 3 74) := ok_iload_n (by decide +kernel : decode cX0_make 73 = .ok (.iload_n 3, 1)) rfl
theorem o2_74 : Okp RX0 cX0_make 5 (some .int) "make" false 74 (sK 6 76) := ok_bipush (by decide +kernel : decode cX0_make 74 = .ok (.bipush 6, 2)) (by decide)
theorem o2_76 : Okp RX0 cX0_make 5 (some .int) "make" false 76 (sB2 fMul 77) := ok_imul (by decide +kernel : decode cX0_make 76 = .ok (.imul, 1))
theorem o2_77 : Okp RX0 cX0_make 5 (some .int) "make" false 77 (sLI 4 79) := ok_iload (by decide +kernel : decode cX0_make 77 = .ok (.iload 4, 2))
theorem o2_79 : Okp RX0 cX0_make 5 (some .int) "make" false 79 (sB2 fAdd 80) := ok_iadd (by decide +kernel : decode cX0_make 79 = .ok (.iadd, 1))
theorem o2_80 : Okp RX0 cX0_make 5 (some .int) "make" false 80 (sK 0 81) := ok_iconst (by decide +kernel : decode cX0_make 80 = .ok (.iconst 0, 1)) (by decide)
theorem o2_81 : Okp RX0 cX0_make 5 (some .int) "make" false 81 (sIS 82) := ok_iastore (by decide +kernel : decode cX0_make 81 = .ok (.iastore, 1))
theorem o2_82 : Okp RX0 cX0_make 5 (some .int) "make" false 82 (sInc 4 1 85) := ok_iinc (by decide +kernel : decode cX0_make 82 = .ok (.iinc 4 1, 3)) (by decide) (by decide)
theorem o2_85 : Okp RX0 cX0_make 5 (some .int) "make" false 85 (sGo 62) := ok_goto (by decide +kernel : decode cX0_make 85 = .ok (.goto (-23), 3)) (by decide)
theorem o2_88 : Okp RX0 cX0_make 5 (some .int) "make" false 88 (sLR 0 89) := ok_aload_n (by decide +kernel : decode cX0_make 88 = .ok (.aload_n 0, 1)) rfl
theorem o2_89 : Okp RX0 cX0_make 5 (some .int) "make" false 89 (sDup 90) := ok_dup (by decide +kernel : decode cX0_make 89 = .ok (.dup, 1))
theorem o2_90 : Okp RX0 cX0_make 5 (some .int) "make" false 90 (sGI 1 3 93) := ok_getI (by decide +kernel : decode cX0_make 90 = .ok (.getfield 21, 3)) fw_X0_21 rfl
theorem o2_93 : Okp RX0 cX0_make 5 (some .int) "make" false 93 (sK 1 94) := ok_iconst (by decide +kernel : decode cX0_make 93 = .ok (.iconst 1, 1)) (by decide)
theorem o2_94 : Okp RX0 cX0_make 5 (some .int) "make" false 94 (sB2 fAdd 95) := ok_iadd (by decide +kernel : decode cX0_make 94 = .ok (.iadd, 1))
theorem o2_95 : Okp RX0 cX0_make 5 (some .int) "make" false 95 (sPI 1 3 98) := ok_putI (by decide +kernel : decode cX0_make 95 = .ok (.putfield 21, 3)) fw_X0_21 ⟨⟨tyX0_ok, nmX0⟩, Or.inl rfl, rfl⟩ rfl
theorem o2_98 : Okp RX0 cX0_make 5 (some .int) "make" false 98 (sLR 0 99) := ok_aload_n (by decide +kernel : decode cX0_make 98 = .ok (.aload_n 0, 1)) rfl
theorem o2_99 : Okp RX0 cX0_make 5 (some .int) "make" false 99 (sDup 100) := ok_dup (by decide +kernel : decode cX0_make 99 = .ok (.dup, 1))
theorem o2_100 : Okp RX0 cX0_make 5 (some .int) "make" false 100 (sGI 1 4 103) := ok_getI (by decide +kernel : decode cX0_make 100 = .ok (.getfield 25, 3)) fw_X0_25 rfl
theorem o2_103 : Okp RX0 cX0_make 5 (some .int) "make" false 103 (sLI 1 104) := ok_iload_n (by decide +kernel : decode cX0_make 103 = .ok (.iload_n 1, 1)) rfl
theorem o2_104 : Okp RX0 cX0_make 5 (some .int) "make" false 104 (sK 1 105) := ok_iconst (by decide +kernel : decode cX0_make 104 = .ok (.iconst 1, 1)) (by decide)
theorem o2_105 : Okp RX0 cX0_make 5 (some .int) "make" false 105 (sB2 fAdd 106) := ok_iadd (by decide +kernel : decode cX0_make 105 = .ok (.iadd, 1))
theorem o2_106 : Okp RX0 cX0_make 5 (some .int) "make" false 106 (sB2 fAdd 107) := ok_iadd (by decide +kernel : decode cX0_make 106 = .ok (.iadd, 1))
theorem o2_107 : Okp RX0 cX0_make 5 (some .int) "make" false 107 (sPI 1 4 110) := ok_putI (by decide +kernel : decode cX0_make 107 = .ok (.putfield 25, 3)) fw_X0_25 ⟨⟨tyX0_ok, nmX0⟩, Or.inl rfl, rfl⟩ rfl
theorem o2_110 : Okp RX0 cX0_make 5 (some .int) "make" false 110 (sLI 3 111) := ok_iload_n (by decide +kernel : decode cX0_make 110 = .ok (.iload_n 3, 1)) rfl
theorem o2_111 : Okp RX0 cX0_make 5 (some .int) "make" false 111 sRI := ok_iret rfl (by decide +kernel : decode cX0_make 111 = .ok (.ireturn, 1))
theorem o2_112 : Okp RX0 cX0_make 5 (some .int) "make" false 112 (sInc 3 1 115) := ok_iinc (by decide +kernel : decode cX0_make 112 = .ok (.iinc 3 1, 3)) (by decide) (by decide)
theorem o2_115 : Okp RX0 cX0_make 5 (some .int) "make" false 115 (sGo 29) := ok_goto (by decide +kernel : decode cX0_make 115 = .ok (.goto (-86), 3)) (by decide)
theorem o2_118 : Okp RX0 cX0_make 5 (some .int) "make" false 118 (sK (-1) 119) := ok_iconst (by decide +kernel : decode cX0_make 118 = .ok (.iconst (-1), 1)) (by decide)
theorem o2_119 : Okp RX0 cX0_make 5 (some .int) "make" false 119 sRI := ok_iret rfl (by decide +kernel : decode cX0_make 119 = .ok (.ireturn, 1))
theorem oc2_0 : ∀ pc, Mnp (c2_0 pc) ∧ Okp RX0 cX0_make 5 (some .int) "make" false pc (c2_0 pc) := by
  intro pc
  unfold c2_0
  split
  · exact ⟨mn_sLI, o2_0⟩
  · exact ⟨mn_sK, o2_1⟩
  · exact ⟨mn_sI2, o2_2⟩
  · exact ⟨mn_sLI, o2_5⟩
  · exact ⟨mn_sK, o2_6⟩
  · exact ⟨mn_sI2, o2_8⟩
  · exact ⟨mn_sLR, o2_11⟩
  · exact ⟨mn_sGI, o2_12⟩
  · exact ⟨mn_sLI, o2_15⟩
  · exact ⟨mn_sB2, o2_16⟩
  · exact ⟨mn_sK, o2_17⟩
  · exact ⟨mn_sB2, o2_18⟩
  · exact ⟨mn_sK, o2_19⟩
  · exact ⟨mn_sI2, o2_22⟩
  · exact ⟨mn_sX, ok_X⟩
theorem oc2_1 : ∀ pc, Mnp (c2_1 pc) ∧ Okp RX0 cX0_make 5 (some .int) "make" false pc (c2_1 pc) := by
  intro pc
  unfold c2_1
  split
  · exact ⟨mn_sK, o2_25⟩
  · exact ⟨mn_sRI, o2_26⟩
  · exact ⟨mn_sK, o2_27⟩
  · exact ⟨mn_sSI, o2_28⟩
  · exact ⟨mn_sLI, o2_29⟩
  · exact ⟨mn_sK, o2_30⟩
  · exact ⟨mn_sI2, o2_33⟩
  · exact ⟨mn_sLR, o2_36⟩
  · exact ⟨mn_sGR, o2_37⟩
  · exact ⟨mn_sLI, o2_40⟩
  · exact ⟨mn_sIA, o2_41⟩
  · exact ⟨mn_sI1, o2_42⟩
  · exact ⟨mn_sLR, o2_45⟩
  · exact ⟨mn_sGR, o2_46⟩
  · exact ⟨mn_sX, ok_X⟩
theorem oc2_2 : ∀ pc, Mnp (c2_2 pc) ∧ Okp RX0 cX0_make 5 (some .int) "make" false pc (c2_2 pc) := by
  intro pc
  unfold c2_2
  split
  · exact ⟨mn_sLI, o2_49⟩
  · exact ⟨mn_sLI, o2_50⟩
  · exact ⟨mn_sIS, o2_51⟩
  · exact ⟨mn_sLR, o2_52⟩
  · exact ⟨mn_sGR, o2_53⟩
  · exact ⟨mn_sLI, o2_56⟩
  · exact ⟨mn_sLI, o2_57⟩
  · exact ⟨mn_sIS, o2_58⟩
  · exact ⟨mn_sK, o2_59⟩
  · exact ⟨mn_sSI, o2_60⟩
  · exact ⟨mn_sLI, o2_62⟩
  · exact ⟨mn_sK, o2_64⟩
  · exact ⟨mn_sI2, o2_66⟩
  · exact ⟨mn_sLR, o2_69⟩
  · exact ⟨mn_sGR, o2_70⟩
  · exact ⟨mn_sX, ok_X⟩
theorem oc2_3 : ∀ pc, Mnp (c2_3 pc) ∧ Okp RX0 cX0_make 5 (some .int) "make" false pc (c2_3 pc) := by
  intro pc
  unfold c2_3
  split
  · exact ⟨mn_sLI, o2_73⟩
  · exact ⟨mn_sK, o2_74⟩
  · exact ⟨mn_sB2, o2_76⟩
  · exact ⟨mn_sLI, o2_77⟩
  · exact ⟨mn_sB2, o2_79⟩
  · exact ⟨mn_sK, o2_80⟩
  · exact ⟨mn_sIS, o2_81⟩
  · exact ⟨mn_sInc, o2_82⟩
  · exact ⟨mn_sGo, o2_85⟩
  · exact ⟨mn_sLR, o2_88⟩
  · exact ⟨mn_sDup, o2_89⟩
  · exact ⟨mn_sGI, o2_90⟩
  · exact ⟨mn_sK, o2_93⟩
  · exact ⟨mn_sB2, o2_94⟩
  · exact ⟨mn_sPI, o2_95⟩
  · exact ⟨mn_sX, ok_X⟩
theorem oc2_4 : ∀ pc, Mnp (c2_4 pc) ∧ Okp RX0 cX0_make 5 (some .int) "make" false pc (c2_4 pc) := by
  intro pc
  unfold c2_4
  split
  · exact ⟨mn_sLR, o2_98⟩
  · exact ⟨mn_sDup, o2_99⟩
  · exact ⟨mn_sGI, o2_100⟩
  · exact ⟨mn_sLI, o2_103⟩
  · exact ⟨mn_sK, o2_104⟩
  · exact ⟨mn_sB2, o2_105⟩
  · exact ⟨mn_sB2, o2_106⟩
  · exact ⟨mn_sPI, o2_107⟩
  · exact ⟨mn_sLI, o2_110⟩
  · exact ⟨mn_sRI, o2_111⟩
  · exact ⟨mn_sInc, o2_112⟩
  · exact ⟨mn_sGo, o2_115⟩
  · exact ⟨mn_sK, o2_118⟩
  · exact ⟨mn_sRI, o2_119⟩
  · exact ⟨mn_sX, ok_X⟩
theorem oc2 : ∀ pc, Mnp (c2 pc) ∧ Okp RX0 cX0_make 5 (some .int) "make" false pc (c2 pc) := by
  intro pc
  unfold c2
  split
  · exact oc2_0 pc
  · exact oc2_1 pc
  · exact oc2_2 pc
  · exact oc2_3 pc
  · exact oc2_4 pc
  · exact ⟨mn_sX, ok_X⟩
theorem o3_0 : Okp RX0 cX0_sizeOf 2 (some .int) "sizeOf" false 0 (sLI 1 1) := ok_iload_n (by decide +kernel : decode cX0_sizeOf 0 = .ok (.iload_n 1, 1)) rfl
theorem o3_1 : Okp RX0 cX0_sizeOf 2 (some .int) "sizeOf" false 1 (sI1 2 11 4) := ok_if_lt (by decide +kernel : decode cX0_sizeOf 1 = .ok (.ifCond .lt 10, 3)) (by decide)
theorem o3_4 : Okp RX0 cX0_sizeOf 2 (some .int) "sizeOf" false 4 (sLI 1 5) := ok_iload_n (by decide +kernel : decode cX0_sizeOf 4 = .ok (.iload_n 1, 1)) rfl
theorem o3_5 : Okp RX0 cX0_sizeOf 2 (some .int) "sizeOf" false 5 (sK 128 8) := ok_sipush (by decide +kernel : decode cX0_sizeOf 5 = .ok (.sipush 128, 3)) (by decide)
theorem o3_8 : Okp RX0 cX0_sizeOf 2 (some .int) "sizeOf" false 8 (sI2 2 15 11) := ok_icmp_lt (by decide +kernel : decode cX0_sizeOf 8 = .ok (.if_icmp .lt 7, 3)) (by decide)
theorem o3_11 : Okp RX0 cX0_sizeOf 2 (some .int) "sizeOf" false 11 (sK 0 12) := ok_iconst (by decide +kernel : decode cX0_sizeOf 11 = .ok (.iconst 0, 1)) (by decide)
theorem o3_12 : Okp RX0 cX0_sizeOf 2 (some .int) "sizeOf" false 12 (sGo 21) := ok_goto (by decide +kernel : decode cX0_sizeOf 12 = .ok (.goto 9, 3)) (by decide)
theorem o3_15 : Okp RX0 cX0_sizeOf 2 (some .int) "sizeOf" false 15 (sLR 0 16) := ok_aload_n (by decide +kernel : decode cX0_sizeOf 15 = .ok (.aload_n 0, 1)) rfl
theorem o3_16 : Okp RX0 cX0_sizeOf 2 (some .int) "sizeOf" false 16 (sGR 1 0 19) := ok_getR (by decide +kernel : decode cX0_sizeOf 16 = .ok (.getfield 9, 3)) fw_X0_9 rfl
theorem o3_19 : Okp RX0 cX0_sizeOf 2 (some .int) "sizeOf" false 19 (sLI 1 20) := ok_iload_n (by decide +kernel : decode cX0_sizeOf 19 = .ok (.iload_n 1, 1)) rfl
theorem o3_20 : Okp RX0 cX0_sizeOf 2 (some .int) "sizeOf" false 20 (sIA 21) := ok_iaload (by decide +kernel : decode cX0_sizeOf 20 = .ok (.iaload, 1))
theorem o3_21 : Okp RX0 cX0_sizeOf 2 (some .int) "sizeOf" false 21 sRI := ok_iret rfl (by decide +kernel : decode cX0_sizeOf 21 = .ok (.ireturn, 1))
theorem oc3 : ∀ pc, Mnp (c3 pc) ∧ Okp RX0 cX0_sizeOf 2 (some .int) "sizeOf" false pc (c3 pc) := by
  intro pc
  unfold c3
  split
  · exact ⟨mn_sLI, o3_0⟩
  · exact ⟨mn_sI1, o3_1⟩
  · exact ⟨mn_sLI, o3_4⟩
  · exact ⟨mn_sK, o3_5⟩
  · exact ⟨mn_sI2, o3_8⟩
  · exact ⟨mn_sK, o3_11⟩
  · exact ⟨mn_sGo, o3_12⟩
  · exact ⟨mn_sLR, o3_15⟩
  · exact ⟨mn_sGR, o3_16⟩
  · exact ⟨mn_sLI, o3_19⟩
  · exact ⟨mn_sIA, o3_20⟩
  · exact ⟨mn_sRI, o3_21⟩
  · exact ⟨mn_sX, ok_X⟩
theorem o4_0 : Okp RX0 cX0_ownerOf 2 (some .int) "ownerOf" false 0 (sLR 0 1) := ok_aload_n (by decide +kernel : decode cX0_ownerOf 0 = .ok (.aload_n 0, 1)) rfl
theorem o4_1 : Okp RX0 cX0_ownerOf 2 (some .int) "ownerOf" false 1 (sLI 1 2) := ok_iload_n (by decide +kernel : decode cX0_ownerOf 1 = .ok (.iload_n 1, 1)) rfl
theorem o4_2 : Okp RX0 cX0_ownerOf 2 (some .int) "ownerOf" false 2 (sCV false 3 2 1 5) := ok_cv (by decide +kernel : decode cX0_ownerOf 2 = .ok (.invokevirtual 28, 3)) mw_X0_28 rfl (by decide) wm_X0_sizeOf wse_X0_sizeOf (by decide) rfl
theorem o4_5 : Okp RX0 cX0_ownerOf 2 (some .int) "ownerOf" false 5 (sI1 1 12 8) := ok_if_ne (by decide +kernel : decode cX0_ownerOf 5 = .ok (.ifCond .ne 7, 3)) (by decide)
theorem o4_8 : Okp RX0 cX0_ownerOf 2 (some .int) "ownerOf" false 8 (sK (-1) 9) := ok_iconst (by decide +kernel : decode cX0_ownerOf 8 = .ok (.iconst (-1), 1)) (by decide)
theorem o4_9 : Okp RX0 cX0_ownerOf 2 (some .int) "ownerOf" false 9 (sGo 18) := ok_goto (by decide +kernel : decode cX0_ownerOf 9 = .ok (.goto 9, 3)) (by decide)
theorem o4_12 : Okp RX0 cX0_ownerOf 2 (some .int) "ownerOf" false 12 (sLR 0 13) := ok_aload_n (by decide +kernel : decode cX0_ownerOf 12 = .ok (.aload_n 0, 1)) rfl
theorem o4_13 : Okp RX0 cX0_ownerOf 2 (some .int) "ownerOf" false 13 (sGR 1 1 16) := ok_getR (by decide +kernel : decode cX0_ownerOf 13 = .ok (.getfield 15, 3)) fw_X0_15 rfl
theorem o4_16 : Okp RX0 cX0_ownerOf 2 (some .int) "ownerOf" false 16 (sLI 1 17) := ok_iload_n (by decide +kernel : decode cX0_ownerOf 16 = .ok (.iload_n 1, 1)) rfl
theorem o4_17 : Okp RX0 cX0_ownerOf 2 (some .int) "ownerOf" false 17 (sIA 18) := ok_iaload (by decide +kernel : decode cX0_ownerOf 17 = .ok (.iaload, 1))
theorem o4_18 : Okp RX0 cX0_ownerOf 2 (some .int) "ownerOf" false 18 sRI := ok_iret rfl (by decide +kernel : decode cX0_ownerOf 18 = .ok (.ireturn, 1))
theorem oc4 : ∀ pc, Mnp (c4 pc) ∧ Okp RX0 cX0_ownerOf 2 (some .int) "ownerOf" false pc (c4 pc) := by
  intro pc
  unfold c4
  split
  · exact ⟨mn_sLR, o4_0⟩
  · exact ⟨mn_sLI, o4_1⟩
  · exact ⟨mn_sCV, o4_2⟩
  · exact ⟨mn_sI1, o4_5⟩
  · exact ⟨mn_sK, o4_8⟩
  · exact ⟨mn_sGo, o4_9⟩
  · exact ⟨mn_sLR, o4_12⟩
  · exact ⟨mn_sGR, o4_13⟩
  · exact ⟨mn_sLI, o4_16⟩
  · exact ⟨mn_sIA, o4_17⟩
  · exact ⟨mn_sRI, o4_18⟩
  · exact ⟨mn_sX, ok_X⟩
theorem o5_0 : Okp RX0 cX0_give 3 none "give" false 0 (sLI 1 1) := ok_iload_n (by decide +kernel : decode cX0_give 0 = .ok (.iload_n 1, 1)) rfl
theorem o5_1 : Okp RX0 cX0_give 3 none "give" false 1 (sI1 2 18 4) := ok_if_lt (by decide +kernel : decode cX0_give 1 = .ok (.ifCond .lt 17, 3)) (by decide)
theorem o5_4 : Okp RX0 cX0_give 3 none "give" false 4 (sLI 1 5) := ok_iload_n (by decide +kernel : decode cX0_give 4 = .ok (.iload_n 1, 1)) rfl
theorem o5_5 : Okp RX0 cX0_give 3 none "give" false 5 (sK 128 8) := ok_sipush (by decide +kernel : decode cX0_give 5 = .ok (.sipush 128, 3)) (by decide)
theorem o5_8 : Okp RX0 cX0_give 3 none "give" false 8 (sI2 3 18 11) := ok_icmp_ge (by decide +kernel : decode cX0_give 8 = .ok (.if_icmp .ge 10, 3)) (by decide)
theorem o5_11 : Okp RX0 cX0_give 3 none "give" false 11 (sLR 0 12) := ok_aload_n (by decide +kernel : decode cX0_give 11 = .ok (.aload_n 0, 1)) rfl
theorem o5_12 : Okp RX0 cX0_give 3 none "give" false 12 (sGR 1 1 15) := ok_getR (by decide +kernel : decode cX0_give 12 = .ok (.getfield 15, 3)) fw_X0_15 rfl
theorem o5_15 : Okp RX0 cX0_give 3 none "give" false 15 (sLI 1 16) := ok_iload_n (by decide +kernel : decode cX0_give 15 = .ok (.iload_n 1, 1)) rfl
theorem o5_16 : Okp RX0 cX0_give 3 none "give" false 16 (sLI 2 17) := ok_iload_n (by decide +kernel : decode cX0_give 16 = .ok (.iload_n 2, 1)) rfl
theorem o5_17 : Okp RX0 cX0_give 3 none "give" false 17 (sIS 18) := ok_iastore (by decide +kernel : decode cX0_give 17 = .ok (.iastore, 1))
theorem o5_18 : Okp RX0 cX0_give 3 none "give" false 18 sRV := ok_vret rfl (by decide +kernel : decode cX0_give 18 = .ok (.return_, 1))
theorem oc5 : ∀ pc, Mnp (c5 pc) ∧ Okp RX0 cX0_give 3 none "give" false pc (c5 pc) := by
  intro pc
  unfold c5
  split
  · exact ⟨mn_sLI, o5_0⟩
  · exact ⟨mn_sI1, o5_1⟩
  · exact ⟨mn_sLI, o5_4⟩
  · exact ⟨mn_sK, o5_5⟩
  · exact ⟨mn_sI2, o5_8⟩
  · exact ⟨mn_sLR, o5_11⟩
  · exact ⟨mn_sGR, o5_12⟩
  · exact ⟨mn_sLI, o5_15⟩
  · exact ⟨mn_sLI, o5_16⟩
  · exact ⟨mn_sIS, o5_17⟩
  · exact ⟨mn_sRV, o5_18⟩
  · exact ⟨mn_sX, ok_X⟩
theorem o6_0 : Okp RX0 cX0_see 3 (some .int) "see" false 0 (sLI 2 1) := ok_iload_n (by decide +kernel : decode cX0_see 0 = .ok (.iload_n 2, 1)) rfl
theorem o6_1 : Okp RX0 cX0_see 3 (some .int) "see" false 1 (sI1 2 13 4) := ok_if_lt (by decide +kernel : decode cX0_see 1 = .ok (.ifCond .lt 12, 3)) (by decide)
theorem o6_4 : Okp RX0 cX0_see 3 (some .int) "see" false 4 (sLI 2 5) := ok_iload_n (by decide +kernel : decode cX0_see 4 = .ok (.iload_n 2, 1)) rfl
theorem o6_5 : Okp RX0 cX0_see 3 (some .int) "see" false 5 (sLR 0 6) := ok_aload_n (by decide +kernel : decode cX0_see 5 = .ok (.aload_n 0, 1)) rfl
theorem o6_6 : Okp RX0 cX0_see 3 (some .int) "see" false 6 (sLI 1 7) := ok_iload_n (by decide +kernel : decode cX0_see 6 = .ok (.iload_n 1, 1)) rfl
theorem o6_7 : Okp RX0 cX0_see 3 (some .int) "see" false 7 (sCV false 3 2 1 10) := ok_cv (by decide +kernel : decode cX0_see 7 = .ok (.invokevirtual 28, 3)) mw_X0_28 rfl (by decide) wm_X0_sizeOf wse_X0_sizeOf (by decide) rfl
theorem o6_10 : Okp RX0 cX0_see 3 (some .int) "see" false 10 (sI2 2 17 13) := ok_icmp_lt (by decide +kernel : decode cX0_see 10 = .ok (.if_icmp .lt 7, 3)) (by decide)
theorem o6_13 : Okp RX0 cX0_see 3 (some .int) "see" false 13 (sK 0 14) := ok_iconst (by decide +kernel : decode cX0_see 13 = .ok (.iconst 0, 1)) (by decide)
theorem o6_14 : Okp RX0 cX0_see 3 (some .int) "see" false 14 (sGo 28) := ok_goto (by decide +kernel : decode cX0_see 14 = .ok (.goto 14, 3)) (by decide)
theorem o6_17 : Okp RX0 cX0_see 3 (some .int) "see" false 17 (sLR 0 18) := ok_aload_n (by decide +kernel : decode cX0_see 17 = .ok (.aload_n 0, 1)) rfl
theorem o6_18 : Okp RX0 cX0_see 3 (some .int) "see" false 18 (sGR 1 2 21) := ok_getR (by decide +kernel : decode cX0_see 18 = .ok (.getfield 18, 3)) fw_X0_18 rfl
theorem o6_21 : Okp RX0 cX0_see 3 (some .int) "see" false 21 (sLI 1 22) := ok_iload_n (by decide +kernel : decode cX0_see 21 = .ok (.iload_n 1, 1)) rfl
theorem o6_22 : Okp RX0 cX0_see 3 (some .int) "see" false 22 (sK 6 24) := ok_bipush (by decide +kernel : decode cX0_see 22 = .ok (.bipush 6, 2)) (by decide)
theorem o6_24 : Okp RX0 cX0_see 3 (some .int) "see" false 24 (sB2 fMul 25) := ok_imul (by decide +kernel : decode cX0_see 24 = .ok (.imul, 1))
theorem o6_25 : Okp RX0 cX0_see 3 (some .int) "see" false 25 (sLI 2 26) := ok_iload_n (by decide +kernel : decode cX0_see 25 = .ok (.iload_n 2, 1)) rfl
theorem o6_26 : Okp RX0 cX0_see 3 (some .int) "see" false 26 (sB2 fAdd 27) := ok_iadd (by decide +kernel : decode cX0_see 26 = .ok (.iadd, 1))
theorem o6_27 : Okp RX0 cX0_see 3 (some .int) "see" false 27 (sIA 28) := ok_iaload (by decide +kernel : decode cX0_see 27 = .ok (.iaload, 1))
theorem o6_28 : Okp RX0 cX0_see 3 (some .int) "see" false 28 sRI := ok_iret rfl (by decide +kernel : decode cX0_see 28 = .ok (.ireturn, 1))
theorem oc6_0 : ∀ pc, Mnp (c6_0 pc) ∧ Okp RX0 cX0_see 3 (some .int) "see" false pc (c6_0 pc) := by
  intro pc
  unfold c6_0
  split
  · exact ⟨mn_sLI, o6_0⟩
  · exact ⟨mn_sI1, o6_1⟩
  · exact ⟨mn_sLI, o6_4⟩
  · exact ⟨mn_sLR, o6_5⟩
  · exact ⟨mn_sLI, o6_6⟩
  · exact ⟨mn_sCV, o6_7⟩
  · exact ⟨mn_sI2, o6_10⟩
  · exact ⟨mn_sK, o6_13⟩
  · exact ⟨mn_sGo, o6_14⟩
  · exact ⟨mn_sLR, o6_17⟩
  · exact ⟨mn_sGR, o6_18⟩
  · exact ⟨mn_sLI, o6_21⟩
  · exact ⟨mn_sK, o6_22⟩
  · exact ⟨mn_sX, ok_X⟩
theorem oc6_1 : ∀ pc, Mnp (c6_1 pc) ∧ Okp RX0 cX0_see 3 (some .int) "see" false pc (c6_1 pc) := by
  intro pc
  unfold c6_1
  split
  · exact ⟨mn_sB2, o6_24⟩
  · exact ⟨mn_sLI, o6_25⟩
  · exact ⟨mn_sB2, o6_26⟩
  · exact ⟨mn_sIA, o6_27⟩
  · exact ⟨mn_sRI, o6_28⟩
  · exact ⟨mn_sX, ok_X⟩
theorem oc6 : ∀ pc, Mnp (c6 pc) ∧ Okp RX0 cX0_see 3 (some .int) "see" false pc (c6 pc) := by
  intro pc
  unfold c6
  split
  · exact oc6_0 pc
  · exact oc6_1 pc
  · exact ⟨mn_sX, ok_X⟩
theorem o7_0 : Okp RX0 cX0_set 4 none "set" false 0 (sLI 2 1) := ok_iload_n (by decide +kernel : decode cX0_set 0 = .ok (.iload_n 2, 1)) rfl
theorem o7_1 : Okp RX0 cX0_set 4 none "set" false 1 (sI1 2 25 4) := ok_if_lt (by decide +kernel : decode cX0_set 1 = .ok (.ifCond .lt 24, 3)) (by decide)
theorem o7_4 : Okp RX0 cX0_set 4 none "set" false 4 (sLI 2 5) := ok_iload_n (by decide +kernel : decode cX0_set 4 = .ok (.iload_n 2, 1)) rfl
theorem o7_5 : Okp RX0 cX0_set 4 none "set" false 5 (sLR 0 6) := ok_aload_n (by decide +kernel : decode cX0_set 5 = .ok (.aload_n 0, 1)) rfl
theorem o7_6 : Okp RX0 cX0_set 4 none "set" false 6 (sLI 1 7) := ok_iload_n (by decide +kernel : decode cX0_set 6 = .ok (.iload_n 1, 1)) rfl
theorem o7_7 : Okp RX0 cX0_set 4 none "set" false 7 (sCV false 3 2 1 10) := ok_cv (by decide +kernel : decode cX0_set 7 = .ok (.invokevirtual 28, 3)) mw_X0_28 rfl (by decide) wm_X0_sizeOf wse_X0_sizeOf (by decide) rfl
theorem o7_10 : Okp RX0 cX0_set 4 none "set" false 10 (sI2 3 25 13) := ok_icmp_ge (by decide +kernel : decode cX0_set 10 = .ok (.if_icmp .ge 15, 3)) (by decide)
theorem o7_13 : Okp RX0 cX0_set 4 none "set" false 13 (sLR 0 14) := ok_aload_n (by decide +kernel : decode cX0_set 13 = .ok (.aload_n 0, 1)) rfl
theorem o7_14 : Okp RX0 cX0_set 4 none "set" false 14 (sGR 1 2 17) := ok_getR (by decide +kernel : decode cX0_set 14 = .ok (.getfield 18, 3)) fw_X0_18 rfl
theorem o7_17 : Okp RX0 cX0_set 4 none "set" false 17 (sLI 1 18) := ok_iload_n (by decide +kernel : decode cX0_set 17 = .ok (.iload_n 1, 1)) rfl
theorem o7_18 : Okp RX0 cX0_set 4 none "set" false 18 (sK 6 20) := ok_bipush (by decide +kernel : decode cX0_set 18 = .ok (.bipush 6, 2)) (by decide)
theorem o7_20 : Okp RX0 cX0_set 4 none "set" false 20 (sB2 fMul 21) := ok_imul (by decide +kernel : decode cX0_set 20 = .ok (.imul, 1))
theorem o7_21 : Okp RX0 cX0_set 4 none "set" false 21 (sLI 2 22) := ok_iload_n (by decide +kernel : decode cX0_set 21 = .ok (.iload_n 2, 1)) rfl
theorem o7_22 : Okp RX0 cX0_set 4 none "set" false 22 (sB2 fAdd 23) := ok_iadd (by decide +kernel : decode cX0_set 22 = .ok (.iadd, 1))
theorem o7_23 : Okp RX0 cX0_set 4 none "set" false 23 (sLI 3 24) := ok_iload_n (by decide +kernel : decode cX0_set 23 = .ok (.iload_n 3, 1)) rfl
theorem o7_24 : Okp RX0 cX0_set 4 none "set" false 24 (sIS 25) := ok_iastore (by decide +kernel : decode cX0_set 24 = .ok (.iastore, 1))
theorem o7_25 : Okp RX0 cX0_set 4 none "set" false 25 sRV := ok_vret rfl (by decide +kernel : decode cX0_set 25 = .ok (.return_, 1))
theorem oc7_0 : ∀ pc, Mnp (c7_0 pc) ∧ Okp RX0 cX0_set 4 none "set" false pc (c7_0 pc) := by
  intro pc
  unfold c7_0
  split
  · exact ⟨mn_sLI, o7_0⟩
  · exact ⟨mn_sI1, o7_1⟩
  · exact ⟨mn_sLI, o7_4⟩
  · exact ⟨mn_sLR, o7_5⟩
  · exact ⟨mn_sLI, o7_6⟩
  · exact ⟨mn_sCV, o7_7⟩
  · exact ⟨mn_sI2, o7_10⟩
  · exact ⟨mn_sLR, o7_13⟩
  · exact ⟨mn_sGR, o7_14⟩
  · exact ⟨mn_sLI, o7_17⟩
  · exact ⟨mn_sK, o7_18⟩
  · exact ⟨mn_sB2, o7_20⟩
  · exact ⟨mn_sLI, o7_21⟩
  · exact ⟨mn_sB2, o7_22⟩
  · exact ⟨mn_sLI, o7_23⟩
  · exact ⟨mn_sX, ok_X⟩
theorem oc7_1 : ∀ pc, Mnp (c7_1 pc) ∧ Okp RX0 cX0_set 4 none "set" false pc (c7_1 pc) := by
  intro pc
  unfold c7_1
  split
  · exact ⟨mn_sIS, o7_24⟩
  · exact ⟨mn_sRV, o7_25⟩
  · exact ⟨mn_sX, ok_X⟩
theorem oc7 : ∀ pc, Mnp (c7 pc) ∧ Okp RX0 cX0_set 4 none "set" false pc (c7 pc) := by
  intro pc
  unfold c7
  split
  · exact oc7_0 pc
  · exact oc7_1 pc
  · exact ⟨mn_sX, ok_X⟩
theorem o8_0 : Okp RX0 cX0_free 2 none "free" false 0 (sLI 1 1) := ok_iload_n (by decide +kernel : decode cX0_free 0 = .ok (.iload_n 1, 1)) rfl
theorem o8_1 : Okp RX0 cX0_free 2 none "free" false 1 (sI1 2 54 4) := ok_if_lt (by decide +kernel : decode cX0_free 1 = .ok (.ifCond .lt 53, 3)) (by decide)
theorem o8_4 : Okp RX0 cX0_free 2 none "free" false 4 (sLI 1 5) := ok_iload_n (by decide +kernel : decode cX0_free 4 = .ok (.iload_n 1, 1)) rfl
theorem o8_5 : Okp RX0 cX0_free 2 none "free" false 5 (sK 128 8) := ok_sipush (by decide +kernel : decode cX0_free 5 = .ok (.sipush 128, 3)) (by decide)
theorem o8_8 : Okp RX0 cX0_free 2 none "free" false 8 (sI2 3 54 11) := ok_icmp_ge (by decide +kernel : decode cX0_free 8 = .ok (.if_icmp .ge 46, 3)) (by decide)
theorem o8_11 : Okp RX0 cX0_free 2 none "free" false 11 (sLR 0 12) := ok_aload_n (by decide +kernel : decode cX0_free 11 = .ok (.aload_n 0, 1)) rfl
theorem o8_12 : Okp RX0 cX0_free 2 none "free" false 12 (sGR 1 0 15) := ok_getR (by decide +kernel : decode cX0_free 12 = .ok (.getfield 9, 3)) fw_X0_9 rfl
theorem o8_15 : Okp RX0 cX0_free 2 none "free" false 15 (sLI 1 16) := ok_iload_n (by decide +kernel : decode cX0_free 15 = .ok (.iload_n 1, 1)) rfl
theorem o8_16 : Okp RX0 cX0_free 2 none "free" false 16 (sIA 17) := ok_iaload (by decide +kernel : decode cX0_free 16 = .ok (.iaload, 1))
theorem o8_17 : Okp RX0 cX0_free 2 none "free" false 17 (sI1 5 54 20) := ok_if_le (by decide +kernel : decode cX0_free 17 = .ok (.ifCond .le 37, 3)) (by decide)
theorem o8_20 : Okp RX0 cX0_free 2 none "free" false 20 (sLR 0 21) := ok_aload_n (by decide +kernel : decode cX0_free 20 = .ok (.aload_n 0, 1)) rfl
theorem o8_21 : Okp RX0 cX0_free 2 none "free" false 21 (sDup 22) := ok_dup (by decide +kernel : decode cX0_free 21 = .ok (.dup, 1))
theorem o8_22 : Okp RX0 cX0_free 2 none "free" false 22 (sGI 1 4 25) := ok_getI (by decide +kernel : decode cX0_free 22 = .ok (.getfield 25, 3)) fw_X0_25 rfl
theorem o8_25 : Okp RX0 cX0_free 2 none "free" false 25 (sLR 0 26) := ok_aload_n (by decide +kernel : decode cX0_free 25 = .ok (.aload_n 0, 1)) rfl
theorem o8_26 : Okp RX0 cX0_free 2 none "free" false 26 (sGR 1 0 29) := ok_getR (by decide +kernel : decode cX0_free 26 = .ok (.getfield 9, 3)) fw_X0_9 rfl
theorem o8_29 : Okp RX0 cX0_free 2 none "free" false 29 (sLI 1 30) := ok_iload_n (by decide +kernel : decode cX0_free 29 = .ok (.iload_n 1, 1)) rfl
theorem o8_30 : Okp RX0 cX0_free 2 none "free" false 30 (sIA 31) := ok_iaload (by decide +kernel : decode cX0_free 30 = .ok (.iaload, 1))
theorem o8_31 : Okp RX0 cX0_free 2 none "free" false 31 (sK 1 32) := ok_iconst (by decide +kernel : decode cX0_free 31 = .ok (.iconst 1, 1)) (by decide)
theorem o8_32 : Okp RX0 cX0_free 2 none "free" false 32 (sB2 fAdd 33) := ok_iadd (by decide +kernel : decode cX0_free 32 = .ok (.iadd, 1))
theorem o8_33 : Okp RX0 cX0_free 2 none "free" false 33 (sB2 fSub 34) := ok_isub (by decide +kernel : decode cX0_free 33 = .ok (.isub, 1))
theorem o8_34 : Okp RX0 cX0_free 2 none "free" false 34 (sPI 1 4 37) := ok_putI (by decide +kernel : decode cX0_free 34 = .ok (.putfield 25, 3)) fw_X0_25 ⟨⟨tyX0_ok, nmX0⟩, Or.inl rfl, rfl⟩ rfl
theorem o8_37 : Okp RX0 cX0_free 2 none "free" false 37 (sLR 0 38) := ok_aload_n (by decide +kernel : decode cX0_free 37 = .ok (.aload_n 0, 1)) rfl
theorem o8_38 : Okp RX0 cX0_free 2 none "free" false 38 (sDup 39) := ok_dup (by decide +kernel : decode cX0_free 38 = .ok (.dup, 1))
theorem o8_39 : Okp RX0 cX0_free 2 none "free" false 39 (sGI 1 3 42) := ok_getI (by decide +kernel : decode cX0_free 39 = .ok (.getfield 21, 3)) fw_X0_21 rfl
theorem o8_42 : Okp RX0 cX0_free 2 none "free" false 42 (sK 1 43) := ok_iconst (by decide +kernel : decode cX0_free 42 = .ok (.iconst 1, 1)) (by decide)
theorem o8_43 : Okp RX0 cX0_free 2 none "free" false 43 (sB2 fSub 44) := ok_isub (by decide +kernel : decode cX0_free 43 = .ok (.isub, 1))
theorem o8_44 : Okp RX0 cX0_free 2 none "free" false 44 (sPI 1 3 47) := ok_putI (by decide +kernel : decode cX0_free 44 = .ok (.putfield 21, 3)) fw_X0_21 ⟨⟨tyX0_ok, nmX0⟩, Or.inl rfl, rfl⟩ rfl
theorem o8_47 : Okp RX0 cX0_free 2 none "free" false 47 (sLR 0 48) := ok_aload_n (by decide +kernel : decode cX0_free 47 = .ok (.aload_n 0, 1)) rfl
theorem o8_48 : Okp RX0 cX0_free 2 none "free" false 48 (sGR 1 0 51) := ok_getR (by decide +kernel : decode cX0_free 48 = .ok (.getfield 9, 3)) fw_X0_9 rfl
theorem o8_51 : Okp RX0 cX0_free 2 none "free" false 51 (sLI 1 52) := ok_iload_n (by decide +kernel : decode cX0_free 51 = .ok (.iload_n 1, 1)) rfl
theorem o8_52 : Okp RX0 cX0_free 2 none "free" false 52 (sK 0 53) := ok_iconst (by decide +kernel : decode cX0_free 52 = .ok (.iconst 0, 1)) (by decide)
theorem o8_53 : Okp RX0 cX0_free 2 none "free" false 53 (sIS 54) := ok_iastore (by decide +kernel : decode cX0_free 53 = .ok (.iastore, 1))
theorem o8_54 : Okp RX0 cX0_free 2 none "free" false 54 sRV := ok_vret rfl (by decide +kernel : decode cX0_free 54 = .ok (.return_, 1))
theorem oc8_0 : ∀ pc, Mnp (c8_0 pc) ∧ Okp RX0 cX0_free 2 none "free" false pc (c8_0 pc) := by
  intro pc
  unfold c8_0
  split
  · exact ⟨mn_sLI, o8_0⟩
  · exact ⟨mn_sI1, o8_1⟩
  · exact ⟨mn_sLI, o8_4⟩
  · exact ⟨mn_sK, o8_5⟩
  · exact ⟨mn_sI2, o8_8⟩
  · exact ⟨mn_sLR, o8_11⟩
  · exact ⟨mn_sGR, o8_12⟩
  · exact ⟨mn_sLI, o8_15⟩
  · exact ⟨mn_sIA, o8_16⟩
  · exact ⟨mn_sI1, o8_17⟩
  · exact ⟨mn_sLR, o8_20⟩
  · exact ⟨mn_sDup, o8_21⟩
  · exact ⟨mn_sGI, o8_22⟩
  · exact ⟨mn_sX, ok_X⟩
theorem oc8_1 : ∀ pc, Mnp (c8_1 pc) ∧ Okp RX0 cX0_free 2 none "free" false pc (c8_1 pc) := by
  intro pc
  unfold c8_1
  split
  · exact ⟨mn_sLR, o8_25⟩
  · exact ⟨mn_sGR, o8_26⟩
  · exact ⟨mn_sLI, o8_29⟩
  · exact ⟨mn_sIA, o8_30⟩
  · exact ⟨mn_sK, o8_31⟩
  · exact ⟨mn_sB2, o8_32⟩
  · exact ⟨mn_sB2, o8_33⟩
  · exact ⟨mn_sPI, o8_34⟩
  · exact ⟨mn_sLR, o8_37⟩
  · exact ⟨mn_sDup, o8_38⟩
  · exact ⟨mn_sGI, o8_39⟩
  · exact ⟨mn_sK, o8_42⟩
  · exact ⟨mn_sB2, o8_43⟩
  · exact ⟨mn_sPI, o8_44⟩
  · exact ⟨mn_sLR, o8_47⟩
  · exact ⟨mn_sX, ok_X⟩
theorem oc8_2 : ∀ pc, Mnp (c8_2 pc) ∧ Okp RX0 cX0_free 2 none "free" false pc (c8_2 pc) := by
  intro pc
  unfold c8_2
  split
  · exact ⟨mn_sGR, o8_48⟩
  · exact ⟨mn_sLI, o8_51⟩
  · exact ⟨mn_sK, o8_52⟩
  · exact ⟨mn_sIS, o8_53⟩
  · exact ⟨mn_sRV, o8_54⟩
  · exact ⟨mn_sX, ok_X⟩
theorem oc8 : ∀ pc, Mnp (c8 pc) ∧ Okp RX0 cX0_free 2 none "free" false pc (c8 pc) := by
  intro pc
  unfold c8
  split
  · exact oc8_0 pc
  · exact oc8_1 pc
  · exact oc8_2 pc
  · exact ⟨mn_sX, ok_X⟩
theorem o9_0 : Okp RX0 cX0_freeAllOf 3 none "freeAllOf" false 0 (sK 0 1) := ok_iconst (by decide +kernel : decode cX0_freeAllOf 0 = .ok (.iconst 0, 1)) (by decide)
theorem o9_1 : Okp RX0 cX0_freeAllOf 3 none "freeAllOf" false 1 (sSI 2 2) := ok_istore_n (by decide +kernel : decode cX0_freeAllOf 1 = .ok (.istore_n 2, 1)) rfl (by decide) (by decide)
theorem o9_2 : Okp RX0 cX0_freeAllOf 3 none "freeAllOf" false 2 (sLI 2 3) := ok_iload_n (by decide +kernel : decode cX0_freeAllOf 2 = .ok (.iload_n 2, 1)) rfl
theorem o9_3 : Okp RX0 cX0_freeAllOf 3 none "freeAllOf" false 3 (sK 128 6) := ok_sipush (by decide +kernel : decode cX0_freeAllOf 3 = .ok (.sipush 128, 3)) (by decide)
theorem o9_6 : Okp RX0 cX0_freeAllOf 3 none "freeAllOf" false 6 (sI2 3 39 9) := ok_icmp_ge (by decide +kernel : decode cX0_freeAllOf 6 = .ok (.if_icmp .ge 33, 3)) (by decide)
theorem o9_9 : Okp RX0 cX0_freeAllOf 3 none "freeAllOf" false 9 (sLR 0 10) := ok_aload_n (by decide +kernel : decode cX0_freeAllOf 9 = .ok (.aload_n 0, 1)) rfl
theorem o9_10 : Okp RX0 cX0_freeAllOf 3 none "freeAllOf" false 10 (sGR 1 0 13) := ok_getR (by decide +kernel : decode cX0_freeAllOf 10 = .ok (.getfield 9, 3)) fw_X0_9 rfl
theorem o9_13 : Okp RX0 cX0_freeAllOf 3 none "freeAllOf" false 13 (sLI 2 14) := ok_iload_n (by decide +kernel : decode cX0_freeAllOf 13 = .ok (.iload_n 2, 1)) rfl
theorem o9_14 : Okp RX0 cX0_freeAllOf 3 none "freeAllOf" false 14 (sIA 15) := ok_iaload (by decide +kernel : decode cX0_freeAllOf 14 = .ok (.iaload, 1))
theorem o9_15 : Okp RX0 cX0_freeAllOf 3 none "freeAllOf" false 15 (sI1 5 33 18) := ok_if_le (by decide +kernel : decode cX0_freeAllOf 15 = .ok (.ifCond .le 18, 3)) (by decide)
theorem o9_18 : Okp RX0 cX0_freeAllOf 3 none "freeAllOf" false 18 (sLR 0 19) := ok_aload_n (by decide +kernel : decode cX0_freeAllOf 18 = .ok (.aload_n 0, 1)) rfl
theorem o9_19 : Okp RX0 cX0_freeAllOf 3 none "freeAllOf" false 19 (sGR 1 1 22) := ok_getR (by decide +kernel : decode cX0_freeAllOf 19 = .ok (.getfield 15, 3)) fw_X0_15 rfl
theorem o9_22 : Okp RX0 cX0_freeAllOf 3 none "freeAllOf" false 22 (sLI 2 23) := ok_iload_n (by decide +kernel : decode cX0_freeAllOf 22 = .ok (.iload_n 2, 1)) rfl
theorem o9_23 : Okp RX0 cX0_freeAllOf 3 none "freeAllOf" false 23 (sIA 24) := ok_iaload (by decide +kernel : decode cX0_freeAllOf 23 = .ok (.iaload, 1))
theorem o9_24 : Okp RX0 cX0_freeAllOf 3 none "freeAllOf" false 24 (sLI 1 25) := ok_iload_n (by decide +kernel : decode cX0_freeAllOf 24 = .ok (.iload_n 1, 1)) rfl
theorem o9_25 : Okp RX0 cX0_freeAllOf 3 none "freeAllOf" false 25 (sI2 1 33 28) := ok_icmp_ne (by decide +kernel : decode cX0_freeAllOf 25 = .ok (.if_icmp .ne 8, 3)) (by decide)
theorem o9_28 : Okp RX0 cX0_freeAllOf 3 none "freeAllOf" false 28 (sLR 0 29) := ok_aload_n (by decide +kernel : decode cX0_freeAllOf 28 = .ok (.aload_n 0, 1)) rfl
theorem o9_29 : Okp RX0 cX0_freeAllOf 3 none "freeAllOf" false 29 (sLI 2 30) := ok_iload_n (by decide +kernel : decode cX0_freeAllOf 29 = .ok (.iload_n 2, 1)) rfl
theorem o9_30 : Okp RX0 cX0_freeAllOf 3 none "freeAllOf" false 30 (sCV false 8 2 1 33) := ok_cv (by decide +kernel : decode cX0_freeAllOf 30 = .ok (.invokevirtual 32, 3)) mw_X0_32 rfl (by decide) wm_X0_free wse_X0_free (by decide) rfl
theorem o9_33 : Okp RX0 cX0_freeAllOf 3 none "freeAllOf" false 33 (sInc 2 1 36) := ok_iinc (by decide +kernel : decode cX0_freeAllOf 33 = .ok (.iinc 2 1, 3)) (by decide) (by decide)
theorem o9_36 : Okp RX0 cX0_freeAllOf 3 none "freeAllOf" false 36 (sGo 2) := ok_goto (by decide +kernel : decode cX0_freeAllOf 36 = .ok (.goto (-34), 3)) (by decide)
theorem o9_39 : Okp RX0 cX0_freeAllOf 3 none "freeAllOf" false 39 sRV := ok_vret rfl (by decide +kernel : decode cX0_freeAllOf 39 = .ok (.return_, 1))
theorem oc9_0 : ∀ pc, Mnp (c9_0 pc) ∧ Okp RX0 cX0_freeAllOf 3 none "freeAllOf" false pc (c9_0 pc) := by
  intro pc
  unfold c9_0
  split
  · exact ⟨mn_sK, o9_0⟩
  · exact ⟨mn_sSI, o9_1⟩
  · exact ⟨mn_sLI, o9_2⟩
  · exact ⟨mn_sK, o9_3⟩
  · exact ⟨mn_sI2, o9_6⟩
  · exact ⟨mn_sLR, o9_9⟩
  · exact ⟨mn_sGR, o9_10⟩
  · exact ⟨mn_sLI, o9_13⟩
  · exact ⟨mn_sIA, o9_14⟩
  · exact ⟨mn_sI1, o9_15⟩
  · exact ⟨mn_sLR, o9_18⟩
  · exact ⟨mn_sGR, o9_19⟩
  · exact ⟨mn_sLI, o9_22⟩
  · exact ⟨mn_sIA, o9_23⟩
  · exact ⟨mn_sX, ok_X⟩
theorem oc9_1 : ∀ pc, Mnp (c9_1 pc) ∧ Okp RX0 cX0_freeAllOf 3 none "freeAllOf" false pc (c9_1 pc) := by
  intro pc
  unfold c9_1
  split
  · exact ⟨mn_sLI, o9_24⟩
  · exact ⟨mn_sI2, o9_25⟩
  · exact ⟨mn_sLR, o9_28⟩
  · exact ⟨mn_sLI, o9_29⟩
  · exact ⟨mn_sCV, o9_30⟩
  · exact ⟨mn_sInc, o9_33⟩
  · exact ⟨mn_sGo, o9_36⟩
  · exact ⟨mn_sRV, o9_39⟩
  · exact ⟨mn_sX, ok_X⟩
theorem oc9 : ∀ pc, Mnp (c9 pc) ∧ Okp RX0 cX0_freeAllOf 3 none "freeAllOf" false pc (c9 pc) := by
  intro pc
  unfold c9
  split
  · exact oc9_0 pc
  · exact oc9_1 pc
  · exact ⟨mn_sX, ok_X⟩
theorem o10_0 : Okp RX1 cX1_init 1 none "<init>" false 0 (sLR 0 1) := ok_aload_n (by decide +kernel : decode cX1_init 0 = .ok (.aload_n 0, 1)) rfl
theorem o10_1 : Okp RX1 cX1_init 1 none "<init>" false 1 (sCt 4) := ok_oinit (by decide +kernel : decode cX1_init 1 = .ok (.invokespecial 3, 3)) wq_X1_3 wq_i wq_c
theorem o10_4 : Okp RX1 cX1_init 1 none "<init>" false 4 (sLR 0 5) := ok_aload_n (by decide +kernel : decode cX1_init 4 = .ok (.aload_n 0, 1)) rfl
theorem o10_5 : Okp RX1 cX1_init 1 none "<init>" false 5 (sK 0 6) := ok_iconst (by decide +kernel : decode cX1_init 5 = .ok (.iconst 0, 1)) (by decide)
theorem o10_6 : Okp RX1 cX1_init 1 none "<init>" false 6 (sNA 15 8) := ok_newI (by decide +kernel : decode cX1_init 6 = .ok (.newarray .int, 2)) wa_int
theorem o10_8 : Okp RX1 cX1_init 1 none "<init>" false 8 (sPR 2 0 11) := ok_putR (by decide +kernel : decode cX1_init 8 = .ok (.putfield 9, 3)) fw_X1_9 ⟨⟨tyX1_ok, nmX1⟩, Or.inl rfl, rfl⟩ (Or.inr ⟨_, rfl⟩) rfl
theorem o10_11 : Okp RX1 cX1_init 1 none "<init>" false 11 (sLR 0 12) := ok_aload_n (by decide +kernel : decode cX1_init 11 = .ok (.aload_n 0, 1)) rfl
theorem o10_12 : Okp RX1 cX1_init 1 none "<init>" false 12 (sK 0 13) := ok_iconst (by decide +kernel : decode cX1_init 12 = .ok (.iconst 0, 1)) (by decide)
theorem o10_13 : Okp RX1 cX1_init 1 none "<init>" false 13 (sPI 2 1 16) := ok_putI (by decide +kernel : decode cX1_init 13 = .ok (.putfield 15, 3)) fw_X1_15 ⟨⟨tyX1_ok, nmX1⟩, Or.inl rfl, rfl⟩ rfl
theorem o10_16 : Okp RX1 cX1_init 1 none "<init>" false 16 (sLR 0 17) := ok_aload_n (by decide +kernel : decode cX1_init 16 = .ok (.aload_n 0, 1)) rfl
theorem o10_17 : Okp RX1 cX1_init 1 none "<init>" false 17 (sK 0 18) := ok_iconst (by decide +kernel : decode cX1_init 17 = .ok (.iconst 0, 1)) (by decide)
theorem o10_18 : Okp RX1 cX1_init 1 none "<init>" false 18 (sPI 2 2 21) := ok_putI (by decide +kernel : decode cX1_init 18 = .ok (.putfield 19, 3)) fw_X1_19 ⟨⟨tyX1_ok, nmX1⟩, Or.inl rfl, rfl⟩ rfl
theorem o10_21 : Okp RX1 cX1_init 1 none "<init>" false 21 (sLR 0 22) := ok_aload_n (by decide +kernel : decode cX1_init 21 = .ok (.aload_n 0, 1)) rfl
theorem o10_22 : Okp RX1 cX1_init 1 none "<init>" false 22 (sK 0 23) := ok_iconst (by decide +kernel : decode cX1_init 22 = .ok (.iconst 0, 1)) (by decide)
theorem o10_23 : Okp RX1 cX1_init 1 none "<init>" false 23 (sPI 2 3 26) := ok_putI (by decide +kernel : decode cX1_init 23 = .ok (.putfield 22, 3)) fw_X1_22 ⟨⟨tyX1_ok, nmX1⟩, Or.inl rfl, rfl⟩ rfl
theorem o10_26 : Okp RX1 cX1_init 1 none "<init>" false 26 (sLR 0 27) := ok_aload_n (by decide +kernel : decode cX1_init 26 = .ok (.aload_n 0, 1)) rfl
theorem o10_27 : Okp RX1 cX1_init 1 none "<init>" false 27 (sK 0 28) := ok_iconst (by decide +kernel : decode cX1_init 27 = .ok (.iconst 0, 1)) (by decide)
theorem o10_28 : Okp RX1 cX1_init 1 none "<init>" false 28 (sPI 2 4 31) := ok_putI (by decide +kernel : decode cX1_init 28 = .ok (.putfield 25, 3)) fw_X1_25 ⟨⟨tyX1_ok, nmX1⟩, Or.inl rfl, rfl⟩ rfl
theorem o10_31 : Okp RX1 cX1_init 1 none "<init>" false 31 (sLR 0 32) := ok_aload_n (by decide +kernel : decode cX1_init 31 = .ok (.aload_n 0, 1)) rfl
theorem o10_32 : Okp RX1 cX1_init 1 none "<init>" false 32 (sK (-1) 33) := ok_iconst (by decide +kernel : decode cX1_init 32 = .ok (.iconst (-1), 1)) (by decide)
theorem o10_33 : Okp RX1 cX1_init 1 none "<init>" false 33 (sPI 2 5 36) := ok_putI (by decide +kernel : decode cX1_init 33 = .ok (.putfield 28, 3)) fw_X1_28 ⟨⟨tyX1_ok, nmX1⟩, Or.inl rfl, rfl⟩ rfl
theorem o10_36 : Okp RX1 cX1_init 1 none "<init>" false 36 sRV := ok_vret rfl (by decide +kernel : decode cX1_init 36 = .ok (.return_, 1))
theorem oc10_0 : ∀ pc, Mnp (c10_0 pc) ∧ Okp RX1 cX1_init 1 none "<init>" false pc (c10_0 pc) := by
  intro pc
  unfold c10_0
  split
  · exact ⟨mn_sLR, o10_0⟩
  · exact ⟨mn_sCt, o10_1⟩
  · exact ⟨mn_sLR, o10_4⟩
  · exact ⟨mn_sK, o10_5⟩
  · exact ⟨mn_sNA, o10_6⟩
  · exact ⟨mn_sPR, o10_8⟩
  · exact ⟨mn_sLR, o10_11⟩
  · exact ⟨mn_sK, o10_12⟩
  · exact ⟨mn_sPI, o10_13⟩
  · exact ⟨mn_sLR, o10_16⟩
  · exact ⟨mn_sK, o10_17⟩
  · exact ⟨mn_sPI, o10_18⟩
  · exact ⟨mn_sLR, o10_21⟩
  · exact ⟨mn_sK, o10_22⟩
  · exact ⟨mn_sPI, o10_23⟩
  · exact ⟨mn_sX, ok_X⟩
theorem oc10_1 : ∀ pc, Mnp (c10_1 pc) ∧ Okp RX1 cX1_init 1 none "<init>" false pc (c10_1 pc) := by
  intro pc
  unfold c10_1
  split
  · exact ⟨mn_sLR, o10_26⟩
  · exact ⟨mn_sK, o10_27⟩
  · exact ⟨mn_sPI, o10_28⟩
  · exact ⟨mn_sLR, o10_31⟩
  · exact ⟨mn_sK, o10_32⟩
  · exact ⟨mn_sPI, o10_33⟩
  · exact ⟨mn_sRV, o10_36⟩
  · exact ⟨mn_sX, ok_X⟩
theorem oc10 : ∀ pc, Mnp (c10 pc) ∧ Okp RX1 cX1_init 1 none "<init>" false pc (c10 pc) := by
  intro pc
  unfold c10
  split
  · exact oc10_0 pc
  · exact oc10_1 pc
  · exact ⟨mn_sX, ok_X⟩
theorem o11_0 : Okp RX1 cX1_startOver 3 none "startOver" false 0 (sLR 0 1) := ok_aload_n (by decide +kernel : decode cX1_startOver 0 = .ok (.aload_n 0, 1)) rfl
theorem o11_1 : Okp RX1 cX1_startOver 3 none "startOver" false 1 (sLR 1 2) := ok_aload_n (by decide +kernel : decode cX1_startOver 1 = .ok (.aload_n 1, 1)) rfl
theorem o11_2 : Okp RX1 cX1_startOver 3 none "startOver" false 2 (sPR 2 0 5) := ok_putR (by decide +kernel : decode cX1_startOver 2 = .ok (.putfield 9, 3)) fw_X1_9 ⟨⟨tyX1_ok, nmX1⟩, Or.inl rfl, rfl⟩ (Or.inr ⟨_, rfl⟩) rfl
theorem o11_5 : Okp RX1 cX1_startOver 3 none "startOver" false 5 (sLR 0 6) := ok_aload_n (by decide +kernel : decode cX1_startOver 5 = .ok (.aload_n 0, 1)) rfl
theorem o11_6 : Okp RX1 cX1_startOver 3 none "startOver" false 6 (sK 0 7) := ok_iconst (by decide +kernel : decode cX1_startOver 6 = .ok (.iconst 0, 1)) (by decide)
theorem o11_7 : Okp RX1 cX1_startOver 3 none "startOver" false 7 (sLI 2 8) := ok_iload_n (by decide +kernel : decode cX1_startOver 7 = .ok (.iload_n 2, 1)) rfl
theorem o11_8 : Okp RX1 cX1_startOver 3 none "startOver" false 8 (sLR 1 9) := ok_aload_n (by decide +kernel : decode cX1_startOver 8 = .ok (.aload_n 1, 1)) rfl
theorem o11_9 : Okp RX1 cX1_startOver 3 none "startOver" false 9 (sLen 10) := ok_alen (by decide +kernel : decode cX1_startOver 9 = .ok (.arraylength, 1))
theorem o11_10 : Okp RX1 cX1_startOver 3 none "startOver" false 10 (sM2 fMin 13) := ok_min (by decide +kernel : decode cX1_startOver 10 = .ok (.invokestatic 31, 3)) wq_X1_31 wq_smin wq_im wq_cmin
theorem o11_13 : Okp RX1 cX1_startOver 3 none "startOver" false 13 (sM2 fMax 16) := ok_max (by decide +kernel : decode cX1_startOver 13 = .ok (.invokestatic 37, 3)) wq_X1_37 wq_smax wq_im wq_cmax
theorem o11_16 : Okp RX1 cX1_startOver 3 none "startOver" false 16 (sPI 2 1 19) := ok_putI (by decide +kernel : decode cX1_startOver 16 = .ok (.putfield 15, 3)) fw_X1_15 ⟨⟨tyX1_ok, nmX1⟩, Or.inl rfl, rfl⟩ rfl
theorem o11_19 : Okp RX1 cX1_startOver 3 none "startOver" false 19 (sLR 0 20) := ok_aload_n (by decide +kernel : decode cX1_startOver 19 = .ok (.aload_n 0, 1)) rfl
theorem o11_20 : Okp RX1 cX1_startOver 3 none "startOver" false 20 (sLR 0 21) := ok_aload_n (by decide +kernel : decode cX1_startOver 20 = .ok (.aload_n 0, 1)) rfl
theorem o11_21 : Okp RX1 cX1_startOver 3 none "startOver" false 21 (sGI 2 1 24) := ok_getI (by decide +kernel : decode cX1_startOver 21 = .ok (.getfield 15, 3)) fw_X1_15 rfl
theorem o11_24 : Okp RX1 cX1_startOver 3 none "startOver" false 24 (sPI 2 2 27) := ok_putI (by decide +kernel : decode cX1_startOver 24 = .ok (.putfield 19, 3)) fw_X1_19 ⟨⟨tyX1_ok, nmX1⟩, Or.inl rfl, rfl⟩ rfl
theorem o11_27 : Okp RX1 cX1_startOver 3 none "startOver" false 27 (sLR 0 28) := ok_aload_n (by decide +kernel : decode cX1_startOver 27 = .ok (.aload_n 0, 1)) rfl
theorem o11_28 : Okp RX1 cX1_startOver 3 none "startOver" false 28 (sK 0 29) := ok_iconst (by decide +kernel : decode cX1_startOver 28 = .ok (.iconst 0, 1)) (by decide)
theorem o11_29 : Okp RX1 cX1_startOver 3 none "startOver" false 29 (sPI 2 3 32) := ok_putI (by decide +kernel : decode cX1_startOver 29 = .ok (.putfield 22, 3)) fw_X1_22 ⟨⟨tyX1_ok, nmX1⟩, Or.inl rfl, rfl⟩ rfl
theorem o11_32 : Okp RX1 cX1_startOver 3 none "startOver" false 32 (sLR 0 33) := ok_aload_n (by decide +kernel : decode cX1_startOver 32 = .ok (.aload_n 0, 1)) rfl
theorem o11_33 : Okp RX1 cX1_startOver 3 none "startOver" false 33 (sK 0 34) := ok_iconst (by decide +kernel : decode cX1_startOver 33 = .ok (.iconst 0, 1)) (by decide)
theorem o11_34 : Okp RX1 cX1_startOver 3 none "startOver" false 34 (sPI 2 4 37) := ok_putI (by decide +kernel : decode cX1_startOver 34 = .ok (.putfield 25, 3)) fw_X1_25 ⟨⟨tyX1_ok, nmX1⟩, Or.inl rfl, rfl⟩ rfl
theorem o11_37 : Okp RX1 cX1_startOver 3 none "startOver" false 37 (sLR 0 38) := ok_aload_n (by decide +kernel : decode cX1_startOver 37 = .ok (.aload_n 0, 1)) rfl
theorem o11_38 : Okp RX1 cX1_startOver 3 none "startOver" false 38 (sK (-1) 39) := ok_iconst (by decide +kernel : decode cX1_startOver 38 = .ok (.iconst (-1), 1)) (by decide)
theorem o11_39 : Okp RX1 cX1_startOver 3 none "startOver" false 39 (sPI 2 5 42) := ok_putI (by decide +kernel : decode cX1_startOver 39 = .ok (.putfield 28, 3)) fw_X1_28 ⟨⟨tyX1_ok, nmX1⟩, Or.inl rfl, rfl⟩ rfl
theorem o11_42 : Okp RX1 cX1_startOver 3 none "startOver" false 42 sRV := ok_vret rfl (by decide +kernel : decode cX1_startOver 42 = .ok (.return_, 1))
theorem oc11_0 : ∀ pc, Mnp (c11_0 pc) ∧ Okp RX1 cX1_startOver 3 none "startOver" false pc (c11_0 pc) := by
  intro pc
  unfold c11_0
  split
  · exact ⟨mn_sLR, o11_0⟩
  · exact ⟨mn_sLR, o11_1⟩
  · exact ⟨mn_sPR, o11_2⟩
  · exact ⟨mn_sLR, o11_5⟩
  · exact ⟨mn_sK, o11_6⟩
  · exact ⟨mn_sLI, o11_7⟩
  · exact ⟨mn_sLR, o11_8⟩
  · exact ⟨mn_sLen, o11_9⟩
  · exact ⟨mn_sM2, o11_10⟩
  · exact ⟨mn_sM2, o11_13⟩
  · exact ⟨mn_sPI, o11_16⟩
  · exact ⟨mn_sLR, o11_19⟩
  · exact ⟨mn_sLR, o11_20⟩
  · exact ⟨mn_sGI, o11_21⟩
  · exact ⟨mn_sX, ok_X⟩
theorem oc11_1 : ∀ pc, Mnp (c11_1 pc) ∧ Okp RX1 cX1_startOver 3 none "startOver" false pc (c11_1 pc) := by
  intro pc
  unfold c11_1
  split
  · exact ⟨mn_sPI, o11_24⟩
  · exact ⟨mn_sLR, o11_27⟩
  · exact ⟨mn_sK, o11_28⟩
  · exact ⟨mn_sPI, o11_29⟩
  · exact ⟨mn_sLR, o11_32⟩
  · exact ⟨mn_sK, o11_33⟩
  · exact ⟨mn_sPI, o11_34⟩
  · exact ⟨mn_sLR, o11_37⟩
  · exact ⟨mn_sK, o11_38⟩
  · exact ⟨mn_sPI, o11_39⟩
  · exact ⟨mn_sRV, o11_42⟩
  · exact ⟨mn_sX, ok_X⟩
theorem oc11 : ∀ pc, Mnp (c11 pc) ∧ Okp RX1 cX1_startOver 3 none "startOver" false pc (c11 pc) := by
  intro pc
  unfold c11
  split
  · exact oc11_0 pc
  · exact oc11_1 pc
  · exact ⟨mn_sX, ok_X⟩
theorem o12_0 : Okp RX1 cX1_isRight 1 (some .boolean) "isRight" false 0 (sLR 0 1) := ok_aload_n (by decide +kernel : decode cX1_isRight 0 = .ok (.aload_n 0, 1)) rfl
theorem o12_1 : Okp RX1 cX1_isRight 1 (some .boolean) "isRight" false 1 (sGI 2 4 4) := ok_getI (by decide +kernel : decode cX1_isRight 1 = .ok (.getfield 25, 3)) fw_X1_25 rfl
theorem o12_4 : Okp RX1 cX1_isRight 1 (some .boolean) "isRight" false 4 (sI1 1 11 7) := ok_if_ne (by decide +kernel : decode cX1_isRight 4 = .ok (.ifCond .ne 7, 3)) (by decide)
theorem o12_7 : Okp RX1 cX1_isRight 1 (some .boolean) "isRight" false 7 (sK 1 8) := ok_iconst (by decide +kernel : decode cX1_isRight 7 = .ok (.iconst 1, 1)) (by decide)
theorem o12_8 : Okp RX1 cX1_isRight 1 (some .boolean) "isRight" false 8 (sGo 12) := ok_goto (by decide +kernel : decode cX1_isRight 8 = .ok (.goto 4, 3)) (by decide)
theorem o12_11 : Okp RX1 cX1_isRight 1 (some .boolean) "isRight" false 11 (sK 0 12) := ok_iconst (by decide +kernel : decode cX1_isRight 11 = .ok (.iconst 0, 1)) (by decide)
theorem o12_12 : Okp RX1 cX1_isRight 1 (some .boolean) "isRight" false 12 sRZ := ok_zret rfl (by decide +kernel : decode cX1_isRight 12 = .ok (.ireturn, 1))
theorem oc12 : ∀ pc, Mnp (c12 pc) ∧ Okp RX1 cX1_isRight 1 (some .boolean) "isRight" false pc (c12 pc) := by
  intro pc
  unfold c12
  split
  · exact ⟨mn_sLR, o12_0⟩
  · exact ⟨mn_sGI, o12_1⟩
  · exact ⟨mn_sI1, o12_4⟩
  · exact ⟨mn_sK, o12_7⟩
  · exact ⟨mn_sGo, o12_8⟩
  · exact ⟨mn_sK, o12_11⟩
  · exact ⟨mn_sRZ, o12_12⟩
  · exact ⟨mn_sX, ok_X⟩
theorem o13_0 : Okp RX1 cX1_fail 3 none "fail" false 0 (sLR 0 1) := ok_aload_n (by decide +kernel : decode cX1_fail 0 = .ok (.aload_n 0, 1)) rfl
theorem o13_1 : Okp RX1 cX1_fail 3 none "fail" false 1 (sGI 2 4 4) := ok_getI (by decide +kernel : decode cX1_fail 1 = .ok (.getfield 25, 3)) fw_X1_25 rfl
theorem o13_4 : Okp RX1 cX1_fail 3 none "fail" false 4 (sI1 1 17 7) := ok_if_ne (by decide +kernel : decode cX1_fail 4 = .ok (.ifCond .ne 13, 3)) (by decide)
theorem o13_7 : Okp RX1 cX1_fail 3 none "fail" false 7 (sLR 0 8) := ok_aload_n (by decide +kernel : decode cX1_fail 7 = .ok (.aload_n 0, 1)) rfl
theorem o13_8 : Okp RX1 cX1_fail 3 none "fail" false 8 (sLI 1 9) := ok_iload_n (by decide +kernel : decode cX1_fail 8 = .ok (.iload_n 1, 1)) rfl
theorem o13_9 : Okp RX1 cX1_fail 3 none "fail" false 9 (sPI 2 4 12) := ok_putI (by decide +kernel : decode cX1_fail 9 = .ok (.putfield 25, 3)) fw_X1_25 ⟨⟨tyX1_ok, nmX1⟩, Or.inl rfl, rfl⟩ rfl
theorem o13_12 : Okp RX1 cX1_fail 3 none "fail" false 12 (sLR 0 13) := ok_aload_n (by decide +kernel : decode cX1_fail 12 = .ok (.aload_n 0, 1)) rfl
theorem o13_13 : Okp RX1 cX1_fail 3 none "fail" false 13 (sLI 2 14) := ok_iload_n (by decide +kernel : decode cX1_fail 13 = .ok (.iload_n 2, 1)) rfl
theorem o13_14 : Okp RX1 cX1_fail 3 none "fail" false 14 (sPI 2 5 17) := ok_putI (by decide +kernel : decode cX1_fail 14 = .ok (.putfield 28, 3)) fw_X1_28 ⟨⟨tyX1_ok, nmX1⟩, Or.inl rfl, rfl⟩ rfl
theorem o13_17 : Okp RX1 cX1_fail 3 none "fail" false 17 sRV := ok_vret rfl (by decide +kernel : decode cX1_fail 17 = .ok (.return_, 1))
theorem oc13 : ∀ pc, Mnp (c13 pc) ∧ Okp RX1 cX1_fail 3 none "fail" false pc (c13 pc) := by
  intro pc
  unfold c13
  split
  · exact ⟨mn_sLR, o13_0⟩
  · exact ⟨mn_sGI, o13_1⟩
  · exact ⟨mn_sI1, o13_4⟩
  · exact ⟨mn_sLR, o13_7⟩
  · exact ⟨mn_sLI, o13_8⟩
  · exact ⟨mn_sPI, o13_9⟩
  · exact ⟨mn_sLR, o13_12⟩
  · exact ⟨mn_sLI, o13_13⟩
  · exact ⟨mn_sPI, o13_14⟩
  · exact ⟨mn_sRV, o13_17⟩
  · exact ⟨mn_sX, ok_X⟩
theorem o14_0 : Okp RX1 cX1_peek 1 (some .int) "peek" false 0 (sLR 0 1) := ok_aload_n (by decide +kernel : decode cX1_peek 0 = .ok (.aload_n 0, 1)) rfl
theorem o14_1 : Okp RX1 cX1_peek 1 (some .int) "peek" false 1 (sGI 2 3 4) := ok_getI (by decide +kernel : decode cX1_peek 1 = .ok (.getfield 22, 3)) fw_X1_22 rfl
theorem o14_4 : Okp RX1 cX1_peek 1 (some .int) "peek" false 4 (sLR 0 5) := ok_aload_n (by decide +kernel : decode cX1_peek 4 = .ok (.aload_n 0, 1)) rfl
theorem o14_5 : Okp RX1 cX1_peek 1 (some .int) "peek" false 5 (sGI 2 2 8) := ok_getI (by decide +kernel : decode cX1_peek 5 = .ok (.getfield 19, 3)) fw_X1_19 rfl
theorem o14_8 : Okp RX1 cX1_peek 1 (some .int) "peek" false 8 (sLR 0 9) := ok_aload_n (by decide +kernel : decode cX1_peek 8 = .ok (.aload_n 0, 1)) rfl
theorem o14_9 : Okp RX1 cX1_peek 1 (some .int) "peek" false 9 (sGI 2 1 12) := ok_getI (by decide +kernel : decode cX1_peek 9 = .ok (.getfield 15, 3)) fw_X1_15 rfl
theorem o14_12 : Okp RX1 cX1_peek 1 (some .int) "peek" false 12 (sM2 fMin 15) := ok_min (by decide +kernel : decode cX1_peek 12 = .ok (.invokestatic 31, 3)) wq_X1_31 wq_smin wq_im wq_cmin
theorem o14_15 : Okp RX1 cX1_peek 1 (some .int) "peek" false 15 (sI2 3 30 18) := ok_icmp_ge (by decide +kernel : decode cX1_peek 15 = .ok (.if_icmp .ge 15, 3)) (by decide)
theorem o14_18 : Okp RX1 cX1_peek 1 (some .int) "peek" false 18 (sLR 0 19) := ok_aload_n (by decide +kernel : decode cX1_peek 18 = .ok (.aload_n 0, 1)) rfl
theorem o14_19 : Okp RX1 cX1_peek 1 (some .int) "peek" false 19 (sGR 2 0 22) := ok_getR (by decide +kernel : decode cX1_peek 19 = .ok (.getfield 9, 3)) fw_X1_9 rfl
theorem o14_22 : Okp RX1 cX1_peek 1 (some .int) "peek" false 22 (sLR 0 23) := ok_aload_n (by decide +kernel : decode cX1_peek 22 = .ok (.aload_n 0, 1)) rfl
theorem o14_23 : Okp RX1 cX1_peek 1 (some .int) "peek" false 23 (sGI 2 3 26) := ok_getI (by decide +kernel : decode cX1_peek 23 = .ok (.getfield 22, 3)) fw_X1_22 rfl
theorem o14_26 : Okp RX1 cX1_peek 1 (some .int) "peek" false 26 (sIA 27) := ok_iaload (by decide +kernel : decode cX1_peek 26 = .ok (.iaload, 1))
theorem o14_27 : Okp RX1 cX1_peek 1 (some .int) "peek" false 27 (sGo 31) := ok_goto (by decide +kernel : decode cX1_peek 27 = .ok (.goto 4, 3)) (by decide)
theorem o14_30 : Okp RX1 cX1_peek 1 (some .int) "peek" false 30 (sK (-1) 31) := ok_iconst (by decide +kernel : decode cX1_peek 30 = .ok (.iconst (-1), 1)) (by decide)
theorem o14_31 : Okp RX1 cX1_peek 1 (some .int) "peek" false 31 sRI := ok_iret rfl (by decide +kernel : decode cX1_peek 31 = .ok (.ireturn, 1))
theorem oc14_0 : ∀ pc, Mnp (c14_0 pc) ∧ Okp RX1 cX1_peek 1 (some .int) "peek" false pc (c14_0 pc) := by
  intro pc
  unfold c14_0
  split
  · exact ⟨mn_sLR, o14_0⟩
  · exact ⟨mn_sGI, o14_1⟩
  · exact ⟨mn_sLR, o14_4⟩
  · exact ⟨mn_sGI, o14_5⟩
  · exact ⟨mn_sLR, o14_8⟩
  · exact ⟨mn_sGI, o14_9⟩
  · exact ⟨mn_sM2, o14_12⟩
  · exact ⟨mn_sI2, o14_15⟩
  · exact ⟨mn_sLR, o14_18⟩
  · exact ⟨mn_sGR, o14_19⟩
  · exact ⟨mn_sLR, o14_22⟩
  · exact ⟨mn_sGI, o14_23⟩
  · exact ⟨mn_sX, ok_X⟩
theorem oc14_1 : ∀ pc, Mnp (c14_1 pc) ∧ Okp RX1 cX1_peek 1 (some .int) "peek" false pc (c14_1 pc) := by
  intro pc
  unfold c14_1
  split
  · exact ⟨mn_sIA, o14_26⟩
  · exact ⟨mn_sGo, o14_27⟩
  · exact ⟨mn_sK, o14_30⟩
  · exact ⟨mn_sRI, o14_31⟩
  · exact ⟨mn_sX, ok_X⟩
theorem oc14 : ∀ pc, Mnp (c14 pc) ∧ Okp RX1 cX1_peek 1 (some .int) "peek" false pc (c14 pc) := by
  intro pc
  unfold c14
  split
  · exact oc14_0 pc
  · exact oc14_1 pc
  · exact ⟨mn_sX, ok_X⟩
theorem o15_0 : Okp RX1 cX1_take 2 (some .int) "take" false 0 (sLR 0 1) := ok_aload_n (by decide +kernel : decode cX1_take 0 = .ok (.aload_n 0, 1)) rfl
theorem o15_1 : Okp RX1 cX1_take 2 (some .int) "take" false 1 (sGI 2 4 4) := ok_getI (by decide +kernel : decode cX1_take 1 = .ok (.getfield 25, 3)) fw_X1_25 rfl
theorem o15_4 : Okp RX1 cX1_take 2 (some .int) "take" false 4 (sI1 0 9 7) := ok_if_eq (by decide +kernel : decode cX1_take 4 = .ok (.ifCond .eq 5, 3)) (by decide)
theorem o15_7 : Okp RX1 cX1_take 2 (some .int) "take" false 7 (sK 0 8) := ok_iconst (by decide +kernel : decode cX1_take 7 = .ok (.iconst 0, 1)) (by decide)
theorem o15_8 : Okp RX1 cX1_take 2 (some .int) "take" false 8 sRI := ok_iret rfl (by decide +kernel : decode cX1_take 8 = .ok (.ireturn, 1))
theorem o15_9 : Okp RX1 cX1_take 2 (some .int) "take" false 9 (sLR 0 10) := ok_aload_n (by decide +kernel : decode cX1_take 9 = .ok (.aload_n 0, 1)) rfl
theorem o15_10 : Okp RX1 cX1_take 2 (some .int) "take" false 10 (sCV false 14 1 2 13) := ok_cv (by decide +kernel : decode cX1_take 10 = .ok (.invokevirtual 40, 3)) mw_X1_40 rfl (by decide) wm_X1_peek wse_X1_peek (by decide) rfl
theorem o15_13 : Okp RX1 cX1_take 2 (some .int) "take" false 13 (sSI 1 14) := ok_istore_n (by decide +kernel : decode cX1_take 13 = .ok (.istore_n 1, 1)) rfl (by decide) (by decide)
theorem o15_14 : Okp RX1 cX1_take 2 (some .int) "take" false 14 (sLI 1 15) := ok_iload_n (by decide +kernel : decode cX1_take 14 = .ok (.iload_n 1, 1)) rfl
theorem o15_15 : Okp RX1 cX1_take 2 (some .int) "take" false 15 (sK (-1) 16) := ok_iconst (by decide +kernel : decode cX1_take 15 = .ok (.iconst (-1), 1)) (by decide)
theorem o15_16 : Okp RX1 cX1_take 2 (some .int) "take" false 16 (sI2 1 30 19) := ok_icmp_ne (by decide +kernel : decode cX1_take 16 = .ok (.if_icmp .ne 14, 3)) (by decide)
theorem o15_19 : Okp RX1 cX1_take 2 (some .int) "take" false 19 (sLR 0 20) := ok_aload_n (by decide +kernel : decode cX1_take 19 = .ok (.aload_n 0, 1)) rfl
theorem o15_20 : Okp RX1 cX1_take 2 (some .int) "take" false 20 (sK 1 21) := ok_iconst (by decide +kernel : decode cX1_take 20 = .ok (.iconst 1, 1)) (by decide)
theorem o15_21 : Okp RX1 cX1_take 2 (some .int) "take" false 21 (sLR 0 22) := ok_aload_n (by decide +kernel : decode cX1_take 21 = .ok (.aload_n 0, 1)) rfl
theorem o15_22 : Okp RX1 cX1_take 2 (some .int) "take" false 22 (sGI 2 3 25) := ok_getI (by decide +kernel : decode cX1_take 22 = .ok (.getfield 22, 3)) fw_X1_22 rfl
theorem o15_25 : Okp RX1 cX1_take 2 (some .int) "take" false 25 (sCV false 13 3 2 28) := ok_cv (by decide +kernel : decode cX1_take 25 = .ok (.invokevirtual 44, 3)) mw_X1_44 rfl (by decide) wm_X1_fail wse_X1_fail (by decide) rfl
theorem o15_28 : Okp RX1 cX1_take 2 (some .int) "take" false 28 (sK 0 29) := ok_iconst (by decide +kernel : decode cX1_take 28 = .ok (.iconst 0, 1)) (by decide)
theorem o15_29 : Okp RX1 cX1_take 2 (some .int) "take" false 29 sRI := ok_iret rfl (by decide +kernel : decode cX1_take 29 = .ok (.ireturn, 1))
theorem o15_30 : Okp RX1 cX1_take 2 (some .int) "take" false 30 (sLR 0 31) := ok_aload_n (by decide +kernel : decode cX1_take 30 = .ok (.aload_n 0, 1)) rfl
theorem o15_31 : Okp RX1 cX1_take 2 (some .int) "take" false 31 (sDup 32) := ok_dup (by decide +kernel : decode cX1_take 31 = .ok (.dup, 1))
theorem o15_32 : Okp RX1 cX1_take 2 (some .int) "take" false 32 (sGI 2 3 35) := ok_getI (by decide +kernel : decode cX1_take 32 = .ok (.getfield 22, 3)) fw_X1_22 rfl
theorem o15_35 : Okp RX1 cX1_take 2 (some .int) "take" false 35 (sK 1 36) := ok_iconst (by decide +kernel : decode cX1_take 35 = .ok (.iconst 1, 1)) (by decide)
theorem o15_36 : Okp RX1 cX1_take 2 (some .int) "take" false 36 (sB2 fAdd 37) := ok_iadd (by decide +kernel : decode cX1_take 36 = .ok (.iadd, 1))
theorem o15_37 : Okp RX1 cX1_take 2 (some .int) "take" false 37 (sPI 2 3 40) := ok_putI (by decide +kernel : decode cX1_take 37 = .ok (.putfield 22, 3)) fw_X1_22 ⟨⟨tyX1_ok, nmX1⟩, Or.inl rfl, rfl⟩ rfl
theorem o15_40 : Okp RX1 cX1_take 2 (some .int) "take" false 40 (sLI 1 41) := ok_iload_n (by decide +kernel : decode cX1_take 40 = .ok (.iload_n 1, 1)) rfl
theorem o15_41 : Okp RX1 cX1_take 2 (some .int) "take" false 41 sRI := ok_iret rfl (by decide +kernel : decode cX1_take 41 = .ok (.ireturn, 1))
theorem oc15_0 : ∀ pc, Mnp (c15_0 pc) ∧ Okp RX1 cX1_take 2 (some .int) "take" false pc (c15_0 pc) := by
  intro pc
  unfold c15_0
  split
  · exact ⟨mn_sLR, o15_0⟩
  · exact ⟨mn_sGI, o15_1⟩
  · exact ⟨mn_sI1, o15_4⟩
  · exact ⟨mn_sK, o15_7⟩
  · exact ⟨mn_sRI, o15_8⟩
  · exact ⟨mn_sLR, o15_9⟩
  · exact ⟨mn_sCV, o15_10⟩
  · exact ⟨mn_sSI, o15_13⟩
  · exact ⟨mn_sLI, o15_14⟩
  · exact ⟨mn_sK, o15_15⟩
  · exact ⟨mn_sI2, o15_16⟩
  · exact ⟨mn_sLR, o15_19⟩
  · exact ⟨mn_sK, o15_20⟩
  · exact ⟨mn_sLR, o15_21⟩
  · exact ⟨mn_sGI, o15_22⟩
  · exact ⟨mn_sX, ok_X⟩
theorem oc15_1 : ∀ pc, Mnp (c15_1 pc) ∧ Okp RX1 cX1_take 2 (some .int) "take" false pc (c15_1 pc) := by
  intro pc
  unfold c15_1
  split
  · exact ⟨mn_sCV, o15_25⟩
  · exact ⟨mn_sK, o15_28⟩
  · exact ⟨mn_sRI, o15_29⟩
  · exact ⟨mn_sLR, o15_30⟩
  · exact ⟨mn_sDup, o15_31⟩
  · exact ⟨mn_sGI, o15_32⟩
  · exact ⟨mn_sK, o15_35⟩
  · exact ⟨mn_sB2, o15_36⟩
  · exact ⟨mn_sPI, o15_37⟩
  · exact ⟨mn_sLI, o15_40⟩
  · exact ⟨mn_sRI, o15_41⟩
  · exact ⟨mn_sX, ok_X⟩
theorem oc15 : ∀ pc, Mnp (c15 pc) ∧ Okp RX1 cX1_take 2 (some .int) "take" false pc (c15 pc) := by
  intro pc
  unfold c15
  split
  · exact oc15_0 pc
  · exact oc15_1 pc
  · exact ⟨mn_sX, ok_X⟩
theorem o16_0 : Okp RX1 cX1_takeWithin 5 (some .int) "takeWithin" false 0 (sLR 0 1) := ok_aload_n (by decide +kernel : decode cX1_takeWithin 0 = .ok (.aload_n 0, 1)) rfl
theorem o16_1 : Okp RX1 cX1_takeWithin 5 (some .int) "takeWithin" false 1 (sGI 2 3 4) := ok_getI (by decide +kernel : decode cX1_takeWithin 1 = .ok (.getfield 22, 3)) fw_X1_22 rfl
theorem o16_4 : Okp RX1 cX1_takeWithin 5 (some .int) "takeWithin" false 4 (sSI 3 5) := ok_istore_n (by decide +kernel : decode cX1_takeWithin 4 = .ok (.istore_n 3, 1)) rfl (by decide) (by decide)
theorem o16_5 : Okp RX1 cX1_takeWithin 5 (some .int) "takeWithin" false 5 (sLR 0 6) := ok_aload_n (by decide +kernel : decode cX1_takeWithin 5 = .ok (.aload_n 0, 1)) rfl
theorem o16_6 : Okp RX1 cX1_takeWithin 5 (some .int) "takeWithin" false 6 (sCV false 15 1 2 9) := ok_cv (by decide +kernel : decode cX1_takeWithin 6 = .ok (.invokevirtual 48, 3)) mw_X1_48 rfl (by decide) wm_X1_take wse_X1_take (by decide) rfl
theorem o16_9 : Okp RX1 cX1_takeWithin 5 (some .int) "takeWithin" false 9 (sSI 4 11) := ok_istore (by decide +kernel : decode cX1_takeWithin 9 = .ok (.istore 4, 2)) (by decide) (by decide)
theorem o16_11 : Okp RX1 cX1_takeWithin 5 (some .int) "takeWithin" false 11 (sLI 4 13) := ok_iload (by decide +kernel : decode cX1_takeWithin 11 = .ok (.iload 4, 2))
theorem o16_13 : Okp RX1 cX1_takeWithin 5 (some .int) "takeWithin" false 13 (sLI 1 14) := ok_iload_n (by decide +kernel : decode cX1_takeWithin 13 = .ok (.iload_n 1, 1)) rfl
theorem o16_14 : Okp RX1 cX1_takeWithin 5 (some .int) "takeWithin" false 14 (sI2 2 23 17) := ok_icmp_lt (by decide +kernel : decode cX1_takeWithin 14 = .ok (.if_icmp .lt 9, 3)) (by decide)
theorem o16_17 : Okp RX1 cX1_takeWithin 5 (some .int) "takeWithin" false 17 (sLI 4 19) := ok_iload (by decide +kernel : decode cX1_takeWithin 17 = .ok (.iload 4, 2))
theorem o16_19 : Okp RX1 cX1_takeWithin 5 (some .int) "takeWithin" false 19 (sLI 2 20) := ok_iload_n (by decide +kernel : decode cX1_takeWithin 19 = .ok (.iload_n 2, 1)) rfl
theorem o16_20 : Okp RX1 cX1_takeWithin 5 (some .int) "takeWithin" false 20 (sI2 5 31 23) := ok_icmp_le (by decide +kernel : decode cX1_takeWithin 20 = .ok (.if_icmp .le 11, 3)) (by decide)
theorem o16_23 : Okp RX1 cX1_takeWithin 5 (some .int) "takeWithin" false 23 (sLR 0 24) := ok_aload_n (by decide +kernel : decode cX1_takeWithin 23 = .ok (.aload_n 0, 1)) rfl
theorem o16_24 : Okp RX1 cX1_takeWithin 5 (some .int) "takeWithin" false 24 (sK 1 25) := ok_iconst (by decide +kernel : decode cX1_takeWithin 24 = .ok (.iconst 1, 1)) (by decide)
theorem o16_25 : Okp RX1 cX1_takeWithin 5 (some .int) "takeWithin" false 25 (sLI 3 26) := ok_iload_n (by decide +kernel : decode cX1_takeWithin 25 = .ok (.iload_n 3, 1)) rfl
theorem o16_26 : Okp RX1 cX1_takeWithin 5 (some .int) "takeWithin" false 26 (sCV false 13 3 2 29) := ok_cv (by decide +kernel : decode cX1_takeWithin 26 = .ok (.invokevirtual 44, 3)) mw_X1_44 rfl (by decide) wm_X1_fail wse_X1_fail (by decide) rfl
theorem o16_29 : Okp RX1 cX1_takeWithin 5 (some .int) "takeWithin" false 29 (sLI 1 30) := ok_iload_n (by decide +kernel : decode cX1_takeWithin 29 = .ok (.iload_n 1, 1)) rfl
theorem o16_30 : Okp RX1 cX1_takeWithin 5 (some .int) "takeWithin" false 30 sRI := ok_iret rfl (by decide +kernel : decode cX1_takeWithin 30 = .ok (.ireturn, 1))
theorem o16_31 : Okp RX1 cX1_takeWithin 5 (some .int) "takeWithin" false 31 (sLI 4 33) := ok_iload (by decide +kernel : decode cX1_takeWithin 31 = .ok (.iload 4, 2))
theorem o16_33 : Okp RX1 cX1_takeWithin 5 (some .int) "takeWithin" false 33 sRI := ok_iret rfl (by decide +kernel : decode cX1_takeWithin 33 = .ok (.ireturn, 1))
theorem oc16_0 : ∀ pc, Mnp (c16_0 pc) ∧ Okp RX1 cX1_takeWithin 5 (some .int) "takeWithin" false pc (c16_0 pc) := by
  intro pc
  unfold c16_0
  split
  · exact ⟨mn_sLR, o16_0⟩
  · exact ⟨mn_sGI, o16_1⟩
  · exact ⟨mn_sSI, o16_4⟩
  · exact ⟨mn_sLR, o16_5⟩
  · exact ⟨mn_sCV, o16_6⟩
  · exact ⟨mn_sSI, o16_9⟩
  · exact ⟨mn_sLI, o16_11⟩
  · exact ⟨mn_sLI, o16_13⟩
  · exact ⟨mn_sI2, o16_14⟩
  · exact ⟨mn_sLI, o16_17⟩
  · exact ⟨mn_sLI, o16_19⟩
  · exact ⟨mn_sI2, o16_20⟩
  · exact ⟨mn_sLR, o16_23⟩
  · exact ⟨mn_sX, ok_X⟩
theorem oc16_1 : ∀ pc, Mnp (c16_1 pc) ∧ Okp RX1 cX1_takeWithin 5 (some .int) "takeWithin" false pc (c16_1 pc) := by
  intro pc
  unfold c16_1
  split
  · exact ⟨mn_sK, o16_24⟩
  · exact ⟨mn_sLI, o16_25⟩
  · exact ⟨mn_sCV, o16_26⟩
  · exact ⟨mn_sLI, o16_29⟩
  · exact ⟨mn_sRI, o16_30⟩
  · exact ⟨mn_sLI, o16_31⟩
  · exact ⟨mn_sRI, o16_33⟩
  · exact ⟨mn_sX, ok_X⟩
theorem oc16 : ∀ pc, Mnp (c16 pc) ∧ Okp RX1 cX1_takeWithin 5 (some .int) "takeWithin" false pc (c16 pc) := by
  intro pc
  unfold c16
  split
  · exact oc16_0 pc
  · exact oc16_1 pc
  · exact ⟨mn_sX, ok_X⟩
theorem o17_0 : Okp RX1 cX1_takeWord 3 (some .int) "takeWord" false 0 (sK 0 1) := ok_iconst (by decide +kernel : decode cX1_takeWord 0 = .ok (.iconst 0, 1)) (by decide)
theorem o17_1 : Okp RX1 cX1_takeWord 3 (some .int) "takeWord" false 1 (sSI 1 2) := ok_istore_n (by decide +kernel : decode cX1_takeWord 1 = .ok (.istore_n 1, 1)) rfl (by decide) (by decide)
theorem o17_2 : Okp RX1 cX1_takeWord 3 (some .int) "takeWord" false 2 (sK 0 3) := ok_iconst (by decide +kernel : decode cX1_takeWord 2 = .ok (.iconst 0, 1)) (by decide)
theorem o17_3 : Okp RX1 cX1_takeWord 3 (some .int) "takeWord" false 3 (sSI 2 4) := ok_istore_n (by decide +kernel : decode cX1_takeWord 3 = .ok (.istore_n 2, 1)) rfl (by decide) (by decide)
theorem o17_4 : Okp RX1 cX1_takeWord 3 (some .int) "takeWord" false 4 (sLI 2 5) := ok_iload_n (by decide +kernel : decode cX1_takeWord 4 = .ok (.iload_n 2, 1)) rfl
theorem o17_5 : Okp RX1 cX1_takeWord 3 (some .int) "takeWord" false 5 (sK 4 6) := ok_iconst (by decide +kernel : decode cX1_takeWord 5 = .ok (.iconst 4, 1)) (by decide)
theorem o17_6 : Okp RX1 cX1_takeWord 3 (some .int) "takeWord" false 6 (sI2 3 25 9) := ok_icmp_ge (by decide +kernel : decode cX1_takeWord 6 = .ok (.if_icmp .ge 19, 3)) (by decide)
theorem o17_9 : Okp RX1 cX1_takeWord 3 (some .int) "takeWord" false 9 (sLI 1 10) := ok_iload_n (by decide +kernel : decode cX1_takeWord 9 = .ok (.iload_n 1, 1)) rfl
theorem o17_10 : Okp RX1 cX1_takeWord 3 (some .int) "takeWord" false 10 (sK 8 12) := ok_bipush (by decide +kernel : decode cX1_takeWord 10 = .ok (.bipush 8, 2)) (by decide)
theorem o17_12 : Okp RX1 cX1_takeWord 3 (some .int) "takeWord" false 12 (sB2 fShl 13) := ok_ishl (by decide +kernel : decode cX1_takeWord 12 = .ok (.ishl, 1))
theorem o17_13 : Okp RX1 cX1_takeWord 3 (some .int) "takeWord" false 13 (sLR 0 14) := ok_aload_n (by decide +kernel : decode cX1_takeWord 13 = .ok (.aload_n 0, 1)) rfl
theorem o17_14 : Okp RX1 cX1_takeWord 3 (some .int) "takeWord" false 14 (sCV false 15 1 2 17) := ok_cv (by decide +kernel : decode cX1_takeWord 14 = .ok (.invokevirtual 48, 3)) mw_X1_48 rfl (by decide) wm_X1_take wse_X1_take (by decide) rfl
theorem o17_17 : Okp RX1 cX1_takeWord 3 (some .int) "takeWord" false 17 (sB2 fOr 18) := ok_ior (by decide +kernel : decode cX1_takeWord 17 = .ok (.ior, 1))
theorem o17_18 : Okp RX1 cX1_takeWord 3 (some .int) "takeWord" false 18 (sSI 1 19) := ok_istore_n (by decide +kernel : decode cX1_takeWord 18 = .ok (.istore_n 1, 1)) rfl (by decide) (by decide)
theorem o17_19 : Okp RX1 cX1_takeWord 3 (some .int) "takeWord" false 19 (sInc 2 1 22) := ok_iinc (by decide +kernel : decode cX1_takeWord 19 = .ok (.iinc 2 1, 3)) (by decide) (by decide)
theorem o17_22 : Okp RX1 cX1_takeWord 3 (some .int) "takeWord" false 22 (sGo 4) := ok_goto (by decide +kernel : decode cX1_takeWord 22 = .ok (.goto (-18), 3)) (by decide)
theorem o17_25 : Okp RX1 cX1_takeWord 3 (some .int) "takeWord" false 25 (sLI 1 26) := ok_iload_n (by decide +kernel : decode cX1_takeWord 25 = .ok (.iload_n 1, 1)) rfl
theorem o17_26 : Okp RX1 cX1_takeWord 3 (some .int) "takeWord" false 26 sRI := ok_iret rfl (by decide +kernel : decode cX1_takeWord 26 = .ok (.ireturn, 1))
theorem oc17_0 : ∀ pc, Mnp (c17_0 pc) ∧ Okp RX1 cX1_takeWord 3 (some .int) "takeWord" false pc (c17_0 pc) := by
  intro pc
  unfold c17_0
  split
  · exact ⟨mn_sK, o17_0⟩
  · exact ⟨mn_sSI, o17_1⟩
  · exact ⟨mn_sK, o17_2⟩
  · exact ⟨mn_sSI, o17_3⟩
  · exact ⟨mn_sLI, o17_4⟩
  · exact ⟨mn_sK, o17_5⟩
  · exact ⟨mn_sI2, o17_6⟩
  · exact ⟨mn_sLI, o17_9⟩
  · exact ⟨mn_sK, o17_10⟩
  · exact ⟨mn_sB2, o17_12⟩
  · exact ⟨mn_sLR, o17_13⟩
  · exact ⟨mn_sCV, o17_14⟩
  · exact ⟨mn_sB2, o17_17⟩
  · exact ⟨mn_sSI, o17_18⟩
  · exact ⟨mn_sInc, o17_19⟩
  · exact ⟨mn_sGo, o17_22⟩
  · exact ⟨mn_sX, ok_X⟩
theorem oc17_1 : ∀ pc, Mnp (c17_1 pc) ∧ Okp RX1 cX1_takeWord 3 (some .int) "takeWord" false pc (c17_1 pc) := by
  intro pc
  unfold c17_1
  split
  · exact ⟨mn_sLI, o17_25⟩
  · exact ⟨mn_sRI, o17_26⟩
  · exact ⟨mn_sX, ok_X⟩
theorem oc17 : ∀ pc, Mnp (c17 pc) ∧ Okp RX1 cX1_takeWord 3 (some .int) "takeWord" false pc (c17 pc) := by
  intro pc
  unfold c17
  split
  · exact oc17_0 pc
  · exact oc17_1 pc
  · exact ⟨mn_sX, ok_X⟩
theorem o18_0 : Okp RX1 cX1_expectEnd 1 none "expectEnd" false 0 (sLR 0 1) := ok_aload_n (by decide +kernel : decode cX1_expectEnd 0 = .ok (.aload_n 0, 1)) rfl
theorem o18_1 : Okp RX1 cX1_expectEnd 1 none "expectEnd" false 1 (sGI 2 3 4) := ok_getI (by decide +kernel : decode cX1_expectEnd 1 = .ok (.getfield 22, 3)) fw_X1_22 rfl
theorem o18_4 : Okp RX1 cX1_expectEnd 1 none "expectEnd" false 4 (sLR 0 5) := ok_aload_n (by decide +kernel : decode cX1_expectEnd 4 = .ok (.aload_n 0, 1)) rfl
theorem o18_5 : Okp RX1 cX1_expectEnd 1 none "expectEnd" false 5 (sGI 2 1 8) := ok_getI (by decide +kernel : decode cX1_expectEnd 5 = .ok (.getfield 15, 3)) fw_X1_15 rfl
theorem o18_8 : Okp RX1 cX1_expectEnd 1 none "expectEnd" false 8 (sI2 3 20 11) := ok_icmp_ge (by decide +kernel : decode cX1_expectEnd 8 = .ok (.if_icmp .ge 12, 3)) (by decide)
theorem o18_11 : Okp RX1 cX1_expectEnd 1 none "expectEnd" false 11 (sLR 0 12) := ok_aload_n (by decide +kernel : decode cX1_expectEnd 11 = .ok (.aload_n 0, 1)) rfl
theorem o18_12 : Okp RX1 cX1_expectEnd 1 none "expectEnd" false 12 (sK 1 13) := ok_iconst (by decide +kernel : decode cX1_expectEnd 12 = .ok (.iconst 1, 1)) (by decide)
theorem o18_13 : Okp RX1 cX1_expectEnd 1 none "expectEnd" false 13 (sLR 0 14) := ok_aload_n (by decide +kernel : decode cX1_expectEnd 13 = .ok (.aload_n 0, 1)) rfl
theorem o18_14 : Okp RX1 cX1_expectEnd 1 none "expectEnd" false 14 (sGI 2 3 17) := ok_getI (by decide +kernel : decode cX1_expectEnd 14 = .ok (.getfield 22, 3)) fw_X1_22 rfl
theorem o18_17 : Okp RX1 cX1_expectEnd 1 none "expectEnd" false 17 (sCV false 13 3 2 20) := ok_cv (by decide +kernel : decode cX1_expectEnd 17 = .ok (.invokevirtual 44, 3)) mw_X1_44 rfl (by decide) wm_X1_fail wse_X1_fail (by decide) rfl
theorem o18_20 : Okp RX1 cX1_expectEnd 1 none "expectEnd" false 20 sRV := ok_vret rfl (by decide +kernel : decode cX1_expectEnd 20 = .ok (.return_, 1))
theorem oc18 : ∀ pc, Mnp (c18 pc) ∧ Okp RX1 cX1_expectEnd 1 none "expectEnd" false pc (c18 pc) := by
  intro pc
  unfold c18
  split
  · exact ⟨mn_sLR, o18_0⟩
  · exact ⟨mn_sGI, o18_1⟩
  · exact ⟨mn_sLR, o18_4⟩
  · exact ⟨mn_sGI, o18_5⟩
  · exact ⟨mn_sI2, o18_8⟩
  · exact ⟨mn_sLR, o18_11⟩
  · exact ⟨mn_sK, o18_12⟩
  · exact ⟨mn_sLR, o18_13⟩
  · exact ⟨mn_sGI, o18_14⟩
  · exact ⟨mn_sCV, o18_17⟩
  · exact ⟨mn_sRV, o18_20⟩
  · exact ⟨mn_sX, ok_X⟩
theorem o19_0 : Okp RX2 cX2_init 2 none "<init>" false 0 (sLR 0 1) := ok_aload_n (by decide +kernel : decode cX2_init 0 = .ok (.aload_n 0, 1)) rfl
theorem o19_1 : Okp RX2 cX2_init 2 none "<init>" false 1 (sCt 4) := ok_oinit (by decide +kernel : decode cX2_init 1 = .ok (.invokespecial 3, 3)) wq_X2_3 wq_i wq_c
theorem o19_4 : Okp RX2 cX2_init 2 none "<init>" false 4 (sLR 0 5) := ok_aload_n (by decide +kernel : decode cX2_init 4 = .ok (.aload_n 0, 1)) rfl
theorem o19_5 : Okp RX2 cX2_init 2 none "<init>" false 5 (sK 8 7) := ok_bipush (by decide +kernel : decode cX2_init 5 = .ok (.bipush 8, 2)) (by decide)
theorem o19_7 : Okp RX2 cX2_init 2 none "<init>" false 7 (sNA 15 9) := ok_newI (by decide +kernel : decode cX2_init 7 = .ok (.newarray .int, 2)) wa_int
theorem o19_9 : Okp RX2 cX2_init 2 none "<init>" false 9 (sPR 3 1 12) := ok_putR (by decide +kernel : decode cX2_init 9 = .ok (.putfield 9, 3)) fw_X2_9 ⟨⟨tyX2_ok, nmX2⟩, Or.inr ⟨rfl, rfl, rfl⟩, rfl⟩ (Or.inr ⟨_, rfl⟩) rfl
theorem o19_12 : Okp RX2 cX2_init 2 none "<init>" false 12 (sLR 0 13) := ok_aload_n (by decide +kernel : decode cX2_init 12 = .ok (.aload_n 0, 1)) rfl
theorem o19_13 : Okp RX2 cX2_init 2 none "<init>" false 13 (sK 8 15) := ok_bipush (by decide +kernel : decode cX2_init 13 = .ok (.bipush 8, 2)) (by decide)
theorem o19_15 : Okp RX2 cX2_init 2 none "<init>" false 15 (sNA 15 17) := ok_newI (by decide +kernel : decode cX2_init 15 = .ok (.newarray .int, 2)) wa_int
theorem o19_17 : Okp RX2 cX2_init 2 none "<init>" false 17 (sPR 3 2 20) := ok_putR (by decide +kernel : decode cX2_init 17 = .ok (.putfield 15, 3)) fw_X2_15 ⟨⟨tyX2_ok, nmX2⟩, Or.inr ⟨rfl, rfl, rfl⟩, rfl⟩ (Or.inr ⟨_, rfl⟩) rfl
theorem o19_20 : Okp RX2 cX2_init 2 none "<init>" false 20 (sLR 0 21) := ok_aload_n (by decide +kernel : decode cX2_init 20 = .ok (.aload_n 0, 1)) rfl
theorem o19_21 : Okp RX2 cX2_init 2 none "<init>" false 21 (sK 32 23) := ok_bipush (by decide +kernel : decode cX2_init 21 = .ok (.bipush 32, 2)) (by decide)
theorem o19_23 : Okp RX2 cX2_init 2 none "<init>" false 23 (sNA 15 25) := ok_newI (by decide +kernel : decode cX2_init 23 = .ok (.newarray .int, 2)) wa_int
theorem o19_25 : Okp RX2 cX2_init 2 none "<init>" false 25 (sPR 3 3 28) := ok_putR (by decide +kernel : decode cX2_init 25 = .ok (.putfield 18, 3)) fw_X2_18 ⟨⟨tyX2_ok, nmX2⟩, Or.inr ⟨rfl, rfl, rfl⟩, rfl⟩ (Or.inr ⟨_, rfl⟩) rfl
theorem o19_28 : Okp RX2 cX2_init 2 none "<init>" false 28 (sLR 0 29) := ok_aload_n (by decide +kernel : decode cX2_init 28 = .ok (.aload_n 0, 1)) rfl
theorem o19_29 : Okp RX2 cX2_init 2 none "<init>" false 29 (sK 32 31) := ok_bipush (by decide +kernel : decode cX2_init 29 = .ok (.bipush 32, 2)) (by decide)
theorem o19_31 : Okp RX2 cX2_init 2 none "<init>" false 31 (sNA 15 33) := ok_newI (by decide +kernel : decode cX2_init 31 = .ok (.newarray .int, 2)) wa_int
theorem o19_33 : Okp RX2 cX2_init 2 none "<init>" false 33 (sPR 3 4 36) := ok_putR (by decide +kernel : decode cX2_init 33 = .ok (.putfield 21, 3)) fw_X2_21 ⟨⟨tyX2_ok, nmX2⟩, Or.inr ⟨rfl, rfl, rfl⟩, rfl⟩ (Or.inr ⟨_, rfl⟩) rfl
theorem o19_36 : Okp RX2 cX2_init 2 none "<init>" false 36 (sLR 0 37) := ok_aload_n (by decide +kernel : decode cX2_init 36 = .ok (.aload_n 0, 1)) rfl
theorem o19_37 : Okp RX2 cX2_init 2 none "<init>" false 37 (sLI 1 38) := ok_iload_n (by decide +kernel : decode cX2_init 37 = .ok (.iload_n 1, 1)) rfl
theorem o19_38 : Okp RX2 cX2_init 2 none "<init>" false 38 (sPI 3 0 41) := ok_putI (by decide +kernel : decode cX2_init 38 = .ok (.putfield 24, 3)) fw_X2_24 ⟨⟨tyX2_ok, nmX2⟩, Or.inr ⟨rfl, rfl, rfl⟩, rfl⟩ rfl
theorem o19_41 : Okp RX2 cX2_init 2 none "<init>" false 41 sRV := ok_vret rfl (by decide +kernel : decode cX2_init 41 = .ok (.return_, 1))
theorem oc19_0 : ∀ pc, Mnp (c19_0 pc) ∧ Okp RX2 cX2_init 2 none "<init>" false pc (c19_0 pc) := by
  intro pc
  unfold c19_0
  split
  · exact ⟨mn_sLR, o19_0⟩
  · exact ⟨mn_sCt, o19_1⟩
  · exact ⟨mn_sLR, o19_4⟩
  · exact ⟨mn_sK, o19_5⟩
  · exact ⟨mn_sNA, o19_7⟩
  · exact ⟨mn_sPR, o19_9⟩
  · exact ⟨mn_sLR, o19_12⟩
  · exact ⟨mn_sK, o19_13⟩
  · exact ⟨mn_sNA, o19_15⟩
  · exact ⟨mn_sPR, o19_17⟩
  · exact ⟨mn_sLR, o19_20⟩
  · exact ⟨mn_sK, o19_21⟩
  · exact ⟨mn_sNA, o19_23⟩
  · exact ⟨mn_sX, ok_X⟩
theorem oc19_1 : ∀ pc, Mnp (c19_1 pc) ∧ Okp RX2 cX2_init 2 none "<init>" false pc (c19_1 pc) := by
  intro pc
  unfold c19_1
  split
  · exact ⟨mn_sPR, o19_25⟩
  · exact ⟨mn_sLR, o19_28⟩
  · exact ⟨mn_sK, o19_29⟩
  · exact ⟨mn_sNA, o19_31⟩
  · exact ⟨mn_sPR, o19_33⟩
  · exact ⟨mn_sLR, o19_36⟩
  · exact ⟨mn_sLI, o19_37⟩
  · exact ⟨mn_sPI, o19_38⟩
  · exact ⟨mn_sRV, o19_41⟩
  · exact ⟨mn_sX, ok_X⟩
theorem oc19 : ∀ pc, Mnp (c19 pc) ∧ Okp RX2 cX2_init 2 none "<init>" false pc (c19 pc) := by
  intro pc
  unfold c19
  split
  · exact oc19_0 pc
  · exact oc19_1 pc
  · exact ⟨mn_sX, ok_X⟩
theorem o20_0 : Okp RX2 cX2_turnAt 2 (some .int) "turnAt" false 0 (sLI 1 1) := ok_iload_n (by decide +kernel : decode cX2_turnAt 0 = .ok (.iload_n 1, 1)) rfl
theorem o20_1 : Okp RX2 cX2_turnAt 2 (some .int) "turnAt" false 1 (sI1 2 10 4) := ok_if_lt (by decide +kernel : decode cX2_turnAt 1 = .ok (.ifCond .lt 9, 3)) (by decide)
theorem o20_4 : Okp RX2 cX2_turnAt 2 (some .int) "turnAt" false 4 (sLI 1 5) := ok_iload_n (by decide +kernel : decode cX2_turnAt 4 = .ok (.iload_n 1, 1)) rfl
theorem o20_5 : Okp RX2 cX2_turnAt 2 (some .int) "turnAt" false 5 (sK 8 7) := ok_bipush (by decide +kernel : decode cX2_turnAt 5 = .ok (.bipush 8, 2)) (by decide)
theorem o20_7 : Okp RX2 cX2_turnAt 2 (some .int) "turnAt" false 7 (sI2 2 14 10) := ok_icmp_lt (by decide +kernel : decode cX2_turnAt 7 = .ok (.if_icmp .lt 7, 3)) (by decide)
theorem o20_10 : Okp RX2 cX2_turnAt 2 (some .int) "turnAt" false 10 (sK 0 11) := ok_iconst (by decide +kernel : decode cX2_turnAt 10 = .ok (.iconst 0, 1)) (by decide)
theorem o20_11 : Okp RX2 cX2_turnAt 2 (some .int) "turnAt" false 11 (sGo 20) := ok_goto (by decide +kernel : decode cX2_turnAt 11 = .ok (.goto 9, 3)) (by decide)
theorem o20_14 : Okp RX2 cX2_turnAt 2 (some .int) "turnAt" false 14 (sLR 0 15) := ok_aload_n (by decide +kernel : decode cX2_turnAt 14 = .ok (.aload_n 0, 1)) rfl
theorem o20_15 : Okp RX2 cX2_turnAt 2 (some .int) "turnAt" false 15 (sGR 3 1 18) := ok_getR (by decide +kernel : decode cX2_turnAt 15 = .ok (.getfield 9, 3)) fw_X2_9 rfl
theorem o20_18 : Okp RX2 cX2_turnAt 2 (some .int) "turnAt" false 18 (sLI 1 19) := ok_iload_n (by decide +kernel : decode cX2_turnAt 18 = .ok (.iload_n 1, 1)) rfl
theorem o20_19 : Okp RX2 cX2_turnAt 2 (some .int) "turnAt" false 19 (sIA 20) := ok_iaload (by decide +kernel : decode cX2_turnAt 19 = .ok (.iaload, 1))
theorem o20_20 : Okp RX2 cX2_turnAt 2 (some .int) "turnAt" false 20 sRI := ok_iret rfl (by decide +kernel : decode cX2_turnAt 20 = .ok (.ireturn, 1))
theorem oc20 : ∀ pc, Mnp (c20 pc) ∧ Okp RX2 cX2_turnAt 2 (some .int) "turnAt" false pc (c20 pc) := by
  intro pc
  unfold c20
  split
  · exact ⟨mn_sLI, o20_0⟩
  · exact ⟨mn_sI1, o20_1⟩
  · exact ⟨mn_sLI, o20_4⟩
  · exact ⟨mn_sK, o20_5⟩
  · exact ⟨mn_sI2, o20_7⟩
  · exact ⟨mn_sK, o20_10⟩
  · exact ⟨mn_sGo, o20_11⟩
  · exact ⟨mn_sLR, o20_14⟩
  · exact ⟨mn_sGR, o20_15⟩
  · exact ⟨mn_sLI, o20_18⟩
  · exact ⟨mn_sIA, o20_19⟩
  · exact ⟨mn_sRI, o20_20⟩
  · exact ⟨mn_sX, ok_X⟩
theorem o21_0 : Okp RX2 cX2_countAt 2 (some .int) "countAt" false 0 (sLI 1 1) := ok_iload_n (by decide +kernel : decode cX2_countAt 0 = .ok (.iload_n 1, 1)) rfl
theorem o21_1 : Okp RX2 cX2_countAt 2 (some .int) "countAt" false 1 (sI1 2 10 4) := ok_if_lt (by decide +kernel : decode cX2_countAt 1 = .ok (.ifCond .lt 9, 3)) (by decide)
theorem o21_4 : Okp RX2 cX2_countAt 2 (some .int) "countAt" false 4 (sLI 1 5) := ok_iload_n (by decide +kernel : decode cX2_countAt 4 = .ok (.iload_n 1, 1)) rfl
theorem o21_5 : Okp RX2 cX2_countAt 2 (some .int) "countAt" false 5 (sK 8 7) := ok_bipush (by decide +kernel : decode cX2_countAt 5 = .ok (.bipush 8, 2)) (by decide)
theorem o21_7 : Okp RX2 cX2_countAt 2 (some .int) "countAt" false 7 (sI2 2 14 10) := ok_icmp_lt (by decide +kernel : decode cX2_countAt 7 = .ok (.if_icmp .lt 7, 3)) (by decide)
theorem o21_10 : Okp RX2 cX2_countAt 2 (some .int) "countAt" false 10 (sK 0 11) := ok_iconst (by decide +kernel : decode cX2_countAt 10 = .ok (.iconst 0, 1)) (by decide)
theorem o21_11 : Okp RX2 cX2_countAt 2 (some .int) "countAt" false 11 (sGo 20) := ok_goto (by decide +kernel : decode cX2_countAt 11 = .ok (.goto 9, 3)) (by decide)
theorem o21_14 : Okp RX2 cX2_countAt 2 (some .int) "countAt" false 14 (sLR 0 15) := ok_aload_n (by decide +kernel : decode cX2_countAt 14 = .ok (.aload_n 0, 1)) rfl
theorem o21_15 : Okp RX2 cX2_countAt 2 (some .int) "countAt" false 15 (sGR 3 2 18) := ok_getR (by decide +kernel : decode cX2_countAt 15 = .ok (.getfield 15, 3)) fw_X2_15 rfl
theorem o21_18 : Okp RX2 cX2_countAt 2 (some .int) "countAt" false 18 (sLI 1 19) := ok_iload_n (by decide +kernel : decode cX2_countAt 18 = .ok (.iload_n 1, 1)) rfl
theorem o21_19 : Okp RX2 cX2_countAt 2 (some .int) "countAt" false 19 (sIA 20) := ok_iaload (by decide +kernel : decode cX2_countAt 19 = .ok (.iaload, 1))
theorem o21_20 : Okp RX2 cX2_countAt 2 (some .int) "countAt" false 20 sRI := ok_iret rfl (by decide +kernel : decode cX2_countAt 20 = .ok (.ireturn, 1))
theorem oc21 : ∀ pc, Mnp (c21 pc) ∧ Okp RX2 cX2_countAt 2 (some .int) "countAt" false pc (c21 pc) := by
  intro pc
  unfold c21
  split
  · exact ⟨mn_sLI, o21_0⟩
  · exact ⟨mn_sI1, o21_1⟩
  · exact ⟨mn_sLI, o21_4⟩
  · exact ⟨mn_sK, o21_5⟩
  · exact ⟨mn_sI2, o21_7⟩
  · exact ⟨mn_sK, o21_10⟩
  · exact ⟨mn_sGo, o21_11⟩
  · exact ⟨mn_sLR, o21_14⟩
  · exact ⟨mn_sGR, o21_15⟩
  · exact ⟨mn_sLI, o21_18⟩
  · exact ⟨mn_sIA, o21_19⟩
  · exact ⟨mn_sRI, o21_20⟩
  · exact ⟨mn_sX, ok_X⟩
theorem o22_0 : Okp RX2 cX2_indexOf 3 (some .int) "indexOf" false 0 (sLI 1 1) := ok_iload_n (by decide +kernel : decode cX2_indexOf 0 = .ok (.iload_n 1, 1)) rfl
theorem o22_1 : Okp RX2 cX2_indexOf 3 (some .int) "indexOf" false 1 (sI1 2 19 4) := ok_if_lt (by decide +kernel : decode cX2_indexOf 1 = .ok (.ifCond .lt 18, 3)) (by decide)
theorem o22_4 : Okp RX2 cX2_indexOf 3 (some .int) "indexOf" false 4 (sLI 1 5) := ok_iload_n (by decide +kernel : decode cX2_indexOf 4 = .ok (.iload_n 1, 1)) rfl
theorem o22_5 : Okp RX2 cX2_indexOf 3 (some .int) "indexOf" false 5 (sK 8 7) := ok_bipush (by decide +kernel : decode cX2_indexOf 5 = .ok (.bipush 8, 2)) (by decide)
theorem o22_7 : Okp RX2 cX2_indexOf 3 (some .int) "indexOf" false 7 (sI2 3 19 10) := ok_icmp_ge (by decide +kernel : decode cX2_indexOf 7 = .ok (.if_icmp .ge 12, 3)) (by decide)
theorem o22_10 : Okp RX2 cX2_indexOf 3 (some .int) "indexOf" false 10 (sLI 2 11) := ok_iload_n (by decide +kernel : decode cX2_indexOf 10 = .ok (.iload_n 2, 1)) rfl
theorem o22_11 : Okp RX2 cX2_indexOf 3 (some .int) "indexOf" false 11 (sI1 2 19 14) := ok_if_lt (by decide +kernel : decode cX2_indexOf 11 = .ok (.ifCond .lt 8, 3)) (by decide)
theorem o22_14 : Okp RX2 cX2_indexOf 3 (some .int) "indexOf" false 14 (sLI 2 15) := ok_iload_n (by decide +kernel : decode cX2_indexOf 14 = .ok (.iload_n 2, 1)) rfl
theorem o22_15 : Okp RX2 cX2_indexOf 3 (some .int) "indexOf" false 15 (sK 4 16) := ok_iconst (by decide +kernel : decode cX2_indexOf 15 = .ok (.iconst 4, 1)) (by decide)
theorem o22_16 : Okp RX2 cX2_indexOf 3 (some .int) "indexOf" false 16 (sI2 2 21 19) := ok_icmp_lt (by decide +kernel : decode cX2_indexOf 16 = .ok (.if_icmp .lt 5, 3)) (by decide)
theorem o22_19 : Okp RX2 cX2_indexOf 3 (some .int) "indexOf" false 19 (sK (-1) 20) := ok_iconst (by decide +kernel : decode cX2_indexOf 19 = .ok (.iconst (-1), 1)) (by decide)
theorem o22_20 : Okp RX2 cX2_indexOf 3 (some .int) "indexOf" false 20 sRI := ok_iret rfl (by decide +kernel : decode cX2_indexOf 20 = .ok (.ireturn, 1))
theorem o22_21 : Okp RX2 cX2_indexOf 3 (some .int) "indexOf" false 21 (sLI 2 22) := ok_iload_n (by decide +kernel : decode cX2_indexOf 21 = .ok (.iload_n 2, 1)) rfl
theorem o22_22 : Okp RX2 cX2_indexOf 3 (some .int) "indexOf" false 22 (sLR 0 23) := ok_aload_n (by decide +kernel : decode cX2_indexOf 22 = .ok (.aload_n 0, 1)) rfl
theorem o22_23 : Okp RX2 cX2_indexOf 3 (some .int) "indexOf" false 23 (sGR 3 2 26) := ok_getR (by decide +kernel : decode cX2_indexOf 23 = .ok (.getfield 15, 3)) fw_X2_15 rfl
theorem o22_26 : Okp RX2 cX2_indexOf 3 (some .int) "indexOf" false 26 (sLI 1 27) := ok_iload_n (by decide +kernel : decode cX2_indexOf 26 = .ok (.iload_n 1, 1)) rfl
theorem o22_27 : Okp RX2 cX2_indexOf 3 (some .int) "indexOf" false 27 (sIA 28) := ok_iaload (by decide +kernel : decode cX2_indexOf 27 = .ok (.iaload, 1))
theorem o22_28 : Okp RX2 cX2_indexOf 3 (some .int) "indexOf" false 28 (sI2 3 39 31) := ok_icmp_ge (by decide +kernel : decode cX2_indexOf 28 = .ok (.if_icmp .ge 11, 3)) (by decide)
theorem o22_31 : Okp RX2 cX2_indexOf 3 (some .int) "indexOf" false 31 (sLI 1 32) := ok_iload_n (by decide +kernel : decode cX2_indexOf 31 = .ok (.iload_n 1, 1)) rfl
theorem o22_32 : Okp RX2 cX2_indexOf 3 (some .int) "indexOf" false 32 (sK 4 33) := ok_iconst (by decide +kernel : decode cX2_indexOf 32 = .ok (.iconst 4, 1)) (by decide)
theorem o22_33 : Okp RX2 cX2_indexOf 3 (some .int) "indexOf" false 33 (sB2 fMul 34) := ok_imul (by decide +kernel : decode cX2_indexOf 33 = .ok (.imul, 1))
theorem o22_34 : Okp RX2 cX2_indexOf 3 (some .int) "indexOf" false 34 (sLI 2 35) := ok_iload_n (by decide +kernel : decode cX2_indexOf 34 = .ok (.iload_n 2, 1)) rfl
theorem o22_35 : Okp RX2 cX2_indexOf 3 (some .int) "indexOf" false 35 (sB2 fAdd 36) := ok_iadd (by decide +kernel : decode cX2_indexOf 35 = .ok (.iadd, 1))
theorem o22_36 : Okp RX2 cX2_indexOf 3 (some .int) "indexOf" false 36 (sGo 40) := ok_goto (by decide +kernel : decode cX2_indexOf 36 = .ok (.goto 4, 3)) (by decide)
theorem o22_39 : Okp RX2 cX2_indexOf 3 (some .int) "indexOf" false 39 (sK (-1) 40) := ok_iconst (by decide +kernel : decode cX2_indexOf 39 = .ok (.iconst (-1), 1)) (by decide)
theorem o22_40 : Okp RX2 cX2_indexOf 3 (some .int) "indexOf" false 40 sRI := ok_iret rfl (by decide +kernel : decode cX2_indexOf 40 = .ok (.ireturn, 1))
theorem oc22_0 : ∀ pc, Mnp (c22_0 pc) ∧ Okp RX2 cX2_indexOf 3 (some .int) "indexOf" false pc (c22_0 pc) := by
  intro pc
  unfold c22_0
  split
  · exact ⟨mn_sLI, o22_0⟩
  · exact ⟨mn_sI1, o22_1⟩
  · exact ⟨mn_sLI, o22_4⟩
  · exact ⟨mn_sK, o22_5⟩
  · exact ⟨mn_sI2, o22_7⟩
  · exact ⟨mn_sLI, o22_10⟩
  · exact ⟨mn_sI1, o22_11⟩
  · exact ⟨mn_sLI, o22_14⟩
  · exact ⟨mn_sK, o22_15⟩
  · exact ⟨mn_sI2, o22_16⟩
  · exact ⟨mn_sK, o22_19⟩
  · exact ⟨mn_sRI, o22_20⟩
  · exact ⟨mn_sLI, o22_21⟩
  · exact ⟨mn_sLR, o22_22⟩
  · exact ⟨mn_sGR, o22_23⟩
  · exact ⟨mn_sX, ok_X⟩
theorem oc22_1 : ∀ pc, Mnp (c22_1 pc) ∧ Okp RX2 cX2_indexOf 3 (some .int) "indexOf" false pc (c22_1 pc) := by
  intro pc
  unfold c22_1
  split
  · exact ⟨mn_sLI, o22_26⟩
  · exact ⟨mn_sIA, o22_27⟩
  · exact ⟨mn_sI2, o22_28⟩
  · exact ⟨mn_sLI, o22_31⟩
  · exact ⟨mn_sK, o22_32⟩
  · exact ⟨mn_sB2, o22_33⟩
  · exact ⟨mn_sLI, o22_34⟩
  · exact ⟨mn_sB2, o22_35⟩
  · exact ⟨mn_sGo, o22_36⟩
  · exact ⟨mn_sK, o22_39⟩
  · exact ⟨mn_sRI, o22_40⟩
  · exact ⟨mn_sX, ok_X⟩
theorem oc22 : ∀ pc, Mnp (c22 pc) ∧ Okp RX2 cX2_indexOf 3 (some .int) "indexOf" false pc (c22 pc) := by
  intro pc
  unfold c22
  split
  · exact oc22_0 pc
  · exact oc22_1 pc
  · exact ⟨mn_sX, ok_X⟩
theorem o23_0 : Okp RX2 cX2_has 3 (some .boolean) "has" false 0 (sLR 0 1) := ok_aload_n (by decide +kernel : decode cX2_has 0 = .ok (.aload_n 0, 1)) rfl
theorem o23_1 : Okp RX2 cX2_has 3 (some .boolean) "has" false 1 (sLI 1 2) := ok_iload_n (by decide +kernel : decode cX2_has 1 = .ok (.iload_n 1, 1)) rfl
theorem o23_2 : Okp RX2 cX2_has 3 (some .boolean) "has" false 2 (sLI 2 3) := ok_iload_n (by decide +kernel : decode cX2_has 2 = .ok (.iload_n 2, 1)) rfl
theorem o23_3 : Okp RX2 cX2_has 3 (some .boolean) "has" false 3 (sCV false 22 3 3 6) := ok_cv (by decide +kernel : decode cX2_has 3 = .ok (.invokevirtual 28, 3)) mw_X2_28 rfl (by decide) wm_X2_indexOf wse_X2_indexOf (by decide) rfl
theorem o23_6 : Okp RX2 cX2_has 3 (some .boolean) "has" false 6 (sI1 2 13 9) := ok_if_lt (by decide +kernel : decode cX2_has 6 = .ok (.ifCond .lt 7, 3)) (by decide)
theorem o23_9 : Okp RX2 cX2_has 3 (some .boolean) "has" false 9 (sK 1 10) := ok_iconst (by decide +kernel : decode cX2_has 9 = .ok (.iconst 1, 1)) (by decide)
theorem o23_10 : Okp RX2 cX2_has 3 (some .boolean) "has" false 10 (sGo 14) := ok_goto (by decide +kernel : decode cX2_has 10 = .ok (.goto 4, 3)) (by decide)
theorem o23_13 : Okp RX2 cX2_has 3 (some .boolean) "has" false 13 (sK 0 14) := ok_iconst (by decide +kernel : decode cX2_has 13 = .ok (.iconst 0, 1)) (by decide)
theorem o23_14 : Okp RX2 cX2_has 3 (some .boolean) "has" false 14 sRZ := ok_zret rfl (by decide +kernel : decode cX2_has 14 = .ok (.ireturn, 1))
theorem oc23 : ∀ pc, Mnp (c23 pc) ∧ Okp RX2 cX2_has 3 (some .boolean) "has" false pc (c23 pc) := by
  intro pc
  unfold c23
  split
  · exact ⟨mn_sLR, o23_0⟩
  · exact ⟨mn_sLI, o23_1⟩
  · exact ⟨mn_sLI, o23_2⟩
  · exact ⟨mn_sCV, o23_3⟩
  · exact ⟨mn_sI1, o23_6⟩
  · exact ⟨mn_sK, o23_9⟩
  · exact ⟨mn_sGo, o23_10⟩
  · exact ⟨mn_sK, o23_13⟩
  · exact ⟨mn_sRZ, o23_14⟩
  · exact ⟨mn_sX, ok_X⟩
theorem o24_0 : Okp RX2 cX2_loadOf 4 (some .int) "loadOf" false 0 (sLR 0 1) := ok_aload_n (by decide +kernel : decode cX2_loadOf 0 = .ok (.aload_n 0, 1)) rfl
theorem o24_1 : Okp RX2 cX2_loadOf 4 (some .int) "loadOf" false 1 (sLI 1 2) := ok_iload_n (by decide +kernel : decode cX2_loadOf 1 = .ok (.iload_n 1, 1)) rfl
theorem o24_2 : Okp RX2 cX2_loadOf 4 (some .int) "loadOf" false 2 (sLI 2 3) := ok_iload_n (by decide +kernel : decode cX2_loadOf 2 = .ok (.iload_n 2, 1)) rfl
theorem o24_3 : Okp RX2 cX2_loadOf 4 (some .int) "loadOf" false 3 (sCV false 22 3 3 6) := ok_cv (by decide +kernel : decode cX2_loadOf 3 = .ok (.invokevirtual 28, 3)) mw_X2_28 rfl (by decide) wm_X2_indexOf wse_X2_indexOf (by decide) rfl
theorem o24_6 : Okp RX2 cX2_loadOf 4 (some .int) "loadOf" false 6 (sSI 3 7) := ok_istore_n (by decide +kernel : decode cX2_loadOf 6 = .ok (.istore_n 3, 1)) rfl (by decide) (by decide)
theorem o24_7 : Okp RX2 cX2_loadOf 4 (some .int) "loadOf" false 7 (sLI 3 8) := ok_iload_n (by decide +kernel : decode cX2_loadOf 7 = .ok (.iload_n 3, 1)) rfl
theorem o24_8 : Okp RX2 cX2_loadOf 4 (some .int) "loadOf" false 8 (sI1 2 20 11) := ok_if_lt (by decide +kernel : decode cX2_loadOf 8 = .ok (.ifCond .lt 12, 3)) (by decide)
theorem o24_11 : Okp RX2 cX2_loadOf 4 (some .int) "loadOf" false 11 (sLI 3 12) := ok_iload_n (by decide +kernel : decode cX2_loadOf 11 = .ok (.iload_n 3, 1)) rfl
theorem o24_12 : Okp RX2 cX2_loadOf 4 (some .int) "loadOf" false 12 (sLR 0 13) := ok_aload_n (by decide +kernel : decode cX2_loadOf 12 = .ok (.aload_n 0, 1)) rfl
theorem o24_13 : Okp RX2 cX2_loadOf 4 (some .int) "loadOf" false 13 (sGR 3 3 16) := ok_getR (by decide +kernel : decode cX2_loadOf 13 = .ok (.getfield 18, 3)) fw_X2_18 rfl
theorem o24_16 : Okp RX2 cX2_loadOf 4 (some .int) "loadOf" false 16 (sLen 17) := ok_alen (by decide +kernel : decode cX2_loadOf 16 = .ok (.arraylength, 1))
theorem o24_17 : Okp RX2 cX2_loadOf 4 (some .int) "loadOf" false 17 (sI2 2 24 20) := ok_icmp_lt (by decide +kernel : decode cX2_loadOf 17 = .ok (.if_icmp .lt 7, 3)) (by decide)
theorem o24_20 : Okp RX2 cX2_loadOf 4 (some .int) "loadOf" false 20 (sK (-1) 21) := ok_iconst (by decide +kernel : decode cX2_loadOf 20 = .ok (.iconst (-1), 1)) (by decide)
theorem o24_21 : Okp RX2 cX2_loadOf 4 (some .int) "loadOf" false 21 (sGo 30) := ok_goto (by decide +kernel : decode cX2_loadOf 21 = .ok (.goto 9, 3)) (by decide)
theorem o24_24 : Okp RX2 cX2_loadOf 4 (some .int) "loadOf" false 24 (sLR 0 25) := ok_aload_n (by decide +kernel : decode cX2_loadOf 24 = .ok (.aload_n 0, 1)) rfl
theorem o24_25 : Okp RX2 cX2_loadOf 4 (some .int) "loadOf" false 25 (sGR 3 3 28) := ok_getR (by decide +kernel : decode cX2_loadOf 25 = .ok (.getfield 18, 3)) fw_X2_18 rfl
theorem o24_28 : Okp RX2 cX2_loadOf 4 (some .int) "loadOf" false 28 (sLI 3 29) := ok_iload_n (by decide +kernel : decode cX2_loadOf 28 = .ok (.iload_n 3, 1)) rfl
theorem o24_29 : Okp RX2 cX2_loadOf 4 (some .int) "loadOf" false 29 (sIA 30) := ok_iaload (by decide +kernel : decode cX2_loadOf 29 = .ok (.iaload, 1))
theorem o24_30 : Okp RX2 cX2_loadOf 4 (some .int) "loadOf" false 30 sRI := ok_iret rfl (by decide +kernel : decode cX2_loadOf 30 = .ok (.ireturn, 1))
theorem oc24_0 : ∀ pc, Mnp (c24_0 pc) ∧ Okp RX2 cX2_loadOf 4 (some .int) "loadOf" false pc (c24_0 pc) := by
  intro pc
  unfold c24_0
  split
  · exact ⟨mn_sLR, o24_0⟩
  · exact ⟨mn_sLI, o24_1⟩
  · exact ⟨mn_sLI, o24_2⟩
  · exact ⟨mn_sCV, o24_3⟩
  · exact ⟨mn_sSI, o24_6⟩
  · exact ⟨mn_sLI, o24_7⟩
  · exact ⟨mn_sI1, o24_8⟩
  · exact ⟨mn_sLI, o24_11⟩
  · exact ⟨mn_sLR, o24_12⟩
  · exact ⟨mn_sGR, o24_13⟩
  · exact ⟨mn_sLen, o24_16⟩
  · exact ⟨mn_sI2, o24_17⟩
  · exact ⟨mn_sK, o24_20⟩
  · exact ⟨mn_sGo, o24_21⟩
  · exact ⟨mn_sX, ok_X⟩
theorem oc24_1 : ∀ pc, Mnp (c24_1 pc) ∧ Okp RX2 cX2_loadOf 4 (some .int) "loadOf" false pc (c24_1 pc) := by
  intro pc
  unfold c24_1
  split
  · exact ⟨mn_sLR, o24_24⟩
  · exact ⟨mn_sGR, o24_25⟩
  · exact ⟨mn_sLI, o24_28⟩
  · exact ⟨mn_sIA, o24_29⟩
  · exact ⟨mn_sRI, o24_30⟩
  · exact ⟨mn_sX, ok_X⟩
theorem oc24 : ∀ pc, Mnp (c24 pc) ∧ Okp RX2 cX2_loadOf 4 (some .int) "loadOf" false pc (c24 pc) := by
  intro pc
  unfold c24
  split
  · exact oc24_0 pc
  · exact oc24_1 pc
  · exact ⟨mn_sX, ok_X⟩
theorem o25_0 : Okp RX2 cX2_nextOf 4 (some .int) "nextOf" false 0 (sLR 0 1) := ok_aload_n (by decide +kernel : decode cX2_nextOf 0 = .ok (.aload_n 0, 1)) rfl
theorem o25_1 : Okp RX2 cX2_nextOf 4 (some .int) "nextOf" false 1 (sLI 1 2) := ok_iload_n (by decide +kernel : decode cX2_nextOf 1 = .ok (.iload_n 1, 1)) rfl
theorem o25_2 : Okp RX2 cX2_nextOf 4 (some .int) "nextOf" false 2 (sLI 2 3) := ok_iload_n (by decide +kernel : decode cX2_nextOf 2 = .ok (.iload_n 2, 1)) rfl
theorem o25_3 : Okp RX2 cX2_nextOf 4 (some .int) "nextOf" false 3 (sCV false 22 3 3 6) := ok_cv (by decide +kernel : decode cX2_nextOf 3 = .ok (.invokevirtual 28, 3)) mw_X2_28 rfl (by decide) wm_X2_indexOf wse_X2_indexOf (by decide) rfl
theorem o25_6 : Okp RX2 cX2_nextOf 4 (some .int) "nextOf" false 6 (sSI 3 7) := ok_istore_n (by decide +kernel : decode cX2_nextOf 6 = .ok (.istore_n 3, 1)) rfl (by decide) (by decide)
theorem o25_7 : Okp RX2 cX2_nextOf 4 (some .int) "nextOf" false 7 (sLI 3 8) := ok_iload_n (by decide +kernel : decode cX2_nextOf 7 = .ok (.iload_n 3, 1)) rfl
theorem o25_8 : Okp RX2 cX2_nextOf 4 (some .int) "nextOf" false 8 (sI1 2 20 11) := ok_if_lt (by decide +kernel : decode cX2_nextOf 8 = .ok (.ifCond .lt 12, 3)) (by decide)
theorem o25_11 : Okp RX2 cX2_nextOf 4 (some .int) "nextOf" false 11 (sLI 3 12) := ok_iload_n (by decide +kernel : decode cX2_nextOf 11 = .ok (.iload_n 3, 1)) rfl
theorem o25_12 : Okp RX2 cX2_nextOf 4 (some .int) "nextOf" false 12 (sLR 0 13) := ok_aload_n (by decide +kernel : decode cX2_nextOf 12 = .ok (.aload_n 0, 1)) rfl
theorem o25_13 : Okp RX2 cX2_nextOf 4 (some .int) "nextOf" false 13 (sGR 3 4 16) := ok_getR (by decide +kernel : decode cX2_nextOf 13 = .ok (.getfield 21, 3)) fw_X2_21 rfl
theorem o25_16 : Okp RX2 cX2_nextOf 4 (some .int) "nextOf" false 16 (sLen 17) := ok_alen (by decide +kernel : decode cX2_nextOf 16 = .ok (.arraylength, 1))
theorem o25_17 : Okp RX2 cX2_nextOf 4 (some .int) "nextOf" false 17 (sI2 2 24 20) := ok_icmp_lt (by decide +kernel : decode cX2_nextOf 17 = .ok (.if_icmp .lt 7, 3)) (by decide)
theorem o25_20 : Okp RX2 cX2_nextOf 4 (some .int) "nextOf" false 20 (sK 0 21) := ok_iconst (by decide +kernel : decode cX2_nextOf 20 = .ok (.iconst 0, 1)) (by decide)
theorem o25_21 : Okp RX2 cX2_nextOf 4 (some .int) "nextOf" false 21 (sGo 30) := ok_goto (by decide +kernel : decode cX2_nextOf 21 = .ok (.goto 9, 3)) (by decide)
theorem o25_24 : Okp RX2 cX2_nextOf 4 (some .int) "nextOf" false 24 (sLR 0 25) := ok_aload_n (by decide +kernel : decode cX2_nextOf 24 = .ok (.aload_n 0, 1)) rfl
theorem o25_25 : Okp RX2 cX2_nextOf 4 (some .int) "nextOf" false 25 (sGR 3 4 28) := ok_getR (by decide +kernel : decode cX2_nextOf 25 = .ok (.getfield 21, 3)) fw_X2_21 rfl
theorem o25_28 : Okp RX2 cX2_nextOf 4 (some .int) "nextOf" false 28 (sLI 3 29) := ok_iload_n (by decide +kernel : decode cX2_nextOf 28 = .ok (.iload_n 3, 1)) rfl
theorem o25_29 : Okp RX2 cX2_nextOf 4 (some .int) "nextOf" false 29 (sIA 30) := ok_iaload (by decide +kernel : decode cX2_nextOf 29 = .ok (.iaload, 1))
theorem o25_30 : Okp RX2 cX2_nextOf 4 (some .int) "nextOf" false 30 sRI := ok_iret rfl (by decide +kernel : decode cX2_nextOf 30 = .ok (.ireturn, 1))
theorem oc25_0 : ∀ pc, Mnp (c25_0 pc) ∧ Okp RX2 cX2_nextOf 4 (some .int) "nextOf" false pc (c25_0 pc) := by
  intro pc
  unfold c25_0
  split
  · exact ⟨mn_sLR, o25_0⟩
  · exact ⟨mn_sLI, o25_1⟩
  · exact ⟨mn_sLI, o25_2⟩
  · exact ⟨mn_sCV, o25_3⟩
  · exact ⟨mn_sSI, o25_6⟩
  · exact ⟨mn_sLI, o25_7⟩
  · exact ⟨mn_sI1, o25_8⟩
  · exact ⟨mn_sLI, o25_11⟩
  · exact ⟨mn_sLR, o25_12⟩
  · exact ⟨mn_sGR, o25_13⟩
  · exact ⟨mn_sLen, o25_16⟩
  · exact ⟨mn_sI2, o25_17⟩
  · exact ⟨mn_sK, o25_20⟩
  · exact ⟨mn_sGo, o25_21⟩
  · exact ⟨mn_sX, ok_X⟩
theorem oc25_1 : ∀ pc, Mnp (c25_1 pc) ∧ Okp RX2 cX2_nextOf 4 (some .int) "nextOf" false pc (c25_1 pc) := by
  intro pc
  unfold c25_1
  split
  · exact ⟨mn_sLR, o25_24⟩
  · exact ⟨mn_sGR, o25_25⟩
  · exact ⟨mn_sLI, o25_28⟩
  · exact ⟨mn_sIA, o25_29⟩
  · exact ⟨mn_sRI, o25_30⟩
  · exact ⟨mn_sX, ok_X⟩
theorem oc25 : ∀ pc, Mnp (c25 pc) ∧ Okp RX2 cX2_nextOf 4 (some .int) "nextOf" false pc (c25 pc) := by
  intro pc
  unfold c25
  split
  · exact oc25_0 pc
  · exact oc25_1 pc
  · exact ⟨mn_sX, ok_X⟩
theorem o26_0 : Okp RX2 cX2_setState 4 none "setState" false 0 (sLI 1 1) := ok_iload_n (by decide +kernel : decode cX2_setState 0 = .ok (.iload_n 1, 1)) rfl
theorem o26_1 : Okp RX2 cX2_setState 4 none "setState" false 1 (sI1 2 24 4) := ok_if_lt (by decide +kernel : decode cX2_setState 1 = .ok (.ifCond .lt 23, 3)) (by decide)
theorem o26_4 : Okp RX2 cX2_setState 4 none "setState" false 4 (sLI 1 5) := ok_iload_n (by decide +kernel : decode cX2_setState 4 = .ok (.iload_n 1, 1)) rfl
theorem o26_5 : Okp RX2 cX2_setState 4 none "setState" false 5 (sK 8 7) := ok_bipush (by decide +kernel : decode cX2_setState 5 = .ok (.bipush 8, 2)) (by decide)
theorem o26_7 : Okp RX2 cX2_setState 4 none "setState" false 7 (sI2 3 24 10) := ok_icmp_ge (by decide +kernel : decode cX2_setState 7 = .ok (.if_icmp .ge 17, 3)) (by decide)
theorem o26_10 : Okp RX2 cX2_setState 4 none "setState" false 10 (sLR 0 11) := ok_aload_n (by decide +kernel : decode cX2_setState 10 = .ok (.aload_n 0, 1)) rfl
theorem o26_11 : Okp RX2 cX2_setState 4 none "setState" false 11 (sGR 3 1 14) := ok_getR (by decide +kernel : decode cX2_setState 11 = .ok (.getfield 9, 3)) fw_X2_9 rfl
theorem o26_14 : Okp RX2 cX2_setState 4 none "setState" false 14 (sLI 1 15) := ok_iload_n (by decide +kernel : decode cX2_setState 14 = .ok (.iload_n 1, 1)) rfl
theorem o26_15 : Okp RX2 cX2_setState 4 none "setState" false 15 (sLI 2 16) := ok_iload_n (by decide +kernel : decode cX2_setState 15 = .ok (.iload_n 2, 1)) rfl
theorem o26_16 : Okp RX2 cX2_setState 4 none "setState" false 16 (sIS 17) := ok_iastore (by decide +kernel : decode cX2_setState 16 = .ok (.iastore, 1))
theorem o26_17 : Okp RX2 cX2_setState 4 none "setState" false 17 (sLR 0 18) := ok_aload_n (by decide +kernel : decode cX2_setState 17 = .ok (.aload_n 0, 1)) rfl
theorem o26_18 : Okp RX2 cX2_setState 4 none "setState" false 18 (sGR 3 2 21) := ok_getR (by decide +kernel : decode cX2_setState 18 = .ok (.getfield 15, 3)) fw_X2_15 rfl
theorem o26_21 : Okp RX2 cX2_setState 4 none "setState" false 21 (sLI 1 22) := ok_iload_n (by decide +kernel : decode cX2_setState 21 = .ok (.iload_n 1, 1)) rfl
theorem o26_22 : Okp RX2 cX2_setState 4 none "setState" false 22 (sLI 3 23) := ok_iload_n (by decide +kernel : decode cX2_setState 22 = .ok (.iload_n 3, 1)) rfl
theorem o26_23 : Okp RX2 cX2_setState 4 none "setState" false 23 (sIS 24) := ok_iastore (by decide +kernel : decode cX2_setState 23 = .ok (.iastore, 1))
theorem o26_24 : Okp RX2 cX2_setState 4 none "setState" false 24 sRV := ok_vret rfl (by decide +kernel : decode cX2_setState 24 = .ok (.return_, 1))
theorem oc26_0 : ∀ pc, Mnp (c26_0 pc) ∧ Okp RX2 cX2_setState 4 none "setState" false pc (c26_0 pc) := by
  intro pc
  unfold c26_0
  split
  · exact ⟨mn_sLI, o26_0⟩
  · exact ⟨mn_sI1, o26_1⟩
  · exact ⟨mn_sLI, o26_4⟩
  · exact ⟨mn_sK, o26_5⟩
  · exact ⟨mn_sI2, o26_7⟩
  · exact ⟨mn_sLR, o26_10⟩
  · exact ⟨mn_sGR, o26_11⟩
  · exact ⟨mn_sLI, o26_14⟩
  · exact ⟨mn_sLI, o26_15⟩
  · exact ⟨mn_sIS, o26_16⟩
  · exact ⟨mn_sLR, o26_17⟩
  · exact ⟨mn_sGR, o26_18⟩
  · exact ⟨mn_sLI, o26_21⟩
  · exact ⟨mn_sLI, o26_22⟩
  · exact ⟨mn_sIS, o26_23⟩
  · exact ⟨mn_sX, ok_X⟩
theorem oc26_1 : ∀ pc, Mnp (c26_1 pc) ∧ Okp RX2 cX2_setState 4 none "setState" false pc (c26_1 pc) := by
  intro pc
  unfold c26_1
  split
  · exact ⟨mn_sRV, o26_24⟩
  · exact ⟨mn_sX, ok_X⟩
theorem oc26 : ∀ pc, Mnp (c26 pc) ∧ Okp RX2 cX2_setState 4 none "setState" false pc (c26 pc) := by
  intro pc
  unfold c26
  split
  · exact oc26_0 pc
  · exact oc26_1 pc
  · exact ⟨mn_sX, ok_X⟩
theorem o27_0 : Okp RX2 cX2_setMessage 6 none "setMessage" false 0 (sLR 0 1) := ok_aload_n (by decide +kernel : decode cX2_setMessage 0 = .ok (.aload_n 0, 1)) rfl
theorem o27_1 : Okp RX2 cX2_setMessage 6 none "setMessage" false 1 (sLI 1 2) := ok_iload_n (by decide +kernel : decode cX2_setMessage 1 = .ok (.iload_n 1, 1)) rfl
theorem o27_2 : Okp RX2 cX2_setMessage 6 none "setMessage" false 2 (sLI 2 3) := ok_iload_n (by decide +kernel : decode cX2_setMessage 2 = .ok (.iload_n 2, 1)) rfl
theorem o27_3 : Okp RX2 cX2_setMessage 6 none "setMessage" false 3 (sCV false 22 3 3 6) := ok_cv (by decide +kernel : decode cX2_setMessage 3 = .ok (.invokevirtual 28, 3)) mw_X2_28 rfl (by decide) wm_X2_indexOf wse_X2_indexOf (by decide) rfl
theorem o27_6 : Okp RX2 cX2_setMessage 6 none "setMessage" false 6 (sSI 5 8) := ok_istore (by decide +kernel : decode cX2_setMessage 6 = .ok (.istore 5, 2)) (by decide) (by decide)
theorem o27_8 : Okp RX2 cX2_setMessage 6 none "setMessage" false 8 (sLI 5 10) := ok_iload (by decide +kernel : decode cX2_setMessage 8 = .ok (.iload 5, 2))
theorem o27_10 : Okp RX2 cX2_setMessage 6 none "setMessage" false 10 (sI1 2 40 13) := ok_if_lt (by decide +kernel : decode cX2_setMessage 10 = .ok (.ifCond .lt 30, 3)) (by decide)
theorem o27_13 : Okp RX2 cX2_setMessage 6 none "setMessage" false 13 (sLI 5 15) := ok_iload (by decide +kernel : decode cX2_setMessage 13 = .ok (.iload 5, 2))
theorem o27_15 : Okp RX2 cX2_setMessage 6 none "setMessage" false 15 (sLR 0 16) := ok_aload_n (by decide +kernel : decode cX2_setMessage 15 = .ok (.aload_n 0, 1)) rfl
theorem o27_16 : Okp RX2 cX2_setMessage 6 none "setMessage" false 16 (sGR 3 3 19) := ok_getR (by decide +kernel : decode cX2_setMessage 16 = .ok (.getfield 18, 3)) fw_X2_18 rfl
theorem o27_19 : Okp RX2 cX2_setMessage 6 none "setMessage" false 19 (sLen 20) := ok_alen (by decide +kernel : decode cX2_setMessage 19 = .ok (.arraylength, 1))
theorem o27_20 : Okp RX2 cX2_setMessage 6 none "setMessage" false 20 (sI2 3 40 23) := ok_icmp_ge (by decide +kernel : decode cX2_setMessage 20 = .ok (.if_icmp .ge 20, 3)) (by decide)
theorem o27_23 : Okp RX2 cX2_setMessage 6 none "setMessage" false 23 (sLR 0 24) := ok_aload_n (by decide +kernel : decode cX2_setMessage 23 = .ok (.aload_n 0, 1)) rfl
theorem o27_24 : Okp RX2 cX2_setMessage 6 none "setMessage" false 24 (sGR 3 3 27) := ok_getR (by decide +kernel : decode cX2_setMessage 24 = .ok (.getfield 18, 3)) fw_X2_18 rfl
theorem o27_27 : Okp RX2 cX2_setMessage 6 none "setMessage" false 27 (sLI 5 29) := ok_iload (by decide +kernel : decode cX2_setMessage 27 = .ok (.iload 5, 2))
theorem o27_29 : Okp RX2 cX2_setMessage 6 none "setMessage" false 29 (sLI 3 30) := ok_iload_n (by decide +kernel : decode cX2_setMessage 29 = .ok (.iload_n 3, 1)) rfl
theorem o27_30 : Okp RX2 cX2_setMessage 6 none "setMessage" false 30 (sIS 31) := ok_iastore (by decide +kernel : decode cX2_setMessage 30 = .ok (.iastore, 1))
theorem o27_31 : Okp RX2 cX2_setMessage 6 none "setMessage" false 31 (sLR 0 32) := ok_aload_n (by decide +kernel : decode cX2_setMessage 31 = .ok (.aload_n 0, 1)) rfl
theorem o27_32 : Okp RX2 cX2_setMessage 6 none "setMessage" false 32 (sGR 3 4 35) := ok_getR (by decide +kernel : decode cX2_setMessage 32 = .ok (.getfield 21, 3)) fw_X2_21 rfl
theorem o27_35 : Okp RX2 cX2_setMessage 6 none "setMessage" false 35 (sLI 5 37) := ok_iload (by decide +kernel : decode cX2_setMessage 35 = .ok (.iload 5, 2))
theorem o27_37 : Okp RX2 cX2_setMessage 6 none "setMessage" false 37 (sLI 4 39) := ok_iload (by decide +kernel : decode cX2_setMessage 37 = .ok (.iload 4, 2))
theorem o27_39 : Okp RX2 cX2_setMessage 6 none "setMessage" false 39 (sIS 40) := ok_iastore (by decide +kernel : decode cX2_setMessage 39 = .ok (.iastore, 1))
theorem o27_40 : Okp RX2 cX2_setMessage 6 none "setMessage" false 40 sRV := ok_vret rfl (by decide +kernel : decode cX2_setMessage 40 = .ok (.return_, 1))
theorem oc27_0 : ∀ pc, Mnp (c27_0 pc) ∧ Okp RX2 cX2_setMessage 6 none "setMessage" false pc (c27_0 pc) := by
  intro pc
  unfold c27_0
  split
  · exact ⟨mn_sLR, o27_0⟩
  · exact ⟨mn_sLI, o27_1⟩
  · exact ⟨mn_sLI, o27_2⟩
  · exact ⟨mn_sCV, o27_3⟩
  · exact ⟨mn_sSI, o27_6⟩
  · exact ⟨mn_sLI, o27_8⟩
  · exact ⟨mn_sI1, o27_10⟩
  · exact ⟨mn_sLI, o27_13⟩
  · exact ⟨mn_sLR, o27_15⟩
  · exact ⟨mn_sGR, o27_16⟩
  · exact ⟨mn_sLen, o27_19⟩
  · exact ⟨mn_sI2, o27_20⟩
  · exact ⟨mn_sLR, o27_23⟩
  · exact ⟨mn_sX, ok_X⟩
theorem oc27_1 : ∀ pc, Mnp (c27_1 pc) ∧ Okp RX2 cX2_setMessage 6 none "setMessage" false pc (c27_1 pc) := by
  intro pc
  unfold c27_1
  split
  · exact ⟨mn_sGR, o27_24⟩
  · exact ⟨mn_sLI, o27_27⟩
  · exact ⟨mn_sLI, o27_29⟩
  · exact ⟨mn_sIS, o27_30⟩
  · exact ⟨mn_sLR, o27_31⟩
  · exact ⟨mn_sGR, o27_32⟩
  · exact ⟨mn_sLI, o27_35⟩
  · exact ⟨mn_sLI, o27_37⟩
  · exact ⟨mn_sIS, o27_39⟩
  · exact ⟨mn_sRV, o27_40⟩
  · exact ⟨mn_sX, ok_X⟩
theorem oc27 : ∀ pc, Mnp (c27 pc) ∧ Okp RX2 cX2_setMessage 6 none "setMessage" false pc (c27 pc) := by
  intro pc
  unfold c27
  split
  · exact oc27_0 pc
  · exact oc27_1 pc
  · exact ⟨mn_sX, ok_X⟩
theorem o28_0 : Okp RX2 cX2_sendsBare 4 (some .boolean) "sendsBare" false 0 (sLI 1 1) := ok_iload_n (by decide +kernel : decode cX2_sendsBare 0 = .ok (.iload_n 1, 1)) rfl
theorem o28_1 : Okp RX2 cX2_sendsBare 4 (some .boolean) "sendsBare" false 1 (sI1 2 19 4) := ok_if_lt (by decide +kernel : decode cX2_sendsBare 1 = .ok (.ifCond .lt 18, 3)) (by decide)
theorem o28_4 : Okp RX2 cX2_sendsBare 4 (some .boolean) "sendsBare" false 4 (sLI 1 5) := ok_iload_n (by decide +kernel : decode cX2_sendsBare 4 = .ok (.iload_n 1, 1)) rfl
theorem o28_5 : Okp RX2 cX2_sendsBare 4 (some .boolean) "sendsBare" false 5 (sK 8 7) := ok_bipush (by decide +kernel : decode cX2_sendsBare 5 = .ok (.bipush 8, 2)) (by decide)
theorem o28_7 : Okp RX2 cX2_sendsBare 4 (some .boolean) "sendsBare" false 7 (sI2 3 19 10) := ok_icmp_ge (by decide +kernel : decode cX2_sendsBare 7 = .ok (.if_icmp .ge 12, 3)) (by decide)
theorem o28_10 : Okp RX2 cX2_sendsBare 4 (some .boolean) "sendsBare" false 10 (sLI 3 11) := ok_iload_n (by decide +kernel : decode cX2_sendsBare 10 = .ok (.iload_n 3, 1)) rfl
theorem o28_11 : Okp RX2 cX2_sendsBare 4 (some .boolean) "sendsBare" false 11 (sI1 2 19 14) := ok_if_lt (by decide +kernel : decode cX2_sendsBare 11 = .ok (.ifCond .lt 8, 3)) (by decide)
theorem o28_14 : Okp RX2 cX2_sendsBare 4 (some .boolean) "sendsBare" false 14 (sLI 3 15) := ok_iload_n (by decide +kernel : decode cX2_sendsBare 14 = .ok (.iload_n 3, 1)) rfl
theorem o28_15 : Okp RX2 cX2_sendsBare 4 (some .boolean) "sendsBare" false 15 (sK 4 16) := ok_iconst (by decide +kernel : decode cX2_sendsBare 15 = .ok (.iconst 4, 1)) (by decide)
theorem o28_16 : Okp RX2 cX2_sendsBare 4 (some .boolean) "sendsBare" false 16 (sI2 2 21 19) := ok_icmp_lt (by decide +kernel : decode cX2_sendsBare 16 = .ok (.if_icmp .lt 5, 3)) (by decide)
theorem o28_19 : Okp RX2 cX2_sendsBare 4 (some .boolean) "sendsBare" false 19 (sK 0 20) := ok_iconst (by decide +kernel : decode cX2_sendsBare 19 = .ok (.iconst 0, 1)) (by decide)
theorem o28_20 : Okp RX2 cX2_sendsBare 4 (some .boolean) "sendsBare" false 20 sRZ := ok_zret rfl (by decide +kernel : decode cX2_sendsBare 20 = .ok (.ireturn, 1))
theorem o28_21 : Okp RX2 cX2_sendsBare 4 (some .boolean) "sendsBare" false 21 (sLR 0 22) := ok_aload_n (by decide +kernel : decode cX2_sendsBare 21 = .ok (.aload_n 0, 1)) rfl
theorem o28_22 : Okp RX2 cX2_sendsBare 4 (some .boolean) "sendsBare" false 22 (sGR 3 1 25) := ok_getR (by decide +kernel : decode cX2_sendsBare 22 = .ok (.getfield 9, 3)) fw_X2_9 rfl
theorem o28_25 : Okp RX2 cX2_sendsBare 4 (some .boolean) "sendsBare" false 25 (sLI 1 26) := ok_iload_n (by decide +kernel : decode cX2_sendsBare 25 = .ok (.iload_n 1, 1)) rfl
theorem o28_26 : Okp RX2 cX2_sendsBare 4 (some .boolean) "sendsBare" false 26 (sIA 27) := ok_iaload (by decide +kernel : decode cX2_sendsBare 26 = .ok (.iaload, 1))
theorem o28_27 : Okp RX2 cX2_sendsBare 4 (some .boolean) "sendsBare" false 27 (sLI 2 28) := ok_iload_n (by decide +kernel : decode cX2_sendsBare 27 = .ok (.iload_n 2, 1)) rfl
theorem o28_28 : Okp RX2 cX2_sendsBare 4 (some .boolean) "sendsBare" false 28 (sK 1 29) := ok_iconst (by decide +kernel : decode cX2_sendsBare 28 = .ok (.iconst 1, 1)) (by decide)
theorem o28_29 : Okp RX2 cX2_sendsBare 4 (some .boolean) "sendsBare" false 29 (sB2 fAdd 30) := ok_iadd (by decide +kernel : decode cX2_sendsBare 29 = .ok (.iadd, 1))
theorem o28_30 : Okp RX2 cX2_sendsBare 4 (some .boolean) "sendsBare" false 30 (sI2 1 61 33) := ok_icmp_ne (by decide +kernel : decode cX2_sendsBare 30 = .ok (.if_icmp .ne 31, 3)) (by decide)
theorem o28_33 : Okp RX2 cX2_sendsBare 4 (some .boolean) "sendsBare" false 33 (sLI 3 34) := ok_iload_n (by decide +kernel : decode cX2_sendsBare 33 = .ok (.iload_n 3, 1)) rfl
theorem o28_34 : Okp RX2 cX2_sendsBare 4 (some .boolean) "sendsBare" false 34 (sLR 0 35) := ok_aload_n (by decide +kernel : decode cX2_sendsBare 34 = .ok (.aload_n 0, 1)) rfl
theorem o28_35 : Okp RX2 cX2_sendsBare 4 (some .boolean) "sendsBare" false 35 (sGR 3 2 38) := ok_getR (by decide +kernel : decode cX2_sendsBare 35 = .ok (.getfield 15, 3)) fw_X2_15 rfl
theorem o28_38 : Okp RX2 cX2_sendsBare 4 (some .boolean) "sendsBare" false 38 (sLI 1 39) := ok_iload_n (by decide +kernel : decode cX2_sendsBare 38 = .ok (.iload_n 1, 1)) rfl
theorem o28_39 : Okp RX2 cX2_sendsBare 4 (some .boolean) "sendsBare" false 39 (sIA 40) := ok_iaload (by decide +kernel : decode cX2_sendsBare 39 = .ok (.iaload, 1))
theorem o28_40 : Okp RX2 cX2_sendsBare 4 (some .boolean) "sendsBare" false 40 (sI2 3 61 43) := ok_icmp_ge (by decide +kernel : decode cX2_sendsBare 40 = .ok (.if_icmp .ge 21, 3)) (by decide)
theorem o28_43 : Okp RX2 cX2_sendsBare 4 (some .boolean) "sendsBare" false 43 (sLR 0 44) := ok_aload_n (by decide +kernel : decode cX2_sendsBare 43 = .ok (.aload_n 0, 1)) rfl
theorem o28_44 : Okp RX2 cX2_sendsBare 4 (some .boolean) "sendsBare" false 44 (sGR 3 3 47) := ok_getR (by decide +kernel : decode cX2_sendsBare 44 = .ok (.getfield 18, 3)) fw_X2_18 rfl
theorem o28_47 : Okp RX2 cX2_sendsBare 4 (some .boolean) "sendsBare" false 47 (sLI 1 48) := ok_iload_n (by decide +kernel : decode cX2_sendsBare 47 = .ok (.iload_n 1, 1)) rfl
theorem o28_48 : Okp RX2 cX2_sendsBare 4 (some .boolean) "sendsBare" false 48 (sK 4 49) := ok_iconst (by decide +kernel : decode cX2_sendsBare 48 = .ok (.iconst 4, 1)) (by decide)
theorem o28_49 : Okp RX2 cX2_sendsBare 4 (some .boolean) "sendsBare" false 49 (sB2 fMul 50) := ok_imul (by decide +kernel : decode cX2_sendsBare 49 = .ok (.imul, 1))
theorem o28_50 : Okp RX2 cX2_sendsBare 4 (some .boolean) "sendsBare" false 50 (sLI 3 51) := ok_iload_n (by decide +kernel : decode cX2_sendsBare 50 = .ok (.iload_n 3, 1)) rfl
theorem o28_51 : Okp RX2 cX2_sendsBare 4 (some .boolean) "sendsBare" false 51 (sB2 fAdd 52) := ok_iadd (by decide +kernel : decode cX2_sendsBare 51 = .ok (.iadd, 1))
theorem o28_52 : Okp RX2 cX2_sendsBare 4 (some .boolean) "sendsBare" false 52 (sIA 53) := ok_iaload (by decide +kernel : decode cX2_sendsBare 52 = .ok (.iaload, 1))
theorem o28_53 : Okp RX2 cX2_sendsBare 4 (some .boolean) "sendsBare" false 53 (sK (-1) 54) := ok_iconst (by decide +kernel : decode cX2_sendsBare 53 = .ok (.iconst (-1), 1)) (by decide)
theorem o28_54 : Okp RX2 cX2_sendsBare 4 (some .boolean) "sendsBare" false 54 (sI2 1 61 57) := ok_icmp_ne (by decide +kernel : decode cX2_sendsBare 54 = .ok (.if_icmp .ne 7, 3)) (by decide)
theorem o28_57 : Okp RX2 cX2_sendsBare 4 (some .boolean) "sendsBare" false 57 (sK 1 58) := ok_iconst (by decide +kernel : decode cX2_sendsBare 57 = .ok (.iconst 1, 1)) (by decide)
theorem o28_58 : Okp RX2 cX2_sendsBare 4 (some .boolean) "sendsBare" false 58 (sGo 62) := ok_goto (by decide +kernel : decode cX2_sendsBare 58 = .ok (.goto 4, 3)) (by decide)
theorem o28_61 : Okp RX2 cX2_sendsBare 4 (some .boolean) "sendsBare" false 61 (sK 0 62) := ok_iconst (by decide +kernel : decode cX2_sendsBare 61 = .ok (.iconst 0, 1)) (by decide)
theorem o28_62 : Okp RX2 cX2_sendsBare 4 (some .boolean) "sendsBare" false 62 sRZ := ok_zret rfl (by decide +kernel : decode cX2_sendsBare 62 = .ok (.ireturn, 1))
theorem oc28_0 : ∀ pc, Mnp (c28_0 pc) ∧ Okp RX2 cX2_sendsBare 4 (some .boolean) "sendsBare" false pc (c28_0 pc) := by
  intro pc
  unfold c28_0
  split
  · exact ⟨mn_sLI, o28_0⟩
  · exact ⟨mn_sI1, o28_1⟩
  · exact ⟨mn_sLI, o28_4⟩
  · exact ⟨mn_sK, o28_5⟩
  · exact ⟨mn_sI2, o28_7⟩
  · exact ⟨mn_sLI, o28_10⟩
  · exact ⟨mn_sI1, o28_11⟩
  · exact ⟨mn_sLI, o28_14⟩
  · exact ⟨mn_sK, o28_15⟩
  · exact ⟨mn_sI2, o28_16⟩
  · exact ⟨mn_sK, o28_19⟩
  · exact ⟨mn_sRZ, o28_20⟩
  · exact ⟨mn_sLR, o28_21⟩
  · exact ⟨mn_sGR, o28_22⟩
  · exact ⟨mn_sX, ok_X⟩
theorem oc28_1 : ∀ pc, Mnp (c28_1 pc) ∧ Okp RX2 cX2_sendsBare 4 (some .boolean) "sendsBare" false pc (c28_1 pc) := by
  intro pc
  unfold c28_1
  split
  · exact ⟨mn_sLI, o28_25⟩
  · exact ⟨mn_sIA, o28_26⟩
  · exact ⟨mn_sLI, o28_27⟩
  · exact ⟨mn_sK, o28_28⟩
  · exact ⟨mn_sB2, o28_29⟩
  · exact ⟨mn_sI2, o28_30⟩
  · exact ⟨mn_sLI, o28_33⟩
  · exact ⟨mn_sLR, o28_34⟩
  · exact ⟨mn_sGR, o28_35⟩
  · exact ⟨mn_sLI, o28_38⟩
  · exact ⟨mn_sIA, o28_39⟩
  · exact ⟨mn_sI2, o28_40⟩
  · exact ⟨mn_sLR, o28_43⟩
  · exact ⟨mn_sGR, o28_44⟩
  · exact ⟨mn_sLI, o28_47⟩
  · exact ⟨mn_sX, ok_X⟩
theorem oc28_2 : ∀ pc, Mnp (c28_2 pc) ∧ Okp RX2 cX2_sendsBare 4 (some .boolean) "sendsBare" false pc (c28_2 pc) := by
  intro pc
  unfold c28_2
  split
  · exact ⟨mn_sK, o28_48⟩
  · exact ⟨mn_sB2, o28_49⟩
  · exact ⟨mn_sLI, o28_50⟩
  · exact ⟨mn_sB2, o28_51⟩
  · exact ⟨mn_sIA, o28_52⟩
  · exact ⟨mn_sK, o28_53⟩
  · exact ⟨mn_sI2, o28_54⟩
  · exact ⟨mn_sK, o28_57⟩
  · exact ⟨mn_sGo, o28_58⟩
  · exact ⟨mn_sK, o28_61⟩
  · exact ⟨mn_sRZ, o28_62⟩
  · exact ⟨mn_sX, ok_X⟩
theorem oc28 : ∀ pc, Mnp (c28 pc) ∧ Okp RX2 cX2_sendsBare 4 (some .boolean) "sendsBare" false pc (c28 pc) := by
  intro pc
  unfold c28
  split
  · exact oc28_0 pc
  · exact oc28_1 pc
  · exact oc28_2 pc
  · exact ⟨mn_sX, ok_X⟩
theorem o29_0 : Okp RX3 cX3_init 1 none "<init>" false 0 (sLR 0 1) := ok_aload_n (by decide +kernel : decode cX3_init 0 = .ok (.aload_n 0, 1)) rfl
theorem o29_1 : Okp RX3 cX3_init 1 none "<init>" false 1 (sCt 4) := ok_oinit (by decide +kernel : decode cX3_init 1 = .ok (.invokespecial 5, 3)) wq_X3_5 wq_i wq_c
theorem o29_4 : Okp RX3 cX3_init 1 none "<init>" false 4 (sLR 0 5) := ok_aload_n (by decide +kernel : decode cX3_init 4 = .ok (.aload_n 0, 1)) rfl
theorem o29_5 : Okp RX3 cX3_init 1 none "<init>" false 5 (sNew 2 6 8) := ok_new (by decide +kernel : decode cX3_init 5 = .ok (.new 11, 3)) ⟨rfl, rfl, by decide, cw_X1, tyX1_ok, wl_X3_11, wn_X1, wi_SealedProcesses_Bytes, df_X1⟩
theorem o29_8 : Okp RX3 cX3_init 1 none "<init>" false 8 (sDup 9) := ok_dup (by decide +kernel : decode cX3_init 8 = .ok (.dup, 1))
theorem o29_9 : Okp RX3 cX3_init 1 none "<init>" false 9 (sCI 10 1 12) := ok_ci (by decide +kernel : decode cX3_init 9 = .ok (.invokespecial 13, 3)) mw_X3_13 rfl rfl wm_X1_init (by decide) rfl
theorem o29_12 : Okp RX3 cX3_init 1 none "<init>" false 12 (sPR 4 0 15) := ok_putR (by decide +kernel : decode cX3_init 12 = .ok (.putfield 14, 3)) fw_X3_14 ⟨⟨tyX3_ok, nmX3⟩, Or.inr ⟨rfl, rfl, rfl⟩, rfl⟩ (Or.inl ⟨_, rfl⟩) rfl
theorem o29_15 : Okp RX3 cX3_init 1 none "<init>" false 15 (sLR 0 16) := ok_aload_n (by decide +kernel : decode cX3_init 15 = .ok (.aload_n 0, 1)) rfl
theorem o29_16 : Okp RX3 cX3_init 1 none "<init>" false 16 (sK 0 17) := ok_iconst (by decide +kernel : decode cX3_init 16 = .ok (.iconst 0, 1)) (by decide)
theorem o29_17 : Okp RX3 cX3_init 1 none "<init>" false 17 (sPZ 4 1 20) := ok_putZ (by decide +kernel : decode cX3_init 17 = .ok (.putfield 18, 3)) fw_X3_18 ⟨⟨tyX3_ok, nmX3⟩, Or.inl rfl, rfl⟩ rfl
theorem o29_20 : Okp RX3 cX3_init 1 none "<init>" false 20 sRV := ok_vret rfl (by decide +kernel : decode cX3_init 20 = .ok (.return_, 1))
theorem oc29 : ∀ pc, Mnp (c29 pc) ∧ Okp RX3 cX3_init 1 none "<init>" false pc (c29 pc) := by
  intro pc
  unfold c29
  split
  · exact ⟨mn_sLR, o29_0⟩
  · exact ⟨mn_sCt, o29_1⟩
  · exact ⟨mn_sLR, o29_4⟩
  · exact ⟨mn_sNew, o29_5⟩
  · exact ⟨mn_sDup, o29_8⟩
  · exact ⟨mn_sCI, o29_9⟩
  · exact ⟨mn_sPR, o29_12⟩
  · exact ⟨mn_sLR, o29_15⟩
  · exact ⟨mn_sK, o29_16⟩
  · exact ⟨mn_sPZ, o29_17⟩
  · exact ⟨mn_sRV, o29_20⟩
  · exact ⟨mn_sX, ok_X⟩
theorem o30_0 : Okp RX3 cX3_decode 4 (some (.object "SealedProcesses$Bytes")) "decode" false 0 (sLR 0 1) := ok_aload_n (by decide +kernel : decode cX3_decode 0 = .ok (.aload_n 0, 1)) rfl
theorem o30_1 : Okp RX3 cX3_decode 4 (some (.object "SealedProcesses$Bytes")) "decode" false 1 (sGR 4 0 4) := ok_getR (by decide +kernel : decode cX3_decode 1 = .ok (.getfield 14, 3)) fw_X3_14 rfl
theorem o30_4 : Okp RX3 cX3_decode 4 (some (.object "SealedProcesses$Bytes")) "decode" false 4 (sLR 1 5) := ok_aload_n (by decide +kernel : decode cX3_decode 4 = .ok (.aload_n 1, 1)) rfl
theorem o30_5 : Okp RX3 cX3_decode 4 (some (.object "SealedProcesses$Bytes")) "decode" false 5 (sGR 10 0 8) := ok_getR (by decide +kernel : decode cX3_decode 5 = .ok (.getfield 22, 3)) fw_X3_22 rfl
theorem o30_8 : Okp RX3 cX3_decode 4 (some (.object "SealedProcesses$Bytes")) "decode" false 8 (sLR 1 9) := ok_aload_n (by decide +kernel : decode cX3_decode 8 = .ok (.aload_n 1, 1)) rfl
theorem o30_9 : Okp RX3 cX3_decode 4 (some (.object "SealedProcesses$Bytes")) "decode" false 9 (sGI 10 1 12) := ok_getI (by decide +kernel : decode cX3_decode 9 = .ok (.getfield 27, 3)) fw_X3_27 rfl
theorem o30_12 : Okp RX3 cX3_decode 4 (some (.object "SealedProcesses$Bytes")) "decode" false 12 (sCV false 11 3 2 15) := ok_cv (by decide +kernel : decode cX3_decode 12 = .ok (.invokevirtual 31, 3)) mw_X3_31 rfl (by decide) wm_X1_startOver wse_X1_startOver (by decide) rfl
theorem o30_15 : Okp RX3 cX3_decode 4 (some (.object "SealedProcesses$Bytes")) "decode" false 15 (sK 0 16) := ok_iconst (by decide +kernel : decode cX3_decode 15 = .ok (.iconst 0, 1)) (by decide)
theorem o30_16 : Okp RX3 cX3_decode 4 (some (.object "SealedProcesses$Bytes")) "decode" false 16 (sSI 2 17) := ok_istore_n (by decide +kernel : decode cX3_decode 16 = .ok (.istore_n 2, 1)) rfl (by decide) (by decide)
theorem o30_17 : Okp RX3 cX3_decode 4 (some (.object "SealedProcesses$Bytes")) "decode" false 17 (sLI 2 18) := ok_iload_n (by decide +kernel : decode cX3_decode 17 = .ok (.iload_n 2, 1)) rfl
theorem o30_18 : Okp RX3 cX3_decode 4 (some (.object "SealedProcesses$Bytes")) "decode" false 18 (sK 2 19) := ok_iconst (by decide +kernel : decode cX3_decode 18 = .ok (.iconst 2, 1)) (by decide)
theorem o30_19 : Okp RX3 cX3_decode 4 (some (.object "SealedProcesses$Bytes")) "decode" false 19 (sI2 3 235 22) := ok_icmp_ge (by decide +kernel : decode cX3_decode 19 = .ok (.if_icmp .ge 216, 3)) (by decide)
theorem o30_22 : Okp RX3 cX3_decode 4 (some (.object "SealedProcesses$Bytes")) "decode" false 22 (sLR 0 23) := ok_aload_n (by decide +kernel : decode cX3_decode 22 = .ok (.aload_n 0, 1)) rfl
theorem o30_23 : Okp RX3 cX3_decode 4 (some (.object "SealedProcesses$Bytes")) "decode" false 23 (sGR 4 0 26) := ok_getR (by decide +kernel : decode cX3_decode 23 = .ok (.getfield 14, 3)) fw_X3_14 rfl
theorem o30_26 : Okp RX3 cX3_decode 4 (some (.object "SealedProcesses$Bytes")) "decode" false 26 (sCV false 12 1 2 29) := ok_cv (by decide +kernel : decode cX3_decode 26 = .ok (.invokevirtual 35, 3)) mw_X3_35 rfl (by decide) wm_X1_isRight wse_X1_isRight (by decide) rfl
theorem o30_29 : Okp RX3 cX3_decode 4 (some (.object "SealedProcesses$Bytes")) "decode" false 29 (sI1 0 235 32) := ok_if_eq (by decide +kernel : decode cX3_decode 29 = .ok (.ifCond .eq 206, 3)) (by decide)
theorem o30_32 : Okp RX3 cX3_decode 4 (some (.object "SealedProcesses$Bytes")) "decode" false 32 (sLR 0 33) := ok_aload_n (by decide +kernel : decode cX3_decode 32 = .ok (.aload_n 0, 1)) rfl
theorem o30_33 : Okp RX3 cX3_decode 4 (some (.object "SealedProcesses$Bytes")) "decode" false 33 (sGR 4 0 36) := ok_getR (by decide +kernel : decode cX3_decode 33 = .ok (.getfield 14, 3)) fw_X3_14 rfl
theorem o30_36 : Okp RX3 cX3_decode 4 (some (.object "SealedProcesses$Bytes")) "decode" false 36 (sLR 1 37) := ok_aload_n (by decide +kernel : decode cX3_decode 36 = .ok (.aload_n 1, 1)) rfl
theorem o30_37 : Okp RX3 cX3_decode 4 (some (.object "SealedProcesses$Bytes")) "decode" false 37 (sGR 10 0 40) := ok_getR (by decide +kernel : decode cX3_decode 37 = .ok (.getfield 22, 3)) fw_X3_22 rfl
theorem o30_40 : Okp RX3 cX3_decode 4 (some (.object "SealedProcesses$Bytes")) "decode" false 40 (sLR 1 41) := ok_aload_n (by decide +kernel : decode cX3_decode 40 = .ok (.aload_n 1, 1)) rfl
theorem o30_41 : Okp RX3 cX3_decode 4 (some (.object "SealedProcesses$Bytes")) "decode" false 41 (sGI 10 1 44) := ok_getI (by decide +kernel : decode cX3_decode 41 = .ok (.getfield 27, 3)) fw_X3_27 rfl
theorem o30_44 : Okp RX3 cX3_decode 4 (some (.object "SealedProcesses$Bytes")) "decode" false 44 (sCV false 11 3 2 47) := ok_cv (by decide +kernel : decode cX3_decode 44 = .ok (.invokevirtual 31, 3)) mw_X3_31 rfl (by decide) wm_X1_startOver wse_X1_startOver (by decide) rfl
theorem o30_47 : Okp RX3 cX3_decode 4 (some (.object "SealedProcesses$Bytes")) "decode" false 47 (sLR 0 48) := ok_aload_n (by decide +kernel : decode cX3_decode 47 = .ok (.aload_n 0, 1)) rfl
theorem o30_48 : Okp RX3 cX3_decode 4 (some (.object "SealedProcesses$Bytes")) "decode" false 48 (sLI 2 49) := ok_iload_n (by decide +kernel : decode cX3_decode 48 = .ok (.iload_n 2, 1)) rfl
theorem o30_49 : Okp RX3 cX3_decode 4 (some (.object "SealedProcesses$Bytes")) "decode" false 49 (sK 1 50) := ok_iconst (by decide +kernel : decode cX3_decode 49 = .ok (.iconst 1, 1)) (by decide)
theorem o30_50 : Okp RX3 cX3_decode 4 (some (.object "SealedProcesses$Bytes")) "decode" false 50 (sI2 1 57 53) := ok_icmp_ne (by decide +kernel : decode cX3_decode 50 = .ok (.if_icmp .ne 7, 3)) (by decide)
theorem o30_53 : Okp RX3 cX3_decode 4 (some (.object "SealedProcesses$Bytes")) "decode" false 53 (sK 1 54) := ok_iconst (by decide +kernel : decode cX3_decode 53 = .ok (.iconst 1, 1)) (by decide)
theorem o30_54 : Okp RX3 cX3_decode 4 (some (.object "SealedProcesses$Bytes")) "decode" false 54 (sGo 58) := ok_goto (by decide +kernel : decode cX3_decode 54 = .ok (.goto 4, 3)) (by decide)
theorem o30_57 : Okp RX3 cX3_decode 4 (some (.object "SealedProcesses$Bytes")) "decode" false 57 (sK 0 58) := ok_iconst (by decide +kernel : decode cX3_decode 57 = .ok (.iconst 0, 1)) (by decide)
theorem o30_58 : Okp RX3 cX3_decode 4 (some (.object "SealedProcesses$Bytes")) "decode" false 58 (sPZ 4 1 61) := ok_putZ (by decide +kernel : decode cX3_decode 58 = .ok (.putfield 18, 3)) fw_X3_18 ⟨⟨tyX3_ok, nmX3⟩, Or.inl rfl, rfl⟩ rfl
theorem o30_61 : Okp RX3 cX3_decode 4 (some (.object "SealedProcesses$Bytes")) "decode" false 61 (sLR 0 62) := ok_aload_n (by decide +kernel : decode cX3_decode 61 = .ok (.aload_n 0, 1)) rfl
theorem o30_62 : Okp RX3 cX3_decode 4 (some (.object "SealedProcesses$Bytes")) "decode" false 62 (sGR 4 0 65) := ok_getR (by decide +kernel : decode cX3_decode 62 = .ok (.getfield 14, 3)) fw_X3_14 rfl
theorem o30_65 : Okp RX3 cX3_decode 4 (some (.object "SealedProcesses$Bytes")) "decode" false 65 (sK 83 67) := ok_bipush (by decide +kernel : decode cX3_decode 65 = .ok (.bipush 83, 2)) (by decide)
theorem o30_67 : Okp RX3 cX3_decode 4 (some (.object "SealedProcesses$Bytes")) "decode" false 67 (sK 83 69) := ok_bipush (by decide +kernel : decode cX3_decode 67 = .ok (.bipush 83, 2)) (by decide)
theorem o30_69 : Okp RX3 cX3_decode 4 (some (.object "SealedProcesses$Bytes")) "decode" false 69 (sCV false 16 3 2 72) := ok_cv (by decide +kernel : decode cX3_decode 69 = .ok (.invokevirtual 39, 3)) mw_X3_39 rfl (by decide) wm_X1_takeWithin wse_X1_takeWithin (by decide) rfl
theorem o30_72 : Okp RX3 cX3_decode 4 (some (.object "SealedProcesses$Bytes")) "decode" false 72 (sPop 73) := ok_pop (by decide +kernel : decode cX3_decode 72 = .ok (.pop, 1))
theorem o30_73 : Okp RX3 cX3_decode 4 (some (.object "SealedProcesses$Bytes")) "decode" false 73 (sLR 0 74) := ok_aload_n (by decide +kernel : decode cX3_decode 73 = .ok (.aload_n 0, 1)) rfl
theorem o30_74 : Okp RX3 cX3_decode 4 (some (.object "SealedProcesses$Bytes")) "decode" false 74 (sGR 4 0 77) := ok_getR (by decide +kernel : decode cX3_decode 74 = .ok (.getfield 14, 3)) fw_X3_14 rfl
theorem o30_77 : Okp RX3 cX3_decode 4 (some (.object "SealedProcesses$Bytes")) "decode" false 77 (sK 77 79) := ok_bipush (by decide +kernel : decode cX3_decode 77 = .ok (.bipush 77, 2)) (by decide)
theorem o30_79 : Okp RX3 cX3_decode 4 (some (.object "SealedProcesses$Bytes")) "decode" false 79 (sK 77 81) := ok_bipush (by decide +kernel : decode cX3_decode 79 = .ok (.bipush 77, 2)) (by decide)
theorem o30_81 : Okp RX3 cX3_decode 4 (some (.object "SealedProcesses$Bytes")) "decode" false 81 (sCV false 16 3 2 84) := ok_cv (by decide +kernel : decode cX3_decode 81 = .ok (.invokevirtual 39, 3)) mw_X3_39 rfl (by decide) wm_X1_takeWithin wse_X1_takeWithin (by decide) rfl
theorem o30_84 : Okp RX3 cX3_decode 4 (some (.object "SealedProcesses$Bytes")) "decode" false 84 (sPop 85) := ok_pop (by decide +kernel : decode cX3_decode 84 = .ok (.pop, 1))
theorem o30_85 : Okp RX3 cX3_decode 4 (some (.object "SealedProcesses$Bytes")) "decode" false 85 (sLR 1 86) := ok_aload_n (by decide +kernel : decode cX3_decode 85 = .ok (.aload_n 1, 1)) rfl
theorem o30_86 : Okp RX3 cX3_decode 4 (some (.object "SealedProcesses$Bytes")) "decode" false 86 (sLR 0 87) := ok_aload_n (by decide +kernel : decode cX3_decode 86 = .ok (.aload_n 0, 1)) rfl
theorem o30_87 : Okp RX3 cX3_decode 4 (some (.object "SealedProcesses$Bytes")) "decode" false 87 (sGR 4 0 90) := ok_getR (by decide +kernel : decode cX3_decode 87 = .ok (.getfield 14, 3)) fw_X3_14 rfl
theorem o30_90 : Okp RX3 cX3_decode 4 (some (.object "SealedProcesses$Bytes")) "decode" false 90 (sK 0 91) := ok_iconst (by decide +kernel : decode cX3_decode 90 = .ok (.iconst 0, 1)) (by decide)
theorem o30_91 : Okp RX3 cX3_decode 4 (some (.object "SealedProcesses$Bytes")) "decode" false 91 (sK 8 93) := ok_bipush (by decide +kernel : decode cX3_decode 91 = .ok (.bipush 8, 2)) (by decide)
theorem o30_93 : Okp RX3 cX3_decode 4 (some (.object "SealedProcesses$Bytes")) "decode" false 93 (sCV false 16 3 2 96) := ok_cv (by decide +kernel : decode cX3_decode 93 = .ok (.invokevirtual 39, 3)) mw_X3_39 rfl (by decide) wm_X1_takeWithin wse_X1_takeWithin (by decide) rfl
theorem o30_96 : Okp RX3 cX3_decode 4 (some (.object "SealedProcesses$Bytes")) "decode" false 96 (sPI 10 2 99) := ok_putI (by decide +kernel : decode cX3_decode 96 = .ok (.putfield 43, 3)) fw_X3_43 ⟨⟨tyX9_ok, nmX9⟩, Or.inl rfl, rfl⟩ rfl
theorem o30_99 : Okp RX3 cX3_decode 4 (some (.object "SealedProcesses$Bytes")) "decode" false 99 (sK 0 100) := ok_iconst (by decide +kernel : decode cX3_decode 99 = .ok (.iconst 0, 1)) (by decide)
theorem o30_100 : Okp RX3 cX3_decode 4 (some (.object "SealedProcesses$Bytes")) "decode" false 100 (sSI 3 101) := ok_istore_n (by decide +kernel : decode cX3_decode 100 = .ok (.istore_n 3, 1)) rfl (by decide) (by decide)
theorem o30_101 : Okp RX3 cX3_decode 4 (some (.object "SealedProcesses$Bytes")) "decode" false 101 (sLI 3 102) := ok_iload_n (by decide +kernel : decode cX3_decode 101 = .ok (.iload_n 3, 1)) rfl
theorem o30_102 : Okp RX3 cX3_decode 4 (some (.object "SealedProcesses$Bytes")) "decode" false 102 (sLR 1 103) := ok_aload_n (by decide +kernel : decode cX3_decode 102 = .ok (.aload_n 1, 1)) rfl
theorem o30_103 : Okp RX3 cX3_decode 4 (some (.object "SealedProcesses$Bytes")) "decode" false 103 (sGI 10 2 106) := ok_getI (by decide +kernel : decode cX3_decode 103 = .ok (.getfield 43, 3)) fw_X3_43 rfl
theorem o30_106 : Okp RX3 cX3_decode 4 (some (.object "SealedProcesses$Bytes")) "decode" false 106 (sI2 3 131 109) := ok_icmp_ge (by decide +kernel : decode cX3_decode 106 = .ok (.if_icmp .ge 25, 3)) (by decide)
theorem o30_109 : Okp RX3 cX3_decode 4 (some (.object "SealedProcesses$Bytes")) "decode" false 109 (sLR 0 110) := ok_aload_n (by decide +kernel : decode cX3_decode 109 = .ok (.aload_n 0, 1)) rfl
theorem o30_110 : Okp RX3 cX3_decode 4 (some (.object "SealedProcesses$Bytes")) "decode" false 110 (sGR 4 0 113) := ok_getR (by decide +kernel : decode cX3_decode 110 = .ok (.getfield 14, 3)) fw_X3_14 rfl
theorem o30_113 : Okp RX3 cX3_decode 4 (some (.object "SealedProcesses$Bytes")) "decode" false 113 (sCV false 12 1 2 116) := ok_cv (by decide +kernel : decode cX3_decode 113 = .ok (.invokevirtual 35, 3)) mw_X3_35 rfl (by decide) wm_X1_isRight wse_X1_isRight (by decide) rfl
theorem o30_116 : Okp RX3 cX3_decode 4 (some (.object "SealedProcesses$Bytes")) "decode" false 116 (sI1 0 131 119) := ok_if_eq (by decide +kernel : decode cX3_decode 116 = .ok (.ifCond .eq 15, 3)) (by decide)
theorem o30_119 : Okp RX3 cX3_decode 4 (some (.object "SealedProcesses$Bytes")) "decode" false 119 (sLR 0 120) := ok_aload_n (by decide +kernel : decode cX3_decode 119 = .ok (.aload_n 0, 1)) rfl
theorem o30_120 : Okp RX3 cX3_decode 4 (some (.object "SealedProcesses$Bytes")) "decode" false 120 (sLR 1 121) := ok_aload_n (by decide +kernel : decode cX3_decode 120 = .ok (.aload_n 1, 1)) rfl
theorem o30_121 : Okp RX3 cX3_decode 4 (some (.object "SealedProcesses$Bytes")) "decode" false 121 (sLI 3 122) := ok_iload_n (by decide +kernel : decode cX3_decode 121 = .ok (.iload_n 3, 1)) rfl
theorem o30_122 : Okp RX3 cX3_decode 4 (some (.object "SealedProcesses$Bytes")) "decode" false 122 (sCV false 31 3 4 125) := ok_cv (by decide +kernel : decode cX3_decode 122 = .ok (.invokevirtual 46, 3)) mw_X3_46 rfl (by decide) wm_X3_walkRecord wse_X3_walkRecord (by decide) rfl
theorem o30_125 : Okp RX3 cX3_decode 4 (some (.object "SealedProcesses$Bytes")) "decode" false 125 (sInc 3 1 128) := ok_iinc (by decide +kernel : decode cX3_decode 125 = .ok (.iinc 3 1, 3)) (by decide) (by decide)
theorem o30_128 : Okp RX3 cX3_decode 4 (some (.object "SealedProcesses$Bytes")) "decode" false 128 (sGo 101) := ok_goto (by decide +kernel : decode cX3_decode 128 = .ok (.goto (-27), 3)) (by decide)
theorem o30_131 : Okp RX3 cX3_decode 4 (some (.object "SealedProcesses$Bytes")) "decode" false 131 (sLR 1 132) := ok_aload_n (by decide +kernel : decode cX3_decode 131 = .ok (.aload_n 1, 1)) rfl
theorem o30_132 : Okp RX3 cX3_decode 4 (some (.object "SealedProcesses$Bytes")) "decode" false 132 (sLR 0 133) := ok_aload_n (by decide +kernel : decode cX3_decode 132 = .ok (.aload_n 0, 1)) rfl
theorem o30_133 : Okp RX3 cX3_decode 4 (some (.object "SealedProcesses$Bytes")) "decode" false 133 (sGR 4 0 136) := ok_getR (by decide +kernel : decode cX3_decode 133 = .ok (.getfield 14, 3)) fw_X3_14 rfl
theorem o30_136 : Okp RX3 cX3_decode 4 (some (.object "SealedProcesses$Bytes")) "decode" false 136 (sK 0 137) := ok_iconst (by decide +kernel : decode cX3_decode 136 = .ok (.iconst 0, 1)) (by decide)
theorem o30_137 : Okp RX3 cX3_decode 4 (some (.object "SealedProcesses$Bytes")) "decode" false 137 (sK 4 138) := ok_iconst (by decide +kernel : decode cX3_decode 137 = .ok (.iconst 4, 1)) (by decide)
theorem o30_138 : Okp RX3 cX3_decode 4 (some (.object "SealedProcesses$Bytes")) "decode" false 138 (sCV false 16 3 2 141) := ok_cv (by decide +kernel : decode cX3_decode 138 = .ok (.invokevirtual 39, 3)) mw_X3_39 rfl (by decide) wm_X1_takeWithin wse_X1_takeWithin (by decide) rfl
theorem o30_141 : Okp RX3 cX3_decode 4 (some (.object "SealedProcesses$Bytes")) "decode" false 141 (sPI 10 6 144) := ok_putI (by decide +kernel : decode cX3_decode 141 = .ok (.putfield 50, 3)) fw_X3_50 ⟨⟨tyX9_ok, nmX9⟩, Or.inl rfl, rfl⟩ rfl
theorem o30_144 : Okp RX3 cX3_decode 4 (some (.object "SealedProcesses$Bytes")) "decode" false 144 (sK 0 145) := ok_iconst (by decide +kernel : decode cX3_decode 144 = .ok (.iconst 0, 1)) (by decide)
theorem o30_145 : Okp RX3 cX3_decode 4 (some (.object "SealedProcesses$Bytes")) "decode" false 145 (sSI 3 146) := ok_istore_n (by decide +kernel : decode cX3_decode 145 = .ok (.istore_n 3, 1)) rfl (by decide) (by decide)
theorem o30_146 : Okp RX3 cX3_decode 4 (some (.object "SealedProcesses$Bytes")) "decode" false 146 (sLI 3 147) := ok_iload_n (by decide +kernel : decode cX3_decode 146 = .ok (.iload_n 3, 1)) rfl
theorem o30_147 : Okp RX3 cX3_decode 4 (some (.object "SealedProcesses$Bytes")) "decode" false 147 (sLR 1 148) := ok_aload_n (by decide +kernel : decode cX3_decode 147 = .ok (.aload_n 1, 1)) rfl
theorem o30_148 : Okp RX3 cX3_decode 4 (some (.object "SealedProcesses$Bytes")) "decode" false 148 (sGI 10 6 151) := ok_getI (by decide +kernel : decode cX3_decode 148 = .ok (.getfield 50, 3)) fw_X3_50 rfl
theorem o30_151 : Okp RX3 cX3_decode 4 (some (.object "SealedProcesses$Bytes")) "decode" false 151 (sI2 3 176 154) := ok_icmp_ge (by decide +kernel : decode cX3_decode 151 = .ok (.if_icmp .ge 25, 3)) (by decide)
theorem o30_154 : Okp RX3 cX3_decode 4 (some (.object "SealedProcesses$Bytes")) "decode" false 154 (sLR 0 155) := ok_aload_n (by decide +kernel : decode cX3_decode 154 = .ok (.aload_n 0, 1)) rfl
theorem o30_155 : Okp RX3 cX3_decode 4 (some (.object "SealedProcesses$Bytes")) "decode" false 155 (sGR 4 0 158) := ok_getR (by decide +kernel : decode cX3_decode 155 = .ok (.getfield 14, 3)) fw_X3_14 rfl
theorem o30_158 : Okp RX3 cX3_decode 4 (some (.object "SealedProcesses$Bytes")) "decode" false 158 (sCV false 12 1 2 161) := ok_cv (by decide +kernel : decode cX3_decode 158 = .ok (.invokevirtual 35, 3)) mw_X3_35 rfl (by decide) wm_X1_isRight wse_X1_isRight (by decide) rfl
theorem o30_161 : Okp RX3 cX3_decode 4 (some (.object "SealedProcesses$Bytes")) "decode" false 161 (sI1 0 176 164) := ok_if_eq (by decide +kernel : decode cX3_decode 161 = .ok (.ifCond .eq 15, 3)) (by decide)
theorem o30_164 : Okp RX3 cX3_decode 4 (some (.object "SealedProcesses$Bytes")) "decode" false 164 (sLR 0 165) := ok_aload_n (by decide +kernel : decode cX3_decode 164 = .ok (.aload_n 0, 1)) rfl
theorem o30_165 : Okp RX3 cX3_decode 4 (some (.object "SealedProcesses$Bytes")) "decode" false 165 (sLR 1 166) := ok_aload_n (by decide +kernel : decode cX3_decode 165 = .ok (.aload_n 1, 1)) rfl
theorem o30_166 : Okp RX3 cX3_decode 4 (some (.object "SealedProcesses$Bytes")) "decode" false 166 (sLI 3 167) := ok_iload_n (by decide +kernel : decode cX3_decode 166 = .ok (.iload_n 3, 1)) rfl
theorem o30_167 : Okp RX3 cX3_decode 4 (some (.object "SealedProcesses$Bytes")) "decode" false 167 (sCV false 32 3 4 170) := ok_cv (by decide +kernel : decode cX3_decode 167 = .ok (.invokevirtual 53, 3)) mw_X3_53 rfl (by decide) wm_X3_walkContract wse_X3_walkContract (by decide) rfl
theorem o30_170 : Okp RX3 cX3_decode 4 (some (.object "SealedProcesses$Bytes")) "decode" false 170 (sInc 3 1 173) := ok_iinc (by decide +kernel : decode cX3_decode 170 = .ok (.iinc 3 1, 3)) (by decide) (by decide)
theorem o30_173 : Okp RX3 cX3_decode 4 (some (.object "SealedProcesses$Bytes")) "decode" false 173 (sGo 146) := ok_goto (by decide +kernel : decode cX3_decode 173 = .ok (.goto (-27), 3)) (by decide)
theorem o30_176 : Okp RX3 cX3_decode 4 (some (.object "SealedProcesses$Bytes")) "decode" false 176 (sLR 1 177) := ok_aload_n (by decide +kernel : decode cX3_decode 176 = .ok (.aload_n 1, 1)) rfl
theorem o30_177 : Okp RX3 cX3_decode 4 (some (.object "SealedProcesses$Bytes")) "decode" false 177 (sLR 0 178) := ok_aload_n (by decide +kernel : decode cX3_decode 177 = .ok (.aload_n 0, 1)) rfl
theorem o30_178 : Okp RX3 cX3_decode 4 (some (.object "SealedProcesses$Bytes")) "decode" false 178 (sGR 4 0 181) := ok_getR (by decide +kernel : decode cX3_decode 178 = .ok (.getfield 14, 3)) fw_X3_14 rfl
theorem o30_181 : Okp RX3 cX3_decode 4 (some (.object "SealedProcesses$Bytes")) "decode" false 181 (sK 1 182) := ok_iconst (by decide +kernel : decode cX3_decode 181 = .ok (.iconst 1, 1)) (by decide)
theorem o30_182 : Okp RX3 cX3_decode 4 (some (.object "SealedProcesses$Bytes")) "decode" false 182 (sK 10 184) := ok_bipush (by decide +kernel : decode cX3_decode 182 = .ok (.bipush 10, 2)) (by decide)
theorem o30_184 : Okp RX3 cX3_decode 4 (some (.object "SealedProcesses$Bytes")) "decode" false 184 (sCV false 16 3 2 187) := ok_cv (by decide +kernel : decode cX3_decode 184 = .ok (.invokevirtual 39, 3)) mw_X3_39 rfl (by decide) wm_X1_takeWithin wse_X1_takeWithin (by decide) rfl
theorem o30_187 : Okp RX3 cX3_decode 4 (some (.object "SealedProcesses$Bytes")) "decode" false 187 (sPI 10 8 190) := ok_putI (by decide +kernel : decode cX3_decode 187 = .ok (.putfield 56, 3)) fw_X3_56 ⟨⟨tyX9_ok, nmX9⟩, Or.inl rfl, rfl⟩ rfl
theorem o30_190 : Okp RX3 cX3_decode 4 (some (.object "SealedProcesses$Bytes")) "decode" false 190 (sK 0 191) := ok_iconst (by decide +kernel : decode cX3_decode 190 = .ok (.iconst 0, 1)) (by decide)
theorem o30_191 : Okp RX3 cX3_decode 4 (some (.object "SealedProcesses$Bytes")) "decode" false 191 (sSI 3 192) := ok_istore_n (by decide +kernel : decode cX3_decode 191 = .ok (.istore_n 3, 1)) rfl (by decide) (by decide)
theorem o30_192 : Okp RX3 cX3_decode 4 (some (.object "SealedProcesses$Bytes")) "decode" false 192 (sLI 3 193) := ok_iload_n (by decide +kernel : decode cX3_decode 192 = .ok (.iload_n 3, 1)) rfl
theorem o30_193 : Okp RX3 cX3_decode 4 (some (.object "SealedProcesses$Bytes")) "decode" false 193 (sLR 1 194) := ok_aload_n (by decide +kernel : decode cX3_decode 193 = .ok (.aload_n 1, 1)) rfl
theorem o30_194 : Okp RX3 cX3_decode 4 (some (.object "SealedProcesses$Bytes")) "decode" false 194 (sGI 10 8 197) := ok_getI (by decide +kernel : decode cX3_decode 194 = .ok (.getfield 56, 3)) fw_X3_56 rfl
theorem o30_197 : Okp RX3 cX3_decode 4 (some (.object "SealedProcesses$Bytes")) "decode" false 197 (sI2 3 222 200) := ok_icmp_ge (by decide +kernel : decode cX3_decode 197 = .ok (.if_icmp .ge 25, 3)) (by decide)
theorem o30_200 : Okp RX3 cX3_decode 4 (some (.object "SealedProcesses$Bytes")) "decode" false 200 (sLR 0 201) := ok_aload_n (by decide +kernel : decode cX3_decode 200 = .ok (.aload_n 0, 1)) rfl
theorem o30_201 : Okp RX3 cX3_decode 4 (some (.object "SealedProcesses$Bytes")) "decode" false 201 (sGR 4 0 204) := ok_getR (by decide +kernel : decode cX3_decode 201 = .ok (.getfield 14, 3)) fw_X3_14 rfl
theorem o30_204 : Okp RX3 cX3_decode 4 (some (.object "SealedProcesses$Bytes")) "decode" false 204 (sCV false 12 1 2 207) := ok_cv (by decide +kernel : decode cX3_decode 204 = .ok (.invokevirtual 35, 3)) mw_X3_35 rfl (by decide) wm_X1_isRight wse_X1_isRight (by decide) rfl
theorem o30_207 : Okp RX3 cX3_decode 4 (some (.object "SealedProcesses$Bytes")) "decode" false 207 (sI1 0 222 210) := ok_if_eq (by decide +kernel : decode cX3_decode 207 = .ok (.ifCond .eq 15, 3)) (by decide)
theorem o30_210 : Okp RX3 cX3_decode 4 (some (.object "SealedProcesses$Bytes")) "decode" false 210 (sLR 0 211) := ok_aload_n (by decide +kernel : decode cX3_decode 210 = .ok (.aload_n 0, 1)) rfl
theorem o30_211 : Okp RX3 cX3_decode 4 (some (.object "SealedProcesses$Bytes")) "decode" false 211 (sLR 1 212) := ok_aload_n (by decide +kernel : decode cX3_decode 211 = .ok (.aload_n 1, 1)) rfl
theorem o30_212 : Okp RX3 cX3_decode 4 (some (.object "SealedProcesses$Bytes")) "decode" false 212 (sLI 3 213) := ok_iload_n (by decide +kernel : decode cX3_decode 212 = .ok (.iload_n 3, 1)) rfl
theorem o30_213 : Okp RX3 cX3_decode 4 (some (.object "SealedProcesses$Bytes")) "decode" false 213 (sCV false 33 3 4 216) := ok_cv (by decide +kernel : decode cX3_decode 213 = .ok (.invokevirtual 59, 3)) mw_X3_59 rfl (by decide) wm_X3_walkFunction wse_X3_walkFunction (by decide) rfl
theorem o30_216 : Okp RX3 cX3_decode 4 (some (.object "SealedProcesses$Bytes")) "decode" false 216 (sInc 3 1 219) := ok_iinc (by decide +kernel : decode cX3_decode 216 = .ok (.iinc 3 1, 3)) (by decide) (by decide)
theorem o30_219 : Okp RX3 cX3_decode 4 (some (.object "SealedProcesses$Bytes")) "decode" false 219 (sGo 192) := ok_goto (by decide +kernel : decode cX3_decode 219 = .ok (.goto (-27), 3)) (by decide)
theorem o30_222 : Okp RX3 cX3_decode 4 (some (.object "SealedProcesses$Bytes")) "decode" false 222 (sLR 0 223) := ok_aload_n (by decide +kernel : decode cX3_decode 222 = .ok (.aload_n 0, 1)) rfl
theorem o30_223 : Okp RX3 cX3_decode 4 (some (.object "SealedProcesses$Bytes")) "decode" false 223 (sGR 4 0 226) := ok_getR (by decide +kernel : decode cX3_decode 223 = .ok (.getfield 14, 3)) fw_X3_14 rfl
theorem o30_226 : Okp RX3 cX3_decode 4 (some (.object "SealedProcesses$Bytes")) "decode" false 226 (sCV false 18 1 2 229) := ok_cv (by decide +kernel : decode cX3_decode 226 = .ok (.invokevirtual 62, 3)) mw_X3_62 rfl (by decide) wm_X1_expectEnd wse_X1_expectEnd (by decide) rfl
theorem o30_229 : Okp RX3 cX3_decode 4 (some (.object "SealedProcesses$Bytes")) "decode" false 229 (sInc 2 1 232) := ok_iinc (by decide +kernel : decode cX3_decode 229 = .ok (.iinc 2 1, 3)) (by decide) (by decide)
theorem o30_232 : Okp RX3 cX3_decode 4 (some (.object "SealedProcesses$Bytes")) "decode" false 232 (sGo 17) := ok_goto (by decide +kernel : decode cX3_decode 232 = .ok (.goto (-215), 3)) (by decide)
theorem o30_235 : Okp RX3 cX3_decode 4 (some (.object "SealedProcesses$Bytes")) "decode" false 235 (sLR 0 236) := ok_aload_n (by decide +kernel : decode cX3_decode 235 = .ok (.aload_n 0, 1)) rfl
theorem o30_236 : Okp RX3 cX3_decode 4 (some (.object "SealedProcesses$Bytes")) "decode" false 236 (sGR 4 0 239) := ok_getR (by decide +kernel : decode cX3_decode 236 = .ok (.getfield 14, 3)) fw_X3_14 rfl
theorem o30_239 : Okp RX3 cX3_decode 4 (some (.object "SealedProcesses$Bytes")) "decode" false 239 sRR := ok_aret rfl (Or.inl ⟨_, rfl⟩) (by decide +kernel : decode cX3_decode 239 = .ok (.areturn, 1))
theorem oc30_0 : ∀ pc, Mnp (c30_0 pc) ∧ Okp RX3 cX3_decode 4 (some (.object "SealedProcesses$Bytes")) "decode" false pc (c30_0 pc) := by
  intro pc
  unfold c30_0
  split
  · exact ⟨mn_sLR, o30_0⟩
  · exact ⟨mn_sGR, o30_1⟩
  · exact ⟨mn_sLR, o30_4⟩
  · exact ⟨mn_sGR, o30_5⟩
  · exact ⟨mn_sLR, o30_8⟩
  · exact ⟨mn_sGI, o30_9⟩
  · exact ⟨mn_sCV, o30_12⟩
  · exact ⟨mn_sK, o30_15⟩
  · exact ⟨mn_sSI, o30_16⟩
  · exact ⟨mn_sLI, o30_17⟩
  · exact ⟨mn_sK, o30_18⟩
  · exact ⟨mn_sI2, o30_19⟩
  · exact ⟨mn_sLR, o30_22⟩
  · exact ⟨mn_sGR, o30_23⟩
  · exact ⟨mn_sX, ok_X⟩
theorem oc30_1 : ∀ pc, Mnp (c30_1 pc) ∧ Okp RX3 cX3_decode 4 (some (.object "SealedProcesses$Bytes")) "decode" false pc (c30_1 pc) := by
  intro pc
  unfold c30_1
  split
  · exact ⟨mn_sCV, o30_26⟩
  · exact ⟨mn_sI1, o30_29⟩
  · exact ⟨mn_sLR, o30_32⟩
  · exact ⟨mn_sGR, o30_33⟩
  · exact ⟨mn_sLR, o30_36⟩
  · exact ⟨mn_sGR, o30_37⟩
  · exact ⟨mn_sLR, o30_40⟩
  · exact ⟨mn_sGI, o30_41⟩
  · exact ⟨mn_sCV, o30_44⟩
  · exact ⟨mn_sLR, o30_47⟩
  · exact ⟨mn_sX, ok_X⟩
theorem oc30_2 : ∀ pc, Mnp (c30_2 pc) ∧ Okp RX3 cX3_decode 4 (some (.object "SealedProcesses$Bytes")) "decode" false pc (c30_2 pc) := by
  intro pc
  unfold c30_2
  split
  · exact ⟨mn_sLI, o30_48⟩
  · exact ⟨mn_sK, o30_49⟩
  · exact ⟨mn_sI2, o30_50⟩
  · exact ⟨mn_sK, o30_53⟩
  · exact ⟨mn_sGo, o30_54⟩
  · exact ⟨mn_sK, o30_57⟩
  · exact ⟨mn_sPZ, o30_58⟩
  · exact ⟨mn_sLR, o30_61⟩
  · exact ⟨mn_sGR, o30_62⟩
  · exact ⟨mn_sK, o30_65⟩
  · exact ⟨mn_sK, o30_67⟩
  · exact ⟨mn_sCV, o30_69⟩
  · exact ⟨mn_sX, ok_X⟩
theorem oc30_3 : ∀ pc, Mnp (c30_3 pc) ∧ Okp RX3 cX3_decode 4 (some (.object "SealedProcesses$Bytes")) "decode" false pc (c30_3 pc) := by
  intro pc
  unfold c30_3
  split
  · exact ⟨mn_sPop, o30_72⟩
  · exact ⟨mn_sLR, o30_73⟩
  · exact ⟨mn_sGR, o30_74⟩
  · exact ⟨mn_sK, o30_77⟩
  · exact ⟨mn_sK, o30_79⟩
  · exact ⟨mn_sCV, o30_81⟩
  · exact ⟨mn_sPop, o30_84⟩
  · exact ⟨mn_sLR, o30_85⟩
  · exact ⟨mn_sLR, o30_86⟩
  · exact ⟨mn_sGR, o30_87⟩
  · exact ⟨mn_sK, o30_90⟩
  · exact ⟨mn_sK, o30_91⟩
  · exact ⟨mn_sCV, o30_93⟩
  · exact ⟨mn_sX, ok_X⟩
theorem oc30_4 : ∀ pc, Mnp (c30_4 pc) ∧ Okp RX3 cX3_decode 4 (some (.object "SealedProcesses$Bytes")) "decode" false pc (c30_4 pc) := by
  intro pc
  unfold c30_4
  split
  · exact ⟨mn_sPI, o30_96⟩
  · exact ⟨mn_sK, o30_99⟩
  · exact ⟨mn_sSI, o30_100⟩
  · exact ⟨mn_sLI, o30_101⟩
  · exact ⟨mn_sLR, o30_102⟩
  · exact ⟨mn_sGI, o30_103⟩
  · exact ⟨mn_sI2, o30_106⟩
  · exact ⟨mn_sLR, o30_109⟩
  · exact ⟨mn_sGR, o30_110⟩
  · exact ⟨mn_sCV, o30_113⟩
  · exact ⟨mn_sI1, o30_116⟩
  · exact ⟨mn_sLR, o30_119⟩
  · exact ⟨mn_sX, ok_X⟩
theorem oc30_5 : ∀ pc, Mnp (c30_5 pc) ∧ Okp RX3 cX3_decode 4 (some (.object "SealedProcesses$Bytes")) "decode" false pc (c30_5 pc) := by
  intro pc
  unfold c30_5
  split
  · exact ⟨mn_sLR, o30_120⟩
  · exact ⟨mn_sLI, o30_121⟩
  · exact ⟨mn_sCV, o30_122⟩
  · exact ⟨mn_sInc, o30_125⟩
  · exact ⟨mn_sGo, o30_128⟩
  · exact ⟨mn_sLR, o30_131⟩
  · exact ⟨mn_sLR, o30_132⟩
  · exact ⟨mn_sGR, o30_133⟩
  · exact ⟨mn_sK, o30_136⟩
  · exact ⟨mn_sK, o30_137⟩
  · exact ⟨mn_sCV, o30_138⟩
  · exact ⟨mn_sPI, o30_141⟩
  · exact ⟨mn_sX, ok_X⟩
theorem oc30_6 : ∀ pc, Mnp (c30_6 pc) ∧ Okp RX3 cX3_decode 4 (some (.object "SealedProcesses$Bytes")) "decode" false pc (c30_6 pc) := by
  intro pc
  unfold c30_6
  split
  · exact ⟨mn_sK, o30_144⟩
  · exact ⟨mn_sSI, o30_145⟩
  · exact ⟨mn_sLI, o30_146⟩
  · exact ⟨mn_sLR, o30_147⟩
  · exact ⟨mn_sGI, o30_148⟩
  · exact ⟨mn_sI2, o30_151⟩
  · exact ⟨mn_sLR, o30_154⟩
  · exact ⟨mn_sGR, o30_155⟩
  · exact ⟨mn_sCV, o30_158⟩
  · exact ⟨mn_sI1, o30_161⟩
  · exact ⟨mn_sLR, o30_164⟩
  · exact ⟨mn_sLR, o30_165⟩
  · exact ⟨mn_sLI, o30_166⟩
  · exact ⟨mn_sCV, o30_167⟩
  · exact ⟨mn_sX, ok_X⟩
theorem oc30_7 : ∀ pc, Mnp (c30_7 pc) ∧ Okp RX3 cX3_decode 4 (some (.object "SealedProcesses$Bytes")) "decode" false pc (c30_7 pc) := by
  intro pc
  unfold c30_7
  split
  · exact ⟨mn_sInc, o30_170⟩
  · exact ⟨mn_sGo, o30_173⟩
  · exact ⟨mn_sLR, o30_176⟩
  · exact ⟨mn_sLR, o30_177⟩
  · exact ⟨mn_sGR, o30_178⟩
  · exact ⟨mn_sK, o30_181⟩
  · exact ⟨mn_sK, o30_182⟩
  · exact ⟨mn_sCV, o30_184⟩
  · exact ⟨mn_sPI, o30_187⟩
  · exact ⟨mn_sK, o30_190⟩
  · exact ⟨mn_sSI, o30_191⟩
  · exact ⟨mn_sX, ok_X⟩
theorem oc30_8 : ∀ pc, Mnp (c30_8 pc) ∧ Okp RX3 cX3_decode 4 (some (.object "SealedProcesses$Bytes")) "decode" false pc (c30_8 pc) := by
  intro pc
  unfold c30_8
  split
  · exact ⟨mn_sLI, o30_192⟩
  · exact ⟨mn_sLR, o30_193⟩
  · exact ⟨mn_sGI, o30_194⟩
  · exact ⟨mn_sI2, o30_197⟩
  · exact ⟨mn_sLR, o30_200⟩
  · exact ⟨mn_sGR, o30_201⟩
  · exact ⟨mn_sCV, o30_204⟩
  · exact ⟨mn_sI1, o30_207⟩
  · exact ⟨mn_sLR, o30_210⟩
  · exact ⟨mn_sLR, o30_211⟩
  · exact ⟨mn_sLI, o30_212⟩
  · exact ⟨mn_sCV, o30_213⟩
  · exact ⟨mn_sX, ok_X⟩
theorem oc30_9 : ∀ pc, Mnp (c30_9 pc) ∧ Okp RX3 cX3_decode 4 (some (.object "SealedProcesses$Bytes")) "decode" false pc (c30_9 pc) := by
  intro pc
  unfold c30_9
  split
  · exact ⟨mn_sInc, o30_216⟩
  · exact ⟨mn_sGo, o30_219⟩
  · exact ⟨mn_sLR, o30_222⟩
  · exact ⟨mn_sGR, o30_223⟩
  · exact ⟨mn_sCV, o30_226⟩
  · exact ⟨mn_sInc, o30_229⟩
  · exact ⟨mn_sGo, o30_232⟩
  · exact ⟨mn_sLR, o30_235⟩
  · exact ⟨mn_sGR, o30_236⟩
  · exact ⟨mn_sRR, o30_239⟩
  · exact ⟨mn_sX, ok_X⟩
theorem oc30 : ∀ pc, Mnp (c30 pc) ∧ Okp RX3 cX3_decode 4 (some (.object "SealedProcesses$Bytes")) "decode" false pc (c30 pc) := by
  intro pc
  unfold c30
  split
  · exact oc30_0 pc
  · exact oc30_1 pc
  · exact oc30_2 pc
  · exact oc30_3 pc
  · exact oc30_4 pc
  · exact oc30_5 pc
  · exact oc30_6 pc
  · exact oc30_7 pc
  · exact oc30_8 pc
  · exact oc30_9 pc
  · exact ⟨mn_sX, ok_X⟩
theorem o31_0 : Okp RX3 cX3_walkRecord 5 none "walkRecord" false 0 (sLR 0 1) := ok_aload_n (by decide +kernel : decode cX3_walkRecord 0 = .ok (.aload_n 0, 1)) rfl
theorem o31_1 : Okp RX3 cX3_walkRecord 5 none "walkRecord" false 1 (sGR 4 0 4) := ok_getR (by decide +kernel : decode cX3_walkRecord 1 = .ok (.getfield 14, 3)) fw_X3_14 rfl
theorem o31_4 : Okp RX3 cX3_walkRecord 5 none "walkRecord" false 4 (sK 1 5) := ok_iconst (by decide +kernel : decode cX3_walkRecord 4 = .ok (.iconst 1, 1)) (by decide)
theorem o31_5 : Okp RX3 cX3_walkRecord 5 none "walkRecord" false 5 (sK 6 7) := ok_bipush (by decide +kernel : decode cX3_walkRecord 5 = .ok (.bipush 6, 2)) (by decide)
theorem o31_7 : Okp RX3 cX3_walkRecord 5 none "walkRecord" false 7 (sCV false 16 3 2 10) := ok_cv (by decide +kernel : decode cX3_walkRecord 7 = .ok (.invokevirtual 39, 3)) mw_X3_39 rfl (by decide) wm_X1_takeWithin wse_X1_takeWithin (by decide) rfl
theorem o31_10 : Okp RX3 cX3_walkRecord 5 none "walkRecord" false 10 (sSI 3 11) := ok_istore_n (by decide +kernel : decode cX3_walkRecord 10 = .ok (.istore_n 3, 1)) rfl (by decide) (by decide)
theorem o31_11 : Okp RX3 cX3_walkRecord 5 none "walkRecord" false 11 (sLR 1 12) := ok_aload_n (by decide +kernel : decode cX3_walkRecord 11 = .ok (.aload_n 1, 1)) rfl
theorem o31_12 : Okp RX3 cX3_walkRecord 5 none "walkRecord" false 12 (sLI 2 13) := ok_iload_n (by decide +kernel : decode cX3_walkRecord 12 = .ok (.iload_n 2, 1)) rfl
theorem o31_13 : Okp RX3 cX3_walkRecord 5 none "walkRecord" false 13 (sLI 3 14) := ok_iload_n (by decide +kernel : decode cX3_walkRecord 13 = .ok (.iload_n 3, 1)) rfl
theorem o31_14 : Okp RX3 cX3_walkRecord 5 none "walkRecord" false 14 (sCV false 155 3 10 17) := ok_cv (by decide +kernel : decode cX3_walkRecord 14 = .ok (.invokevirtual 65, 3)) mw_X3_65 rfl (by decide) wm_X9_setSize wse_X9_setSize (by decide) rfl
theorem o31_17 : Okp RX3 cX3_walkRecord 5 none "walkRecord" false 17 (sK 0 18) := ok_iconst (by decide +kernel : decode cX3_walkRecord 17 = .ok (.iconst 0, 1)) (by decide)
theorem o31_18 : Okp RX3 cX3_walkRecord 5 none "walkRecord" false 18 (sSI 4 20) := ok_istore (by decide +kernel : decode cX3_walkRecord 18 = .ok (.istore 4, 2)) (by decide) (by decide)
theorem o31_20 : Okp RX3 cX3_walkRecord 5 none "walkRecord" false 20 (sLI 4 22) := ok_iload (by decide +kernel : decode cX3_walkRecord 20 = .ok (.iload 4, 2))
theorem o31_22 : Okp RX3 cX3_walkRecord 5 none "walkRecord" false 22 (sLI 3 23) := ok_iload_n (by decide +kernel : decode cX3_walkRecord 22 = .ok (.iload_n 3, 1)) rfl
theorem o31_23 : Okp RX3 cX3_walkRecord 5 none "walkRecord" false 23 (sI2 3 56 26) := ok_icmp_ge (by decide +kernel : decode cX3_walkRecord 23 = .ok (.if_icmp .ge 33, 3)) (by decide)
theorem o31_26 : Okp RX3 cX3_walkRecord 5 none "walkRecord" false 26 (sLR 0 27) := ok_aload_n (by decide +kernel : decode cX3_walkRecord 26 = .ok (.aload_n 0, 1)) rfl
theorem o31_27 : Okp RX3 cX3_walkRecord 5 none "walkRecord" false 27 (sGR 4 0 30) := ok_getR (by decide +kernel : decode cX3_walkRecord 27 = .ok (.getfield 14, 3)) fw_X3_14 rfl
theorem o31_30 : Okp RX3 cX3_walkRecord 5 none "walkRecord" false 30 (sCV false 12 1 2 33) := ok_cv (by decide +kernel : decode cX3_walkRecord 30 = .ok (.invokevirtual 35, 3)) mw_X3_35 rfl (by decide) wm_X1_isRight wse_X1_isRight (by decide) rfl
theorem o31_33 : Okp RX3 cX3_walkRecord 5 none "walkRecord" false 33 (sI1 0 56 36) := ok_if_eq (by decide +kernel : decode cX3_walkRecord 33 = .ok (.ifCond .eq 23, 3)) (by decide)
theorem o31_36 : Okp RX3 cX3_walkRecord 5 none "walkRecord" false 36 (sLR 1 37) := ok_aload_n (by decide +kernel : decode cX3_walkRecord 36 = .ok (.aload_n 1, 1)) rfl
theorem o31_37 : Okp RX3 cX3_walkRecord 5 none "walkRecord" false 37 (sLI 2 38) := ok_iload_n (by decide +kernel : decode cX3_walkRecord 37 = .ok (.iload_n 2, 1)) rfl
theorem o31_38 : Okp RX3 cX3_walkRecord 5 none "walkRecord" false 38 (sLI 4 40) := ok_iload (by decide +kernel : decode cX3_walkRecord 38 = .ok (.iload 4, 2))
theorem o31_40 : Okp RX3 cX3_walkRecord 5 none "walkRecord" false 40 (sLR 0 41) := ok_aload_n (by decide +kernel : decode cX3_walkRecord 40 = .ok (.aload_n 0, 1)) rfl
theorem o31_41 : Okp RX3 cX3_walkRecord 5 none "walkRecord" false 41 (sLR 1 42) := ok_aload_n (by decide +kernel : decode cX3_walkRecord 41 = .ok (.aload_n 1, 1)) rfl
theorem o31_42 : Okp RX3 cX3_walkRecord 5 none "walkRecord" false 42 (sK 15 44) := ok_bipush (by decide +kernel : decode cX3_walkRecord 42 = .ok (.bipush 15, 2)) (by decide)
theorem o31_44 : Okp RX3 cX3_walkRecord 5 none "walkRecord" false 44 (sCV false 35 3 4 47) := ok_cv (by decide +kernel : decode cX3_walkRecord 44 = .ok (.invokevirtual 69, 3)) mw_X3_69 rfl (by decide) wm_X3_takeType wse_X3_takeType (by decide) rfl
theorem o31_47 : Okp RX3 cX3_walkRecord 5 none "walkRecord" false 47 (sCV false 156 4 10 50) := ok_cv (by decide +kernel : decode cX3_walkRecord 47 = .ok (.invokevirtual 73, 3)) mw_X3_73 rfl (by decide) wm_X9_setField wse_X9_setField (by decide) rfl
theorem o31_50 : Okp RX3 cX3_walkRecord 5 none "walkRecord" false 50 (sInc 4 1 53) := ok_iinc (by decide +kernel : decode cX3_walkRecord 50 = .ok (.iinc 4 1, 3)) (by decide) (by decide)
theorem o31_53 : Okp RX3 cX3_walkRecord 5 none "walkRecord" false 53 (sGo 20) := ok_goto (by decide +kernel : decode cX3_walkRecord 53 = .ok (.goto (-33), 3)) (by decide)
theorem o31_56 : Okp RX3 cX3_walkRecord 5 none "walkRecord" false 56 sRV := ok_vret rfl (by decide +kernel : decode cX3_walkRecord 56 = .ok (.return_, 1))
theorem oc31_0 : ∀ pc, Mnp (c31_0 pc) ∧ Okp RX3 cX3_walkRecord 5 none "walkRecord" false pc (c31_0 pc) := by
  intro pc
  unfold c31_0
  split
  · exact ⟨mn_sLR, o31_0⟩
  · exact ⟨mn_sGR, o31_1⟩
  · exact ⟨mn_sK, o31_4⟩
  · exact ⟨mn_sK, o31_5⟩
  · exact ⟨mn_sCV, o31_7⟩
  · exact ⟨mn_sSI, o31_10⟩
  · exact ⟨mn_sLR, o31_11⟩
  · exact ⟨mn_sLI, o31_12⟩
  · exact ⟨mn_sLI, o31_13⟩
  · exact ⟨mn_sCV, o31_14⟩
  · exact ⟨mn_sK, o31_17⟩
  · exact ⟨mn_sSI, o31_18⟩
  · exact ⟨mn_sLI, o31_20⟩
  · exact ⟨mn_sLI, o31_22⟩
  · exact ⟨mn_sI2, o31_23⟩
  · exact ⟨mn_sX, ok_X⟩
theorem oc31_1 : ∀ pc, Mnp (c31_1 pc) ∧ Okp RX3 cX3_walkRecord 5 none "walkRecord" false pc (c31_1 pc) := by
  intro pc
  unfold c31_1
  split
  · exact ⟨mn_sLR, o31_26⟩
  · exact ⟨mn_sGR, o31_27⟩
  · exact ⟨mn_sCV, o31_30⟩
  · exact ⟨mn_sI1, o31_33⟩
  · exact ⟨mn_sLR, o31_36⟩
  · exact ⟨mn_sLI, o31_37⟩
  · exact ⟨mn_sLI, o31_38⟩
  · exact ⟨mn_sLR, o31_40⟩
  · exact ⟨mn_sLR, o31_41⟩
  · exact ⟨mn_sK, o31_42⟩
  · exact ⟨mn_sCV, o31_44⟩
  · exact ⟨mn_sCV, o31_47⟩
  · exact ⟨mn_sX, ok_X⟩
theorem oc31_2 : ∀ pc, Mnp (c31_2 pc) ∧ Okp RX3 cX3_walkRecord 5 none "walkRecord" false pc (c31_2 pc) := by
  intro pc
  unfold c31_2
  split
  · exact ⟨mn_sInc, o31_50⟩
  · exact ⟨mn_sGo, o31_53⟩
  · exact ⟨mn_sRV, o31_56⟩
  · exact ⟨mn_sX, ok_X⟩
theorem oc31 : ∀ pc, Mnp (c31 pc) ∧ Okp RX3 cX3_walkRecord 5 none "walkRecord" false pc (c31 pc) := by
  intro pc
  unfold c31
  split
  · exact oc31_0 pc
  · exact oc31_1 pc
  · exact oc31_2 pc
  · exact ⟨mn_sX, ok_X⟩
theorem o32_0 : Okp RX3 cX3_walkContract 10 none "walkContract" false 0 (sLR 0 1) := ok_aload_n (by decide +kernel : decode cX3_walkContract 0 = .ok (.aload_n 0, 1)) rfl
theorem o32_1 : Okp RX3 cX3_walkContract 10 none "walkContract" false 1 (sGR 4 0 4) := ok_getR (by decide +kernel : decode cX3_walkContract 1 = .ok (.getfield 14, 3)) fw_X3_14 rfl
theorem o32_4 : Okp RX3 cX3_walkContract 10 none "walkContract" false 4 (sK 1 5) := ok_iconst (by decide +kernel : decode cX3_walkContract 4 = .ok (.iconst 1, 1)) (by decide)
theorem o32_5 : Okp RX3 cX3_walkContract 10 none "walkContract" false 5 (sK 8 7) := ok_bipush (by decide +kernel : decode cX3_walkContract 5 = .ok (.bipush 8, 2)) (by decide)
theorem o32_7 : Okp RX3 cX3_walkContract 10 none "walkContract" false 7 (sCV false 16 3 2 10) := ok_cv (by decide +kernel : decode cX3_walkContract 7 = .ok (.invokevirtual 39, 3)) mw_X3_39 rfl (by decide) wm_X1_takeWithin wse_X1_takeWithin (by decide) rfl
theorem o32_10 : Okp RX3 cX3_walkContract 10 none "walkContract" false 10 (sSI 3 11) := ok_istore_n (by decide +kernel : decode cX3_walkContract 10 = .ok (.istore_n 3, 1)) rfl (by decide) (by decide)
theorem o32_11 : Okp RX3 cX3_walkContract 10 none "walkContract" false 11 (sLR 0 12) := ok_aload_n (by decide +kernel : decode cX3_walkContract 11 = .ok (.aload_n 0, 1)) rfl
theorem o32_12 : Okp RX3 cX3_walkContract 10 none "walkContract" false 12 (sGI 4 1 15) := ok_getI (by decide +kernel : decode cX3_walkContract 12 = .ok (.getfield 18, 3)) fw_X3_18 rfl
theorem o32_15 : Okp RX3 cX3_walkContract 10 none "walkContract" false 15 (sI1 1 31 18) := ok_if_ne (by decide +kernel : decode cX3_walkContract 15 = .ok (.ifCond .ne 16, 3)) (by decide)
theorem o32_18 : Okp RX3 cX3_walkContract 10 none "walkContract" false 18 (sLR 1 19) := ok_aload_n (by decide +kernel : decode cX3_walkContract 18 = .ok (.aload_n 1, 1)) rfl
theorem o32_19 : Okp RX3 cX3_walkContract 10 none "walkContract" false 19 (sLI 2 20) := ok_iload_n (by decide +kernel : decode cX3_walkContract 19 = .ok (.iload_n 2, 1)) rfl
theorem o32_20 : Okp RX3 cX3_walkContract 10 none "walkContract" false 20 (sNew 3 5 23) := ok_new (by decide +kernel : decode cX3_walkContract 20 = .ok (.new 77, 3)) ⟨rfl, rfl, by decide, cw_X2, tyX2_ok, wl_X3_77, wn_X2, wi_SealedProcesses_Contract, df_X2⟩
theorem o32_23 : Okp RX3 cX3_walkContract 10 none "walkContract" false 23 (sDup 24) := ok_dup (by decide +kernel : decode cX3_walkContract 23 = .ok (.dup, 1))
theorem o32_24 : Okp RX3 cX3_walkContract 10 none "walkContract" false 24 (sLI 3 25) := ok_iload_n (by decide +kernel : decode cX3_walkContract 24 = .ok (.iload_n 3, 1)) rfl
theorem o32_25 : Okp RX3 cX3_walkContract 10 none "walkContract" false 25 (sCI 19 2 28) := ok_ci (by decide +kernel : decode cX3_walkContract 25 = .ok (.invokespecial 79, 3)) mw_X3_79 rfl rfl wm_X2_init (by decide) rfl
theorem o32_28 : Okp RX3 cX3_walkContract 10 none "walkContract" false 28 (sCV false 150 3 10 31) := ok_cv (by decide +kernel : decode cX3_walkContract 28 = .ok (.invokevirtual 82, 3)) mw_X3_82 rfl (by decide) wm_X9_setContract wse_X9_setContract (by decide) rfl
theorem o32_31 : Okp RX3 cX3_walkContract 10 none "walkContract" false 31 (sLR 1 32) := ok_aload_n (by decide +kernel : decode cX3_walkContract 31 = .ok (.aload_n 1, 1)) rfl
theorem o32_32 : Okp RX3 cX3_walkContract 10 none "walkContract" false 32 (sLI 2 33) := ok_iload_n (by decide +kernel : decode cX3_walkContract 32 = .ok (.iload_n 2, 1)) rfl
theorem o32_33 : Okp RX3 cX3_walkContract 10 none "walkContract" false 33 (sCV false 148 2 10 36) := ok_cv (by decide +kernel : decode cX3_walkContract 33 = .ok (.invokevirtual 86, 3)) mw_X3_86 rfl (by decide) wm_X9_contractAt wse_X9_contractAt (by decide) rfl
theorem o32_36 : Okp RX3 cX3_walkContract 10 none "walkContract" false 36 (sSR 4 38) := ok_astore (by decide +kernel : decode cX3_walkContract 36 = .ok (.astore 4, 2)) (by decide) (by decide)
theorem o32_38 : Okp RX3 cX3_walkContract 10 none "walkContract" false 38 (sK 0 39) := ok_iconst (by decide +kernel : decode cX3_walkContract 38 = .ok (.iconst 0, 1)) (by decide)
theorem o32_39 : Okp RX3 cX3_walkContract 10 none "walkContract" false 39 (sSI 5 41) := ok_istore (by decide +kernel : decode cX3_walkContract 39 = .ok (.istore 5, 2)) (by decide) (by decide)
theorem o32_41 : Okp RX3 cX3_walkContract 10 none "walkContract" false 41 (sLI 5 43) := ok_iload (by decide +kernel : decode cX3_walkContract 41 = .ok (.iload 5, 2))
theorem o32_43 : Okp RX3 cX3_walkContract 10 none "walkContract" false 43 (sLI 3 44) := ok_iload_n (by decide +kernel : decode cX3_walkContract 43 = .ok (.iload_n 3, 1)) rfl
theorem o32_44 : Okp RX3 cX3_walkContract 10 none "walkContract" false 44 (sI2 3 169 47) := ok_icmp_ge (by decide +kernel : decode cX3_walkContract 44 = .ok (.if_icmp .ge 125, 3)) (by decide)
theorem o32_47 : Okp RX3 cX3_walkContract 10 none "walkContract" false 47 (sLR 0 48) := ok_aload_n (by decide +kernel : decode cX3_walkContract 47 = .ok (.aload_n 0, 1)) rfl
theorem o32_48 : Okp RX3 cX3_walkContract 10 none "walkContract" false 48 (sGR 4 0 51) := ok_getR (by decide +kernel : decode cX3_walkContract 48 = .ok (.getfield 14, 3)) fw_X3_14 rfl
theorem o32_51 : Okp RX3 cX3_walkContract 10 none "walkContract" false 51 (sCV false 12 1 2 54) := ok_cv (by decide +kernel : decode cX3_walkContract 51 = .ok (.invokevirtual 35, 3)) mw_X3_35 rfl (by decide) wm_X1_isRight wse_X1_isRight (by decide) rfl
theorem o32_54 : Okp RX3 cX3_walkContract 10 none "walkContract" false 54 (sI1 0 169 57) := ok_if_eq (by decide +kernel : decode cX3_walkContract 54 = .ok (.ifCond .eq 115, 3)) (by decide)
theorem o32_57 : Okp RX3 cX3_walkContract 10 none "walkContract" false 57 (sLR 4 59) := ok_aload (by decide +kernel : decode cX3_walkContract 57 = .ok (.aload 4, 2))
theorem o32_59 : Okp RX3 cX3_walkContract 10 none "walkContract" false 59 (sNl 169 62) := ok_ifnull (by decide +kernel : decode cX3_walkContract 59 = .ok (.ifnull 110, 3)) (by decide)
theorem o32_62 : Okp RX3 cX3_walkContract 10 none "walkContract" false 62 (sLR 0 63) := ok_aload_n (by decide +kernel : decode cX3_walkContract 62 = .ok (.aload_n 0, 1)) rfl
theorem o32_63 : Okp RX3 cX3_walkContract 10 none "walkContract" false 63 (sGR 4 0 66) := ok_getR (by decide +kernel : decode cX3_walkContract 63 = .ok (.getfield 14, 3)) fw_X3_14 rfl
theorem o32_66 : Okp RX3 cX3_walkContract 10 none "walkContract" false 66 (sK 0 67) := ok_iconst (by decide +kernel : decode cX3_walkContract 66 = .ok (.iconst 0, 1)) (by decide)
theorem o32_67 : Okp RX3 cX3_walkContract 10 none "walkContract" false 67 (sK 2 68) := ok_iconst (by decide +kernel : decode cX3_walkContract 67 = .ok (.iconst 2, 1)) (by decide)
theorem o32_68 : Okp RX3 cX3_walkContract 10 none "walkContract" false 68 (sCV false 16 3 2 71) := ok_cv (by decide +kernel : decode cX3_walkContract 68 = .ok (.invokevirtual 39, 3)) mw_X3_39 rfl (by decide) wm_X1_takeWithin wse_X1_takeWithin (by decide) rfl
theorem o32_71 : Okp RX3 cX3_walkContract 10 none "walkContract" false 71 (sSI 6 73) := ok_istore (by decide +kernel : decode cX3_walkContract 71 = .ok (.istore 6, 2)) (by decide) (by decide)
theorem o32_73 : Okp RX3 cX3_walkContract 10 none "walkContract" false 73 (sLI 6 75) := ok_iload (by decide +kernel : decode cX3_walkContract 73 = .ok (.iload 6, 2))
theorem o32_75 : Okp RX3 cX3_walkContract 10 none "walkContract" false 75 (sI1 1 90 78) := ok_if_ne (by decide +kernel : decode cX3_walkContract 75 = .ok (.ifCond .ne 15, 3)) (by decide)
theorem o32_78 : Okp RX3 cX3_walkContract 10 none "walkContract" false 78 (sLR 0 79) := ok_aload_n (by decide +kernel : decode cX3_walkContract 78 = .ok (.aload_n 0, 1)) rfl
theorem o32_79 : Okp RX3 cX3_walkContract 10 none "walkContract" false 79 (sGR 4 0 82) := ok_getR (by decide +kernel : decode cX3_walkContract 79 = .ok (.getfield 14, 3)) fw_X3_14 rfl
theorem o32_82 : Okp RX3 cX3_walkContract 10 none "walkContract" false 82 (sK 0 83) := ok_iconst (by decide +kernel : decode cX3_walkContract 82 = .ok (.iconst 0, 1)) (by decide)
theorem o32_83 : Okp RX3 cX3_walkContract 10 none "walkContract" false 83 (sK 0 84) := ok_iconst (by decide +kernel : decode cX3_walkContract 83 = .ok (.iconst 0, 1)) (by decide)
theorem o32_84 : Okp RX3 cX3_walkContract 10 none "walkContract" false 84 (sCV false 16 3 2 87) := ok_cv (by decide +kernel : decode cX3_walkContract 84 = .ok (.invokevirtual 39, 3)) mw_X3_39 rfl (by decide) wm_X1_takeWithin wse_X1_takeWithin (by decide) rfl
theorem o32_87 : Okp RX3 cX3_walkContract 10 none "walkContract" false 87 (sGo 99) := ok_goto (by decide +kernel : decode cX3_walkContract 87 = .ok (.goto 12, 3)) (by decide)
theorem o32_90 : Okp RX3 cX3_walkContract 10 none "walkContract" false 90 (sLR 0 91) := ok_aload_n (by decide +kernel : decode cX3_walkContract 90 = .ok (.aload_n 0, 1)) rfl
theorem o32_91 : Okp RX3 cX3_walkContract 10 none "walkContract" false 91 (sGR 4 0 94) := ok_getR (by decide +kernel : decode cX3_walkContract 91 = .ok (.getfield 14, 3)) fw_X3_14 rfl
theorem o32_94 : Okp RX3 cX3_walkContract 10 none "walkContract" false 94 (sK 1 95) := ok_iconst (by decide +kernel : decode cX3_walkContract 94 = .ok (.iconst 1, 1)) (by decide)
theorem o32_95 : Okp RX3 cX3_walkContract 10 none "walkContract" false 95 (sK 4 96) := ok_iconst (by decide +kernel : decode cX3_walkContract 95 = .ok (.iconst 4, 1)) (by decide)
theorem o32_96 : Okp RX3 cX3_walkContract 10 none "walkContract" false 96 (sCV false 16 3 2 99) := ok_cv (by decide +kernel : decode cX3_walkContract 96 = .ok (.invokevirtual 39, 3)) mw_X3_39 rfl (by decide) wm_X1_takeWithin wse_X1_takeWithin (by decide) rfl
theorem o32_99 : Okp RX3 cX3_walkContract 10 none "walkContract" false 99 (sSI 7 101) := ok_istore (by decide +kernel : decode cX3_walkContract 99 = .ok (.istore 7, 2)) (by decide) (by decide)
theorem o32_101 : Okp RX3 cX3_walkContract 10 none "walkContract" false 101 (sLR 4 103) := ok_aload (by decide +kernel : decode cX3_walkContract 101 = .ok (.aload 4, 2))
theorem o32_103 : Okp RX3 cX3_walkContract 10 none "walkContract" false 103 (sLI 5 105) := ok_iload (by decide +kernel : decode cX3_walkContract 103 = .ok (.iload 5, 2))
theorem o32_105 : Okp RX3 cX3_walkContract 10 none "walkContract" false 105 (sLI 6 107) := ok_iload (by decide +kernel : decode cX3_walkContract 105 = .ok (.iload 6, 2))
theorem o32_107 : Okp RX3 cX3_walkContract 10 none "walkContract" false 107 (sLI 7 109) := ok_iload (by decide +kernel : decode cX3_walkContract 107 = .ok (.iload 7, 2))
theorem o32_109 : Okp RX3 cX3_walkContract 10 none "walkContract" false 109 (sCV false 26 4 3 112) := ok_cv (by decide +kernel : decode cX3_walkContract 109 = .ok (.invokevirtual 90, 3)) mw_X3_90 rfl (by decide) wm_X2_setState wse_X2_setState (by decide) rfl
theorem o32_112 : Okp RX3 cX3_walkContract 10 none "walkContract" false 112 (sK 0 113) := ok_iconst (by decide +kernel : decode cX3_walkContract 112 = .ok (.iconst 0, 1)) (by decide)
theorem o32_113 : Okp RX3 cX3_walkContract 10 none "walkContract" false 113 (sSI 8 115) := ok_istore (by decide +kernel : decode cX3_walkContract 113 = .ok (.istore 8, 2)) (by decide) (by decide)
theorem o32_115 : Okp RX3 cX3_walkContract 10 none "walkContract" false 115 (sLI 8 117) := ok_iload (by decide +kernel : decode cX3_walkContract 115 = .ok (.iload 8, 2))
theorem o32_117 : Okp RX3 cX3_walkContract 10 none "walkContract" false 117 (sLI 7 119) := ok_iload (by decide +kernel : decode cX3_walkContract 117 = .ok (.iload 7, 2))
theorem o32_119 : Okp RX3 cX3_walkContract 10 none "walkContract" false 119 (sI2 3 163 122) := ok_icmp_ge (by decide +kernel : decode cX3_walkContract 119 = .ok (.if_icmp .ge 44, 3)) (by decide)
theorem o32_122 : Okp RX3 cX3_walkContract 10 none "walkContract" false 122 (sLR 0 123) := ok_aload_n (by decide +kernel : decode cX3_walkContract 122 = .ok (.aload_n 0, 1)) rfl
theorem o32_123 : Okp RX3 cX3_walkContract 10 none "walkContract" false 123 (sGR 4 0 126) := ok_getR (by decide +kernel : decode cX3_walkContract 123 = .ok (.getfield 14, 3)) fw_X3_14 rfl
theorem o32_126 : Okp RX3 cX3_walkContract 10 none "walkContract" false 126 (sCV false 12 1 2 129) := ok_cv (by decide +kernel : decode cX3_walkContract 126 = .ok (.invokevirtual 35, 3)) mw_X3_35 rfl (by decide) wm_X1_isRight wse_X1_isRight (by decide) rfl
theorem o32_129 : Okp RX3 cX3_walkContract 10 none "walkContract" false 129 (sI1 0 163 132) := ok_if_eq (by decide +kernel : decode cX3_walkContract 129 = .ok (.ifCond .eq 34, 3)) (by decide)
theorem o32_132 : Okp RX3 cX3_walkContract 10 none "walkContract" false 132 (sLR 0 133) := ok_aload_n (by decide +kernel : decode cX3_walkContract 132 = .ok (.aload_n 0, 1)) rfl
theorem o32_133 : Okp RX3 cX3_walkContract 10 none "walkContract" false 133 (sLR 1 134) := ok_aload_n (by decide +kernel : decode cX3_walkContract 133 = .ok (.aload_n 1, 1)) rfl
theorem o32_134 : Okp RX3 cX3_walkContract 10 none "walkContract" false 134 (sK 113 136) := ok_bipush (by decide +kernel : decode cX3_walkContract 134 = .ok (.bipush 113, 2)) (by decide)
theorem o32_136 : Okp RX3 cX3_walkContract 10 none "walkContract" false 136 (sCV false 35 3 4 139) := ok_cv (by decide +kernel : decode cX3_walkContract 136 = .ok (.invokevirtual 69, 3)) mw_X3_69 rfl (by decide) wm_X3_takeType wse_X3_takeType (by decide) rfl
theorem o32_139 : Okp RX3 cX3_walkContract 10 none "walkContract" false 139 (sSI 9 141) := ok_istore (by decide +kernel : decode cX3_walkContract 139 = .ok (.istore 9, 2)) (by decide) (by decide)
theorem o32_141 : Okp RX3 cX3_walkContract 10 none "walkContract" false 141 (sLR 4 143) := ok_aload (by decide +kernel : decode cX3_walkContract 141 = .ok (.aload 4, 2))
theorem o32_143 : Okp RX3 cX3_walkContract 10 none "walkContract" false 143 (sLI 5 145) := ok_iload (by decide +kernel : decode cX3_walkContract 143 = .ok (.iload 5, 2))
theorem o32_145 : Okp RX3 cX3_walkContract 10 none "walkContract" false 145 (sLI 8 147) := ok_iload (by decide +kernel : decode cX3_walkContract 145 = .ok (.iload 8, 2))
theorem o32_147 : Okp RX3 cX3_walkContract 10 none "walkContract" false 147 (sLI 9 149) := ok_iload (by decide +kernel : decode cX3_walkContract 147 = .ok (.iload 9, 2))
theorem o32_149 : Okp RX3 cX3_walkContract 10 none "walkContract" false 149 (sLR 0 150) := ok_aload_n (by decide +kernel : decode cX3_walkContract 149 = .ok (.aload_n 0, 1)) rfl
theorem o32_150 : Okp RX3 cX3_walkContract 10 none "walkContract" false 150 (sLI 3 151) := ok_iload_n (by decide +kernel : decode cX3_walkContract 150 = .ok (.iload_n 3, 1)) rfl
theorem o32_151 : Okp RX3 cX3_walkContract 10 none "walkContract" false 151 (sCV false 36 2 4 154) := ok_cv (by decide +kernel : decode cX3_walkContract 151 = .ok (.invokevirtual 93, 3)) mw_X3_93 rfl (by decide) wm_X3_takeName wse_X3_takeName (by decide) rfl
theorem o32_154 : Okp RX3 cX3_walkContract 10 none "walkContract" false 154 (sCV false 27 5 3 157) := ok_cv (by decide +kernel : decode cX3_walkContract 154 = .ok (.invokevirtual 97, 3)) mw_X3_97 rfl (by decide) wm_X2_setMessage wse_X2_setMessage (by decide) rfl
theorem o32_157 : Okp RX3 cX3_walkContract 10 none "walkContract" false 157 (sInc 8 1 160) := ok_iinc (by decide +kernel : decode cX3_walkContract 157 = .ok (.iinc 8 1, 3)) (by decide) (by decide)
theorem o32_160 : Okp RX3 cX3_walkContract 10 none "walkContract" false 160 (sGo 115) := ok_goto (by decide +kernel : decode cX3_walkContract 160 = .ok (.goto (-45), 3)) (by decide)
theorem o32_163 : Okp RX3 cX3_walkContract 10 none "walkContract" false 163 (sInc 5 1 166) := ok_iinc (by decide +kernel : decode cX3_walkContract 163 = .ok (.iinc 5 1, 3)) (by decide) (by decide)
theorem o32_166 : Okp RX3 cX3_walkContract 10 none "walkContract" false 166 (sGo 41) := ok_goto (by decide +kernel : decode cX3_walkContract 166 = .ok (.goto (-125), 3)) (by decide)
theorem o32_169 : Okp RX3 cX3_walkContract 10 none "walkContract" false 169 sRV := ok_vret rfl (by decide +kernel : decode cX3_walkContract 169 = .ok (.return_, 1))
theorem oc32_0 : ∀ pc, Mnp (c32_0 pc) ∧ Okp RX3 cX3_walkContract 10 none "walkContract" false pc (c32_0 pc) := by
  intro pc
  unfold c32_0
  split
  · exact ⟨mn_sLR, o32_0⟩
  · exact ⟨mn_sGR, o32_1⟩
  · exact ⟨mn_sK, o32_4⟩
  · exact ⟨mn_sK, o32_5⟩
  · exact ⟨mn_sCV, o32_7⟩
  · exact ⟨mn_sSI, o32_10⟩
  · exact ⟨mn_sLR, o32_11⟩
  · exact ⟨mn_sGI, o32_12⟩
  · exact ⟨mn_sI1, o32_15⟩
  · exact ⟨mn_sLR, o32_18⟩
  · exact ⟨mn_sLI, o32_19⟩
  · exact ⟨mn_sNew, o32_20⟩
  · exact ⟨mn_sDup, o32_23⟩
  · exact ⟨mn_sX, ok_X⟩
theorem oc32_1 : ∀ pc, Mnp (c32_1 pc) ∧ Okp RX3 cX3_walkContract 10 none "walkContract" false pc (c32_1 pc) := by
  intro pc
  unfold c32_1
  split
  · exact ⟨mn_sLI, o32_24⟩
  · exact ⟨mn_sCI, o32_25⟩
  · exact ⟨mn_sCV, o32_28⟩
  · exact ⟨mn_sLR, o32_31⟩
  · exact ⟨mn_sLI, o32_32⟩
  · exact ⟨mn_sCV, o32_33⟩
  · exact ⟨mn_sSR, o32_36⟩
  · exact ⟨mn_sK, o32_38⟩
  · exact ⟨mn_sSI, o32_39⟩
  · exact ⟨mn_sLI, o32_41⟩
  · exact ⟨mn_sLI, o32_43⟩
  · exact ⟨mn_sI2, o32_44⟩
  · exact ⟨mn_sLR, o32_47⟩
  · exact ⟨mn_sX, ok_X⟩
theorem oc32_2 : ∀ pc, Mnp (c32_2 pc) ∧ Okp RX3 cX3_walkContract 10 none "walkContract" false pc (c32_2 pc) := by
  intro pc
  unfold c32_2
  split
  · exact ⟨mn_sGR, o32_48⟩
  · exact ⟨mn_sCV, o32_51⟩
  · exact ⟨mn_sI1, o32_54⟩
  · exact ⟨mn_sLR, o32_57⟩
  · exact ⟨mn_sNl, o32_59⟩
  · exact ⟨mn_sLR, o32_62⟩
  · exact ⟨mn_sGR, o32_63⟩
  · exact ⟨mn_sK, o32_66⟩
  · exact ⟨mn_sK, o32_67⟩
  · exact ⟨mn_sCV, o32_68⟩
  · exact ⟨mn_sSI, o32_71⟩
  · exact ⟨mn_sX, ok_X⟩
theorem oc32_3 : ∀ pc, Mnp (c32_3 pc) ∧ Okp RX3 cX3_walkContract 10 none "walkContract" false pc (c32_3 pc) := by
  intro pc
  unfold c32_3
  split
  · exact ⟨mn_sLI, o32_73⟩
  · exact ⟨mn_sI1, o32_75⟩
  · exact ⟨mn_sLR, o32_78⟩
  · exact ⟨mn_sGR, o32_79⟩
  · exact ⟨mn_sK, o32_82⟩
  · exact ⟨mn_sK, o32_83⟩
  · exact ⟨mn_sCV, o32_84⟩
  · exact ⟨mn_sGo, o32_87⟩
  · exact ⟨mn_sLR, o32_90⟩
  · exact ⟨mn_sGR, o32_91⟩
  · exact ⟨mn_sK, o32_94⟩
  · exact ⟨mn_sK, o32_95⟩
  · exact ⟨mn_sX, ok_X⟩
theorem oc32_4 : ∀ pc, Mnp (c32_4 pc) ∧ Okp RX3 cX3_walkContract 10 none "walkContract" false pc (c32_4 pc) := by
  intro pc
  unfold c32_4
  split
  · exact ⟨mn_sCV, o32_96⟩
  · exact ⟨mn_sSI, o32_99⟩
  · exact ⟨mn_sLR, o32_101⟩
  · exact ⟨mn_sLI, o32_103⟩
  · exact ⟨mn_sLI, o32_105⟩
  · exact ⟨mn_sLI, o32_107⟩
  · exact ⟨mn_sCV, o32_109⟩
  · exact ⟨mn_sK, o32_112⟩
  · exact ⟨mn_sSI, o32_113⟩
  · exact ⟨mn_sLI, o32_115⟩
  · exact ⟨mn_sLI, o32_117⟩
  · exact ⟨mn_sI2, o32_119⟩
  · exact ⟨mn_sX, ok_X⟩
theorem oc32_5 : ∀ pc, Mnp (c32_5 pc) ∧ Okp RX3 cX3_walkContract 10 none "walkContract" false pc (c32_5 pc) := by
  intro pc
  unfold c32_5
  split
  · exact ⟨mn_sLR, o32_122⟩
  · exact ⟨mn_sGR, o32_123⟩
  · exact ⟨mn_sCV, o32_126⟩
  · exact ⟨mn_sI1, o32_129⟩
  · exact ⟨mn_sLR, o32_132⟩
  · exact ⟨mn_sLR, o32_133⟩
  · exact ⟨mn_sK, o32_134⟩
  · exact ⟨mn_sCV, o32_136⟩
  · exact ⟨mn_sSI, o32_139⟩
  · exact ⟨mn_sLR, o32_141⟩
  · exact ⟨mn_sLI, o32_143⟩
  · exact ⟨mn_sX, ok_X⟩
theorem oc32_6 : ∀ pc, Mnp (c32_6 pc) ∧ Okp RX3 cX3_walkContract 10 none "walkContract" false pc (c32_6 pc) := by
  intro pc
  unfold c32_6
  split
  · exact ⟨mn_sLI, o32_145⟩
  · exact ⟨mn_sLI, o32_147⟩
  · exact ⟨mn_sLR, o32_149⟩
  · exact ⟨mn_sLI, o32_150⟩
  · exact ⟨mn_sCV, o32_151⟩
  · exact ⟨mn_sCV, o32_154⟩
  · exact ⟨mn_sInc, o32_157⟩
  · exact ⟨mn_sGo, o32_160⟩
  · exact ⟨mn_sInc, o32_163⟩
  · exact ⟨mn_sGo, o32_166⟩
  · exact ⟨mn_sX, ok_X⟩
theorem oc32_7 : ∀ pc, Mnp (c32_7 pc) ∧ Okp RX3 cX3_walkContract 10 none "walkContract" false pc (c32_7 pc) := by
  intro pc
  unfold c32_7
  split
  · exact ⟨mn_sRV, o32_169⟩
  · exact ⟨mn_sX, ok_X⟩
theorem oc32 : ∀ pc, Mnp (c32 pc) ∧ Okp RX3 cX3_walkContract 10 none "walkContract" false pc (c32 pc) := by
  intro pc
  unfold c32
  split
  · exact oc32_0 pc
  · exact oc32_1 pc
  · exact oc32_2 pc
  · exact oc32_3 pc
  · exact oc32_4 pc
  · exact oc32_5 pc
  · exact oc32_6 pc
  · exact oc32_7 pc
  · exact ⟨mn_sX, ok_X⟩
theorem o33_0 : Okp RX3 cX3_walkFunction 10 none "walkFunction" false 0 (sLR 0 1) := ok_aload_n (by decide +kernel : decode cX3_walkFunction 0 = .ok (.aload_n 0, 1)) rfl
theorem o33_1 : Okp RX3 cX3_walkFunction 10 none "walkFunction" false 1 (sGR 4 0 4) := ok_getR (by decide +kernel : decode cX3_walkFunction 1 = .ok (.getfield 14, 3)) fw_X3_14 rfl
theorem o33_4 : Okp RX3 cX3_walkFunction 10 none "walkFunction" false 4 (sK 0 5) := ok_iconst (by decide +kernel : decode cX3_walkFunction 4 = .ok (.iconst 0, 1)) (by decide)
theorem o33_5 : Okp RX3 cX3_walkFunction 10 none "walkFunction" false 5 (sK 4 6) := ok_iconst (by decide +kernel : decode cX3_walkFunction 5 = .ok (.iconst 4, 1)) (by decide)
theorem o33_6 : Okp RX3 cX3_walkFunction 10 none "walkFunction" false 6 (sCV false 16 3 2 9) := ok_cv (by decide +kernel : decode cX3_walkFunction 6 = .ok (.invokevirtual 39, 3)) mw_X3_39 rfl (by decide) wm_X1_takeWithin wse_X1_takeWithin (by decide) rfl
theorem o33_9 : Okp RX3 cX3_walkFunction 10 none "walkFunction" false 9 (sSI 3 10) := ok_istore_n (by decide +kernel : decode cX3_walkFunction 9 = .ok (.istore_n 3, 1)) rfl (by decide) (by decide)
theorem o33_10 : Okp RX3 cX3_walkFunction 10 none "walkFunction" false 10 (sLI 3 11) := ok_iload_n (by decide +kernel : decode cX3_walkFunction 10 = .ok (.iload_n 3, 1)) rfl
theorem o33_11 : Okp RX3 cX3_walkFunction 10 none "walkFunction" false 11 (sNA 15 13) := ok_newI (by decide +kernel : decode cX3_walkFunction 11 = .ok (.newarray .int, 2)) wa_int
theorem o33_13 : Okp RX3 cX3_walkFunction 10 none "walkFunction" false 13 (sSR 4 15) := ok_astore (by decide +kernel : decode cX3_walkFunction 13 = .ok (.astore 4, 2)) (by decide) (by decide)
theorem o33_15 : Okp RX3 cX3_walkFunction 10 none "walkFunction" false 15 (sK 0 16) := ok_iconst (by decide +kernel : decode cX3_walkFunction 15 = .ok (.iconst 0, 1)) (by decide)
theorem o33_16 : Okp RX3 cX3_walkFunction 10 none "walkFunction" false 16 (sSI 5 18) := ok_istore (by decide +kernel : decode cX3_walkFunction 16 = .ok (.istore 5, 2)) (by decide) (by decide)
theorem o33_18 : Okp RX3 cX3_walkFunction 10 none "walkFunction" false 18 (sLI 5 20) := ok_iload (by decide +kernel : decode cX3_walkFunction 18 = .ok (.iload 5, 2))
theorem o33_20 : Okp RX3 cX3_walkFunction 10 none "walkFunction" false 20 (sLI 3 21) := ok_iload_n (by decide +kernel : decode cX3_walkFunction 20 = .ok (.iload_n 3, 1)) rfl
theorem o33_21 : Okp RX3 cX3_walkFunction 10 none "walkFunction" false 21 (sI2 3 52 24) := ok_icmp_ge (by decide +kernel : decode cX3_walkFunction 21 = .ok (.if_icmp .ge 31, 3)) (by decide)
theorem o33_24 : Okp RX3 cX3_walkFunction 10 none "walkFunction" false 24 (sLR 0 25) := ok_aload_n (by decide +kernel : decode cX3_walkFunction 24 = .ok (.aload_n 0, 1)) rfl
theorem o33_25 : Okp RX3 cX3_walkFunction 10 none "walkFunction" false 25 (sGR 4 0 28) := ok_getR (by decide +kernel : decode cX3_walkFunction 25 = .ok (.getfield 14, 3)) fw_X3_14 rfl
theorem o33_28 : Okp RX3 cX3_walkFunction 10 none "walkFunction" false 28 (sCV false 12 1 2 31) := ok_cv (by decide +kernel : decode cX3_walkFunction 28 = .ok (.invokevirtual 35, 3)) mw_X3_35 rfl (by decide) wm_X1_isRight wse_X1_isRight (by decide) rfl
theorem o33_31 : Okp RX3 cX3_walkFunction 10 none "walkFunction" false 31 (sI1 0 52 34) := ok_if_eq (by decide +kernel : decode cX3_walkFunction 31 = .ok (.ifCond .eq 21, 3)) (by decide)
theorem o33_34 : Okp RX3 cX3_walkFunction 10 none "walkFunction" false 34 (sLR 4 36) := ok_aload (by decide +kernel : decode cX3_walkFunction 34 = .ok (.aload 4, 2))
theorem o33_36 : Okp RX3 cX3_walkFunction 10 none "walkFunction" false 36 (sLI 5 38) := ok_iload (by decide +kernel : decode cX3_walkFunction 36 = .ok (.iload 5, 2))
theorem o33_38 : Okp RX3 cX3_walkFunction 10 none "walkFunction" false 38 (sLR 0 39) := ok_aload_n (by decide +kernel : decode cX3_walkFunction 38 = .ok (.aload_n 0, 1)) rfl
theorem o33_39 : Okp RX3 cX3_walkFunction 10 none "walkFunction" false 39 (sLR 1 40) := ok_aload_n (by decide +kernel : decode cX3_walkFunction 39 = .ok (.aload_n 1, 1)) rfl
theorem o33_40 : Okp RX3 cX3_walkFunction 10 none "walkFunction" false 40 (sK 63 42) := ok_bipush (by decide +kernel : decode cX3_walkFunction 40 = .ok (.bipush 63, 2)) (by decide)
theorem o33_42 : Okp RX3 cX3_walkFunction 10 none "walkFunction" false 42 (sCV false 35 3 4 45) := ok_cv (by decide +kernel : decode cX3_walkFunction 42 = .ok (.invokevirtual 69, 3)) mw_X3_69 rfl (by decide) wm_X3_takeType wse_X3_takeType (by decide) rfl
theorem o33_45 : Okp RX3 cX3_walkFunction 10 none "walkFunction" false 45 (sIS 46) := ok_iastore (by decide +kernel : decode cX3_walkFunction 45 = .ok (.iastore, 1))
theorem o33_46 : Okp RX3 cX3_walkFunction 10 none "walkFunction" false 46 (sInc 5 1 49) := ok_iinc (by decide +kernel : decode cX3_walkFunction 46 = .ok (.iinc 5 1, 3)) (by decide) (by decide)
theorem o33_49 : Okp RX3 cX3_walkFunction 10 none "walkFunction" false 49 (sGo 18) := ok_goto (by decide +kernel : decode cX3_walkFunction 49 = .ok (.goto (-31), 3)) (by decide)
theorem o33_52 : Okp RX3 cX3_walkFunction 10 none "walkFunction" false 52 (sLR 0 53) := ok_aload_n (by decide +kernel : decode cX3_walkFunction 52 = .ok (.aload_n 0, 1)) rfl
theorem o33_53 : Okp RX3 cX3_walkFunction 10 none "walkFunction" false 53 (sLR 1 54) := ok_aload_n (by decide +kernel : decode cX3_walkFunction 53 = .ok (.aload_n 1, 1)) rfl
theorem o33_54 : Okp RX3 cX3_walkFunction 10 none "walkFunction" false 54 (sK 127 56) := ok_bipush (by decide +kernel : decode cX3_walkFunction 54 = .ok (.bipush 127, 2)) (by decide)
theorem o33_56 : Okp RX3 cX3_walkFunction 10 none "walkFunction" false 56 (sCV false 35 3 4 59) := ok_cv (by decide +kernel : decode cX3_walkFunction 56 = .ok (.invokevirtual 69, 3)) mw_X3_69 rfl (by decide) wm_X3_takeType wse_X3_takeType (by decide) rfl
theorem o33_59 : Okp RX3 cX3_walkFunction 10 none "walkFunction" false 59 (sSI 5 61) := ok_istore (by decide +kernel : decode cX3_walkFunction 59 = .ok (.istore 5, 2)) (by decide) (by decide)
theorem o33_61 : Okp RX3 cX3_walkFunction 10 none "walkFunction" false 61 (sLR 0 62) := ok_aload_n (by decide +kernel : decode cX3_walkFunction 61 = .ok (.aload_n 0, 1)) rfl
theorem o33_62 : Okp RX3 cX3_walkFunction 10 none "walkFunction" false 62 (sGR 4 0 65) := ok_getR (by decide +kernel : decode cX3_walkFunction 62 = .ok (.getfield 14, 3)) fw_X3_14 rfl
theorem o33_65 : Okp RX3 cX3_walkFunction 10 none "walkFunction" false 65 (sLI 3 66) := ok_iload_n (by decide +kernel : decode cX3_walkFunction 65 = .ok (.iload_n 3, 1)) rfl
theorem o33_66 : Okp RX3 cX3_walkFunction 10 none "walkFunction" false 66 (sK 10 68) := ok_bipush (by decide +kernel : decode cX3_walkFunction 66 = .ok (.bipush 10, 2)) (by decide)
theorem o33_68 : Okp RX3 cX3_walkFunction 10 none "walkFunction" false 68 (sCV false 16 3 2 71) := ok_cv (by decide +kernel : decode cX3_walkFunction 68 = .ok (.invokevirtual 39, 3)) mw_X3_39 rfl (by decide) wm_X1_takeWithin wse_X1_takeWithin (by decide) rfl
theorem o33_71 : Okp RX3 cX3_walkFunction 10 none "walkFunction" false 71 (sSI 6 73) := ok_istore (by decide +kernel : decode cX3_walkFunction 71 = .ok (.istore 6, 2)) (by decide) (by decide)
theorem o33_73 : Okp RX3 cX3_walkFunction 10 none "walkFunction" false 73 (sLR 0 74) := ok_aload_n (by decide +kernel : decode cX3_walkFunction 73 = .ok (.aload_n 0, 1)) rfl
theorem o33_74 : Okp RX3 cX3_walkFunction 10 none "walkFunction" false 74 (sGR 4 0 77) := ok_getR (by decide +kernel : decode cX3_walkFunction 74 = .ok (.getfield 14, 3)) fw_X3_14 rfl
theorem o33_77 : Okp RX3 cX3_walkFunction 10 none "walkFunction" false 77 (sK 1 78) := ok_iconst (by decide +kernel : decode cX3_walkFunction 77 = .ok (.iconst 1, 1)) (by decide)
theorem o33_78 : Okp RX3 cX3_walkFunction 10 none "walkFunction" false 78 (sK 240 81) := ok_sipush (by decide +kernel : decode cX3_walkFunction 78 = .ok (.sipush 240, 3)) (by decide)
theorem o33_81 : Okp RX3 cX3_walkFunction 10 none "walkFunction" false 81 (sCV false 16 3 2 84) := ok_cv (by decide +kernel : decode cX3_walkFunction 81 = .ok (.invokevirtual 39, 3)) mw_X3_39 rfl (by decide) wm_X1_takeWithin wse_X1_takeWithin (by decide) rfl
theorem o33_84 : Okp RX3 cX3_walkFunction 10 none "walkFunction" false 84 (sSI 7 86) := ok_istore (by decide +kernel : decode cX3_walkFunction 84 = .ok (.istore 7, 2)) (by decide) (by decide)
theorem o33_86 : Okp RX3 cX3_walkFunction 10 none "walkFunction" false 86 (sLR 0 87) := ok_aload_n (by decide +kernel : decode cX3_walkFunction 86 = .ok (.aload_n 0, 1)) rfl
theorem o33_87 : Okp RX3 cX3_walkFunction 10 none "walkFunction" false 87 (sGI 4 1 90) := ok_getI (by decide +kernel : decode cX3_walkFunction 87 = .ok (.getfield 18, 3)) fw_X3_18 rfl
theorem o33_90 : Okp RX3 cX3_walkFunction 10 none "walkFunction" false 90 (sI1 1 120 93) := ok_if_ne (by decide +kernel : decode cX3_walkFunction 90 = .ok (.ifCond .ne 30, 3)) (by decide)
theorem o33_93 : Okp RX3 cX3_walkFunction 10 none "walkFunction" false 93 (sLR 1 94) := ok_aload_n (by decide +kernel : decode cX3_walkFunction 93 = .ok (.aload_n 1, 1)) rfl
theorem o33_94 : Okp RX3 cX3_walkFunction 10 none "walkFunction" false 94 (sLI 2 95) := ok_iload_n (by decide +kernel : decode cX3_walkFunction 94 = .ok (.iload_n 2, 1)) rfl
theorem o33_95 : Okp RX3 cX3_walkFunction 10 none "walkFunction" false 95 (sNew 8 10 98) := ok_new (by decide +kernel : decode cX3_walkFunction 95 = .ok (.new 101, 3)) ⟨rfl, rfl, by decide, cw_X7, tyX7_ok, wl_X3_101, wn_X7, wi_SealedProcesses_Routine, df_X7⟩
theorem o33_98 : Okp RX3 cX3_walkFunction 10 none "walkFunction" false 98 (sDup 99) := ok_dup (by decide +kernel : decode cX3_walkFunction 98 = .ok (.dup, 1))
theorem o33_99 : Okp RX3 cX3_walkFunction 10 none "walkFunction" false 99 (sLR 4 101) := ok_aload (by decide +kernel : decode cX3_walkFunction 99 = .ok (.aload 4, 2))
theorem o33_101 : Okp RX3 cX3_walkFunction 10 none "walkFunction" false 101 (sLI 5 103) := ok_iload (by decide +kernel : decode cX3_walkFunction 101 = .ok (.iload 5, 2))
theorem o33_103 : Okp RX3 cX3_walkFunction 10 none "walkFunction" false 103 (sLI 6 105) := ok_iload (by decide +kernel : decode cX3_walkFunction 103 = .ok (.iload 6, 2))
theorem o33_105 : Okp RX3 cX3_walkFunction 10 none "walkFunction" false 105 (sLI 7 107) := ok_iload (by decide +kernel : decode cX3_walkFunction 105 = .ok (.iload 7, 2))
theorem o33_107 : Okp RX3 cX3_walkFunction 10 none "walkFunction" false 107 (sLR 0 108) := ok_aload_n (by decide +kernel : decode cX3_walkFunction 107 = .ok (.aload_n 0, 1)) rfl
theorem o33_108 : Okp RX3 cX3_walkFunction 10 none "walkFunction" false 108 (sGR 4 0 111) := ok_getR (by decide +kernel : decode cX3_walkFunction 108 = .ok (.getfield 14, 3)) fw_X3_14 rfl
theorem o33_111 : Okp RX3 cX3_walkFunction 10 none "walkFunction" false 111 (sGI 2 3 114) := ok_getI (by decide +kernel : decode cX3_walkFunction 111 = .ok (.getfield 103, 3)) fw_X3_103 rfl
theorem o33_114 : Okp RX3 cX3_walkFunction 10 none "walkFunction" false 114 (sCI 106 6 117) := ok_ci (by decide +kernel : decode cX3_walkFunction 114 = .ok (.invokespecial 106, 3)) mw_X3_106 rfl rfl wm_X7_init (by decide) rfl
theorem o33_117 : Okp RX3 cX3_walkFunction 10 none "walkFunction" false 117 (sCV false 151 3 10 120) := ok_cv (by decide +kernel : decode cX3_walkFunction 117 = .ok (.invokevirtual 109, 3)) mw_X3_109 rfl (by decide) wm_X9_setRoutine wse_X9_setRoutine (by decide) rfl
theorem o33_120 : Okp RX3 cX3_walkFunction 10 none "walkFunction" false 120 (sLR 1 121) := ok_aload_n (by decide +kernel : decode cX3_walkFunction 120 = .ok (.aload_n 1, 1)) rfl
theorem o33_121 : Okp RX3 cX3_walkFunction 10 none "walkFunction" false 121 (sLI 2 122) := ok_iload_n (by decide +kernel : decode cX3_walkFunction 121 = .ok (.iload_n 2, 1)) rfl
theorem o33_122 : Okp RX3 cX3_walkFunction 10 none "walkFunction" false 122 (sCV false 149 2 10 125) := ok_cv (by decide +kernel : decode cX3_walkFunction 122 = .ok (.invokevirtual 113, 3)) mw_X3_113 rfl (by decide) wm_X9_routineAt wse_X9_routineAt (by decide) rfl
theorem o33_125 : Okp RX3 cX3_walkFunction 10 none "walkFunction" false 125 (sSR 8 127) := ok_astore (by decide +kernel : decode cX3_walkFunction 125 = .ok (.astore 8, 2)) (by decide) (by decide)
theorem o33_127 : Okp RX3 cX3_walkFunction 10 none "walkFunction" false 127 (sLR 8 129) := ok_aload (by decide +kernel : decode cX3_walkFunction 127 = .ok (.aload 8, 2))
theorem o33_129 : Okp RX3 cX3_walkFunction 10 none "walkFunction" false 129 (sNl 132 133) := ok_ifnonnull (by decide +kernel : decode cX3_walkFunction 129 = .ok (.ifnonnull 4, 3)) (by decide)
theorem o33_132 : Okp RX3 cX3_walkFunction 10 none "walkFunction" false 132 sRV := ok_vret rfl (by decide +kernel : decode cX3_walkFunction 132 = .ok (.return_, 1))
theorem o33_133 : Okp RX3 cX3_walkFunction 10 none "walkFunction" false 133 (sLR 0 134) := ok_aload_n (by decide +kernel : decode cX3_walkFunction 133 = .ok (.aload_n 0, 1)) rfl
theorem o33_134 : Okp RX3 cX3_walkFunction 10 none "walkFunction" false 134 (sGR 4 0 137) := ok_getR (by decide +kernel : decode cX3_walkFunction 134 = .ok (.getfield 14, 3)) fw_X3_14 rfl
theorem o33_137 : Okp RX3 cX3_walkFunction 10 none "walkFunction" false 137 (sLR 8 139) := ok_aload (by decide +kernel : decode cX3_walkFunction 137 = .ok (.aload 8, 2))
theorem o33_139 : Okp RX3 cX3_walkFunction 10 none "walkFunction" false 139 (sGI 8 5 142) := ok_getI (by decide +kernel : decode cX3_walkFunction 139 = .ok (.getfield 117, 3)) fw_X3_117 rfl
theorem o33_142 : Okp RX3 cX3_walkFunction 10 none "walkFunction" false 142 (sLR 8 144) := ok_aload (by decide +kernel : decode cX3_walkFunction 142 = .ok (.aload 8, 2))
theorem o33_144 : Okp RX3 cX3_walkFunction 10 none "walkFunction" false 144 (sGI 8 4 147) := ok_getI (by decide +kernel : decode cX3_walkFunction 144 = .ok (.getfield 120, 3)) fw_X3_120 rfl
theorem o33_147 : Okp RX3 cX3_walkFunction 10 none "walkFunction" false 147 (sB2 fAdd 148) := ok_iadd (by decide +kernel : decode cX3_walkFunction 147 = .ok (.iadd, 1))
theorem o33_148 : Okp RX3 cX3_walkFunction 10 none "walkFunction" false 148 (sPI 2 2 151) := ok_putI (by decide +kernel : decode cX3_walkFunction 148 = .ok (.putfield 121, 3)) fw_X3_121 ⟨⟨tyX1_ok, nmX1⟩, Or.inl rfl, rfl⟩ rfl
theorem o33_151 : Okp RX3 cX3_walkFunction 10 none "walkFunction" false 151 (sK 0 152) := ok_iconst (by decide +kernel : decode cX3_walkFunction 151 = .ok (.iconst 0, 1)) (by decide)
theorem o33_152 : Okp RX3 cX3_walkFunction 10 none "walkFunction" false 152 (sSI 9 154) := ok_istore (by decide +kernel : decode cX3_walkFunction 152 = .ok (.istore 9, 2)) (by decide) (by decide)
theorem o33_154 : Okp RX3 cX3_walkFunction 10 none "walkFunction" false 154 (sLI 9 156) := ok_iload (by decide +kernel : decode cX3_walkFunction 154 = .ok (.iload 9, 2))
theorem o33_156 : Okp RX3 cX3_walkFunction 10 none "walkFunction" false 156 (sLI 7 158) := ok_iload (by decide +kernel : decode cX3_walkFunction 156 = .ok (.iload 7, 2))
theorem o33_158 : Okp RX3 cX3_walkFunction 10 none "walkFunction" false 158 (sI2 3 201 161) := ok_icmp_ge (by decide +kernel : decode cX3_walkFunction 158 = .ok (.if_icmp .ge 43, 3)) (by decide)
theorem o33_161 : Okp RX3 cX3_walkFunction 10 none "walkFunction" false 161 (sLR 0 162) := ok_aload_n (by decide +kernel : decode cX3_walkFunction 161 = .ok (.aload_n 0, 1)) rfl
theorem o33_162 : Okp RX3 cX3_walkFunction 10 none "walkFunction" false 162 (sGR 4 0 165) := ok_getR (by decide +kernel : decode cX3_walkFunction 162 = .ok (.getfield 14, 3)) fw_X3_14 rfl
theorem o33_165 : Okp RX3 cX3_walkFunction 10 none "walkFunction" false 165 (sCV false 12 1 2 168) := ok_cv (by decide +kernel : decode cX3_walkFunction 165 = .ok (.invokevirtual 35, 3)) mw_X3_35 rfl (by decide) wm_X1_isRight wse_X1_isRight (by decide) rfl
theorem o33_168 : Okp RX3 cX3_walkFunction 10 none "walkFunction" false 168 (sI1 0 201 171) := ok_if_eq (by decide +kernel : decode cX3_walkFunction 168 = .ok (.ifCond .eq 33, 3)) (by decide)
theorem o33_171 : Okp RX3 cX3_walkFunction 10 none "walkFunction" false 171 (sLR 0 172) := ok_aload_n (by decide +kernel : decode cX3_walkFunction 171 = .ok (.aload_n 0, 1)) rfl
theorem o33_172 : Okp RX3 cX3_walkFunction 10 none "walkFunction" false 172 (sGR 4 0 175) := ok_getR (by decide +kernel : decode cX3_walkFunction 172 = .ok (.getfield 14, 3)) fw_X3_14 rfl
theorem o33_175 : Okp RX3 cX3_walkFunction 10 none "walkFunction" false 175 (sGI 2 3 178) := ok_getI (by decide +kernel : decode cX3_walkFunction 175 = .ok (.getfield 103, 3)) fw_X3_103 rfl
theorem o33_178 : Okp RX3 cX3_walkFunction 10 none "walkFunction" false 178 (sLR 0 179) := ok_aload_n (by decide +kernel : decode cX3_walkFunction 178 = .ok (.aload_n 0, 1)) rfl
theorem o33_179 : Okp RX3 cX3_walkFunction 10 none "walkFunction" false 179 (sGR 4 0 182) := ok_getR (by decide +kernel : decode cX3_walkFunction 179 = .ok (.getfield 14, 3)) fw_X3_14 rfl
theorem o33_182 : Okp RX3 cX3_walkFunction 10 none "walkFunction" false 182 (sGI 2 2 185) := ok_getI (by decide +kernel : decode cX3_walkFunction 182 = .ok (.getfield 121, 3)) fw_X3_121 rfl
theorem o33_185 : Okp RX3 cX3_walkFunction 10 none "walkFunction" false 185 (sI2 3 201 188) := ok_icmp_ge (by decide +kernel : decode cX3_walkFunction 185 = .ok (.if_icmp .ge 16, 3)) (by decide)
theorem o33_188 : Okp RX3 cX3_walkFunction 10 none "walkFunction" false 188 (sLR 0 189) := ok_aload_n (by decide +kernel : decode cX3_walkFunction 188 = .ok (.aload_n 0, 1)) rfl
theorem o33_189 : Okp RX3 cX3_walkFunction 10 none "walkFunction" false 189 (sLR 1 190) := ok_aload_n (by decide +kernel : decode cX3_walkFunction 189 = .ok (.aload_n 1, 1)) rfl
theorem o33_190 : Okp RX3 cX3_walkFunction 10 none "walkFunction" false 190 (sLR 8 192) := ok_aload (by decide +kernel : decode cX3_walkFunction 190 = .ok (.aload 8, 2))
theorem o33_192 : Okp RX3 cX3_walkFunction 10 none "walkFunction" false 192 (sCV false 34 3 4 195) := ok_cv (by decide +kernel : decode cX3_walkFunction 192 = .ok (.invokevirtual 124, 3)) mw_X3_124 rfl (by decide) wm_X3_walkInstruction wse_X3_walkInstruction (by decide) rfl
theorem o33_195 : Okp RX3 cX3_walkFunction 10 none "walkFunction" false 195 (sInc 9 1 198) := ok_iinc (by decide +kernel : decode cX3_walkFunction 195 = .ok (.iinc 9 1, 3)) (by decide) (by decide)
theorem o33_198 : Okp RX3 cX3_walkFunction 10 none "walkFunction" false 198 (sGo 154) := ok_goto (by decide +kernel : decode cX3_walkFunction 198 = .ok (.goto (-44), 3)) (by decide)
theorem o33_201 : Okp RX3 cX3_walkFunction 10 none "walkFunction" false 201 (sLR 0 202) := ok_aload_n (by decide +kernel : decode cX3_walkFunction 201 = .ok (.aload_n 0, 1)) rfl
theorem o33_202 : Okp RX3 cX3_walkFunction 10 none "walkFunction" false 202 (sGR 4 0 205) := ok_getR (by decide +kernel : decode cX3_walkFunction 202 = .ok (.getfield 14, 3)) fw_X3_14 rfl
theorem o33_205 : Okp RX3 cX3_walkFunction 10 none "walkFunction" false 205 (sLR 0 206) := ok_aload_n (by decide +kernel : decode cX3_walkFunction 205 = .ok (.aload_n 0, 1)) rfl
theorem o33_206 : Okp RX3 cX3_walkFunction 10 none "walkFunction" false 206 (sGR 4 0 209) := ok_getR (by decide +kernel : decode cX3_walkFunction 206 = .ok (.getfield 14, 3)) fw_X3_14 rfl
theorem o33_209 : Okp RX3 cX3_walkFunction 10 none "walkFunction" false 209 (sGI 2 1 212) := ok_getI (by decide +kernel : decode cX3_walkFunction 209 = .ok (.getfield 128, 3)) fw_X3_128 rfl
theorem o33_212 : Okp RX3 cX3_walkFunction 10 none "walkFunction" false 212 (sPI 2 2 215) := ok_putI (by decide +kernel : decode cX3_walkFunction 212 = .ok (.putfield 121, 3)) fw_X3_121 ⟨⟨tyX1_ok, nmX1⟩, Or.inl rfl, rfl⟩ rfl
theorem o33_215 : Okp RX3 cX3_walkFunction 10 none "walkFunction" false 215 sRV := ok_vret rfl (by decide +kernel : decode cX3_walkFunction 215 = .ok (.return_, 1))
theorem oc33_0 : ∀ pc, Mnp (c33_0 pc) ∧ Okp RX3 cX3_walkFunction 10 none "walkFunction" false pc (c33_0 pc) := by
  intro pc
  unfold c33_0
  split
  · exact ⟨mn_sLR, o33_0⟩
  · exact ⟨mn_sGR, o33_1⟩
  · exact ⟨mn_sK, o33_4⟩
  · exact ⟨mn_sK, o33_5⟩
  · exact ⟨mn_sCV, o33_6⟩
  · exact ⟨mn_sSI, o33_9⟩
  · exact ⟨mn_sLI, o33_10⟩
  · exact ⟨mn_sNA, o33_11⟩
  · exact ⟨mn_sSR, o33_13⟩
  · exact ⟨mn_sK, o33_15⟩
  · exact ⟨mn_sSI, o33_16⟩
  · exact ⟨mn_sLI, o33_18⟩
  · exact ⟨mn_sLI, o33_20⟩
  · exact ⟨mn_sI2, o33_21⟩
  · exact ⟨mn_sX, ok_X⟩
theorem oc33_1 : ∀ pc, Mnp (c33_1 pc) ∧ Okp RX3 cX3_walkFunction 10 none "walkFunction" false pc (c33_1 pc) := by
  intro pc
  unfold c33_1
  split
  · exact ⟨mn_sLR, o33_24⟩
  · exact ⟨mn_sGR, o33_25⟩
  · exact ⟨mn_sCV, o33_28⟩
  · exact ⟨mn_sI1, o33_31⟩
  · exact ⟨mn_sLR, o33_34⟩
  · exact ⟨mn_sLI, o33_36⟩
  · exact ⟨mn_sLR, o33_38⟩
  · exact ⟨mn_sLR, o33_39⟩
  · exact ⟨mn_sK, o33_40⟩
  · exact ⟨mn_sCV, o33_42⟩
  · exact ⟨mn_sIS, o33_45⟩
  · exact ⟨mn_sInc, o33_46⟩
  · exact ⟨mn_sX, ok_X⟩
theorem oc33_2 : ∀ pc, Mnp (c33_2 pc) ∧ Okp RX3 cX3_walkFunction 10 none "walkFunction" false pc (c33_2 pc) := by
  intro pc
  unfold c33_2
  split
  · exact ⟨mn_sGo, o33_49⟩
  · exact ⟨mn_sLR, o33_52⟩
  · exact ⟨mn_sLR, o33_53⟩
  · exact ⟨mn_sK, o33_54⟩
  · exact ⟨mn_sCV, o33_56⟩
  · exact ⟨mn_sSI, o33_59⟩
  · exact ⟨mn_sLR, o33_61⟩
  · exact ⟨mn_sGR, o33_62⟩
  · exact ⟨mn_sLI, o33_65⟩
  · exact ⟨mn_sK, o33_66⟩
  · exact ⟨mn_sCV, o33_68⟩
  · exact ⟨mn_sSI, o33_71⟩
  · exact ⟨mn_sX, ok_X⟩
theorem oc33_3 : ∀ pc, Mnp (c33_3 pc) ∧ Okp RX3 cX3_walkFunction 10 none "walkFunction" false pc (c33_3 pc) := by
  intro pc
  unfold c33_3
  split
  · exact ⟨mn_sLR, o33_73⟩
  · exact ⟨mn_sGR, o33_74⟩
  · exact ⟨mn_sK, o33_77⟩
  · exact ⟨mn_sK, o33_78⟩
  · exact ⟨mn_sCV, o33_81⟩
  · exact ⟨mn_sSI, o33_84⟩
  · exact ⟨mn_sLR, o33_86⟩
  · exact ⟨mn_sGI, o33_87⟩
  · exact ⟨mn_sI1, o33_90⟩
  · exact ⟨mn_sLR, o33_93⟩
  · exact ⟨mn_sLI, o33_94⟩
  · exact ⟨mn_sNew, o33_95⟩
  · exact ⟨mn_sX, ok_X⟩
theorem oc33_4 : ∀ pc, Mnp (c33_4 pc) ∧ Okp RX3 cX3_walkFunction 10 none "walkFunction" false pc (c33_4 pc) := by
  intro pc
  unfold c33_4
  split
  · exact ⟨mn_sDup, o33_98⟩
  · exact ⟨mn_sLR, o33_99⟩
  · exact ⟨mn_sLI, o33_101⟩
  · exact ⟨mn_sLI, o33_103⟩
  · exact ⟨mn_sLI, o33_105⟩
  · exact ⟨mn_sLR, o33_107⟩
  · exact ⟨mn_sGR, o33_108⟩
  · exact ⟨mn_sGI, o33_111⟩
  · exact ⟨mn_sCI, o33_114⟩
  · exact ⟨mn_sCV, o33_117⟩
  · exact ⟨mn_sX, ok_X⟩
theorem oc33_5 : ∀ pc, Mnp (c33_5 pc) ∧ Okp RX3 cX3_walkFunction 10 none "walkFunction" false pc (c33_5 pc) := by
  intro pc
  unfold c33_5
  split
  · exact ⟨mn_sLR, o33_120⟩
  · exact ⟨mn_sLI, o33_121⟩
  · exact ⟨mn_sCV, o33_122⟩
  · exact ⟨mn_sSR, o33_125⟩
  · exact ⟨mn_sLR, o33_127⟩
  · exact ⟨mn_sNl, o33_129⟩
  · exact ⟨mn_sRV, o33_132⟩
  · exact ⟨mn_sLR, o33_133⟩
  · exact ⟨mn_sGR, o33_134⟩
  · exact ⟨mn_sLR, o33_137⟩
  · exact ⟨mn_sGI, o33_139⟩
  · exact ⟨mn_sLR, o33_142⟩
  · exact ⟨mn_sX, ok_X⟩
theorem oc33_6 : ∀ pc, Mnp (c33_6 pc) ∧ Okp RX3 cX3_walkFunction 10 none "walkFunction" false pc (c33_6 pc) := by
  intro pc
  unfold c33_6
  split
  · exact ⟨mn_sGI, o33_144⟩
  · exact ⟨mn_sB2, o33_147⟩
  · exact ⟨mn_sPI, o33_148⟩
  · exact ⟨mn_sK, o33_151⟩
  · exact ⟨mn_sSI, o33_152⟩
  · exact ⟨mn_sLI, o33_154⟩
  · exact ⟨mn_sLI, o33_156⟩
  · exact ⟨mn_sI2, o33_158⟩
  · exact ⟨mn_sLR, o33_161⟩
  · exact ⟨mn_sGR, o33_162⟩
  · exact ⟨mn_sCV, o33_165⟩
  · exact ⟨mn_sX, ok_X⟩
theorem oc33_7 : ∀ pc, Mnp (c33_7 pc) ∧ Okp RX3 cX3_walkFunction 10 none "walkFunction" false pc (c33_7 pc) := by
  intro pc
  unfold c33_7
  split
  · exact ⟨mn_sI1, o33_168⟩
  · exact ⟨mn_sLR, o33_171⟩
  · exact ⟨mn_sGR, o33_172⟩
  · exact ⟨mn_sGI, o33_175⟩
  · exact ⟨mn_sLR, o33_178⟩
  · exact ⟨mn_sGR, o33_179⟩
  · exact ⟨mn_sGI, o33_182⟩
  · exact ⟨mn_sI2, o33_185⟩
  · exact ⟨mn_sLR, o33_188⟩
  · exact ⟨mn_sLR, o33_189⟩
  · exact ⟨mn_sLR, o33_190⟩
  · exact ⟨mn_sX, ok_X⟩
theorem oc33_8 : ∀ pc, Mnp (c33_8 pc) ∧ Okp RX3 cX3_walkFunction 10 none "walkFunction" false pc (c33_8 pc) := by
  intro pc
  unfold c33_8
  split
  · exact ⟨mn_sCV, o33_192⟩
  · exact ⟨mn_sInc, o33_195⟩
  · exact ⟨mn_sGo, o33_198⟩
  · exact ⟨mn_sLR, o33_201⟩
  · exact ⟨mn_sGR, o33_202⟩
  · exact ⟨mn_sLR, o33_205⟩
  · exact ⟨mn_sGR, o33_206⟩
  · exact ⟨mn_sGI, o33_209⟩
  · exact ⟨mn_sPI, o33_212⟩
  · exact ⟨mn_sRV, o33_215⟩
  · exact ⟨mn_sX, ok_X⟩
theorem oc33 : ∀ pc, Mnp (c33 pc) ∧ Okp RX3 cX3_walkFunction 10 none "walkFunction" false pc (c33 pc) := by
  intro pc
  unfold c33
  split
  · exact oc33_0 pc
  · exact oc33_1 pc
  · exact oc33_2 pc
  · exact oc33_3 pc
  · exact oc33_4 pc
  · exact oc33_5 pc
  · exact oc33_6 pc
  · exact oc33_7 pc
  · exact oc33_8 pc
  · exact ⟨mn_sX, ok_X⟩
