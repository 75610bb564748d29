theorem o282_0 : Okp RX12 cX12_act 2 (some .int) "act" false 0 (sK 16 2) := ok_bipush (by decide +kernel : decode cX12_act 0 = .ok (.bipush 16, 2)) (by decide)
theorem o282_2 : Okp RX12 cX12_act 2 (some .int) "act" false 2 (sLI 1 3) := ok_iload_n (by decide +kernel : decode cX12_act 2 = .ok (.iload_n 1, 1)) rfl
theorem o282_3 : Okp RX12 cX12_act 2 (some .int) "act" false 3 (sB2 fMul 4) := ok_imul (by decide +kernel : decode cX12_act 3 = .ok (.imul, 1))
theorem o282_4 : Okp RX12 cX12_act 2 (some .int) "act" false 4 (sLR 0 5) := ok_aload_n (by decide +kernel : decode cX12_act 4 = .ok (.aload_n 0, 1)) rfl
theorem o282_5 : Okp RX12 cX12_act 2 (some .int) "act" false 5 (sGR 13 64 8) := ok_getR (by decide +kernel : decode cX12_act 5 = .ok (.getfield 152, 3)) fw_X12_152 rfl
theorem o282_8 : Okp RX12 cX12_act 2 (some .int) "act" false 8 (sLI 1 9) := ok_iload_n (by decide +kernel : decode cX12_act 8 = .ok (.iload_n 1, 1)) rfl
theorem o282_9 : Okp RX12 cX12_act 2 (some .int) "act" false 9 (sIA 10) := ok_iaload (by decide +kernel : decode cX12_act 9 = .ok (.iaload, 1))
theorem o282_10 : Okp RX12 cX12_act 2 (some .int) "act" false 10 (sB2 fAdd 11) := ok_iadd (by decide +kernel : decode cX12_act 10 = .ok (.iadd, 1))
theorem o282_11 : Okp RX12 cX12_act 2 (some .int) "act" false 11 (sK 1 12) := ok_iconst (by decide +kernel : decode cX12_act 11 = .ok (.iconst 1, 1)) (by decide)
theorem o282_12 : Okp RX12 cX12_act 2 (some .int) "act" false 12 (sB2 fSub 13) := ok_isub (by decide +kernel : decode cX12_act 12 = .ok (.isub, 1))
theorem o282_13 : Okp RX12 cX12_act 2 (some .int) "act" false 13 sRI := ok_iret rfl (by decide +kernel : decode cX12_act 13 = .ok (.ireturn, 1))
theorem oc282 : ∀ pc, Mnp (c282 pc) ∧ Okp RX12 cX12_act 2 (some .int) "act" false pc (c282 pc) := by
  intro pc
  unfold c282
  split
  · exact ⟨mn_sK, o282_0⟩
  · exact ⟨mn_sLI, o282_2⟩
  · exact ⟨mn_sB2, o282_3⟩
  · exact ⟨mn_sLR, o282_4⟩
  · exact ⟨mn_sGR, o282_5⟩
  · exact ⟨mn_sLI, o282_8⟩
  · exact ⟨mn_sIA, o282_9⟩
  · exact ⟨mn_sB2, o282_10⟩
  · exact ⟨mn_sK, o282_11⟩
  · exact ⟨mn_sB2, o282_12⟩
  · exact ⟨mn_sRI, o282_13⟩
  · exact ⟨mn_sX, ok_X⟩
theorem o283_0 : Okp RX12 cX12_local 3 (some .int) "local" false 0 (sK 26 2) := ok_bipush (by decide +kernel : decode cX12_local 0 = .ok (.bipush 26, 2)) (by decide)
theorem o283_2 : Okp RX12 cX12_local 3 (some .int) "local" false 2 (sK 16 4) := ok_bipush (by decide +kernel : decode cX12_local 2 = .ok (.bipush 16, 2)) (by decide)
theorem o283_4 : Okp RX12 cX12_local 3 (some .int) "local" false 4 (sLI 0 5) := ok_iload_n (by decide +kernel : decode cX12_local 4 = .ok (.iload_n 0, 1)) rfl
theorem o283_5 : Okp RX12 cX12_local 3 (some .int) "local" false 5 (sB2 fMul 6) := ok_imul (by decide +kernel : decode cX12_local 5 = .ok (.imul, 1))
theorem o283_6 : Okp RX12 cX12_local 3 (some .int) "local" false 6 (sLI 1 7) := ok_iload_n (by decide +kernel : decode cX12_local 6 = .ok (.iload_n 1, 1)) rfl
theorem o283_7 : Okp RX12 cX12_local 3 (some .int) "local" false 7 (sB2 fAdd 8) := ok_iadd (by decide +kernel : decode cX12_local 7 = .ok (.iadd, 1))
theorem o283_8 : Okp RX12 cX12_local 3 (some .int) "local" false 8 (sB2 fMul 9) := ok_imul (by decide +kernel : decode cX12_local 8 = .ok (.imul, 1))
theorem o283_9 : Okp RX12 cX12_local 3 (some .int) "local" false 9 (sLI 2 10) := ok_iload_n (by decide +kernel : decode cX12_local 9 = .ok (.iload_n 2, 1)) rfl
theorem o283_10 : Okp RX12 cX12_local 3 (some .int) "local" false 10 (sB2 fAdd 11) := ok_iadd (by decide +kernel : decode cX12_local 10 = .ok (.iadd, 1))
theorem o283_11 : Okp RX12 cX12_local 3 (some .int) "local" false 11 sRI := ok_iret rfl (by decide +kernel : decode cX12_local 11 = .ok (.ireturn, 1))
theorem oc283 : ∀ pc, Mnp (c283 pc) ∧ Okp RX12 cX12_local 3 (some .int) "local" false pc (c283 pc) := by
  intro pc
  unfold c283
  split
  · exact ⟨mn_sK, o283_0⟩
  · exact ⟨mn_sK, o283_2⟩
  · exact ⟨mn_sLI, o283_4⟩
  · exact ⟨mn_sB2, o283_5⟩
  · exact ⟨mn_sLI, o283_6⟩
  · exact ⟨mn_sB2, o283_7⟩
  · exact ⟨mn_sB2, o283_8⟩
  · exact ⟨mn_sLI, o283_9⟩
  · exact ⟨mn_sB2, o283_10⟩
  · exact ⟨mn_sRI, o283_11⟩
  · exact ⟨mn_sX, ok_X⟩
theorem o284_0 : Okp RX12 cX12_stack 3 (some .int) "stack" false 0 (sK 26 2) := ok_bipush (by decide +kernel : decode cX12_stack 0 = .ok (.bipush 26, 2)) (by decide)
theorem o284_2 : Okp RX12 cX12_stack 3 (some .int) "stack" false 2 (sLR 0 3) := ok_aload_n (by decide +kernel : decode cX12_stack 2 = .ok (.aload_n 0, 1)) rfl
theorem o284_3 : Okp RX12 cX12_stack 3 (some .int) "stack" false 3 (sLI 1 4) := ok_iload_n (by decide +kernel : decode cX12_stack 3 = .ok (.iload_n 1, 1)) rfl
theorem o284_4 : Okp RX12 cX12_stack 3 (some .int) "stack" false 4 (sCV false 282 2 13 7) := ok_cv (by decide +kernel : decode cX12_stack 4 = .ok (.invokevirtual 487, 3)) mw_X12_487 rfl (by decide) wm_X12_act wse_X12_act (by decide) rfl
theorem o284_7 : Okp RX12 cX12_stack 3 (some .int) "stack" false 7 (sB2 fMul 8) := ok_imul (by decide +kernel : decode cX12_stack 7 = .ok (.imul, 1))
theorem o284_8 : Okp RX12 cX12_stack 3 (some .int) "stack" false 8 (sK 10 10) := ok_bipush (by decide +kernel : decode cX12_stack 8 = .ok (.bipush 10, 2)) (by decide)
theorem o284_10 : Okp RX12 cX12_stack 3 (some .int) "stack" false 10 (sB2 fAdd 11) := ok_iadd (by decide +kernel : decode cX12_stack 10 = .ok (.iadd, 1))
theorem o284_11 : Okp RX12 cX12_stack 3 (some .int) "stack" false 11 (sLI 2 12) := ok_iload_n (by decide +kernel : decode cX12_stack 11 = .ok (.iload_n 2, 1)) rfl
theorem o284_12 : Okp RX12 cX12_stack 3 (some .int) "stack" false 12 (sB2 fAdd 13) := ok_iadd (by decide +kernel : decode cX12_stack 12 = .ok (.iadd, 1))
theorem o284_13 : Okp RX12 cX12_stack 3 (some .int) "stack" false 13 sRI := ok_iret rfl (by decide +kernel : decode cX12_stack 13 = .ok (.ireturn, 1))
theorem oc284 : ∀ pc, Mnp (c284 pc) ∧ Okp RX12 cX12_stack 3 (some .int) "stack" false pc (c284 pc) := by
  intro pc
  unfold c284
  split
  · exact ⟨mn_sK, o284_0⟩
  · exact ⟨mn_sLR, o284_2⟩
  · exact ⟨mn_sLI, o284_3⟩
  · exact ⟨mn_sCV, o284_4⟩
  · exact ⟨mn_sB2, o284_7⟩
  · exact ⟨mn_sK, o284_8⟩
  · exact ⟨mn_sB2, o284_10⟩
  · exact ⟨mn_sLI, o284_11⟩
  · exact ⟨mn_sB2, o284_12⟩
  · exact ⟨mn_sRI, o284_13⟩
  · exact ⟨mn_sX, ok_X⟩
theorem o285_0 : Okp RX12 cX12_set 4 none "set" false 0 (sLR 0 1) := ok_aload_n (by decide +kernel : decode cX12_set 0 = .ok (.aload_n 0, 1)) rfl
theorem o285_1 : Okp RX12 cX12_set 4 none "set" false 1 (sGR 13 68 4) := ok_getR (by decide +kernel : decode cX12_set 1 = .ok (.getfield 164, 3)) fw_X12_164 rfl
theorem o285_4 : Okp RX12 cX12_set 4 none "set" false 4 (sLI 1 5) := ok_iload_n (by decide +kernel : decode cX12_set 4 = .ok (.iload_n 1, 1)) rfl
theorem o285_5 : Okp RX12 cX12_set 4 none "set" false 5 (sLI 2 6) := ok_iload_n (by decide +kernel : decode cX12_set 5 = .ok (.iload_n 2, 1)) rfl
theorem o285_6 : Okp RX12 cX12_set 4 none "set" false 6 (sIS 7) := ok_iastore (by decide +kernel : decode cX12_set 6 = .ok (.iastore, 1))
theorem o285_7 : Okp RX12 cX12_set 4 none "set" false 7 (sLR 0 8) := ok_aload_n (by decide +kernel : decode cX12_set 7 = .ok (.aload_n 0, 1)) rfl
theorem o285_8 : Okp RX12 cX12_set 4 none "set" false 8 (sGR 13 69 11) := ok_getR (by decide +kernel : decode cX12_set 8 = .ok (.getfield 167, 3)) fw_X12_167 rfl
theorem o285_11 : Okp RX12 cX12_set 4 none "set" false 11 (sLI 1 12) := ok_iload_n (by decide +kernel : decode cX12_set 11 = .ok (.iload_n 1, 1)) rfl
theorem o285_12 : Okp RX12 cX12_set 4 none "set" false 12 (sLI 3 13) := ok_iload_n (by decide +kernel : decode cX12_set 12 = .ok (.iload_n 3, 1)) rfl
theorem o285_13 : Okp RX12 cX12_set 4 none "set" false 13 (sIS 14) := ok_iastore (by decide +kernel : decode cX12_set 13 = .ok (.iastore, 1))
theorem o285_14 : Okp RX12 cX12_set 4 none "set" false 14 sRV := ok_vret rfl (by decide +kernel : decode cX12_set 14 = .ok (.return_, 1))
theorem oc285 : ∀ pc, Mnp (c285 pc) ∧ Okp RX12 cX12_set 4 none "set" false pc (c285 pc) := by
  intro pc
  unfold c285
  split
  · exact ⟨mn_sLR, o285_0⟩
  · exact ⟨mn_sGR, o285_1⟩
  · exact ⟨mn_sLI, o285_4⟩
  · exact ⟨mn_sLI, o285_5⟩
  · exact ⟨mn_sIS, o285_6⟩
  · exact ⟨mn_sLR, o285_7⟩
  · exact ⟨mn_sGR, o285_8⟩
  · exact ⟨mn_sLI, o285_11⟩
  · exact ⟨mn_sLI, o285_12⟩
  · exact ⟨mn_sIS, o285_13⟩
  · exact ⟨mn_sRV, o285_14⟩
  · exact ⟨mn_sX, ok_X⟩
theorem o286_0 : Okp RX12 cX12_push_ 4 none "push" false 0 (sLR 0 1) := ok_aload_n (by decide +kernel : decode cX12_push_ 0 = .ok (.aload_n 0, 1)) rfl
theorem o286_1 : Okp RX12 cX12_push_ 4 none "push" false 1 (sLR 0 2) := ok_aload_n (by decide +kernel : decode cX12_push_ 1 = .ok (.aload_n 0, 1)) rfl
theorem o286_2 : Okp RX12 cX12_push_ 4 none "push" false 2 (sLI 1 3) := ok_iload_n (by decide +kernel : decode cX12_push_ 2 = .ok (.iload_n 1, 1)) rfl
theorem o286_3 : Okp RX12 cX12_push_ 4 none "push" false 3 (sLR 0 4) := ok_aload_n (by decide +kernel : decode cX12_push_ 3 = .ok (.aload_n 0, 1)) rfl
theorem o286_4 : Okp RX12 cX12_push_ 4 none "push" false 4 (sGR 13 67 7) := ok_getR (by decide +kernel : decode cX12_push_ 4 = .ok (.getfield 161, 3)) fw_X12_161 rfl
theorem o286_7 : Okp RX12 cX12_push_ 4 none "push" false 7 (sLR 0 8) := ok_aload_n (by decide +kernel : decode cX12_push_ 7 = .ok (.aload_n 0, 1)) rfl
theorem o286_8 : Okp RX12 cX12_push_ 4 none "push" false 8 (sLI 1 9) := ok_iload_n (by decide +kernel : decode cX12_push_ 8 = .ok (.iload_n 1, 1)) rfl
theorem o286_9 : Okp RX12 cX12_push_ 4 none "push" false 9 (sCV false 282 2 13 12) := ok_cv (by decide +kernel : decode cX12_push_ 9 = .ok (.invokevirtual 487, 3)) mw_X12_487 rfl (by decide) wm_X12_act wse_X12_act (by decide) rfl
theorem o286_12 : Okp RX12 cX12_push_ 4 none "push" false 12 (sIA 13) := ok_iaload (by decide +kernel : decode cX12_push_ 12 = .ok (.iaload, 1))
theorem o286_13 : Okp RX12 cX12_push_ 4 none "push" false 13 (sCV false 284 3 13 16) := ok_cv (by decide +kernel : decode cX12_push_ 13 = .ok (.invokevirtual 490, 3)) mw_X12_490 rfl (by decide) wm_X12_stack wse_X12_stack (by decide) rfl
theorem o286_16 : Okp RX12 cX12_push_ 4 none "push" false 16 (sLI 2 17) := ok_iload_n (by decide +kernel : decode cX12_push_ 16 = .ok (.iload_n 2, 1)) rfl
theorem o286_17 : Okp RX12 cX12_push_ 4 none "push" false 17 (sLI 3 18) := ok_iload_n (by decide +kernel : decode cX12_push_ 17 = .ok (.iload_n 3, 1)) rfl
theorem o286_18 : Okp RX12 cX12_push_ 4 none "push" false 18 (sCV false 285 4 13 21) := ok_cv (by decide +kernel : decode cX12_push_ 18 = .ok (.invokevirtual 481, 3)) mw_X12_481 rfl (by decide) wm_X12_set wse_X12_set (by decide) rfl
theorem o286_21 : Okp RX12 cX12_push_ 4 none "push" false 21 (sLR 0 22) := ok_aload_n (by decide +kernel : decode cX12_push_ 21 = .ok (.aload_n 0, 1)) rfl
theorem o286_22 : Okp RX12 cX12_push_ 4 none "push" false 22 (sGR 13 67 25) := ok_getR (by decide +kernel : decode cX12_push_ 22 = .ok (.getfield 161, 3)) fw_X12_161 rfl
theorem o286_25 : Okp RX12 cX12_push_ 4 none "push" false 25 (sLR 0 26) := ok_aload_n (by decide +kernel : decode cX12_push_ 25 = .ok (.aload_n 0, 1)) rfl
theorem o286_26 : Okp RX12 cX12_push_ 4 none "push" false 26 (sLI 1 27) := ok_iload_n (by decide +kernel : decode cX12_push_ 26 = .ok (.iload_n 1, 1)) rfl
theorem o286_27 : Okp RX12 cX12_push_ 4 none "push" false 27 (sCV false 282 2 13 30) := ok_cv (by decide +kernel : decode cX12_push_ 27 = .ok (.invokevirtual 487, 3)) mw_X12_487 rfl (by decide) wm_X12_act wse_X12_act (by decide) rfl
theorem o286_30 : Okp RX12 cX12_push_ 4 none "push" false 30 (sDup2 31) := ok_dup2 (by decide +kernel : decode cX12_push_ 30 = .ok (.dup2, 1))
theorem o286_31 : Okp RX12 cX12_push_ 4 none "push" false 31 (sIA 32) := ok_iaload (by decide +kernel : decode cX12_push_ 31 = .ok (.iaload, 1))
theorem o286_32 : Okp RX12 cX12_push_ 4 none "push" false 32 (sK 1 33) := ok_iconst (by decide +kernel : decode cX12_push_ 32 = .ok (.iconst 1, 1)) (by decide)
theorem o286_33 : Okp RX12 cX12_push_ 4 none "push" false 33 (sB2 fAdd 34) := ok_iadd (by decide +kernel : decode cX12_push_ 33 = .ok (.iadd, 1))
theorem o286_34 : Okp RX12 cX12_push_ 4 none "push" false 34 (sIS 35) := ok_iastore (by decide +kernel : decode cX12_push_ 34 = .ok (.iastore, 1))
theorem o286_35 : Okp RX12 cX12_push_ 4 none "push" false 35 sRV := ok_vret rfl (by decide +kernel : decode cX12_push_ 35 = .ok (.return_, 1))
theorem oc286_0 : ∀ pc, Mnp (c286_0 pc) ∧ Okp RX12 cX12_push_ 4 none "push" false pc (c286_0 pc) := by
  intro pc
  unfold c286_0
  split
  · exact ⟨mn_sLR, o286_0⟩
  · exact ⟨mn_sLR, o286_1⟩
  · exact ⟨mn_sLI, o286_2⟩
  · exact ⟨mn_sLR, o286_3⟩
  · exact ⟨mn_sGR, o286_4⟩
  · exact ⟨mn_sLR, o286_7⟩
  · exact ⟨mn_sLI, o286_8⟩
  · exact ⟨mn_sCV, o286_9⟩
  · exact ⟨mn_sIA, o286_12⟩
  · exact ⟨mn_sCV, o286_13⟩
  · exact ⟨mn_sLI, o286_16⟩
  · exact ⟨mn_sLI, o286_17⟩
  · exact ⟨mn_sCV, o286_18⟩
  · exact ⟨mn_sLR, o286_21⟩
  · exact ⟨mn_sGR, o286_22⟩
  · exact ⟨mn_sX, ok_X⟩
theorem oc286_1 : ∀ pc, Mnp (c286_1 pc) ∧ Okp RX12 cX12_push_ 4 none "push" false pc (c286_1 pc) := by
  intro pc
  unfold c286_1
  split
  · exact ⟨mn_sLR, o286_25⟩
  · exact ⟨mn_sLI, o286_26⟩
  · exact ⟨mn_sCV, o286_27⟩
  · exact ⟨mn_sDup2, o286_30⟩
  · exact ⟨mn_sIA, o286_31⟩
  · exact ⟨mn_sK, o286_32⟩
  · exact ⟨mn_sB2, o286_33⟩
  · exact ⟨mn_sIS, o286_34⟩
  · exact ⟨mn_sRV, o286_35⟩
  · exact ⟨mn_sX, ok_X⟩
theorem oc286 : ∀ pc, Mnp (c286 pc) ∧ Okp RX12 cX12_push_ 4 none "push" false pc (c286 pc) := by
  intro pc
  unfold c286
  split
  · exact oc286_0 pc
  · exact oc286_1 pc
  · exact ⟨mn_sX, ok_X⟩
theorem o287_0 : Okp RX12 cX12_pop_ 3 (some .int) "pop" false 0 (sLR 0 1) := ok_aload_n (by decide +kernel : decode cX12_pop_ 0 = .ok (.aload_n 0, 1)) rfl
theorem o287_1 : Okp RX12 cX12_pop_ 3 (some .int) "pop" false 1 (sGR 13 67 4) := ok_getR (by decide +kernel : decode cX12_pop_ 1 = .ok (.getfield 161, 3)) fw_X12_161 rfl
theorem o287_4 : Okp RX12 cX12_pop_ 3 (some .int) "pop" false 4 (sLR 0 5) := ok_aload_n (by decide +kernel : decode cX12_pop_ 4 = .ok (.aload_n 0, 1)) rfl
theorem o287_5 : Okp RX12 cX12_pop_ 3 (some .int) "pop" false 5 (sLI 1 6) := ok_iload_n (by decide +kernel : decode cX12_pop_ 5 = .ok (.iload_n 1, 1)) rfl
theorem o287_6 : Okp RX12 cX12_pop_ 3 (some .int) "pop" false 6 (sCV false 282 2 13 9) := ok_cv (by decide +kernel : decode cX12_pop_ 6 = .ok (.invokevirtual 487, 3)) mw_X12_487 rfl (by decide) wm_X12_act wse_X12_act (by decide) rfl
theorem o287_9 : Okp RX12 cX12_pop_ 3 (some .int) "pop" false 9 (sDup2 10) := ok_dup2 (by decide +kernel : decode cX12_pop_ 9 = .ok (.dup2, 1))
theorem o287_10 : Okp RX12 cX12_pop_ 3 (some .int) "pop" false 10 (sIA 11) := ok_iaload (by decide +kernel : decode cX12_pop_ 10 = .ok (.iaload, 1))
theorem o287_11 : Okp RX12 cX12_pop_ 3 (some .int) "pop" false 11 (sK 1 12) := ok_iconst (by decide +kernel : decode cX12_pop_ 11 = .ok (.iconst 1, 1)) (by decide)
theorem o287_12 : Okp RX12 cX12_pop_ 3 (some .int) "pop" false 12 (sB2 fSub 13) := ok_isub (by decide +kernel : decode cX12_pop_ 12 = .ok (.isub, 1))
theorem o287_13 : Okp RX12 cX12_pop_ 3 (some .int) "pop" false 13 (sIS 14) := ok_iastore (by decide +kernel : decode cX12_pop_ 13 = .ok (.iastore, 1))
theorem o287_14 : Okp RX12 cX12_pop_ 3 (some .int) "pop" false 14 (sLR 0 15) := ok_aload_n (by decide +kernel : decode cX12_pop_ 14 = .ok (.aload_n 0, 1)) rfl
theorem o287_15 : Okp RX12 cX12_pop_ 3 (some .int) "pop" false 15 (sLI 1 16) := ok_iload_n (by decide +kernel : decode cX12_pop_ 15 = .ok (.iload_n 1, 1)) rfl
theorem o287_16 : Okp RX12 cX12_pop_ 3 (some .int) "pop" false 16 (sLR 0 17) := ok_aload_n (by decide +kernel : decode cX12_pop_ 16 = .ok (.aload_n 0, 1)) rfl
theorem o287_17 : Okp RX12 cX12_pop_ 3 (some .int) "pop" false 17 (sGR 13 67 20) := ok_getR (by decide +kernel : decode cX12_pop_ 17 = .ok (.getfield 161, 3)) fw_X12_161 rfl
theorem o287_20 : Okp RX12 cX12_pop_ 3 (some .int) "pop" false 20 (sLR 0 21) := ok_aload_n (by decide +kernel : decode cX12_pop_ 20 = .ok (.aload_n 0, 1)) rfl
theorem o287_21 : Okp RX12 cX12_pop_ 3 (some .int) "pop" false 21 (sLI 1 22) := ok_iload_n (by decide +kernel : decode cX12_pop_ 21 = .ok (.iload_n 1, 1)) rfl
theorem o287_22 : Okp RX12 cX12_pop_ 3 (some .int) "pop" false 22 (sCV false 282 2 13 25) := ok_cv (by decide +kernel : decode cX12_pop_ 22 = .ok (.invokevirtual 487, 3)) mw_X12_487 rfl (by decide) wm_X12_act wse_X12_act (by decide) rfl
theorem o287_25 : Okp RX12 cX12_pop_ 3 (some .int) "pop" false 25 (sIA 26) := ok_iaload (by decide +kernel : decode cX12_pop_ 25 = .ok (.iaload, 1))
theorem o287_26 : Okp RX12 cX12_pop_ 3 (some .int) "pop" false 26 (sCV false 284 3 13 29) := ok_cv (by decide +kernel : decode cX12_pop_ 26 = .ok (.invokevirtual 490, 3)) mw_X12_490 rfl (by decide) wm_X12_stack wse_X12_stack (by decide) rfl
theorem o287_29 : Okp RX12 cX12_pop_ 3 (some .int) "pop" false 29 (sSI 2 30) := ok_istore_n (by decide +kernel : decode cX12_pop_ 29 = .ok (.istore_n 2, 1)) rfl (by decide) (by decide)
theorem o287_30 : Okp RX12 cX12_pop_ 3 (some .int) "pop" false 30 (sLI 2 31) := ok_iload_n (by decide +kernel : decode cX12_pop_ 30 = .ok (.iload_n 2, 1)) rfl
theorem o287_31 : Okp RX12 cX12_pop_ 3 (some .int) "pop" false 31 sRI := ok_iret rfl (by decide +kernel : decode cX12_pop_ 31 = .ok (.ireturn, 1))
theorem oc287_0 : ∀ pc, Mnp (c287_0 pc) ∧ Okp RX12 cX12_pop_ 3 (some .int) "pop" false pc (c287_0 pc) := by
  intro pc
  unfold c287_0
  split
  · exact ⟨mn_sLR, o287_0⟩
  · exact ⟨mn_sGR, o287_1⟩
  · exact ⟨mn_sLR, o287_4⟩
  · exact ⟨mn_sLI, o287_5⟩
  · exact ⟨mn_sCV, o287_6⟩
  · exact ⟨mn_sDup2, o287_9⟩
  · exact ⟨mn_sIA, o287_10⟩
  · exact ⟨mn_sK, o287_11⟩
  · exact ⟨mn_sB2, o287_12⟩
  · exact ⟨mn_sIS, o287_13⟩
  · exact ⟨mn_sLR, o287_14⟩
  · exact ⟨mn_sLI, o287_15⟩
  · exact ⟨mn_sLR, o287_16⟩
  · exact ⟨mn_sGR, o287_17⟩
  · exact ⟨mn_sLR, o287_20⟩
  · exact ⟨mn_sLI, o287_21⟩
  · exact ⟨mn_sCV, o287_22⟩
  · exact ⟨mn_sX, ok_X⟩
theorem oc287_1 : ∀ pc, Mnp (c287_1 pc) ∧ Okp RX12 cX12_pop_ 3 (some .int) "pop" false pc (c287_1 pc) := by
  intro pc
  unfold c287_1
  split
  · exact ⟨mn_sIA, o287_25⟩
  · exact ⟨mn_sCV, o287_26⟩
  · exact ⟨mn_sSI, o287_29⟩
  · exact ⟨mn_sLI, o287_30⟩
  · exact ⟨mn_sRI, o287_31⟩
  · exact ⟨mn_sX, ok_X⟩
theorem oc287 : ∀ pc, Mnp (c287 pc) ∧ Okp RX12 cX12_pop_ 3 (some .int) "pop" false pc (c287 pc) := by
  intro pc
  unfold c287
  split
  · exact oc287_0 pc
  · exact oc287_1 pc
  · exact ⟨mn_sX, ok_X⟩
theorem o288_0 : Okp RX12 cX12_popValue 2 (some .int) "popValue" false 0 (sLR 0 1) := ok_aload_n (by decide +kernel : decode cX12_popValue 0 = .ok (.aload_n 0, 1)) rfl
theorem o288_1 : Okp RX12 cX12_popValue 2 (some .int) "popValue" false 1 (sGR 13 68 4) := ok_getR (by decide +kernel : decode cX12_popValue 1 = .ok (.getfield 164, 3)) fw_X12_164 rfl
theorem o288_4 : Okp RX12 cX12_popValue 2 (some .int) "popValue" false 4 (sLR 0 5) := ok_aload_n (by decide +kernel : decode cX12_popValue 4 = .ok (.aload_n 0, 1)) rfl
theorem o288_5 : Okp RX12 cX12_popValue 2 (some .int) "popValue" false 5 (sLI 1 6) := ok_iload_n (by decide +kernel : decode cX12_popValue 5 = .ok (.iload_n 1, 1)) rfl
theorem o288_6 : Okp RX12 cX12_popValue 2 (some .int) "popValue" false 6 (sCV false 287 2 13 9) := ok_cv (by decide +kernel : decode cX12_popValue 6 = .ok (.invokevirtual 493, 3)) mw_X12_493 rfl (by decide) wm_X12_pop_ wse_X12_pop_ (by decide) rfl
theorem o288_9 : Okp RX12 cX12_popValue 2 (some .int) "popValue" false 9 (sIA 10) := ok_iaload (by decide +kernel : decode cX12_popValue 9 = .ok (.iaload, 1))
theorem o288_10 : Okp RX12 cX12_popValue 2 (some .int) "popValue" false 10 sRI := ok_iret rfl (by decide +kernel : decode cX12_popValue 10 = .ok (.ireturn, 1))
theorem oc288 : ∀ pc, Mnp (c288 pc) ∧ Okp RX12 cX12_popValue 2 (some .int) "popValue" false pc (c288 pc) := by
  intro pc
  unfold c288
  split
  · exact ⟨mn_sLR, o288_0⟩
  · exact ⟨mn_sGR, o288_1⟩
  · exact ⟨mn_sLR, o288_4⟩
  · exact ⟨mn_sLI, o288_5⟩
  · exact ⟨mn_sCV, o288_6⟩
  · exact ⟨mn_sIA, o288_9⟩
  · exact ⟨mn_sRI, o288_10⟩
  · exact ⟨mn_sX, ok_X⟩
theorem o289_0 : Okp RX12 cX12_reach 8 (some .int) "reach" false 0 (sK 1 1) := ok_iconst (by decide +kernel : decode cX12_reach 0 = .ok (.iconst 1, 1)) (by decide)
theorem o289_1 : Okp RX12 cX12_reach 8 (some .int) "reach" false 1 (sSI 2 2) := ok_istore_n (by decide +kernel : decode cX12_reach 1 = .ok (.istore_n 2, 1)) rfl (by decide) (by decide)
theorem o289_2 : Okp RX12 cX12_reach 8 (some .int) "reach" false 2 (sLI 2 3) := ok_iload_n (by decide +kernel : decode cX12_reach 2 = .ok (.iload_n 2, 1)) rfl
theorem o289_3 : Okp RX12 cX12_reach 8 (some .int) "reach" false 3 (sK 1025 6) := ok_sipush (by decide +kernel : decode cX12_reach 3 = .ok (.sipush 1025, 3)) (by decide)
theorem o289_6 : Okp RX12 cX12_reach 8 (some .int) "reach" false 6 (sI2 3 22 9) := ok_icmp_ge (by decide +kernel : decode cX12_reach 6 = .ok (.if_icmp .ge 16, 3)) (by decide)
theorem o289_9 : Okp RX12 cX12_reach 8 (some .int) "reach" false 9 (sLR 0 10) := ok_aload_n (by decide +kernel : decode cX12_reach 9 = .ok (.aload_n 0, 1)) rfl
theorem o289_10 : Okp RX12 cX12_reach 8 (some .int) "reach" false 10 (sGR 13 72 13) := ok_getR (by decide +kernel : decode cX12_reach 10 = .ok (.getfield 176, 3)) fw_X12_176 rfl
theorem o289_13 : Okp RX12 cX12_reach 8 (some .int) "reach" false 13 (sLI 2 14) := ok_iload_n (by decide +kernel : decode cX12_reach 13 = .ok (.iload_n 2, 1)) rfl
theorem o289_14 : Okp RX12 cX12_reach 8 (some .int) "reach" false 14 (sK 0 15) := ok_iconst (by decide +kernel : decode cX12_reach 14 = .ok (.iconst 0, 1)) (by decide)
theorem o289_15 : Okp RX12 cX12_reach 8 (some .int) "reach" false 15 (sBS 16) := ok_bastore (by decide +kernel : decode cX12_reach 15 = .ok (.bastore, 1))
theorem o289_16 : Okp RX12 cX12_reach 8 (some .int) "reach" false 16 (sInc 2 1 19) := ok_iinc (by decide +kernel : decode cX12_reach 16 = .ok (.iinc 2 1, 3)) (by decide) (by decide)
theorem o289_19 : Okp RX12 cX12_reach 8 (some .int) "reach" false 19 (sGo 2) := ok_goto (by decide +kernel : decode cX12_reach 19 = .ok (.goto (-17), 3)) (by decide)
theorem o289_22 : Okp RX12 cX12_reach 8 (some .int) "reach" false 22 (sK 0 23) := ok_iconst (by decide +kernel : decode cX12_reach 22 = .ok (.iconst 0, 1)) (by decide)
theorem o289_23 : Okp RX12 cX12_reach 8 (some .int) "reach" false 23 (sSI 2 24) := ok_istore_n (by decide +kernel : decode cX12_reach 23 = .ok (.istore_n 2, 1)) rfl (by decide) (by decide)
theorem o289_24 : Okp RX12 cX12_reach 8 (some .int) "reach" false 24 (sK 0 25) := ok_iconst (by decide +kernel : decode cX12_reach 24 = .ok (.iconst 0, 1)) (by decide)
theorem o289_25 : Okp RX12 cX12_reach 8 (some .int) "reach" false 25 (sSI 3 26) := ok_istore_n (by decide +kernel : decode cX12_reach 25 = .ok (.istore_n 3, 1)) rfl (by decide) (by decide)
theorem o289_26 : Okp RX12 cX12_reach 8 (some .int) "reach" false 26 (sLI 3 27) := ok_iload_n (by decide +kernel : decode cX12_reach 26 = .ok (.iload_n 3, 1)) rfl
theorem o289_27 : Okp RX12 cX12_reach 8 (some .int) "reach" false 27 (sLR 0 28) := ok_aload_n (by decide +kernel : decode cX12_reach 27 = .ok (.aload_n 0, 1)) rfl
theorem o289_28 : Okp RX12 cX12_reach 8 (some .int) "reach" false 28 (sGR 13 64 31) := ok_getR (by decide +kernel : decode cX12_reach 28 = .ok (.getfield 152, 3)) fw_X12_152 rfl
theorem o289_31 : Okp RX12 cX12_reach 8 (some .int) "reach" false 31 (sLI 1 32) := ok_iload_n (by decide +kernel : decode cX12_reach 31 = .ok (.iload_n 1, 1)) rfl
theorem o289_32 : Okp RX12 cX12_reach 8 (some .int) "reach" false 32 (sIA 33) := ok_iaload (by decide +kernel : decode cX12_reach 32 = .ok (.iaload, 1))
theorem o289_33 : Okp RX12 cX12_reach 8 (some .int) "reach" false 33 (sI2 3 121 36) := ok_icmp_ge (by decide +kernel : decode cX12_reach 33 = .ok (.if_icmp .ge 88, 3)) (by decide)
theorem o289_36 : Okp RX12 cX12_reach 8 (some .int) "reach" false 36 (sLI 1 37) := ok_iload_n (by decide +kernel : decode cX12_reach 36 = .ok (.iload_n 1, 1)) rfl
theorem o289_37 : Okp RX12 cX12_reach 8 (some .int) "reach" false 37 (sLI 3 38) := ok_iload_n (by decide +kernel : decode cX12_reach 37 = .ok (.iload_n 3, 1)) rfl
theorem o289_38 : Okp RX12 cX12_reach 8 (some .int) "reach" false 38 (sK 0 39) := ok_iconst (by decide +kernel : decode cX12_reach 38 = .ok (.iconst 0, 1)) (by decide)
theorem o289_39 : Okp RX12 cX12_reach 8 (some .int) "reach" false 39 (sCS false 283 3 42) := ok_cs (by decide +kernel : decode cX12_reach 39 = .ok (.invokestatic 478, 3)) mw_X12_478 wt_X12_local (by decide) rfl
theorem o289_42 : Okp RX12 cX12_reach 8 (some .int) "reach" false 42 (sSI 4 44) := ok_istore (by decide +kernel : decode cX12_reach 42 = .ok (.istore 4, 2)) (by decide) (by decide)
theorem o289_44 : Okp RX12 cX12_reach 8 (some .int) "reach" false 44 (sK 0 45) := ok_iconst (by decide +kernel : decode cX12_reach 44 = .ok (.iconst 0, 1)) (by decide)
theorem o289_45 : Okp RX12 cX12_reach 8 (some .int) "reach" false 45 (sSI 5 47) := ok_istore (by decide +kernel : decode cX12_reach 45 = .ok (.istore 5, 2)) (by decide) (by decide)
theorem o289_47 : Okp RX12 cX12_reach 8 (some .int) "reach" false 47 (sLI 5 49) := ok_iload (by decide +kernel : decode cX12_reach 47 = .ok (.iload 5, 2))
theorem o289_49 : Okp RX12 cX12_reach 8 (some .int) "reach" false 49 (sK 10 51) := ok_bipush (by decide +kernel : decode cX12_reach 49 = .ok (.bipush 10, 2)) (by decide)
theorem o289_51 : Okp RX12 cX12_reach 8 (some .int) "reach" false 51 (sLR 0 52) := ok_aload_n (by decide +kernel : decode cX12_reach 51 = .ok (.aload_n 0, 1)) rfl
theorem o289_52 : Okp RX12 cX12_reach 8 (some .int) "reach" false 52 (sGR 13 67 55) := ok_getR (by decide +kernel : decode cX12_reach 52 = .ok (.getfield 161, 3)) fw_X12_161 rfl
theorem o289_55 : Okp RX12 cX12_reach 8 (some .int) "reach" false 55 (sK 16 57) := ok_bipush (by decide +kernel : decode cX12_reach 55 = .ok (.bipush 16, 2)) (by decide)
theorem o289_57 : Okp RX12 cX12_reach 8 (some .int) "reach" false 57 (sLI 1 58) := ok_iload_n (by decide +kernel : decode cX12_reach 57 = .ok (.iload_n 1, 1)) rfl
theorem o289_58 : Okp RX12 cX12_reach 8 (some .int) "reach" false 58 (sB2 fMul 59) := ok_imul (by decide +kernel : decode cX12_reach 58 = .ok (.imul, 1))
theorem o289_59 : Okp RX12 cX12_reach 8 (some .int) "reach" false 59 (sLI 3 60) := ok_iload_n (by decide +kernel : decode cX12_reach 59 = .ok (.iload_n 3, 1)) rfl
theorem o289_60 : Okp RX12 cX12_reach 8 (some .int) "reach" false 60 (sB2 fAdd 61) := ok_iadd (by decide +kernel : decode cX12_reach 60 = .ok (.iadd, 1))
theorem o289_61 : Okp RX12 cX12_reach 8 (some .int) "reach" false 61 (sIA 62) := ok_iaload (by decide +kernel : decode cX12_reach 61 = .ok (.iaload, 1))
theorem o289_62 : Okp RX12 cX12_reach 8 (some .int) "reach" false 62 (sB2 fAdd 63) := ok_iadd (by decide +kernel : decode cX12_reach 62 = .ok (.iadd, 1))
theorem o289_63 : Okp RX12 cX12_reach 8 (some .int) "reach" false 63 (sI2 3 115 66) := ok_icmp_ge (by decide +kernel : decode cX12_reach 63 = .ok (.if_icmp .ge 52, 3)) (by decide)
theorem o289_66 : Okp RX12 cX12_reach 8 (some .int) "reach" false 66 (sLR 0 67) := ok_aload_n (by decide +kernel : decode cX12_reach 66 = .ok (.aload_n 0, 1)) rfl
theorem o289_67 : Okp RX12 cX12_reach 8 (some .int) "reach" false 67 (sGR 13 69 70) := ok_getR (by decide +kernel : decode cX12_reach 67 = .ok (.getfield 167, 3)) fw_X12_167 rfl
theorem o289_70 : Okp RX12 cX12_reach 8 (some .int) "reach" false 70 (sLI 4 72) := ok_iload (by decide +kernel : decode cX12_reach 70 = .ok (.iload 4, 2))
theorem o289_72 : Okp RX12 cX12_reach 8 (some .int) "reach" false 72 (sLI 5 74) := ok_iload (by decide +kernel : decode cX12_reach 72 = .ok (.iload 5, 2))
theorem o289_74 : Okp RX12 cX12_reach 8 (some .int) "reach" false 74 (sB2 fAdd 75) := ok_iadd (by decide +kernel : decode cX12_reach 74 = .ok (.iadd, 1))
theorem o289_75 : Okp RX12 cX12_reach 8 (some .int) "reach" false 75 (sIA 76) := ok_iaload (by decide +kernel : decode cX12_reach 75 = .ok (.iaload, 1))
theorem o289_76 : Okp RX12 cX12_reach 8 (some .int) "reach" false 76 (sK 1 77) := ok_iconst (by decide +kernel : decode cX12_reach 76 = .ok (.iconst 1, 1)) (by decide)
theorem o289_77 : Okp RX12 cX12_reach 8 (some .int) "reach" false 77 (sI2 1 109 80) := ok_icmp_ne (by decide +kernel : decode cX12_reach 77 = .ok (.if_icmp .ne 32, 3)) (by decide)
theorem o289_80 : Okp RX12 cX12_reach 8 (some .int) "reach" false 80 (sLR 0 81) := ok_aload_n (by decide +kernel : decode cX12_reach 80 = .ok (.aload_n 0, 1)) rfl
theorem o289_81 : Okp RX12 cX12_reach 8 (some .int) "reach" false 81 (sGR 13 68 84) := ok_getR (by decide +kernel : decode cX12_reach 81 = .ok (.getfield 164, 3)) fw_X12_164 rfl
theorem o289_84 : Okp RX12 cX12_reach 8 (some .int) "reach" false 84 (sLI 4 86) := ok_iload (by decide +kernel : decode cX12_reach 84 = .ok (.iload 4, 2))
theorem o289_86 : Okp RX12 cX12_reach 8 (some .int) "reach" false 86 (sLI 5 88) := ok_iload (by decide +kernel : decode cX12_reach 86 = .ok (.iload 5, 2))
theorem o289_88 : Okp RX12 cX12_reach 8 (some .int) "reach" false 88 (sB2 fAdd 89) := ok_iadd (by decide +kernel : decode cX12_reach 88 = .ok (.iadd, 1))
theorem o289_89 : Okp RX12 cX12_reach 8 (some .int) "reach" false 89 (sIA 90) := ok_iaload (by decide +kernel : decode cX12_reach 89 = .ok (.iaload, 1))
theorem o289_90 : Okp RX12 cX12_reach 8 (some .int) "reach" false 90 (sI1 5 109 93) := ok_if_le (by decide +kernel : decode cX12_reach 90 = .ok (.ifCond .le 19, 3)) (by decide)
theorem o289_93 : Okp RX12 cX12_reach 8 (some .int) "reach" false 93 (sLR 0 94) := ok_aload_n (by decide +kernel : decode cX12_reach 93 = .ok (.aload_n 0, 1)) rfl
theorem o289_94 : Okp RX12 cX12_reach 8 (some .int) "reach" false 94 (sLR 0 95) := ok_aload_n (by decide +kernel : decode cX12_reach 94 = .ok (.aload_n 0, 1)) rfl
theorem o289_95 : Okp RX12 cX12_reach 8 (some .int) "reach" false 95 (sGR 13 68 98) := ok_getR (by decide +kernel : decode cX12_reach 95 = .ok (.getfield 164, 3)) fw_X12_164 rfl
theorem o289_98 : Okp RX12 cX12_reach 8 (some .int) "reach" false 98 (sLI 4 100) := ok_iload (by decide +kernel : decode cX12_reach 98 = .ok (.iload 4, 2))
theorem o289_100 : Okp RX12 cX12_reach 8 (some .int) "reach" false 100 (sLI 5 102) := ok_iload (by decide +kernel : decode cX12_reach 100 = .ok (.iload 5, 2))
theorem o289_102 : Okp RX12 cX12_reach 8 (some .int) "reach" false 102 (sB2 fAdd 103) := ok_iadd (by decide +kernel : decode cX12_reach 102 = .ok (.iadd, 1))
theorem o289_103 : Okp RX12 cX12_reach 8 (some .int) "reach" false 103 (sIA 104) := ok_iaload (by decide +kernel : decode cX12_reach 103 = .ok (.iaload, 1))
theorem o289_104 : Okp RX12 cX12_reach 8 (some .int) "reach" false 104 (sLI 2 105) := ok_iload_n (by decide +kernel : decode cX12_reach 104 = .ok (.iload_n 2, 1)) rfl
theorem o289_105 : Okp RX12 cX12_reach 8 (some .int) "reach" false 105 (sCV false 290 3 13 108) := ok_cv (by decide +kernel : decode cX12_reach 105 = .ok (.invokevirtual 495, 3)) mw_X12_495 rfl (by decide) wm_X12_note wse_X12_note (by decide) rfl
theorem o289_108 : Okp RX12 cX12_reach 8 (some .int) "reach" false 108 (sSI 2 109) := ok_istore_n (by decide +kernel : decode cX12_reach 108 = .ok (.istore_n 2, 1)) rfl (by decide) (by decide)
theorem o289_109 : Okp RX12 cX12_reach 8 (some .int) "reach" false 109 (sInc 5 1 112) := ok_iinc (by decide +kernel : decode cX12_reach 109 = .ok (.iinc 5 1, 3)) (by decide) (by decide)
theorem o289_112 : Okp RX12 cX12_reach 8 (some .int) "reach" false 112 (sGo 47) := ok_goto (by decide +kernel : decode cX12_reach 112 = .ok (.goto (-65), 3)) (by decide)
theorem o289_115 : Okp RX12 cX12_reach 8 (some .int) "reach" false 115 (sInc 3 1 118) := ok_iinc (by decide +kernel : decode cX12_reach 115 = .ok (.iinc 3 1, 3)) (by decide) (by decide)
theorem o289_118 : Okp RX12 cX12_reach 8 (some .int) "reach" false 118 (sGo 26) := ok_goto (by decide +kernel : decode cX12_reach 118 = .ok (.goto (-92), 3)) (by decide)
theorem o289_121 : Okp RX12 cX12_reach 8 (some .int) "reach" false 121 (sK 0 122) := ok_iconst (by decide +kernel : decode cX12_reach 121 = .ok (.iconst 0, 1)) (by decide)
theorem o289_122 : Okp RX12 cX12_reach 8 (some .int) "reach" false 122 (sSI 3 123) := ok_istore_n (by decide +kernel : decode cX12_reach 122 = .ok (.istore_n 3, 1)) rfl (by decide) (by decide)
theorem o289_123 : Okp RX12 cX12_reach 8 (some .int) "reach" false 123 (sK 0 124) := ok_iconst (by decide +kernel : decode cX12_reach 123 = .ok (.iconst 0, 1)) (by decide)
theorem o289_124 : Okp RX12 cX12_reach 8 (some .int) "reach" false 124 (sSI 4 126) := ok_istore (by decide +kernel : decode cX12_reach 124 = .ok (.istore 4, 2)) (by decide) (by decide)
theorem o289_126 : Okp RX12 cX12_reach 8 (some .int) "reach" false 126 (sLI 4 128) := ok_iload (by decide +kernel : decode cX12_reach 126 = .ok (.iload 4, 2))
theorem o289_128 : Okp RX12 cX12_reach 8 (some .int) "reach" false 128 (sLI 2 129) := ok_iload_n (by decide +kernel : decode cX12_reach 128 = .ok (.iload_n 2, 1)) rfl
theorem o289_129 : Okp RX12 cX12_reach 8 (some .int) "reach" false 129 (sI2 3 238 132) := ok_icmp_ge (by decide +kernel : decode cX12_reach 129 = .ok (.if_icmp .ge 109, 3)) (by decide)
theorem o289_132 : Okp RX12 cX12_reach 8 (some .int) "reach" false 132 (sK 1025 135) := ok_sipush (by decide +kernel : decode cX12_reach 132 = .ok (.sipush 1025, 3)) (by decide)
theorem o289_135 : Okp RX12 cX12_reach 8 (some .int) "reach" false 135 (sLI 1 136) := ok_iload_n (by decide +kernel : decode cX12_reach 135 = .ok (.iload_n 1, 1)) rfl
theorem o289_136 : Okp RX12 cX12_reach 8 (some .int) "reach" false 136 (sB2 fMul 137) := ok_imul (by decide +kernel : decode cX12_reach 136 = .ok (.imul, 1))
theorem o289_137 : Okp RX12 cX12_reach 8 (some .int) "reach" false 137 (sLR 0 138) := ok_aload_n (by decide +kernel : decode cX12_reach 137 = .ok (.aload_n 0, 1)) rfl
theorem o289_138 : Okp RX12 cX12_reach 8 (some .int) "reach" false 138 (sGR 13 77 141) := ok_getR (by decide +kernel : decode cX12_reach 138 = .ok (.getfield 191, 3)) fw_X12_191 rfl
theorem o289_141 : Okp RX12 cX12_reach 8 (some .int) "reach" false 141 (sLI 4 143) := ok_iload (by decide +kernel : decode cX12_reach 141 = .ok (.iload 4, 2))
theorem o289_143 : Okp RX12 cX12_reach 8 (some .int) "reach" false 143 (sIA 144) := ok_iaload (by decide +kernel : decode cX12_reach 143 = .ok (.iaload, 1))
theorem o289_144 : Okp RX12 cX12_reach 8 (some .int) "reach" false 144 (sB2 fAdd 145) := ok_iadd (by decide +kernel : decode cX12_reach 144 = .ok (.iadd, 1))
theorem o289_145 : Okp RX12 cX12_reach 8 (some .int) "reach" false 145 (sSI 5 147) := ok_istore (by decide +kernel : decode cX12_reach 145 = .ok (.istore 5, 2)) (by decide) (by decide)
theorem o289_147 : Okp RX12 cX12_reach 8 (some .int) "reach" false 147 (sLI 3 148) := ok_iload_n (by decide +kernel : decode cX12_reach 147 = .ok (.iload_n 3, 1)) rfl
theorem o289_148 : Okp RX12 cX12_reach 8 (some .int) "reach" false 148 (sLR 0 149) := ok_aload_n (by decide +kernel : decode cX12_reach 148 = .ok (.aload_n 0, 1)) rfl
theorem o289_149 : Okp RX12 cX12_reach 8 (some .int) "reach" false 149 (sGR 13 70 152) := ok_getR (by decide +kernel : decode cX12_reach 149 = .ok (.getfield 170, 3)) fw_X12_170 rfl
theorem o289_152 : Okp RX12 cX12_reach 8 (some .int) "reach" false 152 (sLI 5 154) := ok_iload (by decide +kernel : decode cX12_reach 152 = .ok (.iload 5, 2))
theorem o289_154 : Okp RX12 cX12_reach 8 (some .int) "reach" false 154 (sIA 155) := ok_iaload (by decide +kernel : decode cX12_reach 154 = .ok (.iaload, 1))
theorem o289_155 : Okp RX12 cX12_reach 8 (some .int) "reach" false 155 (sB2 fAdd 156) := ok_iadd (by decide +kernel : decode cX12_reach 155 = .ok (.iadd, 1))
theorem o289_156 : Okp RX12 cX12_reach 8 (some .int) "reach" false 156 (sSI 3 157) := ok_istore_n (by decide +kernel : decode cX12_reach 156 = .ok (.istore_n 3, 1)) rfl (by decide) (by decide)
theorem o289_157 : Okp RX12 cX12_reach 8 (some .int) "reach" false 157 (sK 0 158) := ok_iconst (by decide +kernel : decode cX12_reach 157 = .ok (.iconst 0, 1)) (by decide)
theorem o289_158 : Okp RX12 cX12_reach 8 (some .int) "reach" false 158 (sSI 6 160) := ok_istore (by decide +kernel : decode cX12_reach 158 = .ok (.istore 6, 2)) (by decide) (by decide)
theorem o289_160 : Okp RX12 cX12_reach 8 (some .int) "reach" false 160 (sLI 6 162) := ok_iload (by decide +kernel : decode cX12_reach 160 = .ok (.iload 6, 2))
theorem o289_162 : Okp RX12 cX12_reach 8 (some .int) "reach" false 162 (sLR 0 163) := ok_aload_n (by decide +kernel : decode cX12_reach 162 = .ok (.aload_n 0, 1)) rfl
theorem o289_163 : Okp RX12 cX12_reach 8 (some .int) "reach" false 163 (sGR 13 70 166) := ok_getR (by decide +kernel : decode cX12_reach 163 = .ok (.getfield 170, 3)) fw_X12_170 rfl
theorem o289_166 : Okp RX12 cX12_reach 8 (some .int) "reach" false 166 (sLI 5 168) := ok_iload (by decide +kernel : decode cX12_reach 166 = .ok (.iload 5, 2))
theorem o289_168 : Okp RX12 cX12_reach 8 (some .int) "reach" false 168 (sIA 169) := ok_iaload (by decide +kernel : decode cX12_reach 168 = .ok (.iaload, 1))
theorem o289_169 : Okp RX12 cX12_reach 8 (some .int) "reach" false 169 (sK 1 170) := ok_iconst (by decide +kernel : decode cX12_reach 169 = .ok (.iconst 1, 1)) (by decide)
theorem o289_170 : Okp RX12 cX12_reach 8 (some .int) "reach" false 170 (sB2 fSub 171) := ok_isub (by decide +kernel : decode cX12_reach 170 = .ok (.isub, 1))
theorem o289_171 : Okp RX12 cX12_reach 8 (some .int) "reach" false 171 (sI2 3 232 174) := ok_icmp_ge (by decide +kernel : decode cX12_reach 171 = .ok (.if_icmp .ge 61, 3)) (by decide)
theorem o289_174 : Okp RX12 cX12_reach 8 (some .int) "reach" false 174 (sK 1024 177) := ok_sipush (by decide +kernel : decode cX12_reach 174 = .ok (.sipush 1024, 3)) (by decide)
theorem o289_177 : Okp RX12 cX12_reach 8 (some .int) "reach" false 177 (sLI 1 178) := ok_iload_n (by decide +kernel : decode cX12_reach 177 = .ok (.iload_n 1, 1)) rfl
theorem o289_178 : Okp RX12 cX12_reach 8 (some .int) "reach" false 178 (sB2 fMul 179) := ok_imul (by decide +kernel : decode cX12_reach 178 = .ok (.imul, 1))
theorem o289_179 : Okp RX12 cX12_reach 8 (some .int) "reach" false 179 (sLR 0 180) := ok_aload_n (by decide +kernel : decode cX12_reach 179 = .ok (.aload_n 0, 1)) rfl
theorem o289_180 : Okp RX12 cX12_reach 8 (some .int) "reach" false 180 (sGR 13 71 183) := ok_getR (by decide +kernel : decode cX12_reach 180 = .ok (.getfield 173, 3)) fw_X12_173 rfl
theorem o289_183 : Okp RX12 cX12_reach 8 (some .int) "reach" false 183 (sLI 5 185) := ok_iload (by decide +kernel : decode cX12_reach 183 = .ok (.iload 5, 2))
theorem o289_185 : Okp RX12 cX12_reach 8 (some .int) "reach" false 185 (sIA 186) := ok_iaload (by decide +kernel : decode cX12_reach 185 = .ok (.iaload, 1))
theorem o289_186 : Okp RX12 cX12_reach 8 (some .int) "reach" false 186 (sB2 fAdd 187) := ok_iadd (by decide +kernel : decode cX12_reach 186 = .ok (.iadd, 1))
theorem o289_187 : Okp RX12 cX12_reach 8 (some .int) "reach" false 187 (sLI 6 189) := ok_iload (by decide +kernel : decode cX12_reach 187 = .ok (.iload 6, 2))
theorem o289_189 : Okp RX12 cX12_reach 8 (some .int) "reach" false 189 (sB2 fAdd 190) := ok_iadd (by decide +kernel : decode cX12_reach 189 = .ok (.iadd, 1))
theorem o289_190 : Okp RX12 cX12_reach 8 (some .int) "reach" false 190 (sSI 7 192) := ok_istore (by decide +kernel : decode cX12_reach 190 = .ok (.istore 7, 2)) (by decide) (by decide)
theorem o289_192 : Okp RX12 cX12_reach 8 (some .int) "reach" false 192 (sLR 0 193) := ok_aload_n (by decide +kernel : decode cX12_reach 192 = .ok (.aload_n 0, 1)) rfl
theorem o289_193 : Okp RX12 cX12_reach 8 (some .int) "reach" false 193 (sGR 13 74 196) := ok_getR (by decide +kernel : decode cX12_reach 193 = .ok (.getfield 182, 3)) fw_X12_182 rfl
theorem o289_196 : Okp RX12 cX12_reach 8 (some .int) "reach" false 196 (sLI 7 198) := ok_iload (by decide +kernel : decode cX12_reach 196 = .ok (.iload 7, 2))
theorem o289_198 : Okp RX12 cX12_reach 8 (some .int) "reach" false 198 (sIA 199) := ok_iaload (by decide +kernel : decode cX12_reach 198 = .ok (.iaload, 1))
theorem o289_199 : Okp RX12 cX12_reach 8 (some .int) "reach" false 199 (sK 1 200) := ok_iconst (by decide +kernel : decode cX12_reach 199 = .ok (.iconst 1, 1)) (by decide)
theorem o289_200 : Okp RX12 cX12_reach 8 (some .int) "reach" false 200 (sI2 1 226 203) := ok_icmp_ne (by decide +kernel : decode cX12_reach 200 = .ok (.if_icmp .ne 26, 3)) (by decide)
theorem o289_203 : Okp RX12 cX12_reach 8 (some .int) "reach" false 203 (sLR 0 204) := ok_aload_n (by decide +kernel : decode cX12_reach 203 = .ok (.aload_n 0, 1)) rfl
theorem o289_204 : Okp RX12 cX12_reach 8 (some .int) "reach" false 204 (sGR 13 73 207) := ok_getR (by decide +kernel : decode cX12_reach 204 = .ok (.getfield 179, 3)) fw_X12_179 rfl
theorem o289_207 : Okp RX12 cX12_reach 8 (some .int) "reach" false 207 (sLI 7 209) := ok_iload (by decide +kernel : decode cX12_reach 207 = .ok (.iload 7, 2))
theorem o289_209 : Okp RX12 cX12_reach 8 (some .int) "reach" false 209 (sIA 210) := ok_iaload (by decide +kernel : decode cX12_reach 209 = .ok (.iaload, 1))
theorem o289_210 : Okp RX12 cX12_reach 8 (some .int) "reach" false 210 (sI1 5 226 213) := ok_if_le (by decide +kernel : decode cX12_reach 210 = .ok (.ifCond .le 16, 3)) (by decide)
theorem o289_213 : Okp RX12 cX12_reach 8 (some .int) "reach" false 213 (sLR 0 214) := ok_aload_n (by decide +kernel : decode cX12_reach 213 = .ok (.aload_n 0, 1)) rfl
theorem o289_214 : Okp RX12 cX12_reach 8 (some .int) "reach" false 214 (sLR 0 215) := ok_aload_n (by decide +kernel : decode cX12_reach 214 = .ok (.aload_n 0, 1)) rfl
theorem o289_215 : Okp RX12 cX12_reach 8 (some .int) "reach" false 215 (sGR 13 73 218) := ok_getR (by decide +kernel : decode cX12_reach 215 = .ok (.getfield 179, 3)) fw_X12_179 rfl
theorem o289_218 : Okp RX12 cX12_reach 8 (some .int) "reach" false 218 (sLI 7 220) := ok_iload (by decide +kernel : decode cX12_reach 218 = .ok (.iload 7, 2))
theorem o289_220 : Okp RX12 cX12_reach 8 (some .int) "reach" false 220 (sIA 221) := ok_iaload (by decide +kernel : decode cX12_reach 220 = .ok (.iaload, 1))
theorem o289_221 : Okp RX12 cX12_reach 8 (some .int) "reach" false 221 (sLI 2 222) := ok_iload_n (by decide +kernel : decode cX12_reach 221 = .ok (.iload_n 2, 1)) rfl
theorem o289_222 : Okp RX12 cX12_reach 8 (some .int) "reach" false 222 (sCV false 290 3 13 225) := ok_cv (by decide +kernel : decode cX12_reach 222 = .ok (.invokevirtual 495, 3)) mw_X12_495 rfl (by decide) wm_X12_note wse_X12_note (by decide) rfl
theorem o289_225 : Okp RX12 cX12_reach 8 (some .int) "reach" false 225 (sSI 2 226) := ok_istore_n (by decide +kernel : decode cX12_reach 225 = .ok (.istore_n 2, 1)) rfl (by decide) (by decide)
theorem o289_226 : Okp RX12 cX12_reach 8 (some .int) "reach" false 226 (sInc 6 1 229) := ok_iinc (by decide +kernel : decode cX12_reach 226 = .ok (.iinc 6 1, 3)) (by decide) (by decide)
theorem o289_229 : Okp RX12 cX12_reach 8 (some .int) "reach" false 229 (sGo 160) := ok_goto (by decide +kernel : decode cX12_reach 229 = .ok (.goto (-69), 3)) (by decide)
theorem o289_232 : Okp RX12 cX12_reach 8 (some .int) "reach" false 232 (sInc 4 1 235) := ok_iinc (by decide +kernel : decode cX12_reach 232 = .ok (.iinc 4 1, 3)) (by decide) (by decide)
theorem o289_235 : Okp RX12 cX12_reach 8 (some .int) "reach" false 235 (sGo 126) := ok_goto (by decide +kernel : decode cX12_reach 235 = .ok (.goto (-109), 3)) (by decide)
theorem o289_238 : Okp RX12 cX12_reach 8 (some .int) "reach" false 238 (sLI 3 239) := ok_iload_n (by decide +kernel : decode cX12_reach 238 = .ok (.iload_n 3, 1)) rfl
theorem o289_239 : Okp RX12 cX12_reach 8 (some .int) "reach" false 239 sRI := ok_iret rfl (by decide +kernel : decode cX12_reach 239 = .ok (.ireturn, 1))
theorem oc289_0 : ∀ pc, Mnp (c289_0 pc) ∧ Okp RX12 cX12_reach 8 (some .int) "reach" false pc (c289_0 pc) := by
  intro pc
  unfold c289_0
  split
  · exact ⟨mn_sK, o289_0⟩
  · exact ⟨mn_sSI, o289_1⟩
  · exact ⟨mn_sLI, o289_2⟩
  · exact ⟨mn_sK, o289_3⟩
  · exact ⟨mn_sI2, o289_6⟩
  · exact ⟨mn_sLR, o289_9⟩
  · exact ⟨mn_sGR, o289_10⟩
  · exact ⟨mn_sLI, o289_13⟩
  · exact ⟨mn_sK, o289_14⟩
  · exact ⟨mn_sBS, o289_15⟩
  · exact ⟨mn_sInc, o289_16⟩
  · exact ⟨mn_sGo, o289_19⟩
  · exact ⟨mn_sK, o289_22⟩
  · exact ⟨mn_sSI, o289_23⟩
  · exact ⟨mn_sX, ok_X⟩
theorem oc289_1 : ∀ pc, Mnp (c289_1 pc) ∧ Okp RX12 cX12_reach 8 (some .int) "reach" false pc (c289_1 pc) := by
  intro pc
  unfold c289_1
  split
  · exact ⟨mn_sK, o289_24⟩
  · exact ⟨mn_sSI, o289_25⟩
  · exact ⟨mn_sLI, o289_26⟩
  · exact ⟨mn_sLR, o289_27⟩
  · exact ⟨mn_sGR, o289_28⟩
  · exact ⟨mn_sLI, o289_31⟩
  · exact ⟨mn_sIA, o289_32⟩
  · exact ⟨mn_sI2, o289_33⟩
  · exact ⟨mn_sLI, o289_36⟩
  · exact ⟨mn_sLI, o289_37⟩
  · exact ⟨mn_sK, o289_38⟩
  · exact ⟨mn_sCS, o289_39⟩
  · exact ⟨mn_sSI, o289_42⟩
  · exact ⟨mn_sK, o289_44⟩
  · exact ⟨mn_sSI, o289_45⟩
  · exact ⟨mn_sLI, o289_47⟩
  · exact ⟨mn_sX, ok_X⟩
theorem oc289_2 : ∀ pc, Mnp (c289_2 pc) ∧ Okp RX12 cX12_reach 8 (some .int) "reach" false pc (c289_2 pc) := by
  intro pc
  unfold c289_2
  split
  · exact ⟨mn_sK, o289_49⟩
  · exact ⟨mn_sLR, o289_51⟩
  · exact ⟨mn_sGR, o289_52⟩
  · exact ⟨mn_sK, o289_55⟩
  · exact ⟨mn_sLI, o289_57⟩
  · exact ⟨mn_sB2, o289_58⟩
  · exact ⟨mn_sLI, o289_59⟩
  · exact ⟨mn_sB2, o289_60⟩
  · exact ⟨mn_sIA, o289_61⟩
  · exact ⟨mn_sB2, o289_62⟩
  · exact ⟨mn_sI2, o289_63⟩
  · exact ⟨mn_sLR, o289_66⟩
  · exact ⟨mn_sGR, o289_67⟩
  · exact ⟨mn_sLI, o289_70⟩
  · exact ⟨mn_sX, ok_X⟩
theorem oc289_3 : ∀ pc, Mnp (c289_3 pc) ∧ Okp RX12 cX12_reach 8 (some .int) "reach" false pc (c289_3 pc) := by
  intro pc
  unfold c289_3
  split
  · exact ⟨mn_sLI, o289_72⟩
  · exact ⟨mn_sB2, o289_74⟩
  · exact ⟨mn_sIA, o289_75⟩
  · exact ⟨mn_sK, o289_76⟩
  · exact ⟨mn_sI2, o289_77⟩
  · exact ⟨mn_sLR, o289_80⟩
  · exact ⟨mn_sGR, o289_81⟩
  · exact ⟨mn_sLI, o289_84⟩
  · exact ⟨mn_sLI, o289_86⟩
  · exact ⟨mn_sB2, o289_88⟩
  · exact ⟨mn_sIA, o289_89⟩
  · exact ⟨mn_sI1, o289_90⟩
  · exact ⟨mn_sLR, o289_93⟩
  · exact ⟨mn_sLR, o289_94⟩
  · exact ⟨mn_sGR, o289_95⟩
  · exact ⟨mn_sX, ok_X⟩
theorem oc289_4 : ∀ pc, Mnp (c289_4 pc) ∧ Okp RX12 cX12_reach 8 (some .int) "reach" false pc (c289_4 pc) := by
  intro pc
  unfold c289_4
  split
  · exact ⟨mn_sLI, o289_98⟩
  · exact ⟨mn_sLI, o289_100⟩
  · exact ⟨mn_sB2, o289_102⟩
  · exact ⟨mn_sIA, o289_103⟩
  · exact ⟨mn_sLI, o289_104⟩
  · exact ⟨mn_sCV, o289_105⟩
  · exact ⟨mn_sSI, o289_108⟩
  · exact ⟨mn_sInc, o289_109⟩
  · exact ⟨mn_sGo, o289_112⟩
  · exact ⟨mn_sInc, o289_115⟩
  · exact ⟨mn_sGo, o289_118⟩
  · exact ⟨mn_sX, ok_X⟩
theorem oc289_5 : ∀ pc, Mnp (c289_5 pc) ∧ Okp RX12 cX12_reach 8 (some .int) "reach" false pc (c289_5 pc) := by
  intro pc
  unfold c289_5
  split
  · exact ⟨mn_sK, o289_121⟩
  · exact ⟨mn_sSI, o289_122⟩
  · exact ⟨mn_sK, o289_123⟩
  · exact ⟨mn_sSI, o289_124⟩
  · exact ⟨mn_sLI, o289_126⟩
  · exact ⟨mn_sLI, o289_128⟩
  · exact ⟨mn_sI2, o289_129⟩
  · exact ⟨mn_sK, o289_132⟩
  · exact ⟨mn_sLI, o289_135⟩
  · exact ⟨mn_sB2, o289_136⟩
  · exact ⟨mn_sLR, o289_137⟩
  · exact ⟨mn_sGR, o289_138⟩
  · exact ⟨mn_sLI, o289_141⟩
  · exact ⟨mn_sIA, o289_143⟩
  · exact ⟨mn_sX, ok_X⟩
theorem oc289_6 : ∀ pc, Mnp (c289_6 pc) ∧ Okp RX12 cX12_reach 8 (some .int) "reach" false pc (c289_6 pc) := by
  intro pc
  unfold c289_6
  split
  · exact ⟨mn_sB2, o289_144⟩
  · exact ⟨mn_sSI, o289_145⟩
  · exact ⟨mn_sLI, o289_147⟩
  · exact ⟨mn_sLR, o289_148⟩
  · exact ⟨mn_sGR, o289_149⟩
  · exact ⟨mn_sLI, o289_152⟩
  · exact ⟨mn_sIA, o289_154⟩
  · exact ⟨mn_sB2, o289_155⟩
  · exact ⟨mn_sSI, o289_156⟩
  · exact ⟨mn_sK, o289_157⟩
  · exact ⟨mn_sSI, o289_158⟩
  · exact ⟨mn_sLI, o289_160⟩
  · exact ⟨mn_sLR, o289_162⟩
  · exact ⟨mn_sGR, o289_163⟩
  · exact ⟨mn_sLI, o289_166⟩
  · exact ⟨mn_sX, ok_X⟩
theorem oc289_7 : ∀ pc, Mnp (c289_7 pc) ∧ Okp RX12 cX12_reach 8 (some .int) "reach" false pc (c289_7 pc) := by
  intro pc
  unfold c289_7
  split
  · exact ⟨mn_sIA, o289_168⟩
  · exact ⟨mn_sK, o289_169⟩
  · exact ⟨mn_sB2, o289_170⟩
  · exact ⟨mn_sI2, o289_171⟩
  · exact ⟨mn_sK, o289_174⟩
  · exact ⟨mn_sLI, o289_177⟩
  · exact ⟨mn_sB2, o289_178⟩
  · exact ⟨mn_sLR, o289_179⟩
  · exact ⟨mn_sGR, o289_180⟩
  · exact ⟨mn_sLI, o289_183⟩
  · exact ⟨mn_sIA, o289_185⟩
  · exact ⟨mn_sB2, o289_186⟩
  · exact ⟨mn_sLI, o289_187⟩
  · exact ⟨mn_sB2, o289_189⟩
  · exact ⟨mn_sSI, o289_190⟩
  · exact ⟨mn_sX, ok_X⟩
theorem oc289_8 : ∀ pc, Mnp (c289_8 pc) ∧ Okp RX12 cX12_reach 8 (some .int) "reach" false pc (c289_8 pc) := by
  intro pc
  unfold c289_8
  split
  · exact ⟨mn_sLR, o289_192⟩
  · exact ⟨mn_sGR, o289_193⟩
  · exact ⟨mn_sLI, o289_196⟩
  · exact ⟨mn_sIA, o289_198⟩
  · exact ⟨mn_sK, o289_199⟩
  · exact ⟨mn_sI2, o289_200⟩
  · exact ⟨mn_sLR, o289_203⟩
  · exact ⟨mn_sGR, o289_204⟩
  · exact ⟨mn_sLI, o289_207⟩
  · exact ⟨mn_sIA, o289_209⟩
  · exact ⟨mn_sI1, o289_210⟩
  · exact ⟨mn_sLR, o289_213⟩
  · exact ⟨mn_sLR, o289_214⟩
  · exact ⟨mn_sGR, o289_215⟩
  · exact ⟨mn_sX, ok_X⟩
theorem oc289_9 : ∀ pc, Mnp (c289_9 pc) ∧ Okp RX12 cX12_reach 8 (some .int) "reach" false pc (c289_9 pc) := by
  intro pc
  unfold c289_9
  split
  · exact ⟨mn_sLI, o289_218⟩
  · exact ⟨mn_sIA, o289_220⟩
  · exact ⟨mn_sLI, o289_221⟩
  · exact ⟨mn_sCV, o289_222⟩
  · exact ⟨mn_sSI, o289_225⟩
  · exact ⟨mn_sInc, o289_226⟩
  · exact ⟨mn_sGo, o289_229⟩
  · exact ⟨mn_sInc, o289_232⟩
  · exact ⟨mn_sGo, o289_235⟩
  · exact ⟨mn_sLI, o289_238⟩
  · exact ⟨mn_sRI, o289_239⟩
  · exact ⟨mn_sX, ok_X⟩
theorem oc289 : ∀ pc, Mnp (c289 pc) ∧ Okp RX12 cX12_reach 8 (some .int) "reach" false pc (c289 pc) := by
  intro pc
  unfold c289
  split
  · exact oc289_0 pc
  · exact oc289_1 pc
  · exact oc289_2 pc
  · exact oc289_3 pc
  · exact oc289_4 pc
  · exact oc289_5 pc
  · exact oc289_6 pc
  · exact oc289_7 pc
  · exact oc289_8 pc
  · exact oc289_9 pc
  · exact ⟨mn_sX, ok_X⟩
theorem o290_0 : Okp RX12 cX12_note 3 (some .int) "note" false 0 (sLR 0 1) := ok_aload_n (by decide +kernel : decode cX12_note 0 = .ok (.aload_n 0, 1)) rfl
theorem o290_1 : Okp RX12 cX12_note 3 (some .int) "note" false 1 (sGR 13 72 4) := ok_getR (by decide +kernel : decode cX12_note 1 = .ok (.getfield 176, 3)) fw_X12_176 rfl
theorem o290_4 : Okp RX12 cX12_note 3 (some .int) "note" false 4 (sLI 1 5) := ok_iload_n (by decide +kernel : decode cX12_note 4 = .ok (.iload_n 1, 1)) rfl
theorem o290_5 : Okp RX12 cX12_note 3 (some .int) "note" false 5 (sBA 6) := ok_baload (by decide +kernel : decode cX12_note 5 = .ok (.baload, 1))
theorem o290_6 : Okp RX12 cX12_note 3 (some .int) "note" false 6 (sI1 0 11 9) := ok_if_eq (by decide +kernel : decode cX12_note 6 = .ok (.ifCond .eq 5, 3)) (by decide)
theorem o290_9 : Okp RX12 cX12_note 3 (some .int) "note" false 9 (sLI 2 10) := ok_iload_n (by decide +kernel : decode cX12_note 9 = .ok (.iload_n 2, 1)) rfl
theorem o290_10 : Okp RX12 cX12_note 3 (some .int) "note" false 10 sRI := ok_iret rfl (by decide +kernel : decode cX12_note 10 = .ok (.ireturn, 1))
theorem o290_11 : Okp RX12 cX12_note 3 (some .int) "note" false 11 (sLR 0 12) := ok_aload_n (by decide +kernel : decode cX12_note 11 = .ok (.aload_n 0, 1)) rfl
theorem o290_12 : Okp RX12 cX12_note 3 (some .int) "note" false 12 (sGR 13 72 15) := ok_getR (by decide +kernel : decode cX12_note 12 = .ok (.getfield 176, 3)) fw_X12_176 rfl
theorem o290_15 : Okp RX12 cX12_note 3 (some .int) "note" false 15 (sLI 1 16) := ok_iload_n (by decide +kernel : decode cX12_note 15 = .ok (.iload_n 1, 1)) rfl
theorem o290_16 : Okp RX12 cX12_note 3 (some .int) "note" false 16 (sK 1 17) := ok_iconst (by decide +kernel : decode cX12_note 16 = .ok (.iconst 1, 1)) (by decide)
theorem o290_17 : Okp RX12 cX12_note 3 (some .int) "note" false 17 (sBS 18) := ok_bastore (by decide +kernel : decode cX12_note 17 = .ok (.bastore, 1))
theorem o290_18 : Okp RX12 cX12_note 3 (some .int) "note" false 18 (sLR 0 19) := ok_aload_n (by decide +kernel : decode cX12_note 18 = .ok (.aload_n 0, 1)) rfl
theorem o290_19 : Okp RX12 cX12_note 3 (some .int) "note" false 19 (sGR 13 77 22) := ok_getR (by decide +kernel : decode cX12_note 19 = .ok (.getfield 191, 3)) fw_X12_191 rfl
theorem o290_22 : Okp RX12 cX12_note 3 (some .int) "note" false 22 (sLI 2 23) := ok_iload_n (by decide +kernel : decode cX12_note 22 = .ok (.iload_n 2, 1)) rfl
theorem o290_23 : Okp RX12 cX12_note 3 (some .int) "note" false 23 (sLI 1 24) := ok_iload_n (by decide +kernel : decode cX12_note 23 = .ok (.iload_n 1, 1)) rfl
theorem o290_24 : Okp RX12 cX12_note 3 (some .int) "note" false 24 (sIS 25) := ok_iastore (by decide +kernel : decode cX12_note 24 = .ok (.iastore, 1))
theorem o290_25 : Okp RX12 cX12_note 3 (some .int) "note" false 25 (sLI 2 26) := ok_iload_n (by decide +kernel : decode cX12_note 25 = .ok (.iload_n 2, 1)) rfl
theorem o290_26 : Okp RX12 cX12_note 3 (some .int) "note" false 26 (sK 1 27) := ok_iconst (by decide +kernel : decode cX12_note 26 = .ok (.iconst 1, 1)) (by decide)
theorem o290_27 : Okp RX12 cX12_note 3 (some .int) "note" false 27 (sB2 fAdd 28) := ok_iadd (by decide +kernel : decode cX12_note 27 = .ok (.iadd, 1))
theorem o290_28 : Okp RX12 cX12_note 3 (some .int) "note" false 28 sRI := ok_iret rfl (by decide +kernel : decode cX12_note 28 = .ok (.ireturn, 1))
theorem oc290_0 : ∀ pc, Mnp (c290_0 pc) ∧ Okp RX12 cX12_note 3 (some .int) "note" false pc (c290_0 pc) := by
  intro pc
  unfold c290_0
  split
  · exact ⟨mn_sLR, o290_0⟩
  · exact ⟨mn_sGR, o290_1⟩
  · exact ⟨mn_sLI, o290_4⟩
  · exact ⟨mn_sBA, o290_5⟩
  · exact ⟨mn_sI1, o290_6⟩
  · exact ⟨mn_sLI, o290_9⟩
  · exact ⟨mn_sRI, o290_10⟩
  · exact ⟨mn_sLR, o290_11⟩
  · exact ⟨mn_sGR, o290_12⟩
  · exact ⟨mn_sLI, o290_15⟩
  · exact ⟨mn_sK, o290_16⟩
  · exact ⟨mn_sBS, o290_17⟩
  · exact ⟨mn_sLR, o290_18⟩
  · exact ⟨mn_sGR, o290_19⟩
  · exact ⟨mn_sLI, o290_22⟩
  · exact ⟨mn_sLI, o290_23⟩
  · exact ⟨mn_sX, ok_X⟩
theorem oc290_1 : ∀ pc, Mnp (c290_1 pc) ∧ Okp RX12 cX12_note 3 (some .int) "note" false pc (c290_1 pc) := by
  intro pc
  unfold c290_1
  split
  · exact ⟨mn_sIS, o290_24⟩
  · exact ⟨mn_sLI, o290_25⟩
  · exact ⟨mn_sK, o290_26⟩
  · exact ⟨mn_sB2, o290_27⟩
  · exact ⟨mn_sRI, o290_28⟩
  · exact ⟨mn_sX, ok_X⟩
theorem oc290 : ∀ pc, Mnp (c290 pc) ∧ Okp RX12 cX12_note 3 (some .int) "note" false pc (c290 pc) := by
  intro pc
  unfold c290
  split
  · exact oc290_0 pc
  · exact oc290_1 pc
  · exact ⟨mn_sX, ok_X⟩
theorem o291_0 : Okp RX12 cX12_make 10 (some .int) "make" true 0 (sLR 0 1) := ok_aload_n (by decide +kernel : decode cX12_make 0 = .ok (.aload_n 0, 1)) rfl
theorem o291_1 : Okp RX12 cX12_make 10 (some .int) "make" true 1 (sLI 1 2) := ok_iload_n (by decide +kernel : decode cX12_make 1 = .ok (.iload_n 1, 1)) rfl
theorem o291_2 : Okp RX12 cX12_make 10 (some .int) "make" true 2 (sCV false 289 2 13 5) := ok_cv (by decide +kernel : decode cX12_make 2 = .ok (.invokevirtual 498, 3)) mw_X12_498 rfl (by decide) wm_X12_reach wse_X12_reach (by decide) rfl
theorem o291_5 : Okp RX12 cX12_make 10 (some .int) "make" true 5 (sSI 5 7) := ok_istore (by decide +kernel : decode cX12_make 5 = .ok (.istore 5, 2)) (by decide) (by decide)
theorem o291_7 : Okp RX12 cX12_make 10 (some .int) "make" true 7 (sLI 5 9) := ok_iload (by decide +kernel : decode cX12_make 7 = .ok (.iload 5, 2))
theorem o291_9 : Okp RX12 cX12_make 10 (some .int) "make" true 9 (sI2L 10) := ok_i2l (by decide +kernel : decode cX12_make 9 = .ok (.i2l, 1))
theorem o291_10 : Okp RX12 cX12_make 10 (some .int) "make" true 10 (sLL 2 11) := ok_lload_n (by decide +kernel : decode cX12_make 10 = .ok (.lload_n 2, 1)) rfl
theorem o291_11 : Okp RX12 cX12_make 10 (some .int) "make" true 11 (sLAdd 12) := ok_ladd (by decide +kernel : decode cX12_make 11 = .ok (.ladd, 1))
theorem o291_12 : Okp RX12 cX12_make 10 (some .int) "make" true 12 (sLC 1 13) := ok_lconst1 (by decide +kernel : decode cX12_make 12 = .ok (.lconst 1, 1))
theorem o291_13 : Okp RX12 cX12_make 10 (some .int) "make" true 13 (sLAdd 14) := ok_ladd (by decide +kernel : decode cX12_make 13 = .ok (.ladd, 1))
theorem o291_14 : Okp RX12 cX12_make 10 (some .int) "make" true 14 (sLR 0 15) := ok_aload_n (by decide +kernel : decode cX12_make 14 = .ok (.aload_n 0, 1)) rfl
theorem o291_15 : Okp RX12 cX12_make 10 (some .int) "make" true 15 (sGR 13 62 18) := ok_getR (by decide +kernel : decode cX12_make 15 = .ok (.getfield 146, 3)) fw_X12_146 rfl
theorem o291_18 : Okp RX12 cX12_make 10 (some .int) "make" true 18 (sLI 1 19) := ok_iload_n (by decide +kernel : decode cX12_make 18 = .ok (.iload_n 1, 1)) rfl
theorem o291_19 : Okp RX12 cX12_make 10 (some .int) "make" true 19 (sIA 20) := ok_iaload (by decide +kernel : decode cX12_make 19 = .ok (.iaload, 1))
theorem o291_20 : Okp RX12 cX12_make 10 (some .int) "make" true 20 (sI2L 21) := ok_i2l (by decide +kernel : decode cX12_make 20 = .ok (.i2l, 1))
theorem o291_21 : Okp RX12 cX12_make 10 (some .int) "make" true 21 (sLCmp 22) := ok_lcmp (by decide +kernel : decode cX12_make 21 = .ok (.lcmp, 1))
theorem o291_22 : Okp RX12 cX12_make 10 (some .int) "make" true 22 (sI1 5 27 25) := ok_if_le (by decide +kernel : decode cX12_make 22 = .ok (.ifCond .le 5, 3)) (by decide)
theorem o291_25 : Okp RX12 cX12_make 10 (some .int) "make" true 25 (sK 0 26) := ok_iconst (by decide +kernel : decode cX12_make 25 = .ok (.iconst 0, 1)) (by decide)
theorem o291_26 : Okp RX12 cX12_make 10 (some .int) "make" true 26 sRI := ok_iret rfl (by decide +kernel : decode cX12_make 26 = .ok (.ireturn, 1))
theorem o291_27 : Okp RX12 cX12_make 10 (some .int) "make" true 27 (sK 0 28) := ok_iconst (by decide +kernel : decode cX12_make 27 = .ok (.iconst 0, 1)) (by decide)
theorem o291_28 : Okp RX12 cX12_make 10 (some .int) "make" true 28 (sSI 6 30) := ok_istore (by decide +kernel : decode cX12_make 28 = .ok (.istore 6, 2)) (by decide) (by decide)
theorem o291_30 : Okp RX12 cX12_make 10 (some .int) "make" true 30 (sK 1 31) := ok_iconst (by decide +kernel : decode cX12_make 30 = .ok (.iconst 1, 1)) (by decide)
theorem o291_31 : Okp RX12 cX12_make 10 (some .int) "make" true 31 (sSI 7 33) := ok_istore (by decide +kernel : decode cX12_make 31 = .ok (.istore 7, 2)) (by decide) (by decide)
theorem o291_33 : Okp RX12 cX12_make 10 (some .int) "make" true 33 (sLI 7 35) := ok_iload (by decide +kernel : decode cX12_make 33 = .ok (.iload 7, 2))
theorem o291_35 : Okp RX12 cX12_make 10 (some .int) "make" true 35 (sK 1025 38) := ok_sipush (by decide +kernel : decode cX12_make 35 = .ok (.sipush 1025, 3)) (by decide)
theorem o291_38 : Okp RX12 cX12_make 10 (some .int) "make" true 38 (sI2 3 199 41) := ok_icmp_ge (by decide +kernel : decode cX12_make 38 = .ok (.if_icmp .ge 161, 3)) (by decide)
theorem o291_41 : Okp RX12 cX12_make 10 (some .int) "make" true 41 (sK 1025 44) := ok_sipush (by decide +kernel : decode cX12_make 41 = .ok (.sipush 1025, 3)) (by decide)
theorem o291_44 : Okp RX12 cX12_make 10 (some .int) "make" true 44 (sLI 1 45) := ok_iload_n (by decide +kernel : decode cX12_make 44 = .ok (.iload_n 1, 1)) rfl
theorem o291_45 : Okp RX12 cX12_make 10 (some .int) "make" true 45 (sB2 fMul 46) := ok_imul (by decide +kernel : decode cX12_make 45 = .ok (.imul, 1))
theorem o291_46 : Okp RX12 cX12_make 10 (some .int) "make" true 46 (sLI 7 48) := ok_iload (by decide +kernel : decode cX12_make 46 = .ok (.iload 7, 2))
theorem o291_48 : Okp RX12 cX12_make 10 (some .int) "make" true 48 (sB2 fAdd 49) := ok_iadd (by decide +kernel : decode cX12_make 48 = .ok (.iadd, 1))
theorem o291_49 : Okp RX12 cX12_make 10 (some .int) "make" true 49 (sSI 8 51) := ok_istore (by decide +kernel : decode cX12_make 49 = .ok (.istore 8, 2)) (by decide) (by decide)
theorem o291_51 : Okp RX12 cX12_make 10 (some .int) "make" true 51 (sLR 0 52) := ok_aload_n (by decide +kernel : decode cX12_make 51 = .ok (.aload_n 0, 1)) rfl
theorem o291_52 : Okp RX12 cX12_make 10 (some .int) "make" true 52 (sGR 13 70 55) := ok_getR (by decide +kernel : decode cX12_make 52 = .ok (.getfield 170, 3)) fw_X12_170 rfl
theorem o291_55 : Okp RX12 cX12_make 10 (some .int) "make" true 55 (sLI 8 57) := ok_iload (by decide +kernel : decode cX12_make 55 = .ok (.iload 8, 2))
theorem o291_57 : Okp RX12 cX12_make 10 (some .int) "make" true 57 (sIA 58) := ok_iaload (by decide +kernel : decode cX12_make 57 = .ok (.iaload, 1))
theorem o291_58 : Okp RX12 cX12_make 10 (some .int) "make" true 58 (sI1 1 64 61) := ok_if_ne (by decide +kernel : decode cX12_make 58 = .ok (.ifCond .ne 6, 3)) (by decide)
theorem o291_61 : Okp RX12 cX12_make 10 (some .int) "make" true 61 (sGo 193) := ok_goto (by decide +kernel : decode cX12_make 61 = .ok (.goto 132, 3)) (by decide)
theorem o291_64 : Okp RX12 cX12_make 10 (some .int) "make" true 64 (sLR 0 65) := ok_aload_n (by decide +kernel : decode cX12_make 64 = .ok (.aload_n 0, 1)) rfl
theorem o291_65 : Okp RX12 cX12_make 10 (some .int) "make" true 65 (sGR 13 72 68) := ok_getR (by decide +kernel : decode cX12_make 65 = .ok (.getfield 176, 3)) fw_X12_176 rfl
theorem o291_68 : Okp RX12 cX12_make 10 (some .int) "make" true 68 (sLI 7 70) := ok_iload (by decide +kernel : decode cX12_make 68 = .ok (.iload 7, 2))
theorem o291_70 : Okp RX12 cX12_make 10 (some .int) "make" true 70 (sBA 71) := ok_baload (by decide +kernel : decode cX12_make 70 = .ok (.baload, 1))
theorem o291_71 : Okp RX12 cX12_make 10 (some .int) "make" true 71 (sI1 1 85 74) := ok_if_ne (by decide +kernel : decode cX12_make 71 = .ok (.ifCond .ne 14, 3)) (by decide)
theorem o291_74 : Okp RX12 cX12_make 10 (some .int) "make" true 74 (sLR 0 75) := ok_aload_n (by decide +kernel : decode cX12_make 74 = .ok (.aload_n 0, 1)) rfl
theorem o291_75 : Okp RX12 cX12_make 10 (some .int) "make" true 75 (sGR 13 70 78) := ok_getR (by decide +kernel : decode cX12_make 75 = .ok (.getfield 170, 3)) fw_X12_170 rfl
theorem o291_78 : Okp RX12 cX12_make 10 (some .int) "make" true 78 (sLI 8 80) := ok_iload (by decide +kernel : decode cX12_make 78 = .ok (.iload 8, 2))
theorem o291_80 : Okp RX12 cX12_make 10 (some .int) "make" true 80 (sK 0 81) := ok_iconst (by decide +kernel : decode cX12_make 80 = .ok (.iconst 0, 1)) (by decide)
theorem o291_81 : Okp RX12 cX12_make 10 (some .int) "make" true 81 (sIS 82) := ok_iastore (by decide +kernel : decode cX12_make 81 = .ok (.iastore, 1))
theorem o291_82 : Okp RX12 cX12_make 10 (some .int) "make" true 82 (sGo 193) := ok_goto (by decide +kernel : decode cX12_make 82 = .ok (.goto 111, 3)) (by decide)
theorem o291_85 : Okp RX12 cX12_make 10 (some .int) "make" true 85 (sK 0 86) := ok_iconst (by decide +kernel : decode cX12_make 85 = .ok (.iconst 0, 1)) (by decide)
theorem o291_86 : Okp RX12 cX12_make 10 (some .int) "make" true 86 (sSI 9 88) := ok_istore (by decide +kernel : decode cX12_make 86 = .ok (.istore 9, 2)) (by decide) (by decide)
theorem o291_88 : Okp RX12 cX12_make 10 (some .int) "make" true 88 (sLI 9 90) := ok_iload (by decide +kernel : decode cX12_make 88 = .ok (.iload 9, 2))
theorem o291_90 : Okp RX12 cX12_make 10 (some .int) "make" true 90 (sLR 0 91) := ok_aload_n (by decide +kernel : decode cX12_make 90 = .ok (.aload_n 0, 1)) rfl
theorem o291_91 : Okp RX12 cX12_make 10 (some .int) "make" true 91 (sGR 13 70 94) := ok_getR (by decide +kernel : decode cX12_make 91 = .ok (.getfield 170, 3)) fw_X12_170 rfl
theorem o291_94 : Okp RX12 cX12_make 10 (some .int) "make" true 94 (sLI 8 96) := ok_iload (by decide +kernel : decode cX12_make 94 = .ok (.iload 8, 2))
theorem o291_96 : Okp RX12 cX12_make 10 (some .int) "make" true 96 (sIA 97) := ok_iaload (by decide +kernel : decode cX12_make 96 = .ok (.iaload, 1))
theorem o291_97 : Okp RX12 cX12_make 10 (some .int) "make" true 97 (sK 1 98) := ok_iconst (by decide +kernel : decode cX12_make 97 = .ok (.iconst 1, 1)) (by decide)
theorem o291_98 : Okp RX12 cX12_make 10 (some .int) "make" true 98 (sB2 fSub 99) := ok_isub (by decide +kernel : decode cX12_make 98 = .ok (.isub, 1))
theorem o291_99 : Okp RX12 cX12_make 10 (some .int) "make" true 99 (sI2 3 170 102) := ok_icmp_ge (by decide +kernel : decode cX12_make 99 = .ok (.if_icmp .ge 71, 3)) (by decide)
theorem o291_102 : Okp RX12 cX12_make 10 (some .int) "make" true 102 (sLR 0 103) := ok_aload_n (by decide +kernel : decode cX12_make 102 = .ok (.aload_n 0, 1)) rfl
theorem o291_103 : Okp RX12 cX12_make 10 (some .int) "make" true 103 (sGR 13 75 106) := ok_getR (by decide +kernel : decode cX12_make 103 = .ok (.getfield 185, 3)) fw_X12_185 rfl
theorem o291_106 : Okp RX12 cX12_make 10 (some .int) "make" true 106 (sLI 6 108) := ok_iload (by decide +kernel : decode cX12_make 106 = .ok (.iload 6, 2))
theorem o291_108 : Okp RX12 cX12_make 10 (some .int) "make" true 108 (sLI 9 110) := ok_iload (by decide +kernel : decode cX12_make 108 = .ok (.iload 9, 2))
theorem o291_110 : Okp RX12 cX12_make 10 (some .int) "make" true 110 (sB2 fAdd 111) := ok_iadd (by decide +kernel : decode cX12_make 110 = .ok (.iadd, 1))
theorem o291_111 : Okp RX12 cX12_make 10 (some .int) "make" true 111 (sLR 0 112) := ok_aload_n (by decide +kernel : decode cX12_make 111 = .ok (.aload_n 0, 1)) rfl
theorem o291_112 : Okp RX12 cX12_make 10 (some .int) "make" true 112 (sGR 13 73 115) := ok_getR (by decide +kernel : decode cX12_make 112 = .ok (.getfield 179, 3)) fw_X12_179 rfl
theorem o291_115 : Okp RX12 cX12_make 10 (some .int) "make" true 115 (sK 1024 118) := ok_sipush (by decide +kernel : decode cX12_make 115 = .ok (.sipush 1024, 3)) (by decide)
theorem o291_118 : Okp RX12 cX12_make 10 (some .int) "make" true 118 (sLI 1 119) := ok_iload_n (by decide +kernel : decode cX12_make 118 = .ok (.iload_n 1, 1)) rfl
theorem o291_119 : Okp RX12 cX12_make 10 (some .int) "make" true 119 (sB2 fMul 120) := ok_imul (by decide +kernel : decode cX12_make 119 = .ok (.imul, 1))
theorem o291_120 : Okp RX12 cX12_make 10 (some .int) "make" true 120 (sLR 0 121) := ok_aload_n (by decide +kernel : decode cX12_make 120 = .ok (.aload_n 0, 1)) rfl
theorem o291_121 : Okp RX12 cX12_make 10 (some .int) "make" true 121 (sGR 13 71 124) := ok_getR (by decide +kernel : decode cX12_make 121 = .ok (.getfield 173, 3)) fw_X12_173 rfl
theorem o291_124 : Okp RX12 cX12_make 10 (some .int) "make" true 124 (sLI 8 126) := ok_iload (by decide +kernel : decode cX12_make 124 = .ok (.iload 8, 2))
theorem o291_126 : Okp RX12 cX12_make 10 (some .int) "make" true 126 (sIA 127) := ok_iaload (by decide +kernel : decode cX12_make 126 = .ok (.iaload, 1))
theorem o291_127 : Okp RX12 cX12_make 10 (some .int) "make" true 127 (sB2 fAdd 128) := ok_iadd (by decide +kernel : decode cX12_make 127 = .ok (.iadd, 1))
theorem o291_128 : Okp RX12 cX12_make 10 (some .int) "make" true 128 (sLI 9 130) := ok_iload (by decide +kernel : decode cX12_make 128 = .ok (.iload 9, 2))
theorem o291_130 : Okp RX12 cX12_make 10 (some .int) "make" true 130 (sB2 fAdd 131) := ok_iadd (by decide +kernel : decode cX12_make 130 = .ok (.iadd, 1))
theorem o291_131 : Okp RX12 cX12_make 10 (some .int) "make" true 131 (sIA 132) := ok_iaload (by decide +kernel : decode cX12_make 131 = .ok (.iaload, 1))
theorem o291_132 : Okp RX12 cX12_make 10 (some .int) "make" true 132 (sIS 133) := ok_iastore (by decide +kernel : decode cX12_make 132 = .ok (.iastore, 1))
theorem o291_133 : Okp RX12 cX12_make 10 (some .int) "make" true 133 (sLR 0 134) := ok_aload_n (by decide +kernel : decode cX12_make 133 = .ok (.aload_n 0, 1)) rfl
theorem o291_134 : Okp RX12 cX12_make 10 (some .int) "make" true 134 (sGR 13 76 137) := ok_getR (by decide +kernel : decode cX12_make 134 = .ok (.getfield 188, 3)) fw_X12_188 rfl
theorem o291_137 : Okp RX12 cX12_make 10 (some .int) "make" true 137 (sLI 6 139) := ok_iload (by decide +kernel : decode cX12_make 137 = .ok (.iload 6, 2))
theorem o291_139 : Okp RX12 cX12_make 10 (some .int) "make" true 139 (sLI 9 141) := ok_iload (by decide +kernel : decode cX12_make 139 = .ok (.iload 9, 2))
theorem o291_141 : Okp RX12 cX12_make 10 (some .int) "make" true 141 (sB2 fAdd 142) := ok_iadd (by decide +kernel : decode cX12_make 141 = .ok (.iadd, 1))
theorem o291_142 : Okp RX12 cX12_make 10 (some .int) "make" true 142 (sLR 0 143) := ok_aload_n (by decide +kernel : decode cX12_make 142 = .ok (.aload_n 0, 1)) rfl
theorem o291_143 : Okp RX12 cX12_make 10 (some .int) "make" true 143 (sGR 13 74 146) := ok_getR (by decide +kernel : decode cX12_make 143 = .ok (.getfield 182, 3)) fw_X12_182 rfl
theorem o291_146 : Okp RX12 cX12_make 10 (some .int) "make" true 146 (sK 1024 149) := ok_sipush (by decide +kernel : decode cX12_make 146 = .ok (.sipush 1024, 3)) (by decide)
theorem o291_149 : Okp RX12 cX12_make 10 (some .int) "make" true 149 (sLI 1 150) := ok_iload_n (by decide +kernel : decode cX12_make 149 = .ok (.iload_n 1, 1)) rfl
theorem o291_150 : Okp RX12 cX12_make 10 (some .int) "make" true 150 (sB2 fMul 151) := ok_imul (by decide +kernel : decode cX12_make 150 = .ok (.imul, 1))
theorem o291_151 : Okp RX12 cX12_make 10 (some .int) "make" true 151 (sLR 0 152) := ok_aload_n (by decide +kernel : decode cX12_make 151 = .ok (.aload_n 0, 1)) rfl
theorem o291_152 : Okp RX12 cX12_make 10 (some .int) "make" true 152 (sGR 13 71 155) := ok_getR (by decide +kernel : decode cX12_make 152 = .ok (.getfield 173, 3)) fw_X12_173 rfl
theorem o291_155 : Okp RX12 cX12_make 10 (some .int) "make" true 155 (sLI 8 157) := ok_iload (by decide +kernel : decode cX12_make 155 = .ok (.iload 8, 2))
theorem o291_157 : Okp RX12 cX12_make 10 (some .int) "make" true 157 (sIA 158) := ok_iaload (by decide +kernel : decode cX12_make 157 = .ok (.iaload, 1))
theorem o291_158 : Okp RX12 cX12_make 10 (some .int) "make" true 158 (sB2 fAdd 159) := ok_iadd (by decide +kernel : decode cX12_make 158 = .ok (.iadd, 1))
theorem o291_159 : Okp RX12 cX12_make 10 (some .int) "make" true 159 (sLI 9 161) := ok_iload (by decide +kernel : decode cX12_make 159 = .ok (.iload 9, 2))
theorem o291_161 : Okp RX12 cX12_make 10 (some .int) "make" true 161 (sB2 fAdd 162) := ok_iadd (by decide +kernel : decode cX12_make 161 = .ok (.iadd, 1))
theorem o291_162 : Okp RX12 cX12_make 10 (some .int) "make" true 162 (sIA 163) := ok_iaload (by decide +kernel : decode cX12_make 162 = .ok (.iaload, 1))
theorem o291_163 : Okp RX12 cX12_make 10 (some .int) "make" true 163 (sIS 164) := ok_iastore (by decide +kernel : decode cX12_make 163 = .ok (.iastore, 1))
theorem o291_164 : Okp RX12 cX12_make 10 (some .int) "make" true 164 (sInc 9 1 167) := ok_iinc (by decide +kernel : decode cX12_make 164 = .ok (.iinc 9 1, 3)) (by decide) (by decide)
theorem o291_167 : Okp RX12 cX12_make 10 (some .int) "make" true 167 (sGo 88) := ok_goto (by decide +kernel : decode cX12_make 167 = .ok (.goto (-79), 3)) (by decide)
theorem o291_170 : Okp RX12 cX12_make 10 (some .int) "make" true 170 (sLR 0 171) := ok_aload_n (by decide +kernel : decode cX12_make 170 = .ok (.aload_n 0, 1)) rfl
theorem o291_171 : Okp RX12 cX12_make 10 (some .int) "make" true 171 (sGR 13 71 174) := ok_getR (by decide +kernel : decode cX12_make 171 = .ok (.getfield 173, 3)) fw_X12_173 rfl
theorem o291_174 : Okp RX12 cX12_make 10 (some .int) "make" true 174 (sLI 8 176) := ok_iload (by decide +kernel : decode cX12_make 174 = .ok (.iload 8, 2))
theorem o291_176 : Okp RX12 cX12_make 10 (some .int) "make" true 176 (sLI 6 178) := ok_iload (by decide +kernel : decode cX12_make 176 = .ok (.iload 6, 2))
theorem o291_178 : Okp RX12 cX12_make 10 (some .int) "make" true 178 (sIS 179) := ok_iastore (by decide +kernel : decode cX12_make 178 = .ok (.iastore, 1))
theorem o291_179 : Okp RX12 cX12_make 10 (some .int) "make" true 179 (sLI 6 181) := ok_iload (by decide +kernel : decode cX12_make 179 = .ok (.iload 6, 2))
theorem o291_181 : Okp RX12 cX12_make 10 (some .int) "make" true 181 (sLR 0 182) := ok_aload_n (by decide +kernel : decode cX12_make 181 = .ok (.aload_n 0, 1)) rfl
theorem o291_182 : Okp RX12 cX12_make 10 (some .int) "make" true 182 (sGR 13 70 185) := ok_getR (by decide +kernel : decode cX12_make 182 = .ok (.getfield 170, 3)) fw_X12_170 rfl
theorem o291_185 : Okp RX12 cX12_make 10 (some .int) "make" true 185 (sLI 8 187) := ok_iload (by decide +kernel : decode cX12_make 185 = .ok (.iload 8, 2))
theorem o291_187 : Okp RX12 cX12_make 10 (some .int) "make" true 187 (sIA 188) := ok_iaload (by decide +kernel : decode cX12_make 187 = .ok (.iaload, 1))
theorem o291_188 : Okp RX12 cX12_make 10 (some .int) "make" true 188 (sK 1 189) := ok_iconst (by decide +kernel : decode cX12_make 188 = .ok (.iconst 1, 1)) (by decide)
theorem o291_189 : Okp RX12 cX12_make 10 (some .int) "make" true 189 (sB2 fSub 190) := ok_isub (by decide +kernel : decode cX12_make 189 = .ok (.isub, 1))
theorem o291_190 : Okp RX12 cX12_make 10 (some .int) "make" true 190 (sB2 fAdd 191) := ok_iadd (by decide +kernel : decode cX12_make 190 = .ok (.iadd, 1))
theorem o291_191 : Okp RX12 cX12_make 10 (some .int) "make" true 191 (sSI 6 193) := ok_istore (by decide +kernel : decode cX12_make 191 = .ok (.istore 6, 2)) (by decide) (by decide)
theorem o291_193 : Okp RX12 cX12_make 10 (some .int) "make" true 193 (sInc 7 1 196) := ok_iinc (by decide +kernel : decode cX12_make 193 = .ok (.iinc 7 1, 3)) (by decide) (by decide)
theorem o291_196 : Okp RX12 cX12_make 10 (some .int) "make" true 196 (sGo 33) := ok_goto (by decide +kernel : decode cX12_make 196 = .ok (.goto (-163), 3)) (by decide)
theorem o291_199 : Okp RX12 cX12_make 10 (some .int) "make" true 199 (sK 1 200) := ok_iconst (by decide +kernel : decode cX12_make 199 = .ok (.iconst 1, 1)) (by decide)
theorem o291_200 : Okp RX12 cX12_make 10 (some .int) "make" true 200 (sSI 7 202) := ok_istore (by decide +kernel : decode cX12_make 200 = .ok (.istore 7, 2)) (by decide) (by decide)
theorem o291_202 : Okp RX12 cX12_make 10 (some .int) "make" true 202 (sLR 0 203) := ok_aload_n (by decide +kernel : decode cX12_make 202 = .ok (.aload_n 0, 1)) rfl
theorem o291_203 : Okp RX12 cX12_make 10 (some .int) "make" true 203 (sGR 13 70 206) := ok_getR (by decide +kernel : decode cX12_make 203 = .ok (.getfield 170, 3)) fw_X12_170 rfl
theorem o291_206 : Okp RX12 cX12_make 10 (some .int) "make" true 206 (sK 1025 209) := ok_sipush (by decide +kernel : decode cX12_make 206 = .ok (.sipush 1025, 3)) (by decide)
theorem o291_209 : Okp RX12 cX12_make 10 (some .int) "make" true 209 (sLI 1 210) := ok_iload_n (by decide +kernel : decode cX12_make 209 = .ok (.iload_n 1, 1)) rfl
theorem o291_210 : Okp RX12 cX12_make 10 (some .int) "make" true 210 (sB2 fMul 211) := ok_imul (by decide +kernel : decode cX12_make 210 = .ok (.imul, 1))
theorem o291_211 : Okp RX12 cX12_make 10 (some .int) "make" true 211 (sLI 7 213) := ok_iload (by decide +kernel : decode cX12_make 211 = .ok (.iload 7, 2))
theorem o291_213 : Okp RX12 cX12_make 10 (some .int) "make" true 213 (sB2 fAdd 214) := ok_iadd (by decide +kernel : decode cX12_make 213 = .ok (.iadd, 1))
theorem o291_214 : Okp RX12 cX12_make 10 (some .int) "make" true 214 (sIA 215) := ok_iaload (by decide +kernel : decode cX12_make 214 = .ok (.iaload, 1))
theorem o291_215 : Okp RX12 cX12_make 10 (some .int) "make" true 215 (sI1 5 224 218) := ok_if_le (by decide +kernel : decode cX12_make 215 = .ok (.ifCond .le 9, 3)) (by decide)
theorem o291_218 : Okp RX12 cX12_make 10 (some .int) "make" true 218 (sInc 7 1 221) := ok_iinc (by decide +kernel : decode cX12_make 218 = .ok (.iinc 7 1, 3)) (by decide) (by decide)
theorem o291_221 : Okp RX12 cX12_make 10 (some .int) "make" true 221 (sGo 202) := ok_goto (by decide +kernel : decode cX12_make 221 = .ok (.goto (-19), 3)) (by decide)
theorem o291_224 : Okp RX12 cX12_make 10 (some .int) "make" true 224 (sLR 0 225) := ok_aload_n (by decide +kernel : decode cX12_make 224 = .ok (.aload_n 0, 1)) rfl
theorem o291_225 : Okp RX12 cX12_make 10 (some .int) "make" true 225 (sGR 13 70 228) := ok_getR (by decide +kernel : decode cX12_make 225 = .ok (.getfield 170, 3)) fw_X12_170 rfl
theorem o291_228 : Okp RX12 cX12_make 10 (some .int) "make" true 228 (sK 1025 231) := ok_sipush (by decide +kernel : decode cX12_make 228 = .ok (.sipush 1025, 3)) (by decide)
theorem o291_231 : Okp RX12 cX12_make 10 (some .int) "make" true 231 (sLI 1 232) := ok_iload_n (by decide +kernel : decode cX12_make 231 = .ok (.iload_n 1, 1)) rfl
theorem o291_232 : Okp RX12 cX12_make 10 (some .int) "make" true 232 (sB2 fMul 233) := ok_imul (by decide +kernel : decode cX12_make 232 = .ok (.imul, 1))
theorem o291_233 : Okp RX12 cX12_make 10 (some .int) "make" true 233 (sLI 7 235) := ok_iload (by decide +kernel : decode cX12_make 233 = .ok (.iload 7, 2))
theorem o291_235 : Okp RX12 cX12_make 10 (some .int) "make" true 235 (sB2 fAdd 236) := ok_iadd (by decide +kernel : decode cX12_make 235 = .ok (.iadd, 1))
theorem o291_236 : Okp RX12 cX12_make 10 (some .int) "make" true 236 (sLL 2 237) := ok_lload_n (by decide +kernel : decode cX12_make 236 = .ok (.lload_n 2, 1)) rfl
theorem o291_237 : Okp RX12 cX12_make 10 (some .int) "make" true 237 (sL2I 238) := ok_l2i (by decide +kernel : decode cX12_make 237 = .ok (.l2i, 1))
theorem o291_238 : Okp RX12 cX12_make 10 (some .int) "make" true 238 (sK 1 239) := ok_iconst (by decide +kernel : decode cX12_make 238 = .ok (.iconst 1, 1)) (by decide)
theorem o291_239 : Okp RX12 cX12_make 10 (some .int) "make" true 239 (sB2 fAdd 240) := ok_iadd (by decide +kernel : decode cX12_make 239 = .ok (.iadd, 1))
theorem o291_240 : Okp RX12 cX12_make 10 (some .int) "make" true 240 (sIS 241) := ok_iastore (by decide +kernel : decode cX12_make 240 = .ok (.iastore, 1))
theorem o291_241 : Okp RX12 cX12_make 10 (some .int) "make" true 241 (sLR 0 242) := ok_aload_n (by decide +kernel : decode cX12_make 241 = .ok (.aload_n 0, 1)) rfl
theorem o291_242 : Okp RX12 cX12_make 10 (some .int) "make" true 242 (sGR 13 71 245) := ok_getR (by decide +kernel : decode cX12_make 242 = .ok (.getfield 173, 3)) fw_X12_173 rfl
theorem o291_245 : Okp RX12 cX12_make 10 (some .int) "make" true 245 (sK 1025 248) := ok_sipush (by decide +kernel : decode cX12_make 245 = .ok (.sipush 1025, 3)) (by decide)
theorem o291_248 : Okp RX12 cX12_make 10 (some .int) "make" true 248 (sLI 1 249) := ok_iload_n (by decide +kernel : decode cX12_make 248 = .ok (.iload_n 1, 1)) rfl
theorem o291_249 : Okp RX12 cX12_make 10 (some .int) "make" true 249 (sB2 fMul 250) := ok_imul (by decide +kernel : decode cX12_make 249 = .ok (.imul, 1))
theorem o291_250 : Okp RX12 cX12_make 10 (some .int) "make" true 250 (sLI 7 252) := ok_iload (by decide +kernel : decode cX12_make 250 = .ok (.iload 7, 2))
theorem o291_252 : Okp RX12 cX12_make 10 (some .int) "make" true 252 (sB2 fAdd 253) := ok_iadd (by decide +kernel : decode cX12_make 252 = .ok (.iadd, 1))
theorem o291_253 : Okp RX12 cX12_make 10 (some .int) "make" true 253 (sLI 6 255) := ok_iload (by decide +kernel : decode cX12_make 253 = .ok (.iload 6, 2))
theorem o291_255 : Okp RX12 cX12_make 10 (some .int) "make" true 255 (sIS 256) := ok_iastore (by decide +kernel : decode cX12_make 255 = .ok (.iastore, 1))
theorem o291_256 : Okp RX12 cX12_make 10 (some .int) "make" true 256 (sK 0 257) := ok_iconst (by decide +kernel : decode cX12_make 256 = .ok (.iconst 0, 1)) (by decide)
theorem o291_257 : Okp RX12 cX12_make 10 (some .int) "make" true 257 (sSI 8 259) := ok_istore (by decide +kernel : decode cX12_make 257 = .ok (.istore 8, 2)) (by decide) (by decide)
theorem o291_259 : Okp RX12 cX12_make 10 (some .int) "make" true 259 (sLI 8 261) := ok_iload (by decide +kernel : decode cX12_make 259 = .ok (.iload 8, 2))
theorem o291_261 : Okp RX12 cX12_make 10 (some .int) "make" true 261 (sI2L 262) := ok_i2l (by decide +kernel : decode cX12_make 261 = .ok (.i2l, 1))
theorem o291_262 : Okp RX12 cX12_make 10 (some .int) "make" true 262 (sLL 2 263) := ok_lload_n (by decide +kernel : decode cX12_make 262 = .ok (.lload_n 2, 1)) rfl
theorem o291_263 : Okp RX12 cX12_make 10 (some .int) "make" true 263 (sLCmp 264) := ok_lcmp (by decide +kernel : decode cX12_make 263 = .ok (.lcmp, 1))
theorem o291_264 : Okp RX12 cX12_make 10 (some .int) "make" true 264 (sI1 3 296 267) := ok_if_ge (by decide +kernel : decode cX12_make 264 = .ok (.ifCond .ge 32, 3)) (by decide)
theorem o291_267 : Okp RX12 cX12_make 10 (some .int) "make" true 267 (sLR 0 268) := ok_aload_n (by decide +kernel : decode cX12_make 267 = .ok (.aload_n 0, 1)) rfl
theorem o291_268 : Okp RX12 cX12_make 10 (some .int) "make" true 268 (sGR 13 75 271) := ok_getR (by decide +kernel : decode cX12_make 268 = .ok (.getfield 185, 3)) fw_X12_185 rfl
theorem o291_271 : Okp RX12 cX12_make 10 (some .int) "make" true 271 (sLI 6 273) := ok_iload (by decide +kernel : decode cX12_make 271 = .ok (.iload 6, 2))
theorem o291_273 : Okp RX12 cX12_make 10 (some .int) "make" true 273 (sLI 8 275) := ok_iload (by decide +kernel : decode cX12_make 273 = .ok (.iload 8, 2))
theorem o291_275 : Okp RX12 cX12_make 10 (some .int) "make" true 275 (sB2 fAdd 276) := ok_iadd (by decide +kernel : decode cX12_make 275 = .ok (.iadd, 1))
theorem o291_276 : Okp RX12 cX12_make 10 (some .int) "make" true 276 (sK 0 277) := ok_iconst (by decide +kernel : decode cX12_make 276 = .ok (.iconst 0, 1)) (by decide)
theorem o291_277 : Okp RX12 cX12_make 10 (some .int) "make" true 277 (sIS 278) := ok_iastore (by decide +kernel : decode cX12_make 277 = .ok (.iastore, 1))
theorem o291_278 : Okp RX12 cX12_make 10 (some .int) "make" true 278 (sLR 0 279) := ok_aload_n (by decide +kernel : decode cX12_make 278 = .ok (.aload_n 0, 1)) rfl
theorem o291_279 : Okp RX12 cX12_make 10 (some .int) "make" true 279 (sGR 13 76 282) := ok_getR (by decide +kernel : decode cX12_make 279 = .ok (.getfield 188, 3)) fw_X12_188 rfl
theorem o291_282 : Okp RX12 cX12_make 10 (some .int) "make" true 282 (sLI 6 284) := ok_iload (by decide +kernel : decode cX12_make 282 = .ok (.iload 6, 2))
theorem o291_284 : Okp RX12 cX12_make 10 (some .int) "make" true 284 (sLI 8 286) := ok_iload (by decide +kernel : decode cX12_make 284 = .ok (.iload 8, 2))
theorem o291_286 : Okp RX12 cX12_make 10 (some .int) "make" true 286 (sB2 fAdd 287) := ok_iadd (by decide +kernel : decode cX12_make 286 = .ok (.iadd, 1))
theorem o291_287 : Okp RX12 cX12_make 10 (some .int) "make" true 287 (sLI 4 289) := ok_iload (by decide +kernel : decode cX12_make 287 = .ok (.iload 4, 2))
theorem o291_289 : Okp RX12 cX12_make 10 (some .int) "make" true 289 (sIS 290) := ok_iastore (by decide +kernel : decode cX12_make 289 = .ok (.iastore, 1))
theorem o291_290 : Okp RX12 cX12_make 10 (some .int) "make" true 290 (sInc 8 1 293) := ok_iinc (by decide +kernel : decode cX12_make 290 = .ok (.iinc 8 1, 3)) (by decide) (by decide)
theorem o291_293 : Okp RX12 cX12_make 10 (some .int) "make" true 293 (sGo 259) := ok_goto (by decide +kernel : decode cX12_make 293 = .ok (.goto (-34), 3)) (by decide)
theorem o291_296 : Okp RX12 cX12_make 10 (some .int) "make" true 296 (sLI 6 298) := ok_iload (by decide +kernel : decode cX12_make 296 = .ok (.iload 6, 2))
theorem o291_298 : Okp RX12 cX12_make 10 (some .int) "make" true 298 (sLL 2 299) := ok_lload_n (by decide +kernel : decode cX12_make 298 = .ok (.lload_n 2, 1)) rfl
theorem o291_299 : Okp RX12 cX12_make 10 (some .int) "make" true 299 (sL2I 300) := ok_l2i (by decide +kernel : decode cX12_make 299 = .ok (.l2i, 1))
theorem o291_300 : Okp RX12 cX12_make 10 (some .int) "make" true 300 (sB2 fAdd 301) := ok_iadd (by decide +kernel : decode cX12_make 300 = .ok (.iadd, 1))
theorem o291_301 : Okp RX12 cX12_make 10 (some .int) "make" true 301 (sSI 6 303) := ok_istore (by decide +kernel : decode cX12_make 301 = .ok (.istore 6, 2)) (by decide) (by decide)
theorem o291_303 : Okp RX12 cX12_make 10 (some .int) "make" true 303 (sK 0 304) := ok_iconst (by decide +kernel : decode cX12_make 303 = .ok (.iconst 0, 1)) (by decide)
theorem o291_304 : Okp RX12 cX12_make 10 (some .int) "make" true 304 (sSI 8 306) := ok_istore (by decide +kernel : decode cX12_make 304 = .ok (.istore 8, 2)) (by decide) (by decide)
theorem o291_306 : Okp RX12 cX12_make 10 (some .int) "make" true 306 (sLI 8 308) := ok_iload (by decide +kernel : decode cX12_make 306 = .ok (.iload 8, 2))
theorem o291_308 : Okp RX12 cX12_make 10 (some .int) "make" true 308 (sLI 6 310) := ok_iload (by decide +kernel : decode cX12_make 308 = .ok (.iload 6, 2))
theorem o291_310 : Okp RX12 cX12_make 10 (some .int) "make" true 310 (sI2 3 359 313) := ok_icmp_ge (by decide +kernel : decode cX12_make 310 = .ok (.if_icmp .ge 49, 3)) (by decide)
theorem o291_313 : Okp RX12 cX12_make 10 (some .int) "make" true 313 (sLR 0 314) := ok_aload_n (by decide +kernel : decode cX12_make 313 = .ok (.aload_n 0, 1)) rfl
theorem o291_314 : Okp RX12 cX12_make 10 (some .int) "make" true 314 (sGR 13 73 317) := ok_getR (by decide +kernel : decode cX12_make 314 = .ok (.getfield 179, 3)) fw_X12_179 rfl
theorem o291_317 : Okp RX12 cX12_make 10 (some .int) "make" true 317 (sK 1024 320) := ok_sipush (by decide +kernel : decode cX12_make 317 = .ok (.sipush 1024, 3)) (by decide)
theorem o291_320 : Okp RX12 cX12_make 10 (some .int) "make" true 320 (sLI 1 321) := ok_iload_n (by decide +kernel : decode cX12_make 320 = .ok (.iload_n 1, 1)) rfl
theorem o291_321 : Okp RX12 cX12_make 10 (some .int) "make" true 321 (sB2 fMul 322) := ok_imul (by decide +kernel : decode cX12_make 321 = .ok (.imul, 1))
theorem o291_322 : Okp RX12 cX12_make 10 (some .int) "make" true 322 (sLI 8 324) := ok_iload (by decide +kernel : decode cX12_make 322 = .ok (.iload 8, 2))
theorem o291_324 : Okp RX12 cX12_make 10 (some .int) "make" true 324 (sB2 fAdd 325) := ok_iadd (by decide +kernel : decode cX12_make 324 = .ok (.iadd, 1))
theorem o291_325 : Okp RX12 cX12_make 10 (some .int) "make" true 325 (sLR 0 326) := ok_aload_n (by decide +kernel : decode cX12_make 325 = .ok (.aload_n 0, 1)) rfl
theorem o291_326 : Okp RX12 cX12_make 10 (some .int) "make" true 326 (sGR 13 75 329) := ok_getR (by decide +kernel : decode cX12_make 326 = .ok (.getfield 185, 3)) fw_X12_185 rfl
theorem o291_329 : Okp RX12 cX12_make 10 (some .int) "make" true 329 (sLI 8 331) := ok_iload (by decide +kernel : decode cX12_make 329 = .ok (.iload 8, 2))
theorem o291_331 : Okp RX12 cX12_make 10 (some .int) "make" true 331 (sIA 332) := ok_iaload (by decide +kernel : decode cX12_make 331 = .ok (.iaload, 1))
theorem o291_332 : Okp RX12 cX12_make 10 (some .int) "make" true 332 (sIS 333) := ok_iastore (by decide +kernel : decode cX12_make 332 = .ok (.iastore, 1))
theorem o291_333 : Okp RX12 cX12_make 10 (some .int) "make" true 333 (sLR 0 334) := ok_aload_n (by decide +kernel : decode cX12_make 333 = .ok (.aload_n 0, 1)) rfl
theorem o291_334 : Okp RX12 cX12_make 10 (some .int) "make" true 334 (sGR 13 74 337) := ok_getR (by decide +kernel : decode cX12_make 334 = .ok (.getfield 182, 3)) fw_X12_182 rfl
theorem o291_337 : Okp RX12 cX12_make 10 (some .int) "make" true 337 (sK 1024 340) := ok_sipush (by decide +kernel : decode cX12_make 337 = .ok (.sipush 1024, 3)) (by decide)
theorem o291_340 : Okp RX12 cX12_make 10 (some .int) "make" true 340 (sLI 1 341) := ok_iload_n (by decide +kernel : decode cX12_make 340 = .ok (.iload_n 1, 1)) rfl
theorem o291_341 : Okp RX12 cX12_make 10 (some .int) "make" true 341 (sB2 fMul 342) := ok_imul (by decide +kernel : decode cX12_make 341 = .ok (.imul, 1))
theorem o291_342 : Okp RX12 cX12_make 10 (some .int) "make" true 342 (sLI 8 344) := ok_iload (by decide +kernel : decode cX12_make 342 = .ok (.iload 8, 2))
theorem o291_344 : Okp RX12 cX12_make 10 (some .int) "make" true 344 (sB2 fAdd 345) := ok_iadd (by decide +kernel : decode cX12_make 344 = .ok (.iadd, 1))
theorem o291_345 : Okp RX12 cX12_make 10 (some .int) "make" true 345 (sLR 0 346) := ok_aload_n (by decide +kernel : decode cX12_make 345 = .ok (.aload_n 0, 1)) rfl
theorem o291_346 : Okp RX12 cX12_make 10 (some .int) "make" true 346 (sGR 13 76 349) := ok_getR (by decide +kernel : decode cX12_make 346 = .ok (.getfield 188, 3)) fw_X12_188 rfl
theorem o291_349 : Okp RX12 cX12_make 10 (some .int) "make" true 349 (sLI 8 351) := ok_iload (by decide +kernel : decode cX12_make 349 = .ok (.iload 8, 2))
theorem o291_351 : Okp RX12 cX12_make 10 (some .int) "make" true 351 (sIA 352) := ok_iaload (by decide +kernel : decode cX12_make 351 = .ok (.iaload, 1))
theorem o291_352 : Okp RX12 cX12_make 10 (some .int) "make" true 352 (sIS 353) := ok_iastore (by decide +kernel : decode cX12_make 352 = .ok (.iastore, 1))
theorem o291_353 : Okp RX12 cX12_make 10 (some .int) "make" true 353 (sInc 8 1 356) := ok_iinc (by decide +kernel : decode cX12_make 353 = .ok (.iinc 8 1, 3)) (by decide) (by decide)
theorem o291_356 : Okp RX12 cX12_make 10 (some .int) "make" true 356 (sGo 306) := ok_goto (by decide +kernel : decode cX12_make 356 = .ok (.goto (-50), 3)) (by decide)
theorem o291_359 : Okp RX12 cX12_make 10 (some .int) "make" true 359 (sLI 7 361) := ok_iload (by decide +kernel : decode cX12_make 359 = .ok (.iload 7, 2))
theorem o291_361 : Okp RX12 cX12_make 10 (some .int) "make" true 361 sRI := ok_iret rfl (by decide +kernel : decode cX12_make 361 = .ok (.ireturn, 1))
theorem oc291_0 : ∀ pc, Mnp (c291_0 pc) ∧ Okp RX12 cX12_make 10 (some .int) "make" true pc (c291_0 pc) := by
  intro pc
  unfold c291_0
  split
  · exact ⟨mn_sLR, o291_0⟩
  · exact ⟨mn_sLI, o291_1⟩
  · exact ⟨mn_sCV, o291_2⟩
  · exact ⟨mn_sSI, o291_5⟩
  · exact ⟨mn_sLI, o291_7⟩
  · exact ⟨mn_sI2L, o291_9⟩
  · exact ⟨mn_sLL, o291_10⟩
  · exact ⟨mn_sLAdd, o291_11⟩
  · exact ⟨mn_sLC, o291_12⟩
  · exact ⟨mn_sLAdd, o291_13⟩
  · exact ⟨mn_sLR, o291_14⟩
  · exact ⟨mn_sGR, o291_15⟩
  · exact ⟨mn_sLI, o291_18⟩
  · exact ⟨mn_sIA, o291_19⟩
  · exact ⟨mn_sI2L, o291_20⟩
  · exact ⟨mn_sLCmp, o291_21⟩
  · exact ⟨mn_sI1, o291_22⟩
  · exact ⟨mn_sX, ok_X⟩
theorem oc291_1 : ∀ pc, Mnp (c291_1 pc) ∧ Okp RX12 cX12_make 10 (some .int) "make" true pc (c291_1 pc) := by
  intro pc
  unfold c291_1
  split
  · exact ⟨mn_sK, o291_25⟩
  · exact ⟨mn_sRI, o291_26⟩
  · exact ⟨mn_sK, o291_27⟩
  · exact ⟨mn_sSI, o291_28⟩
  · exact ⟨mn_sK, o291_30⟩
  · exact ⟨mn_sSI, o291_31⟩
  · exact ⟨mn_sLI, o291_33⟩
  · exact ⟨mn_sK, o291_35⟩
  · exact ⟨mn_sI2, o291_38⟩
  · exact ⟨mn_sK, o291_41⟩
  · exact ⟨mn_sLI, o291_44⟩
  · exact ⟨mn_sB2, o291_45⟩
  · exact ⟨mn_sLI, o291_46⟩
  · exact ⟨mn_sX, ok_X⟩
theorem oc291_2 : ∀ pc, Mnp (c291_2 pc) ∧ Okp RX12 cX12_make 10 (some .int) "make" true pc (c291_2 pc) := by
  intro pc
  unfold c291_2
  split
  · exact ⟨mn_sB2, o291_48⟩
  · exact ⟨mn_sSI, o291_49⟩
  · exact ⟨mn_sLR, o291_51⟩
  · exact ⟨mn_sGR, o291_52⟩
  · exact ⟨mn_sLI, o291_55⟩
  · exact ⟨mn_sIA, o291_57⟩
  · exact ⟨mn_sI1, o291_58⟩
  · exact ⟨mn_sGo, o291_61⟩
  · exact ⟨mn_sLR, o291_64⟩
  · exact ⟨mn_sGR, o291_65⟩
  · exact ⟨mn_sLI, o291_68⟩
  · exact ⟨mn_sBA, o291_70⟩
  · exact ⟨mn_sI1, o291_71⟩
  · exact ⟨mn_sX, ok_X⟩
theorem oc291_3 : ∀ pc, Mnp (c291_3 pc) ∧ Okp RX12 cX12_make 10 (some .int) "make" true pc (c291_3 pc) := by
  intro pc
  unfold c291_3
  split
  · exact ⟨mn_sLR, o291_74⟩
  · exact ⟨mn_sGR, o291_75⟩
  · exact ⟨mn_sLI, o291_78⟩
  · exact ⟨mn_sK, o291_80⟩
  · exact ⟨mn_sIS, o291_81⟩
  · exact ⟨mn_sGo, o291_82⟩
  · exact ⟨mn_sK, o291_85⟩
  · exact ⟨mn_sSI, o291_86⟩
  · exact ⟨mn_sLI, o291_88⟩
  · exact ⟨mn_sLR, o291_90⟩
  · exact ⟨mn_sGR, o291_91⟩
  · exact ⟨mn_sLI, o291_94⟩
  · exact ⟨mn_sX, ok_X⟩
theorem oc291_4 : ∀ pc, Mnp (c291_4 pc) ∧ Okp RX12 cX12_make 10 (some .int) "make" true pc (c291_4 pc) := by
  intro pc
  unfold c291_4
  split
  · exact ⟨mn_sIA, o291_96⟩
  · exact ⟨mn_sK, o291_97⟩
  · exact ⟨mn_sB2, o291_98⟩
  · exact ⟨mn_sI2, o291_99⟩
  · exact ⟨mn_sLR, o291_102⟩
  · exact ⟨mn_sGR, o291_103⟩
  · exact ⟨mn_sLI, o291_106⟩
  · exact ⟨mn_sLI, o291_108⟩
  · exact ⟨mn_sB2, o291_110⟩
  · exact ⟨mn_sLR, o291_111⟩
  · exact ⟨mn_sGR, o291_112⟩
  · exact ⟨mn_sK, o291_115⟩
  · exact ⟨mn_sLI, o291_118⟩
  · exact ⟨mn_sB2, o291_119⟩
  · exact ⟨mn_sX, ok_X⟩
theorem oc291_5 : ∀ pc, Mnp (c291_5 pc) ∧ Okp RX12 cX12_make 10 (some .int) "make" true pc (c291_5 pc) := by
  intro pc
  unfold c291_5
  split
  · exact ⟨mn_sLR, o291_120⟩
  · exact ⟨mn_sGR, o291_121⟩
  · exact ⟨mn_sLI, o291_124⟩
  · exact ⟨mn_sIA, o291_126⟩
  · exact ⟨mn_sB2, o291_127⟩
  · exact ⟨mn_sLI, o291_128⟩
  · exact ⟨mn_sB2, o291_130⟩
  · exact ⟨mn_sIA, o291_131⟩
  · exact ⟨mn_sIS, o291_132⟩
  · exact ⟨mn_sLR, o291_133⟩
  · exact ⟨mn_sGR, o291_134⟩
  · exact ⟨mn_sLI, o291_137⟩
  · exact ⟨mn_sLI, o291_139⟩
  · exact ⟨mn_sB2, o291_141⟩
  · exact ⟨mn_sLR, o291_142⟩
  · exact ⟨mn_sGR, o291_143⟩
  · exact ⟨mn_sX, ok_X⟩
theorem oc291_6 : ∀ pc, Mnp (c291_6 pc) ∧ Okp RX12 cX12_make 10 (some .int) "make" true pc (c291_6 pc) := by
  intro pc
  unfold c291_6
  split
  · exact ⟨mn_sK, o291_146⟩
  · exact ⟨mn_sLI, o291_149⟩
  · exact ⟨mn_sB2, o291_150⟩
  · exact ⟨mn_sLR, o291_151⟩
  · exact ⟨mn_sGR, o291_152⟩
  · exact ⟨mn_sLI, o291_155⟩
  · exact ⟨mn_sIA, o291_157⟩
  · exact ⟨mn_sB2, o291_158⟩
  · exact ⟨mn_sLI, o291_159⟩
  · exact ⟨mn_sB2, o291_161⟩
  · exact ⟨mn_sIA, o291_162⟩
  · exact ⟨mn_sIS, o291_163⟩
  · exact ⟨mn_sInc, o291_164⟩
  · exact ⟨mn_sGo, o291_167⟩
  · exact ⟨mn_sX, ok_X⟩
theorem oc291_7 : ∀ pc, Mnp (c291_7 pc) ∧ Okp RX12 cX12_make 10 (some .int) "make" true pc (c291_7 pc) := by
  intro pc
  unfold c291_7
  split
  · exact ⟨mn_sLR, o291_170⟩
  · exact ⟨mn_sGR, o291_171⟩
  · exact ⟨mn_sLI, o291_174⟩
  · exact ⟨mn_sLI, o291_176⟩
  · exact ⟨mn_sIS, o291_178⟩
  · exact ⟨mn_sLI, o291_179⟩
  · exact ⟨mn_sLR, o291_181⟩
  · exact ⟨mn_sGR, o291_182⟩
  · exact ⟨mn_sLI, o291_185⟩
  · exact ⟨mn_sIA, o291_187⟩
  · exact ⟨mn_sK, o291_188⟩
  · exact ⟨mn_sB2, o291_189⟩
  · exact ⟨mn_sB2, o291_190⟩
  · exact ⟨mn_sSI, o291_191⟩
  · exact ⟨mn_sX, ok_X⟩
theorem oc291_8 : ∀ pc, Mnp (c291_8 pc) ∧ Okp RX12 cX12_make 10 (some .int) "make" true pc (c291_8 pc) := by
  intro pc
  unfold c291_8
  split
  · exact ⟨mn_sInc, o291_193⟩
  · exact ⟨mn_sGo, o291_196⟩
  · exact ⟨mn_sK, o291_199⟩
  · exact ⟨mn_sSI, o291_200⟩
  · exact ⟨mn_sLR, o291_202⟩
  · exact ⟨mn_sGR, o291_203⟩
  · exact ⟨mn_sK, o291_206⟩
  · exact ⟨mn_sLI, o291_209⟩
  · exact ⟨mn_sB2, o291_210⟩
  · exact ⟨mn_sLI, o291_211⟩
  · exact ⟨mn_sB2, o291_213⟩
  · exact ⟨mn_sIA, o291_214⟩
  · exact ⟨mn_sI1, o291_215⟩
  · exact ⟨mn_sX, ok_X⟩
theorem oc291_9 : ∀ pc, Mnp (c291_9 pc) ∧ Okp RX12 cX12_make 10 (some .int) "make" true pc (c291_9 pc) := by
  intro pc
  unfold c291_9
  split
  · exact ⟨mn_sInc, o291_218⟩
  · exact ⟨mn_sGo, o291_221⟩
  · exact ⟨mn_sLR, o291_224⟩
  · exact ⟨mn_sGR, o291_225⟩
  · exact ⟨mn_sK, o291_228⟩
  · exact ⟨mn_sLI, o291_231⟩
  · exact ⟨mn_sB2, o291_232⟩
  · exact ⟨mn_sLI, o291_233⟩
  · exact ⟨mn_sB2, o291_235⟩
  · exact ⟨mn_sLL, o291_236⟩
  · exact ⟨mn_sL2I, o291_237⟩
  · exact ⟨mn_sK, o291_238⟩
  · exact ⟨mn_sB2, o291_239⟩
  · exact ⟨mn_sX, ok_X⟩
theorem oc291_10 : ∀ pc, Mnp (c291_10 pc) ∧ Okp RX12 cX12_make 10 (some .int) "make" true pc (c291_10 pc) := by
  intro pc
  unfold c291_10
  split
  · exact ⟨mn_sIS, o291_240⟩
  · exact ⟨mn_sLR, o291_241⟩
  · exact ⟨mn_sGR, o291_242⟩
  · exact ⟨mn_sK, o291_245⟩
  · exact ⟨mn_sLI, o291_248⟩
  · exact ⟨mn_sB2, o291_249⟩
  · exact ⟨mn_sLI, o291_250⟩
  · exact ⟨mn_sB2, o291_252⟩
  · exact ⟨mn_sLI, o291_253⟩
  · exact ⟨mn_sIS, o291_255⟩
  · exact ⟨mn_sK, o291_256⟩
  · exact ⟨mn_sSI, o291_257⟩
  · exact ⟨mn_sLI, o291_259⟩
  · exact ⟨mn_sI2L, o291_261⟩
  · exact ⟨mn_sLL, o291_262⟩
  · exact ⟨mn_sLCmp, o291_263⟩
  · exact ⟨mn_sX, ok_X⟩
theorem oc291_11 : ∀ pc, Mnp (c291_11 pc) ∧ Okp RX12 cX12_make 10 (some .int) "make" true pc (c291_11 pc) := by
  intro pc
  unfold c291_11
  split
  · exact ⟨mn_sI1, o291_264⟩
  · exact ⟨mn_sLR, o291_267⟩
  · exact ⟨mn_sGR, o291_268⟩
  · exact ⟨mn_sLI, o291_271⟩
  · exact ⟨mn_sLI, o291_273⟩
  · exact ⟨mn_sB2, o291_275⟩
  · exact ⟨mn_sK, o291_276⟩
  · exact ⟨mn_sIS, o291_277⟩
  · exact ⟨mn_sLR, o291_278⟩
  · exact ⟨mn_sGR, o291_279⟩
  · exact ⟨mn_sLI, o291_282⟩
  · exact ⟨mn_sLI, o291_284⟩
  · exact ⟨mn_sB2, o291_286⟩
  · exact ⟨mn_sLI, o291_287⟩
  · exact ⟨mn_sX, ok_X⟩
theorem oc291_12 : ∀ pc, Mnp (c291_12 pc) ∧ Okp RX12 cX12_make 10 (some .int) "make" true pc (c291_12 pc) := by
  intro pc
  unfold c291_12
  split
  · exact ⟨mn_sIS, o291_289⟩
  · exact ⟨mn_sInc, o291_290⟩
  · exact ⟨mn_sGo, o291_293⟩
  · exact ⟨mn_sLI, o291_296⟩
  · exact ⟨mn_sLL, o291_298⟩
  · exact ⟨mn_sL2I, o291_299⟩
  · exact ⟨mn_sB2, o291_300⟩
  · exact ⟨mn_sSI, o291_301⟩
  · exact ⟨mn_sK, o291_303⟩
  · exact ⟨mn_sSI, o291_304⟩
  · exact ⟨mn_sLI, o291_306⟩
  · exact ⟨mn_sLI, o291_308⟩
  · exact ⟨mn_sI2, o291_310⟩
  · exact ⟨mn_sX, ok_X⟩
theorem oc291_13 : ∀ pc, Mnp (c291_13 pc) ∧ Okp RX12 cX12_make 10 (some .int) "make" true pc (c291_13 pc) := by
  intro pc
  unfold c291_13
  split
  · exact ⟨mn_sLR, o291_313⟩
  · exact ⟨mn_sGR, o291_314⟩
  · exact ⟨mn_sK, o291_317⟩
  · exact ⟨mn_sLI, o291_320⟩
  · exact ⟨mn_sB2, o291_321⟩
  · exact ⟨mn_sLI, o291_322⟩
  · exact ⟨mn_sB2, o291_324⟩
  · exact ⟨mn_sLR, o291_325⟩
  · exact ⟨mn_sGR, o291_326⟩
  · exact ⟨mn_sLI, o291_329⟩
  · exact ⟨mn_sIA, o291_331⟩
  · exact ⟨mn_sIS, o291_332⟩
  · exact ⟨mn_sLR, o291_333⟩
  · exact ⟨mn_sGR, o291_334⟩
  · exact ⟨mn_sX, ok_X⟩
theorem oc291_14 : ∀ pc, Mnp (c291_14 pc) ∧ Okp RX12 cX12_make 10 (some .int) "make" true pc (c291_14 pc) := by
  intro pc
  unfold c291_14
  split
  · exact ⟨mn_sK, o291_337⟩
  · exact ⟨mn_sLI, o291_340⟩
  · exact ⟨mn_sB2, o291_341⟩
  · exact ⟨mn_sLI, o291_342⟩
  · exact ⟨mn_sB2, o291_344⟩
  · exact ⟨mn_sLR, o291_345⟩
  · exact ⟨mn_sGR, o291_346⟩
  · exact ⟨mn_sLI, o291_349⟩
  · exact ⟨mn_sIA, o291_351⟩
  · exact ⟨mn_sIS, o291_352⟩
  · exact ⟨mn_sInc, o291_353⟩
  · exact ⟨mn_sGo, o291_356⟩
  · exact ⟨mn_sLI, o291_359⟩
  · exact ⟨mn_sX, ok_X⟩
theorem oc291_15 : ∀ pc, Mnp (c291_15 pc) ∧ Okp RX12 cX12_make 10 (some .int) "make" true pc (c291_15 pc) := by
  intro pc
  unfold c291_15
  split
  · exact ⟨mn_sRI, o291_361⟩
  · exact ⟨mn_sX, ok_X⟩
theorem oc291 : ∀ pc, Mnp (c291 pc) ∧ Okp RX12 cX12_make 10 (some .int) "make" true pc (c291 pc) := by
  intro pc
  unfold c291
  split
  · exact oc291_0 pc
  · exact oc291_1 pc
  · exact oc291_2 pc
  · exact oc291_3 pc
  · exact oc291_4 pc
  · exact oc291_5 pc
  · exact oc291_6 pc
  · exact oc291_7 pc
  · exact oc291_8 pc
  · exact oc291_9 pc
  · exact oc291_10 pc
  · exact oc291_11 pc
  · exact oc291_12 pc
  · exact oc291_13 pc
  · exact oc291_14 pc
  · exact oc291_15 pc
  · exact ⟨mn_sX, ok_X⟩
theorem o292_0 : Okp RX12 cX12_cell 4 (some .int) "cell" false 0 (sK 1024 3) := ok_sipush (by decide +kernel : decode cX12_cell 0 = .ok (.sipush 1024, 3)) (by decide)
theorem o292_3 : Okp RX12 cX12_cell 4 (some .int) "cell" false 3 (sLI 1 4) := ok_iload_n (by decide +kernel : decode cX12_cell 3 = .ok (.iload_n 1, 1)) rfl
theorem o292_4 : Okp RX12 cX12_cell 4 (some .int) "cell" false 4 (sB2 fMul 5) := ok_imul (by decide +kernel : decode cX12_cell 4 = .ok (.imul, 1))
theorem o292_5 : Okp RX12 cX12_cell 4 (some .int) "cell" false 5 (sLR 0 6) := ok_aload_n (by decide +kernel : decode cX12_cell 5 = .ok (.aload_n 0, 1)) rfl
theorem o292_6 : Okp RX12 cX12_cell 4 (some .int) "cell" false 6 (sGR 13 71 9) := ok_getR (by decide +kernel : decode cX12_cell 6 = .ok (.getfield 173, 3)) fw_X12_173 rfl
theorem o292_9 : Okp RX12 cX12_cell 4 (some .int) "cell" false 9 (sK 1025 12) := ok_sipush (by decide +kernel : decode cX12_cell 9 = .ok (.sipush 1025, 3)) (by decide)
theorem o292_12 : Okp RX12 cX12_cell 4 (some .int) "cell" false 12 (sLI 1 13) := ok_iload_n (by decide +kernel : decode cX12_cell 12 = .ok (.iload_n 1, 1)) rfl
theorem o292_13 : Okp RX12 cX12_cell 4 (some .int) "cell" false 13 (sB2 fMul 14) := ok_imul (by decide +kernel : decode cX12_cell 13 = .ok (.imul, 1))
theorem o292_14 : Okp RX12 cX12_cell 4 (some .int) "cell" false 14 (sLI 2 15) := ok_iload_n (by decide +kernel : decode cX12_cell 14 = .ok (.iload_n 2, 1)) rfl
theorem o292_15 : Okp RX12 cX12_cell 4 (some .int) "cell" false 15 (sB2 fAdd 16) := ok_iadd (by decide +kernel : decode cX12_cell 15 = .ok (.iadd, 1))
theorem o292_16 : Okp RX12 cX12_cell 4 (some .int) "cell" false 16 (sIA 17) := ok_iaload (by decide +kernel : decode cX12_cell 16 = .ok (.iaload, 1))
theorem o292_17 : Okp RX12 cX12_cell 4 (some .int) "cell" false 17 (sB2 fAdd 18) := ok_iadd (by decide +kernel : decode cX12_cell 17 = .ok (.iadd, 1))
theorem o292_18 : Okp RX12 cX12_cell 4 (some .int) "cell" false 18 (sLI 3 19) := ok_iload_n (by decide +kernel : decode cX12_cell 18 = .ok (.iload_n 3, 1)) rfl
theorem o292_19 : Okp RX12 cX12_cell 4 (some .int) "cell" false 19 (sB2 fAdd 20) := ok_iadd (by decide +kernel : decode cX12_cell 19 = .ok (.iadd, 1))
theorem o292_20 : Okp RX12 cX12_cell 4 (some .int) "cell" false 20 sRI := ok_iret rfl (by decide +kernel : decode cX12_cell 20 = .ok (.ireturn, 1))
theorem oc292 : ∀ pc, Mnp (c292 pc) ∧ Okp RX12 cX12_cell 4 (some .int) "cell" false pc (c292 pc) := by
  intro pc
  unfold c292
  split
  · exact ⟨mn_sK, o292_0⟩
  · exact ⟨mn_sLI, o292_3⟩
  · exact ⟨mn_sB2, o292_4⟩
  · exact ⟨mn_sLR, o292_5⟩
  · exact ⟨mn_sGR, o292_6⟩
  · exact ⟨mn_sK, o292_9⟩
  · exact ⟨mn_sLI, o292_12⟩
  · exact ⟨mn_sB2, o292_13⟩
  · exact ⟨mn_sLI, o292_14⟩
  · exact ⟨mn_sB2, o292_15⟩
  · exact ⟨mn_sIA, o292_16⟩
  · exact ⟨mn_sB2, o292_17⟩
  · exact ⟨mn_sLI, o292_18⟩
  · exact ⟨mn_sB2, o292_19⟩
  · exact ⟨mn_sRI, o292_20⟩
  · exact ⟨mn_sX, ok_X⟩
theorem o293_0 : Okp RX12 cX12_blockCells 3 (some .int) "blockCells" false 0 (sK 0 1) := ok_iconst (by decide +kernel : decode cX12_blockCells 0 = .ok (.iconst 0, 1)) (by decide)
theorem o293_1 : Okp RX12 cX12_blockCells 3 (some .int) "blockCells" false 1 (sSI 1 2) := ok_istore_n (by decide +kernel : decode cX12_blockCells 1 = .ok (.istore_n 1, 1)) rfl (by decide) (by decide)
theorem o293_2 : Okp RX12 cX12_blockCells 3 (some .int) "blockCells" false 2 (sK 0 3) := ok_iconst (by decide +kernel : decode cX12_blockCells 2 = .ok (.iconst 0, 1)) (by decide)
theorem o293_3 : Okp RX12 cX12_blockCells 3 (some .int) "blockCells" false 3 (sSI 2 4) := ok_istore_n (by decide +kernel : decode cX12_blockCells 3 = .ok (.istore_n 2, 1)) rfl (by decide) (by decide)
theorem o293_4 : Okp RX12 cX12_blockCells 3 (some .int) "blockCells" false 4 (sLI 2 5) := ok_iload_n (by decide +kernel : decode cX12_blockCells 4 = .ok (.iload_n 2, 1)) rfl
theorem o293_5 : Okp RX12 cX12_blockCells 3 (some .int) "blockCells" false 5 (sK 128 8) := ok_sipush (by decide +kernel : decode cX12_blockCells 5 = .ok (.sipush 128, 3)) (by decide)
theorem o293_8 : Okp RX12 cX12_blockCells 3 (some .int) "blockCells" false 8 (sI2 3 42 11) := ok_icmp_ge (by decide +kernel : decode cX12_blockCells 8 = .ok (.if_icmp .ge 34, 3)) (by decide)
theorem o293_11 : Okp RX12 cX12_blockCells 3 (some .int) "blockCells" false 11 (sLI 1 12) := ok_iload_n (by decide +kernel : decode cX12_blockCells 11 = .ok (.iload_n 1, 1)) rfl
theorem o293_12 : Okp RX12 cX12_blockCells 3 (some .int) "blockCells" false 12 (sLR 0 13) := ok_aload_n (by decide +kernel : decode cX12_blockCells 12 = .ok (.aload_n 0, 1)) rfl
theorem o293_13 : Okp RX12 cX12_blockCells 3 (some .int) "blockCells" false 13 (sGR 13 79 16) := ok_getR (by decide +kernel : decode cX12_blockCells 13 = .ok (.getfield 197, 3)) fw_X12_197 rfl
theorem o293_16 : Okp RX12 cX12_blockCells 3 (some .int) "blockCells" false 16 (sLI 2 17) := ok_iload_n (by decide +kernel : decode cX12_blockCells 16 = .ok (.iload_n 2, 1)) rfl
theorem o293_17 : Okp RX12 cX12_blockCells 3 (some .int) "blockCells" false 17 (sIA 18) := ok_iaload (by decide +kernel : decode cX12_blockCells 17 = .ok (.iaload, 1))
theorem o293_18 : Okp RX12 cX12_blockCells 3 (some .int) "blockCells" false 18 (sK (-1) 19) := ok_iconst (by decide +kernel : decode cX12_blockCells 18 = .ok (.iconst (-1), 1)) (by decide)
theorem o293_19 : Okp RX12 cX12_blockCells 3 (some .int) "blockCells" false 19 (sI2 1 26 22) := ok_icmp_ne (by decide +kernel : decode cX12_blockCells 19 = .ok (.if_icmp .ne 7, 3)) (by decide)
theorem o293_22 : Okp RX12 cX12_blockCells 3 (some .int) "blockCells" false 22 (sK 0 23) := ok_iconst (by decide +kernel : decode cX12_blockCells 22 = .ok (.iconst 0, 1)) (by decide)
theorem o293_23 : Okp RX12 cX12_blockCells 3 (some .int) "blockCells" false 23 (sGo 34) := ok_goto (by decide +kernel : decode cX12_blockCells 23 = .ok (.goto 11, 3)) (by decide)
theorem o293_26 : Okp RX12 cX12_blockCells 3 (some .int) "blockCells" false 26 (sLR 0 27) := ok_aload_n (by decide +kernel : decode cX12_blockCells 26 = .ok (.aload_n 0, 1)) rfl
theorem o293_27 : Okp RX12 cX12_blockCells 3 (some .int) "blockCells" false 27 (sGR 13 79 30) := ok_getR (by decide +kernel : decode cX12_blockCells 27 = .ok (.getfield 197, 3)) fw_X12_197 rfl
theorem o293_30 : Okp RX12 cX12_blockCells 3 (some .int) "blockCells" false 30 (sLI 2 31) := ok_iload_n (by decide +kernel : decode cX12_blockCells 30 = .ok (.iload_n 2, 1)) rfl
theorem o293_31 : Okp RX12 cX12_blockCells 3 (some .int) "blockCells" false 31 (sIA 32) := ok_iaload (by decide +kernel : decode cX12_blockCells 31 = .ok (.iaload, 1))
theorem o293_32 : Okp RX12 cX12_blockCells 3 (some .int) "blockCells" false 32 (sK 1 33) := ok_iconst (by decide +kernel : decode cX12_blockCells 32 = .ok (.iconst 1, 1)) (by decide)
theorem o293_33 : Okp RX12 cX12_blockCells 3 (some .int) "blockCells" false 33 (sB2 fAdd 34) := ok_iadd (by decide +kernel : decode cX12_blockCells 33 = .ok (.iadd, 1))
theorem o293_34 : Okp RX12 cX12_blockCells 3 (some .int) "blockCells" false 34 (sB2 fAdd 35) := ok_iadd (by decide +kernel : decode cX12_blockCells 34 = .ok (.iadd, 1))
theorem o293_35 : Okp RX12 cX12_blockCells 3 (some .int) "blockCells" false 35 (sSI 1 36) := ok_istore_n (by decide +kernel : decode cX12_blockCells 35 = .ok (.istore_n 1, 1)) rfl (by decide) (by decide)
theorem o293_36 : Okp RX12 cX12_blockCells 3 (some .int) "blockCells" false 36 (sInc 2 1 39) := ok_iinc (by decide +kernel : decode cX12_blockCells 36 = .ok (.iinc 2 1, 3)) (by decide) (by decide)
theorem o293_39 : Okp RX12 cX12_blockCells 3 (some .int) "blockCells" false 39 (sGo 4) := ok_goto (by decide +kernel : decode cX12_blockCells 39 = .ok (.goto (-35), 3)) (by decide)
theorem o293_42 : Okp RX12 cX12_blockCells 3 (some .int) "blockCells" false 42 (sLI 1 43) := ok_iload_n (by decide +kernel : decode cX12_blockCells 42 = .ok (.iload_n 1, 1)) rfl
theorem o293_43 : Okp RX12 cX12_blockCells 3 (some .int) "blockCells" false 43 sRI := ok_iret rfl (by decide +kernel : decode cX12_blockCells 43 = .ok (.ireturn, 1))
theorem oc293_0 : ∀ pc, Mnp (c293_0 pc) ∧ Okp RX12 cX12_blockCells 3 (some .int) "blockCells" false pc (c293_0 pc) := by
  intro pc
  unfold c293_0
  split
  · exact ⟨mn_sK, o293_0⟩
  · exact ⟨mn_sSI, o293_1⟩
  · exact ⟨mn_sK, o293_2⟩
  · exact ⟨mn_sSI, o293_3⟩
  · exact ⟨mn_sLI, o293_4⟩
  · exact ⟨mn_sK, o293_5⟩
  · exact ⟨mn_sI2, o293_8⟩
  · exact ⟨mn_sLI, o293_11⟩
  · exact ⟨mn_sLR, o293_12⟩
  · exact ⟨mn_sGR, o293_13⟩
  · exact ⟨mn_sLI, o293_16⟩
  · exact ⟨mn_sIA, o293_17⟩
  · exact ⟨mn_sK, o293_18⟩
  · exact ⟨mn_sI2, o293_19⟩
  · exact ⟨mn_sK, o293_22⟩
  · exact ⟨mn_sGo, o293_23⟩
  · exact ⟨mn_sX, ok_X⟩
theorem oc293_1 : ∀ pc, Mnp (c293_1 pc) ∧ Okp RX12 cX12_blockCells 3 (some .int) "blockCells" false pc (c293_1 pc) := by
  intro pc
  unfold c293_1
  split
  · exact ⟨mn_sLR, o293_26⟩
  · exact ⟨mn_sGR, o293_27⟩
  · exact ⟨mn_sLI, o293_30⟩
  · exact ⟨mn_sIA, o293_31⟩
  · exact ⟨mn_sK, o293_32⟩
  · exact ⟨mn_sB2, o293_33⟩
  · exact ⟨mn_sB2, o293_34⟩
  · exact ⟨mn_sSI, o293_35⟩
  · exact ⟨mn_sInc, o293_36⟩
  · exact ⟨mn_sGo, o293_39⟩
  · exact ⟨mn_sLI, o293_42⟩
  · exact ⟨mn_sRI, o293_43⟩
  · exact ⟨mn_sX, ok_X⟩
theorem oc293 : ∀ pc, Mnp (c293 pc) ∧ Okp RX12 cX12_blockCells 3 (some .int) "blockCells" false pc (c293 pc) := by
  intro pc
  unfold c293
  split
  · exact oc293_0 pc
  · exact oc293_1 pc
  · exact ⟨mn_sX, ok_X⟩
theorem o294_0 : Okp RX12 cX12_isChannel 2 (some .boolean) "isChannel" false 0 (sLR 0 1) := ok_aload_n (by decide +kernel : decode cX12_isChannel 0 = .ok (.aload_n 0, 1)) rfl
theorem o294_1 : Okp RX12 cX12_isChannel 2 (some .boolean) "isChannel" false 1 (sGR 13 82 4) := ok_getR (by decide +kernel : decode cX12_isChannel 1 = .ok (.getfield 206, 3)) fw_X12_206 rfl
theorem o294_4 : Okp RX12 cX12_isChannel 2 (some .boolean) "isChannel" false 4 (sK 2 5) := ok_iconst (by decide +kernel : decode cX12_isChannel 4 = .ok (.iconst 2, 1)) (by decide)
theorem o294_5 : Okp RX12 cX12_isChannel 2 (some .boolean) "isChannel" false 5 (sLI 1 6) := ok_iload_n (by decide +kernel : decode cX12_isChannel 5 = .ok (.iload_n 1, 1)) rfl
theorem o294_6 : Okp RX12 cX12_isChannel 2 (some .boolean) "isChannel" false 6 (sB2 fMul 7) := ok_imul (by decide +kernel : decode cX12_isChannel 6 = .ok (.imul, 1))
theorem o294_7 : Okp RX12 cX12_isChannel 2 (some .boolean) "isChannel" false 7 (sIA 8) := ok_iaload (by decide +kernel : decode cX12_isChannel 7 = .ok (.iaload, 1))
theorem o294_8 : Okp RX12 cX12_isChannel 2 (some .boolean) "isChannel" false 8 (sK (-1) 9) := ok_iconst (by decide +kernel : decode cX12_isChannel 8 = .ok (.iconst (-1), 1)) (by decide)
theorem o294_9 : Okp RX12 cX12_isChannel 2 (some .boolean) "isChannel" false 9 (sI2 1 26 12) := ok_icmp_ne (by decide +kernel : decode cX12_isChannel 9 = .ok (.if_icmp .ne 17, 3)) (by decide)
theorem o294_12 : Okp RX12 cX12_isChannel 2 (some .boolean) "isChannel" false 12 (sLR 0 13) := ok_aload_n (by decide +kernel : decode cX12_isChannel 12 = .ok (.aload_n 0, 1)) rfl
theorem o294_13 : Okp RX12 cX12_isChannel 2 (some .boolean) "isChannel" false 13 (sGR 13 82 16) := ok_getR (by decide +kernel : decode cX12_isChannel 13 = .ok (.getfield 206, 3)) fw_X12_206 rfl
theorem o294_16 : Okp RX12 cX12_isChannel 2 (some .boolean) "isChannel" false 16 (sK 2 17) := ok_iconst (by decide +kernel : decode cX12_isChannel 16 = .ok (.iconst 2, 1)) (by decide)
theorem o294_17 : Okp RX12 cX12_isChannel 2 (some .boolean) "isChannel" false 17 (sLI 1 18) := ok_iload_n (by decide +kernel : decode cX12_isChannel 17 = .ok (.iload_n 1, 1)) rfl
theorem o294_18 : Okp RX12 cX12_isChannel 2 (some .boolean) "isChannel" false 18 (sB2 fMul 19) := ok_imul (by decide +kernel : decode cX12_isChannel 18 = .ok (.imul, 1))
theorem o294_19 : Okp RX12 cX12_isChannel 2 (some .boolean) "isChannel" false 19 (sK 1 20) := ok_iconst (by decide +kernel : decode cX12_isChannel 19 = .ok (.iconst 1, 1)) (by decide)
theorem o294_20 : Okp RX12 cX12_isChannel 2 (some .boolean) "isChannel" false 20 (sB2 fAdd 21) := ok_iadd (by decide +kernel : decode cX12_isChannel 20 = .ok (.iadd, 1))
theorem o294_21 : Okp RX12 cX12_isChannel 2 (some .boolean) "isChannel" false 21 (sIA 22) := ok_iaload (by decide +kernel : decode cX12_isChannel 21 = .ok (.iaload, 1))
theorem o294_22 : Okp RX12 cX12_isChannel 2 (some .boolean) "isChannel" false 22 (sK (-1) 23) := ok_iconst (by decide +kernel : decode cX12_isChannel 22 = .ok (.iconst (-1), 1)) (by decide)
theorem o294_23 : Okp RX12 cX12_isChannel 2 (some .boolean) "isChannel" false 23 (sI2 0 30 26) := ok_icmp_eq (by decide +kernel : decode cX12_isChannel 23 = .ok (.if_icmp .eq 7, 3)) (by decide)
theorem o294_26 : Okp RX12 cX12_isChannel 2 (some .boolean) "isChannel" false 26 (sK 1 27) := ok_iconst (by decide +kernel : decode cX12_isChannel 26 = .ok (.iconst 1, 1)) (by decide)
theorem o294_27 : Okp RX12 cX12_isChannel 2 (some .boolean) "isChannel" false 27 (sGo 31) := ok_goto (by decide +kernel : decode cX12_isChannel 27 = .ok (.goto 4, 3)) (by decide)
theorem o294_30 : Okp RX12 cX12_isChannel 2 (some .boolean) "isChannel" false 30 (sK 0 31) := ok_iconst (by decide +kernel : decode cX12_isChannel 30 = .ok (.iconst 0, 1)) (by decide)
theorem o294_31 : Okp RX12 cX12_isChannel 2 (some .boolean) "isChannel" false 31 sRZ := ok_zret rfl (by decide +kernel : decode cX12_isChannel 31 = .ok (.ireturn, 1))
theorem oc294_0 : ∀ pc, Mnp (c294_0 pc) ∧ Okp RX12 cX12_isChannel 2 (some .boolean) "isChannel" false pc (c294_0 pc) := by
  intro pc
  unfold c294_0
  split
  · exact ⟨mn_sLR, o294_0⟩
  · exact ⟨mn_sGR, o294_1⟩
  · exact ⟨mn_sK, o294_4⟩
  · exact ⟨mn_sLI, o294_5⟩
  · exact ⟨mn_sB2, o294_6⟩
  · exact ⟨mn_sIA, o294_7⟩
  · exact ⟨mn_sK, o294_8⟩
  · exact ⟨mn_sI2, o294_9⟩
  · exact ⟨mn_sLR, o294_12⟩
  · exact ⟨mn_sGR, o294_13⟩
  · exact ⟨mn_sK, o294_16⟩
  · exact ⟨mn_sLI, o294_17⟩
  · exact ⟨mn_sB2, o294_18⟩
  · exact ⟨mn_sK, o294_19⟩
  · exact ⟨mn_sB2, o294_20⟩
  · exact ⟨mn_sIA, o294_21⟩
  · exact ⟨mn_sK, o294_22⟩
  · exact ⟨mn_sI2, o294_23⟩
  · exact ⟨mn_sX, ok_X⟩
theorem oc294_1 : ∀ pc, Mnp (c294_1 pc) ∧ Okp RX12 cX12_isChannel 2 (some .boolean) "isChannel" false pc (c294_1 pc) := by
  intro pc
  unfold c294_1
  split
  · exact ⟨mn_sK, o294_26⟩
  · exact ⟨mn_sGo, o294_27⟩
  · exact ⟨mn_sK, o294_30⟩
  · exact ⟨mn_sRZ, o294_31⟩
  · exact ⟨mn_sX, ok_X⟩
theorem oc294 : ∀ pc, Mnp (c294 pc) ∧ Okp RX12 cX12_isChannel 2 (some .boolean) "isChannel" false pc (c294 pc) := by
  intro pc
  unfold c294
  split
  · exact oc294_0 pc
  · exact oc294_1 pc
  · exact ⟨mn_sX, ok_X⟩
theorem o295_0 : Okp RX12 cX12_close 4 none "close" false 0 (sLR 0 1) := ok_aload_n (by decide +kernel : decode cX12_close 0 = .ok (.aload_n 0, 1)) rfl
theorem o295_1 : Okp RX12 cX12_close 4 none "close" false 1 (sGR 13 82 4) := ok_getR (by decide +kernel : decode cX12_close 1 = .ok (.getfield 206, 3)) fw_X12_206 rfl
theorem o295_4 : Okp RX12 cX12_close 4 none "close" false 4 (sLI 1 5) := ok_iload_n (by decide +kernel : decode cX12_close 4 = .ok (.iload_n 1, 1)) rfl
theorem o295_5 : Okp RX12 cX12_close 4 none "close" false 5 (sIA 6) := ok_iaload (by decide +kernel : decode cX12_close 5 = .ok (.iaload, 1))
theorem o295_6 : Okp RX12 cX12_close 4 none "close" false 6 (sK (-1) 7) := ok_iconst (by decide +kernel : decode cX12_close 6 = .ok (.iconst (-1), 1)) (by decide)
theorem o295_7 : Okp RX12 cX12_close 4 none "close" false 7 (sI2 1 11 10) := ok_icmp_ne (by decide +kernel : decode cX12_close 7 = .ok (.if_icmp .ne 4, 3)) (by decide)
theorem o295_10 : Okp RX12 cX12_close 4 none "close" false 10 sRV := ok_vret rfl (by decide +kernel : decode cX12_close 10 = .ok (.return_, 1))
theorem o295_11 : Okp RX12 cX12_close 4 none "close" false 11 (sLR 0 12) := ok_aload_n (by decide +kernel : decode cX12_close 11 = .ok (.aload_n 0, 1)) rfl
theorem o295_12 : Okp RX12 cX12_close 4 none "close" false 12 (sGR 13 82 15) := ok_getR (by decide +kernel : decode cX12_close 12 = .ok (.getfield 206, 3)) fw_X12_206 rfl
theorem o295_15 : Okp RX12 cX12_close 4 none "close" false 15 (sLI 1 16) := ok_iload_n (by decide +kernel : decode cX12_close 15 = .ok (.iload_n 1, 1)) rfl
theorem o295_16 : Okp RX12 cX12_close 4 none "close" false 16 (sK (-1) 17) := ok_iconst (by decide +kernel : decode cX12_close 16 = .ok (.iconst (-1), 1)) (by decide)
theorem o295_17 : Okp RX12 cX12_close 4 none "close" false 17 (sIS 18) := ok_iastore (by decide +kernel : decode cX12_close 17 = .ok (.iastore, 1))
theorem o295_18 : Okp RX12 cX12_close 4 none "close" false 18 (sLR 0 19) := ok_aload_n (by decide +kernel : decode cX12_close 18 = .ok (.aload_n 0, 1)) rfl
theorem o295_19 : Okp RX12 cX12_close 4 none "close" false 19 (sGR 13 84 22) := ok_getR (by decide +kernel : decode cX12_close 19 = .ok (.getfield 212, 3)) fw_X12_212 rfl
theorem o295_22 : Okp RX12 cX12_close 4 none "close" false 22 (sLI 1 23) := ok_iload_n (by decide +kernel : decode cX12_close 22 = .ok (.iload_n 1, 1)) rfl
theorem o295_23 : Okp RX12 cX12_close 4 none "close" false 23 (sIA 24) := ok_iaload (by decide +kernel : decode cX12_close 23 = .ok (.iaload, 1))
theorem o295_24 : Okp RX12 cX12_close 4 none "close" false 24 (sSI 2 25) := ok_istore_n (by decide +kernel : decode cX12_close 24 = .ok (.istore_n 2, 1)) rfl (by decide) (by decide)
theorem o295_25 : Okp RX12 cX12_close 4 none "close" false 25 (sLR 0 26) := ok_aload_n (by decide +kernel : decode cX12_close 25 = .ok (.aload_n 0, 1)) rfl
theorem o295_26 : Okp RX12 cX12_close 4 none "close" false 26 (sGR 13 84 29) := ok_getR (by decide +kernel : decode cX12_close 26 = .ok (.getfield 212, 3)) fw_X12_212 rfl
theorem o295_29 : Okp RX12 cX12_close 4 none "close" false 29 (sLI 1 30) := ok_iload_n (by decide +kernel : decode cX12_close 29 = .ok (.iload_n 1, 1)) rfl
theorem o295_30 : Okp RX12 cX12_close 4 none "close" false 30 (sK 0 31) := ok_iconst (by decide +kernel : decode cX12_close 30 = .ok (.iconst 0, 1)) (by decide)
theorem o295_31 : Okp RX12 cX12_close 4 none "close" false 31 (sIS 32) := ok_iastore (by decide +kernel : decode cX12_close 31 = .ok (.iastore, 1))
theorem o295_32 : Okp RX12 cX12_close 4 none "close" false 32 (sK 0 33) := ok_iconst (by decide +kernel : decode cX12_close 32 = .ok (.iconst 0, 1)) (by decide)
theorem o295_33 : Okp RX12 cX12_close 4 none "close" false 33 (sSI 3 34) := ok_istore_n (by decide +kernel : decode cX12_close 33 = .ok (.istore_n 3, 1)) rfl (by decide) (by decide)
theorem o295_34 : Okp RX12 cX12_close 4 none "close" false 34 (sLI 3 35) := ok_iload_n (by decide +kernel : decode cX12_close 34 = .ok (.iload_n 3, 1)) rfl
theorem o295_35 : Okp RX12 cX12_close 4 none "close" false 35 (sLI 2 36) := ok_iload_n (by decide +kernel : decode cX12_close 35 = .ok (.iload_n 2, 1)) rfl
theorem o295_36 : Okp RX12 cX12_close 4 none "close" false 36 (sI2 3 69 39) := ok_icmp_ge (by decide +kernel : decode cX12_close 36 = .ok (.if_icmp .ge 33, 3)) (by decide)
theorem o295_39 : Okp RX12 cX12_close 4 none "close" false 39 (sLR 0 40) := ok_aload_n (by decide +kernel : decode cX12_close 39 = .ok (.aload_n 0, 1)) rfl
theorem o295_40 : Okp RX12 cX12_close 4 none "close" false 40 (sLR 0 41) := ok_aload_n (by decide +kernel : decode cX12_close 40 = .ok (.aload_n 0, 1)) rfl
theorem o295_41 : Okp RX12 cX12_close 4 none "close" false 41 (sGR 13 86 44) := ok_getR (by decide +kernel : decode cX12_close 41 = .ok (.getfield 218, 3)) fw_X12_218 rfl
theorem o295_44 : Okp RX12 cX12_close 4 none "close" false 44 (sK 4 45) := ok_iconst (by decide +kernel : decode cX12_close 44 = .ok (.iconst 4, 1)) (by decide)
theorem o295_45 : Okp RX12 cX12_close 4 none "close" false 45 (sLI 1 46) := ok_iload_n (by decide +kernel : decode cX12_close 45 = .ok (.iload_n 1, 1)) rfl
theorem o295_46 : Okp RX12 cX12_close 4 none "close" false 46 (sB2 fMul 47) := ok_imul (by decide +kernel : decode cX12_close 46 = .ok (.imul, 1))
theorem o295_47 : Okp RX12 cX12_close 4 none "close" false 47 (sLI 3 48) := ok_iload_n (by decide +kernel : decode cX12_close 47 = .ok (.iload_n 3, 1)) rfl
theorem o295_48 : Okp RX12 cX12_close 4 none "close" false 48 (sB2 fAdd 49) := ok_iadd (by decide +kernel : decode cX12_close 48 = .ok (.iadd, 1))
theorem o295_49 : Okp RX12 cX12_close 4 none "close" false 49 (sIA 50) := ok_iaload (by decide +kernel : decode cX12_close 49 = .ok (.iaload, 1))
theorem o295_50 : Okp RX12 cX12_close 4 none "close" false 50 (sLR 0 51) := ok_aload_n (by decide +kernel : decode cX12_close 50 = .ok (.aload_n 0, 1)) rfl
theorem o295_51 : Okp RX12 cX12_close 4 none "close" false 51 (sGR 13 87 54) := ok_getR (by decide +kernel : decode cX12_close 51 = .ok (.getfield 221, 3)) fw_X12_221 rfl
theorem o295_54 : Okp RX12 cX12_close 4 none "close" false 54 (sK 4 55) := ok_iconst (by decide +kernel : decode cX12_close 54 = .ok (.iconst 4, 1)) (by decide)
theorem o295_55 : Okp RX12 cX12_close 4 none "close" false 55 (sLI 1 56) := ok_iload_n (by decide +kernel : decode cX12_close 55 = .ok (.iload_n 1, 1)) rfl
theorem o295_56 : Okp RX12 cX12_close 4 none "close" false 56 (sB2 fMul 57) := ok_imul (by decide +kernel : decode cX12_close 56 = .ok (.imul, 1))
theorem o295_57 : Okp RX12 cX12_close 4 none "close" false 57 (sLI 3 58) := ok_iload_n (by decide +kernel : decode cX12_close 57 = .ok (.iload_n 3, 1)) rfl
theorem o295_58 : Okp RX12 cX12_close 4 none "close" false 58 (sB2 fAdd 59) := ok_iadd (by decide +kernel : decode cX12_close 58 = .ok (.iadd, 1))
theorem o295_59 : Okp RX12 cX12_close 4 none "close" false 59 (sIA 60) := ok_iaload (by decide +kernel : decode cX12_close 59 = .ok (.iaload, 1))
theorem o295_60 : Okp RX12 cX12_close 4 none "close" false 60 (sCV false 296 3 13 63) := ok_cv (by decide +kernel : decode cX12_close 60 = .ok (.invokevirtual 501, 3)) mw_X12_501 rfl (by decide) wm_X12_lose wse_X12_lose (by decide) rfl
theorem o295_63 : Okp RX12 cX12_close 4 none "close" false 63 (sInc 3 1 66) := ok_iinc (by decide +kernel : decode cX12_close 63 = .ok (.iinc 3 1, 3)) (by decide) (by decide)
theorem o295_66 : Okp RX12 cX12_close 4 none "close" false 66 (sGo 34) := ok_goto (by decide +kernel : decode cX12_close 66 = .ok (.goto (-32), 3)) (by decide)
theorem o295_69 : Okp RX12 cX12_close 4 none "close" false 69 sRV := ok_vret rfl (by decide +kernel : decode cX12_close 69 = .ok (.return_, 1))
theorem oc295_0 : ∀ pc, Mnp (c295_0 pc) ∧ Okp RX12 cX12_close 4 none "close" false pc (c295_0 pc) := by
  intro pc
  unfold c295_0
  split
  · exact ⟨mn_sLR, o295_0⟩
  · exact ⟨mn_sGR, o295_1⟩
  · exact ⟨mn_sLI, o295_4⟩
  · exact ⟨mn_sIA, o295_5⟩
  · exact ⟨mn_sK, o295_6⟩
  · exact ⟨mn_sI2, o295_7⟩
  · exact ⟨mn_sRV, o295_10⟩
  · exact ⟨mn_sLR, o295_11⟩
  · exact ⟨mn_sGR, o295_12⟩
  · exact ⟨mn_sLI, o295_15⟩
  · exact ⟨mn_sK, o295_16⟩
  · exact ⟨mn_sIS, o295_17⟩
  · exact ⟨mn_sLR, o295_18⟩
  · exact ⟨mn_sGR, o295_19⟩
  · exact ⟨mn_sLI, o295_22⟩
  · exact ⟨mn_sIA, o295_23⟩
  · exact ⟨mn_sX, ok_X⟩
theorem oc295_1 : ∀ pc, Mnp (c295_1 pc) ∧ Okp RX12 cX12_close 4 none "close" false pc (c295_1 pc) := by
  intro pc
  unfold c295_1
  split
  · exact ⟨mn_sSI, o295_24⟩
  · exact ⟨mn_sLR, o295_25⟩
  · exact ⟨mn_sGR, o295_26⟩
  · exact ⟨mn_sLI, o295_29⟩
  · exact ⟨mn_sK, o295_30⟩
  · exact ⟨mn_sIS, o295_31⟩
  · exact ⟨mn_sK, o295_32⟩
  · exact ⟨mn_sSI, o295_33⟩
  · exact ⟨mn_sLI, o295_34⟩
  · exact ⟨mn_sLI, o295_35⟩
  · exact ⟨mn_sI2, o295_36⟩
  · exact ⟨mn_sLR, o295_39⟩
  · exact ⟨mn_sLR, o295_40⟩
  · exact ⟨mn_sGR, o295_41⟩
  · exact ⟨mn_sK, o295_44⟩
  · exact ⟨mn_sLI, o295_45⟩
  · exact ⟨mn_sB2, o295_46⟩
  · exact ⟨mn_sLI, o295_47⟩
  · exact ⟨mn_sX, ok_X⟩
theorem oc295_2 : ∀ pc, Mnp (c295_2 pc) ∧ Okp RX12 cX12_close 4 none "close" false pc (c295_2 pc) := by
  intro pc
  unfold c295_2
  split
  · exact ⟨mn_sB2, o295_48⟩
  · exact ⟨mn_sIA, o295_49⟩
  · exact ⟨mn_sLR, o295_50⟩
  · exact ⟨mn_sGR, o295_51⟩
  · exact ⟨mn_sK, o295_54⟩
  · exact ⟨mn_sLI, o295_55⟩
  · exact ⟨mn_sB2, o295_56⟩
  · exact ⟨mn_sLI, o295_57⟩
  · exact ⟨mn_sB2, o295_58⟩
  · exact ⟨mn_sIA, o295_59⟩
  · exact ⟨mn_sCV, o295_60⟩
  · exact ⟨mn_sInc, o295_63⟩
  · exact ⟨mn_sGo, o295_66⟩
  · exact ⟨mn_sRV, o295_69⟩
  · exact ⟨mn_sX, ok_X⟩
theorem oc295 : ∀ pc, Mnp (c295 pc) ∧ Okp RX12 cX12_close 4 none "close" false pc (c295 pc) := by
  intro pc
  unfold c295
  split
  · exact oc295_0 pc
  · exact oc295_1 pc
  · exact oc295_2 pc
  · exact ⟨mn_sX, ok_X⟩
theorem o296_0 : Okp RX12 cX12_lose 3 none "lose" false 0 (sLI 2 1) := ok_iload_n (by decide +kernel : decode cX12_lose 0 = .ok (.iload_n 2, 1)) rfl
theorem o296_1 : Okp RX12 cX12_lose 3 none "lose" false 1 (sK 2 2) := ok_iconst (by decide +kernel : decode cX12_lose 1 = .ok (.iconst 2, 1)) (by decide)
theorem o296_2 : Okp RX12 cX12_lose 3 none "lose" false 2 (sI2 1 15 5) := ok_icmp_ne (by decide +kernel : decode cX12_lose 2 = .ok (.if_icmp .ne 13, 3)) (by decide)
theorem o296_5 : Okp RX12 cX12_lose 3 none "lose" false 5 (sLR 0 6) := ok_aload_n (by decide +kernel : decode cX12_lose 5 = .ok (.aload_n 0, 1)) rfl
theorem o296_6 : Okp RX12 cX12_lose 3 none "lose" false 6 (sGR 13 79 9) := ok_getR (by decide +kernel : decode cX12_lose 6 = .ok (.getfield 197, 3)) fw_X12_197 rfl
theorem o296_9 : Okp RX12 cX12_lose 3 none "lose" false 9 (sLI 1 10) := ok_iload_n (by decide +kernel : decode cX12_lose 9 = .ok (.iload_n 1, 1)) rfl
theorem o296_10 : Okp RX12 cX12_lose 3 none "lose" false 10 (sK (-1) 11) := ok_iconst (by decide +kernel : decode cX12_lose 10 = .ok (.iconst (-1), 1)) (by decide)
theorem o296_11 : Okp RX12 cX12_lose 3 none "lose" false 11 (sIS 12) := ok_iastore (by decide +kernel : decode cX12_lose 11 = .ok (.iastore, 1))
theorem o296_12 : Okp RX12 cX12_lose 3 none "lose" false 12 (sGo 25) := ok_goto (by decide +kernel : decode cX12_lose 12 = .ok (.goto 13, 3)) (by decide)
theorem o296_15 : Okp RX12 cX12_lose 3 none "lose" false 15 (sLI 2 16) := ok_iload_n (by decide +kernel : decode cX12_lose 15 = .ok (.iload_n 2, 1)) rfl
theorem o296_16 : Okp RX12 cX12_lose 3 none "lose" false 16 (sK 3 17) := ok_iconst (by decide +kernel : decode cX12_lose 16 = .ok (.iconst 3, 1)) (by decide)
theorem o296_17 : Okp RX12 cX12_lose 3 none "lose" false 17 (sI2 1 25 20) := ok_icmp_ne (by decide +kernel : decode cX12_lose 17 = .ok (.if_icmp .ne 8, 3)) (by decide)
theorem o296_20 : Okp RX12 cX12_lose 3 none "lose" false 20 (sLR 0 21) := ok_aload_n (by decide +kernel : decode cX12_lose 20 = .ok (.aload_n 0, 1)) rfl
theorem o296_21 : Okp RX12 cX12_lose 3 none "lose" false 21 (sLI 1 22) := ok_iload_n (by decide +kernel : decode cX12_lose 21 = .ok (.iload_n 1, 1)) rfl
theorem o296_22 : Okp RX12 cX12_lose 3 none "lose" false 22 (sCV false 295 2 13 25) := ok_cv (by decide +kernel : decode cX12_lose 22 = .ok (.invokevirtual 504, 3)) mw_X12_504 rfl (by decide) wm_X12_close wse_X12_close (by decide) rfl
theorem o296_25 : Okp RX12 cX12_lose 3 none "lose" false 25 sRV := ok_vret rfl (by decide +kernel : decode cX12_lose 25 = .ok (.return_, 1))
theorem oc296_0 : ∀ pc, Mnp (c296_0 pc) ∧ Okp RX12 cX12_lose 3 none "lose" false pc (c296_0 pc) := by
  intro pc
  unfold c296_0
  split
  · exact ⟨mn_sLI, o296_0⟩
  · exact ⟨mn_sK, o296_1⟩
  · exact ⟨mn_sI2, o296_2⟩
  · exact ⟨mn_sLR, o296_5⟩
  · exact ⟨mn_sGR, o296_6⟩
  · exact ⟨mn_sLI, o296_9⟩
  · exact ⟨mn_sK, o296_10⟩
  · exact ⟨mn_sIS, o296_11⟩
  · exact ⟨mn_sGo, o296_12⟩
  · exact ⟨mn_sLI, o296_15⟩
  · exact ⟨mn_sK, o296_16⟩
  · exact ⟨mn_sI2, o296_17⟩
  · exact ⟨mn_sLR, o296_20⟩
  · exact ⟨mn_sLI, o296_21⟩
  · exact ⟨mn_sCV, o296_22⟩
  · exact ⟨mn_sX, ok_X⟩
theorem oc296_1 : ∀ pc, Mnp (c296_1 pc) ∧ Okp RX12 cX12_lose 3 none "lose" false pc (c296_1 pc) := by
  intro pc
  unfold c296_1
  split
  · exact ⟨mn_sRV, o296_25⟩
  · exact ⟨mn_sX, ok_X⟩
theorem oc296 : ∀ pc, Mnp (c296 pc) ∧ Okp RX12 cX12_lose 3 none "lose" false pc (c296 pc) := by
  intro pc
  unfold c296
  split
  · exact oc296_0 pc
  · exact oc296_1 pc
  · exact ⟨mn_sX, ok_X⟩
theorem o297_0 : Okp RX12 cX12_own 4 none "own" false 0 (sLI 2 1) := ok_iload_n (by decide +kernel : decode cX12_own 0 = .ok (.iload_n 2, 1)) rfl
theorem o297_1 : Okp RX12 cX12_own 4 none "own" false 1 (sK 2 2) := ok_iconst (by decide +kernel : decode cX12_own 1 = .ok (.iconst 2, 1)) (by decide)
theorem o297_2 : Okp RX12 cX12_own 4 none "own" false 2 (sI2 1 15 5) := ok_icmp_ne (by decide +kernel : decode cX12_own 2 = .ok (.if_icmp .ne 13, 3)) (by decide)
theorem o297_5 : Okp RX12 cX12_own 4 none "own" false 5 (sLR 0 6) := ok_aload_n (by decide +kernel : decode cX12_own 5 = .ok (.aload_n 0, 1)) rfl
theorem o297_6 : Okp RX12 cX12_own 4 none "own" false 6 (sGR 13 80 9) := ok_getR (by decide +kernel : decode cX12_own 6 = .ok (.getfield 200, 3)) fw_X12_200 rfl
theorem o297_9 : Okp RX12 cX12_own 4 none "own" false 9 (sLI 1 10) := ok_iload_n (by decide +kernel : decode cX12_own 9 = .ok (.iload_n 1, 1)) rfl
theorem o297_10 : Okp RX12 cX12_own 4 none "own" false 10 (sLI 3 11) := ok_iload_n (by decide +kernel : decode cX12_own 10 = .ok (.iload_n 3, 1)) rfl
theorem o297_11 : Okp RX12 cX12_own 4 none "own" false 11 (sIS 12) := ok_iastore (by decide +kernel : decode cX12_own 11 = .ok (.iastore, 1))
theorem o297_12 : Okp RX12 cX12_own 4 none "own" false 12 (sGo 27) := ok_goto (by decide +kernel : decode cX12_own 12 = .ok (.goto 15, 3)) (by decide)
theorem o297_15 : Okp RX12 cX12_own 4 none "own" false 15 (sLI 2 16) := ok_iload_n (by decide +kernel : decode cX12_own 15 = .ok (.iload_n 2, 1)) rfl
theorem o297_16 : Okp RX12 cX12_own 4 none "own" false 16 (sK 3 17) := ok_iconst (by decide +kernel : decode cX12_own 16 = .ok (.iconst 3, 1)) (by decide)
theorem o297_17 : Okp RX12 cX12_own 4 none "own" false 17 (sI2 1 27 20) := ok_icmp_ne (by decide +kernel : decode cX12_own 17 = .ok (.if_icmp .ne 10, 3)) (by decide)
theorem o297_20 : Okp RX12 cX12_own 4 none "own" false 20 (sLR 0 21) := ok_aload_n (by decide +kernel : decode cX12_own 20 = .ok (.aload_n 0, 1)) rfl
theorem o297_21 : Okp RX12 cX12_own 4 none "own" false 21 (sGR 13 83 24) := ok_getR (by decide +kernel : decode cX12_own 21 = .ok (.getfield 209, 3)) fw_X12_209 rfl
theorem o297_24 : Okp RX12 cX12_own 4 none "own" false 24 (sLI 1 25) := ok_iload_n (by decide +kernel : decode cX12_own 24 = .ok (.iload_n 1, 1)) rfl
theorem o297_25 : Okp RX12 cX12_own 4 none "own" false 25 (sLI 3 26) := ok_iload_n (by decide +kernel : decode cX12_own 25 = .ok (.iload_n 3, 1)) rfl
theorem o297_26 : Okp RX12 cX12_own 4 none "own" false 26 (sIS 27) := ok_iastore (by decide +kernel : decode cX12_own 26 = .ok (.iastore, 1))
theorem o297_27 : Okp RX12 cX12_own 4 none "own" false 27 sRV := ok_vret rfl (by decide +kernel : decode cX12_own 27 = .ok (.return_, 1))
theorem oc297_0 : ∀ pc, Mnp (c297_0 pc) ∧ Okp RX12 cX12_own 4 none "own" false pc (c297_0 pc) := by
  intro pc
  unfold c297_0
  split
  · exact ⟨mn_sLI, o297_0⟩
  · exact ⟨mn_sK, o297_1⟩
  · exact ⟨mn_sI2, o297_2⟩
  · exact ⟨mn_sLR, o297_5⟩
  · exact ⟨mn_sGR, o297_6⟩
  · exact ⟨mn_sLI, o297_9⟩
  · exact ⟨mn_sLI, o297_10⟩
  · exact ⟨mn_sIS, o297_11⟩
  · exact ⟨mn_sGo, o297_12⟩
  · exact ⟨mn_sLI, o297_15⟩
  · exact ⟨mn_sK, o297_16⟩
  · exact ⟨mn_sI2, o297_17⟩
  · exact ⟨mn_sLR, o297_20⟩
  · exact ⟨mn_sGR, o297_21⟩
  · exact ⟨mn_sX, ok_X⟩
theorem oc297_1 : ∀ pc, Mnp (c297_1 pc) ∧ Okp RX12 cX12_own 4 none "own" false pc (c297_1 pc) := by
  intro pc
  unfold c297_1
  split
  · exact ⟨mn_sLI, o297_24⟩
  · exact ⟨mn_sLI, o297_25⟩
  · exact ⟨mn_sIS, o297_26⟩
  · exact ⟨mn_sRV, o297_27⟩
  · exact ⟨mn_sX, ok_X⟩
theorem oc297 : ∀ pc, Mnp (c297 pc) ∧ Okp RX12 cX12_own 4 none "own" false pc (c297 pc) := by
  intro pc
  unfold c297
  split
  · exact oc297_0 pc
  · exact oc297_1 pc
  · exact ⟨mn_sX, ok_X⟩
theorem o298_0 : Okp RX12 cX12_over 4 none "over" false 0 (sLR 0 1) := ok_aload_n (by decide +kernel : decode cX12_over 0 = .ok (.aload_n 0, 1)) rfl
theorem o298_1 : Okp RX12 cX12_over 4 none "over" false 1 (sGR 13 59 4) := ok_getR (by decide +kernel : decode cX12_over 1 = .ok (.getfield 137, 3)) fw_X12_137 rfl
theorem o298_4 : Okp RX12 cX12_over 4 none "over" false 4 (sLI 1 5) := ok_iload_n (by decide +kernel : decode cX12_over 4 = .ok (.iload_n 1, 1)) rfl
theorem o298_5 : Okp RX12 cX12_over 4 none "over" false 5 (sLI 2 6) := ok_iload_n (by decide +kernel : decode cX12_over 5 = .ok (.iload_n 2, 1)) rfl
theorem o298_6 : Okp RX12 cX12_over 4 none "over" false 6 (sIS 7) := ok_iastore (by decide +kernel : decode cX12_over 6 = .ok (.iastore, 1))
theorem o298_7 : Okp RX12 cX12_over 4 none "over" false 7 (sK 0 8) := ok_iconst (by decide +kernel : decode cX12_over 7 = .ok (.iconst 0, 1)) (by decide)
theorem o298_8 : Okp RX12 cX12_over 4 none "over" false 8 (sSI 3 9) := ok_istore_n (by decide +kernel : decode cX12_over 8 = .ok (.istore_n 3, 1)) rfl (by decide) (by decide)
theorem o298_9 : Okp RX12 cX12_over 4 none "over" false 9 (sLI 3 10) := ok_iload_n (by decide +kernel : decode cX12_over 9 = .ok (.iload_n 3, 1)) rfl
theorem o298_10 : Okp RX12 cX12_over 4 none "over" false 10 (sK 128 13) := ok_sipush (by decide +kernel : decode cX12_over 10 = .ok (.sipush 128, 3)) (by decide)
theorem o298_13 : Okp RX12 cX12_over 4 none "over" false 13 (sI2 3 49 16) := ok_icmp_ge (by decide +kernel : decode cX12_over 13 = .ok (.if_icmp .ge 36, 3)) (by decide)
theorem o298_16 : Okp RX12 cX12_over 4 none "over" false 16 (sLR 0 17) := ok_aload_n (by decide +kernel : decode cX12_over 16 = .ok (.aload_n 0, 1)) rfl
theorem o298_17 : Okp RX12 cX12_over 4 none "over" false 17 (sGR 13 79 20) := ok_getR (by decide +kernel : decode cX12_over 17 = .ok (.getfield 197, 3)) fw_X12_197 rfl
theorem o298_20 : Okp RX12 cX12_over 4 none "over" false 20 (sLI 3 21) := ok_iload_n (by decide +kernel : decode cX12_over 20 = .ok (.iload_n 3, 1)) rfl
theorem o298_21 : Okp RX12 cX12_over 4 none "over" false 21 (sIA 22) := ok_iaload (by decide +kernel : decode cX12_over 21 = .ok (.iaload, 1))
theorem o298_22 : Okp RX12 cX12_over 4 none "over" false 22 (sK (-1) 23) := ok_iconst (by decide +kernel : decode cX12_over 22 = .ok (.iconst (-1), 1)) (by decide)
theorem o298_23 : Okp RX12 cX12_over 4 none "over" false 23 (sI2 0 43 26) := ok_icmp_eq (by decide +kernel : decode cX12_over 23 = .ok (.if_icmp .eq 20, 3)) (by decide)
theorem o298_26 : Okp RX12 cX12_over 4 none "over" false 26 (sLR 0 27) := ok_aload_n (by decide +kernel : decode cX12_over 26 = .ok (.aload_n 0, 1)) rfl
theorem o298_27 : Okp RX12 cX12_over 4 none "over" false 27 (sGR 13 80 30) := ok_getR (by decide +kernel : decode cX12_over 27 = .ok (.getfield 200, 3)) fw_X12_200 rfl
theorem o298_30 : Okp RX12 cX12_over 4 none "over" false 30 (sLI 3 31) := ok_iload_n (by decide +kernel : decode cX12_over 30 = .ok (.iload_n 3, 1)) rfl
theorem o298_31 : Okp RX12 cX12_over 4 none "over" false 31 (sIA 32) := ok_iaload (by decide +kernel : decode cX12_over 31 = .ok (.iaload, 1))
theorem o298_32 : Okp RX12 cX12_over 4 none "over" false 32 (sLI 1 33) := ok_iload_n (by decide +kernel : decode cX12_over 32 = .ok (.iload_n 1, 1)) rfl
theorem o298_33 : Okp RX12 cX12_over 4 none "over" false 33 (sI2 1 43 36) := ok_icmp_ne (by decide +kernel : decode cX12_over 33 = .ok (.if_icmp .ne 10, 3)) (by decide)
theorem o298_36 : Okp RX12 cX12_over 4 none "over" false 36 (sLR 0 37) := ok_aload_n (by decide +kernel : decode cX12_over 36 = .ok (.aload_n 0, 1)) rfl
theorem o298_37 : Okp RX12 cX12_over 4 none "over" false 37 (sGR 13 79 40) := ok_getR (by decide +kernel : decode cX12_over 37 = .ok (.getfield 197, 3)) fw_X12_197 rfl
theorem o298_40 : Okp RX12 cX12_over 4 none "over" false 40 (sLI 3 41) := ok_iload_n (by decide +kernel : decode cX12_over 40 = .ok (.iload_n 3, 1)) rfl
theorem o298_41 : Okp RX12 cX12_over 4 none "over" false 41 (sK (-1) 42) := ok_iconst (by decide +kernel : decode cX12_over 41 = .ok (.iconst (-1), 1)) (by decide)
theorem o298_42 : Okp RX12 cX12_over 4 none "over" false 42 (sIS 43) := ok_iastore (by decide +kernel : decode cX12_over 42 = .ok (.iastore, 1))
theorem o298_43 : Okp RX12 cX12_over 4 none "over" false 43 (sInc 3 1 46) := ok_iinc (by decide +kernel : decode cX12_over 43 = .ok (.iinc 3 1, 3)) (by decide) (by decide)
theorem o298_46 : Okp RX12 cX12_over 4 none "over" false 46 (sGo 9) := ok_goto (by decide +kernel : decode cX12_over 46 = .ok (.goto (-37), 3)) (by decide)
theorem o298_49 : Okp RX12 cX12_over 4 none "over" false 49 (sK 0 50) := ok_iconst (by decide +kernel : decode cX12_over 49 = .ok (.iconst 0, 1)) (by decide)
theorem o298_50 : Okp RX12 cX12_over 4 none "over" false 50 (sSI 3 51) := ok_istore_n (by decide +kernel : decode cX12_over 50 = .ok (.istore_n 3, 1)) rfl (by decide) (by decide)
theorem o298_51 : Okp RX12 cX12_over 4 none "over" false 51 (sLI 3 52) := ok_iload_n (by decide +kernel : decode cX12_over 51 = .ok (.iload_n 3, 1)) rfl
theorem o298_52 : Okp RX12 cX12_over 4 none "over" false 52 (sK 24 54) := ok_bipush (by decide +kernel : decode cX12_over 52 = .ok (.bipush 24, 2)) (by decide)
theorem o298_54 : Okp RX12 cX12_over 4 none "over" false 54 (sI2 3 88 57) := ok_icmp_ge (by decide +kernel : decode cX12_over 54 = .ok (.if_icmp .ge 34, 3)) (by decide)
theorem o298_57 : Okp RX12 cX12_over 4 none "over" false 57 (sLR 0 58) := ok_aload_n (by decide +kernel : decode cX12_over 57 = .ok (.aload_n 0, 1)) rfl
theorem o298_58 : Okp RX12 cX12_over 4 none "over" false 58 (sGR 13 82 61) := ok_getR (by decide +kernel : decode cX12_over 58 = .ok (.getfield 206, 3)) fw_X12_206 rfl
theorem o298_61 : Okp RX12 cX12_over 4 none "over" false 61 (sLI 3 62) := ok_iload_n (by decide +kernel : decode cX12_over 61 = .ok (.iload_n 3, 1)) rfl
theorem o298_62 : Okp RX12 cX12_over 4 none "over" false 62 (sIA 63) := ok_iaload (by decide +kernel : decode cX12_over 62 = .ok (.iaload, 1))
theorem o298_63 : Okp RX12 cX12_over 4 none "over" false 63 (sK (-1) 64) := ok_iconst (by decide +kernel : decode cX12_over 63 = .ok (.iconst (-1), 1)) (by decide)
theorem o298_64 : Okp RX12 cX12_over 4 none "over" false 64 (sI2 0 82 67) := ok_icmp_eq (by decide +kernel : decode cX12_over 64 = .ok (.if_icmp .eq 18, 3)) (by decide)
theorem o298_67 : Okp RX12 cX12_over 4 none "over" false 67 (sLR 0 68) := ok_aload_n (by decide +kernel : decode cX12_over 67 = .ok (.aload_n 0, 1)) rfl
theorem o298_68 : Okp RX12 cX12_over 4 none "over" false 68 (sGR 13 83 71) := ok_getR (by decide +kernel : decode cX12_over 68 = .ok (.getfield 209, 3)) fw_X12_209 rfl
theorem o298_71 : Okp RX12 cX12_over 4 none "over" false 71 (sLI 3 72) := ok_iload_n (by decide +kernel : decode cX12_over 71 = .ok (.iload_n 3, 1)) rfl
theorem o298_72 : Okp RX12 cX12_over 4 none "over" false 72 (sIA 73) := ok_iaload (by decide +kernel : decode cX12_over 72 = .ok (.iaload, 1))
theorem o298_73 : Okp RX12 cX12_over 4 none "over" false 73 (sLI 1 74) := ok_iload_n (by decide +kernel : decode cX12_over 73 = .ok (.iload_n 1, 1)) rfl
theorem o298_74 : Okp RX12 cX12_over 4 none "over" false 74 (sI2 1 82 77) := ok_icmp_ne (by decide +kernel : decode cX12_over 74 = .ok (.if_icmp .ne 8, 3)) (by decide)
theorem o298_77 : Okp RX12 cX12_over 4 none "over" false 77 (sLR 0 78) := ok_aload_n (by decide +kernel : decode cX12_over 77 = .ok (.aload_n 0, 1)) rfl
theorem o298_78 : Okp RX12 cX12_over 4 none "over" false 78 (sLI 3 79) := ok_iload_n (by decide +kernel : decode cX12_over 78 = .ok (.iload_n 3, 1)) rfl
theorem o298_79 : Okp RX12 cX12_over 4 none "over" false 79 (sCV false 295 2 13 82) := ok_cv (by decide +kernel : decode cX12_over 79 = .ok (.invokevirtual 504, 3)) mw_X12_504 rfl (by decide) wm_X12_close wse_X12_close (by decide) rfl
theorem o298_82 : Okp RX12 cX12_over 4 none "over" false 82 (sInc 3 1 85) := ok_iinc (by decide +kernel : decode cX12_over 82 = .ok (.iinc 3 1, 3)) (by decide) (by decide)
theorem o298_85 : Okp RX12 cX12_over 4 none "over" false 85 (sGo 51) := ok_goto (by decide +kernel : decode cX12_over 85 = .ok (.goto (-34), 3)) (by decide)
theorem o298_88 : Okp RX12 cX12_over 4 none "over" false 88 sRV := ok_vret rfl (by decide +kernel : decode cX12_over 88 = .ok (.return_, 1))
theorem oc298_0 : ∀ pc, Mnp (c298_0 pc) ∧ Okp RX12 cX12_over 4 none "over" false pc (c298_0 pc) := by
  intro pc
  unfold c298_0
  split
  · exact ⟨mn_sLR, o298_0⟩
  · exact ⟨mn_sGR, o298_1⟩
  · exact ⟨mn_sLI, o298_4⟩
  · exact ⟨mn_sLI, o298_5⟩
  · exact ⟨mn_sIS, o298_6⟩
  · exact ⟨mn_sK, o298_7⟩
  · exact ⟨mn_sSI, o298_8⟩
  · exact ⟨mn_sLI, o298_9⟩
  · exact ⟨mn_sK, o298_10⟩
  · exact ⟨mn_sI2, o298_13⟩
  · exact ⟨mn_sLR, o298_16⟩
  · exact ⟨mn_sGR, o298_17⟩
  · exact ⟨mn_sLI, o298_20⟩
  · exact ⟨mn_sIA, o298_21⟩
  · exact ⟨mn_sK, o298_22⟩
  · exact ⟨mn_sI2, o298_23⟩
  · exact ⟨mn_sX, ok_X⟩
theorem oc298_1 : ∀ pc, Mnp (c298_1 pc) ∧ Okp RX12 cX12_over 4 none "over" false pc (c298_1 pc) := by
  intro pc
  unfold c298_1
  split
  · exact ⟨mn_sLR, o298_26⟩
  · exact ⟨mn_sGR, o298_27⟩
  · exact ⟨mn_sLI, o298_30⟩
  · exact ⟨mn_sIA, o298_31⟩
  · exact ⟨mn_sLI, o298_32⟩
  · exact ⟨mn_sI2, o298_33⟩
  · exact ⟨mn_sLR, o298_36⟩
  · exact ⟨mn_sGR, o298_37⟩
  · exact ⟨mn_sLI, o298_40⟩
  · exact ⟨mn_sK, o298_41⟩
  · exact ⟨mn_sIS, o298_42⟩
  · exact ⟨mn_sInc, o298_43⟩
  · exact ⟨mn_sGo, o298_46⟩
  · exact ⟨mn_sX, ok_X⟩
theorem oc298_2 : ∀ pc, Mnp (c298_2 pc) ∧ Okp RX12 cX12_over 4 none "over" false pc (c298_2 pc) := by
  intro pc
  unfold c298_2
  split
  · exact ⟨mn_sK, o298_49⟩
  · exact ⟨mn_sSI, o298_50⟩
  · exact ⟨mn_sLI, o298_51⟩
  · exact ⟨mn_sK, o298_52⟩
  · exact ⟨mn_sI2, o298_54⟩
  · exact ⟨mn_sLR, o298_57⟩
  · exact ⟨mn_sGR, o298_58⟩
  · exact ⟨mn_sLI, o298_61⟩
  · exact ⟨mn_sIA, o298_62⟩
  · exact ⟨mn_sK, o298_63⟩
  · exact ⟨mn_sI2, o298_64⟩
  · exact ⟨mn_sLR, o298_67⟩
  · exact ⟨mn_sGR, o298_68⟩
  · exact ⟨mn_sLI, o298_71⟩
  · exact ⟨mn_sX, ok_X⟩
theorem oc298_3 : ∀ pc, Mnp (c298_3 pc) ∧ Okp RX12 cX12_over 4 none "over" false pc (c298_3 pc) := by
  intro pc
  unfold c298_3
  split
  · exact ⟨mn_sIA, o298_72⟩
  · exact ⟨mn_sLI, o298_73⟩
  · exact ⟨mn_sI2, o298_74⟩
  · exact ⟨mn_sLR, o298_77⟩
  · exact ⟨mn_sLI, o298_78⟩
  · exact ⟨mn_sCV, o298_79⟩
  · exact ⟨mn_sInc, o298_82⟩
  · exact ⟨mn_sGo, o298_85⟩
  · exact ⟨mn_sRV, o298_88⟩
  · exact ⟨mn_sX, ok_X⟩
theorem oc298 : ∀ pc, Mnp (c298 pc) ∧ Okp RX12 cX12_over 4 none "over" false pc (c298 pc) := by
  intro pc
  unfold c298
  split
  · exact oc298_0 pc
  · exact oc298_1 pc
  · exact oc298_2 pc
  · exact oc298_3 pc
  · exact ⟨mn_sX, ok_X⟩
theorem o299_0 : Okp RX12 cX12_run 5 (some .int) "run" false 0 (sLR 0 1) := ok_aload_n (by decide +kernel : decode cX12_run 0 = .ok (.aload_n 0, 1)) rfl
theorem o299_1 : Okp RX12 cX12_run 5 (some .int) "run" false 1 (sK 0 2) := ok_iconst (by decide +kernel : decode cX12_run 1 = .ok (.iconst 0, 1)) (by decide)
theorem o299_2 : Okp RX12 cX12_run 5 (some .int) "run" false 2 (sPI 13 0 5) := ok_putI (by decide +kernel : decode cX12_run 2 = .ok (.putfield 227, 3)) fw_X12_227 ⟨⟨tyX12_ok, nmX12⟩, Or.inl rfl, rfl⟩ rfl
theorem o299_5 : Okp RX12 cX12_run 5 (some .int) "run" false 5 (sLI 1 6) := ok_iload_n (by decide +kernel : decode cX12_run 5 = .ok (.iload_n 1, 1)) rfl
theorem o299_6 : Okp RX12 cX12_run 5 (some .int) "run" false 6 (sI1 2 23 9) := ok_if_lt (by decide +kernel : decode cX12_run 6 = .ok (.ifCond .lt 17, 3)) (by decide)
theorem o299_9 : Okp RX12 cX12_run 5 (some .int) "run" false 9 (sLI 1 10) := ok_iload_n (by decide +kernel : decode cX12_run 9 = .ok (.iload_n 1, 1)) rfl
theorem o299_10 : Okp RX12 cX12_run 5 (some .int) "run" false 10 (sK 10000 13) := ok_sipush (by decide +kernel : decode cX12_run 10 = .ok (.sipush 10000, 3)) (by decide)
theorem o299_13 : Okp RX12 cX12_run 5 (some .int) "run" false 13 (sI2 4 23 16) := ok_icmp_gt (by decide +kernel : decode cX12_run 13 = .ok (.if_icmp .gt 10, 3)) (by decide)
theorem o299_16 : Okp RX12 cX12_run 5 (some .int) "run" false 16 (sLR 0 17) := ok_aload_n (by decide +kernel : decode cX12_run 16 = .ok (.aload_n 0, 1)) rfl
theorem o299_17 : Okp RX12 cX12_run 5 (some .int) "run" false 17 (sGI 13 51 20) := ok_getI (by decide +kernel : decode cX12_run 17 = .ok (.getfield 457, 3)) fw_X12_457 rfl
theorem o299_20 : Okp RX12 cX12_run 5 (some .int) "run" false 20 (sI1 1 25 23) := ok_if_ne (by decide +kernel : decode cX12_run 20 = .ok (.ifCond .ne 5, 3)) (by decide)
theorem o299_23 : Okp RX12 cX12_run 5 (some .int) "run" false 23 (sK (-1) 24) := ok_iconst (by decide +kernel : decode cX12_run 23 = .ok (.iconst (-1), 1)) (by decide)
theorem o299_24 : Okp RX12 cX12_run 5 (some .int) "run" false 24 sRI := ok_iret rfl (by decide +kernel : decode cX12_run 24 = .ok (.ireturn, 1))
theorem o299_25 : Okp RX12 cX12_run 5 (some .int) "run" false 25 (sK 0 26) := ok_iconst (by decide +kernel : decode cX12_run 25 = .ok (.iconst 0, 1)) (by decide)
theorem o299_26 : Okp RX12 cX12_run 5 (some .int) "run" false 26 (sSI 2 27) := ok_istore_n (by decide +kernel : decode cX12_run 26 = .ok (.istore_n 2, 1)) rfl (by decide) (by decide)
theorem o299_27 : Okp RX12 cX12_run 5 (some .int) "run" false 27 (sK 0 28) := ok_iconst (by decide +kernel : decode cX12_run 27 = .ok (.iconst 0, 1)) (by decide)
theorem o299_28 : Okp RX12 cX12_run 5 (some .int) "run" false 28 (sSI 3 29) := ok_istore_n (by decide +kernel : decode cX12_run 28 = .ok (.istore_n 3, 1)) rfl (by decide) (by decide)
theorem o299_29 : Okp RX12 cX12_run 5 (some .int) "run" false 29 (sLI 2 30) := ok_iload_n (by decide +kernel : decode cX12_run 29 = .ok (.iload_n 2, 1)) rfl
theorem o299_30 : Okp RX12 cX12_run 5 (some .int) "run" false 30 (sLI 1 31) := ok_iload_n (by decide +kernel : decode cX12_run 30 = .ok (.iload_n 1, 1)) rfl
theorem o299_31 : Okp RX12 cX12_run 5 (some .int) "run" false 31 (sI2 3 199 34) := ok_icmp_ge (by decide +kernel : decode cX12_run 31 = .ok (.if_icmp .ge 168, 3)) (by decide)
theorem o299_34 : Okp RX12 cX12_run 5 (some .int) "run" false 34 (sLI 3 35) := ok_iload_n (by decide +kernel : decode cX12_run 34 = .ok (.iload_n 3, 1)) rfl
theorem o299_35 : Okp RX12 cX12_run 5 (some .int) "run" false 35 (sK 12 37) := ok_bipush (by decide +kernel : decode cX12_run 35 = .ok (.bipush 12, 2)) (by decide)
theorem o299_37 : Okp RX12 cX12_run 5 (some .int) "run" false 37 (sI2 3 199 40) := ok_icmp_ge (by decide +kernel : decode cX12_run 37 = .ok (.if_icmp .ge 162, 3)) (by decide)
theorem o299_40 : Okp RX12 cX12_run 5 (some .int) "run" false 40 (sLR 0 41) := ok_aload_n (by decide +kernel : decode cX12_run 40 = .ok (.aload_n 0, 1)) rfl
theorem o299_41 : Okp RX12 cX12_run 5 (some .int) "run" false 41 (sGI 13 53 44) := ok_getI (by decide +kernel : decode cX12_run 41 = .ok (.getfield 463, 3)) fw_X12_463 rfl
theorem o299_44 : Okp RX12 cX12_run 5 (some .int) "run" false 44 (sSI 4 46) := ok_istore (by decide +kernel : decode cX12_run 44 = .ok (.istore 4, 2)) (by decide) (by decide)
theorem o299_46 : Okp RX12 cX12_run 5 (some .int) "run" false 46 (sLR 0 47) := ok_aload_n (by decide +kernel : decode cX12_run 46 = .ok (.aload_n 0, 1)) rfl
theorem o299_47 : Okp RX12 cX12_run 5 (some .int) "run" false 47 (sGR 13 59 50) := ok_getR (by decide +kernel : decode cX12_run 47 = .ok (.getfield 137, 3)) fw_X12_137 rfl
theorem o299_50 : Okp RX12 cX12_run 5 (some .int) "run" false 50 (sLI 4 52) := ok_iload (by decide +kernel : decode cX12_run 50 = .ok (.iload 4, 2))
theorem o299_52 : Okp RX12 cX12_run 5 (some .int) "run" false 52 (sIA 53) := ok_iaload (by decide +kernel : decode cX12_run 52 = .ok (.iaload, 1))
theorem o299_53 : Okp RX12 cX12_run 5 (some .int) "run" false 53 (sK 4 54) := ok_iconst (by decide +kernel : decode cX12_run 53 = .ok (.iconst 4, 1)) (by decide)
theorem o299_54 : Okp RX12 cX12_run 5 (some .int) "run" false 54 (sI2 3 155 57) := ok_icmp_ge (by decide +kernel : decode cX12_run 54 = .ok (.if_icmp .ge 101, 3)) (by decide)
theorem o299_57 : Okp RX12 cX12_run 5 (some .int) "run" false 57 (sLR 0 58) := ok_aload_n (by decide +kernel : decode cX12_run 57 = .ok (.aload_n 0, 1)) rfl
theorem o299_58 : Okp RX12 cX12_run 5 (some .int) "run" false 58 (sLI 4 60) := ok_iload (by decide +kernel : decode cX12_run 58 = .ok (.iload 4, 2))
theorem o299_60 : Okp RX12 cX12_run 5 (some .int) "run" false 60 (sCV false 306 2 13 63) := ok_cv (by decide +kernel : decode cX12_run 60 = .ok (.invokevirtual 507, 3)) mw_X12_507 rfl (by decide) wm_X12_canGo wse_X12_canGo (by decide) rfl
theorem o299_63 : Okp RX12 cX12_run 5 (some .int) "run" false 63 (sI1 0 155 66) := ok_if_eq (by decide +kernel : decode cX12_run 63 = .ok (.ifCond .eq 92, 3)) (by decide)
theorem o299_66 : Okp RX12 cX12_run 5 (some .int) "run" false 66 (sK 0 67) := ok_iconst (by decide +kernel : decode cX12_run 66 = .ok (.iconst 0, 1)) (by decide)
theorem o299_67 : Okp RX12 cX12_run 5 (some .int) "run" false 67 (sSI 3 68) := ok_istore_n (by decide +kernel : decode cX12_run 67 = .ok (.istore_n 3, 1)) rfl (by decide) (by decide)
theorem o299_68 : Okp RX12 cX12_run 5 (some .int) "run" false 68 (sLR 0 69) := ok_aload_n (by decide +kernel : decode cX12_run 68 = .ok (.aload_n 0, 1)) rfl
theorem o299_69 : Okp RX12 cX12_run 5 (some .int) "run" false 69 (sGR 13 59 72) := ok_getR (by decide +kernel : decode cX12_run 69 = .ok (.getfield 137, 3)) fw_X12_137 rfl
theorem o299_72 : Okp RX12 cX12_run 5 (some .int) "run" false 72 (sLI 4 74) := ok_iload (by decide +kernel : decode cX12_run 72 = .ok (.iload 4, 2))
theorem o299_74 : Okp RX12 cX12_run 5 (some .int) "run" false 74 (sK 1 75) := ok_iconst (by decide +kernel : decode cX12_run 74 = .ok (.iconst 1, 1)) (by decide)
theorem o299_75 : Okp RX12 cX12_run 5 (some .int) "run" false 75 (sIS 76) := ok_iastore (by decide +kernel : decode cX12_run 75 = .ok (.iastore, 1))
theorem o299_76 : Okp RX12 cX12_run 5 (some .int) "run" false 76 (sLR 0 77) := ok_aload_n (by decide +kernel : decode cX12_run 76 = .ok (.aload_n 0, 1)) rfl
theorem o299_77 : Okp RX12 cX12_run 5 (some .int) "run" false 77 (sK 0 78) := ok_iconst (by decide +kernel : decode cX12_run 77 = .ok (.iconst 0, 1)) (by decide)
theorem o299_78 : Okp RX12 cX12_run 5 (some .int) "run" false 78 (sPZ 13 89 81) := ok_putZ (by decide +kernel : decode cX12_run 78 = .ok (.putfield 510, 3)) fw_X12_510 ⟨⟨tyX12_ok, nmX12⟩, Or.inl rfl, rfl⟩ rfl
theorem o299_81 : Okp RX12 cX12_run 5 (some .int) "run" false 81 (sLR 0 82) := ok_aload_n (by decide +kernel : decode cX12_run 81 = .ok (.aload_n 0, 1)) rfl
theorem o299_82 : Okp RX12 cX12_run 5 (some .int) "run" false 82 (sGR 13 63 85) := ok_getR (by decide +kernel : decode cX12_run 82 = .ok (.getfield 149, 3)) fw_X12_149 rfl
theorem o299_85 : Okp RX12 cX12_run 5 (some .int) "run" false 85 (sLI 4 87) := ok_iload (by decide +kernel : decode cX12_run 85 = .ok (.iload 4, 2))
theorem o299_87 : Okp RX12 cX12_run 5 (some .int) "run" false 87 (sDup2 88) := ok_dup2 (by decide +kernel : decode cX12_run 87 = .ok (.dup2, 1))
theorem o299_88 : Okp RX12 cX12_run 5 (some .int) "run" false 88 (sIA 89) := ok_iaload (by decide +kernel : decode cX12_run 88 = .ok (.iaload, 1))
theorem o299_89 : Okp RX12 cX12_run 5 (some .int) "run" false 89 (sK 1 90) := ok_iconst (by decide +kernel : decode cX12_run 89 = .ok (.iconst 1, 1)) (by decide)
theorem o299_90 : Okp RX12 cX12_run 5 (some .int) "run" false 90 (sB2 fAdd 91) := ok_iadd (by decide +kernel : decode cX12_run 90 = .ok (.iadd, 1))
theorem o299_91 : Okp RX12 cX12_run 5 (some .int) "run" false 91 (sIS 92) := ok_iastore (by decide +kernel : decode cX12_run 91 = .ok (.iastore, 1))
theorem o299_92 : Okp RX12 cX12_run 5 (some .int) "run" false 92 (sLR 0 93) := ok_aload_n (by decide +kernel : decode cX12_run 92 = .ok (.aload_n 0, 1)) rfl
theorem o299_93 : Okp RX12 cX12_run 5 (some .int) "run" false 93 (sDup 94) := ok_dup (by decide +kernel : decode cX12_run 93 = .ok (.dup, 1))
theorem o299_94 : Okp RX12 cX12_run 5 (some .int) "run" false 94 (sGI 13 52 97) := ok_getI (by decide +kernel : decode cX12_run 94 = .ok (.getfield 460, 3)) fw_X12_460 rfl
theorem o299_97 : Okp RX12 cX12_run 5 (some .int) "run" false 97 (sK 1 98) := ok_iconst (by decide +kernel : decode cX12_run 97 = .ok (.iconst 1, 1)) (by decide)
theorem o299_98 : Okp RX12 cX12_run 5 (some .int) "run" false 98 (sB2 fAdd 99) := ok_iadd (by decide +kernel : decode cX12_run 98 = .ok (.iadd, 1))
theorem o299_99 : Okp RX12 cX12_run 5 (some .int) "run" false 99 (sPI 13 52 102) := ok_putI (by decide +kernel : decode cX12_run 99 = .ok (.putfield 460, 3)) fw_X12_460 ⟨⟨tyX12_ok, nmX12⟩, Or.inl rfl, rfl⟩ rfl
theorem o299_102 : Okp RX12 cX12_run 5 (some .int) "run" false 102 (sInc 2 1 105) := ok_iinc (by decide +kernel : decode cX12_run 102 = .ok (.iinc 2 1, 3)) (by decide) (by decide)
theorem o299_105 : Okp RX12 cX12_run 5 (some .int) "run" false 105 (sLR 0 106) := ok_aload_n (by decide +kernel : decode cX12_run 105 = .ok (.aload_n 0, 1)) rfl
theorem o299_106 : Okp RX12 cX12_run 5 (some .int) "run" false 106 (sDup 107) := ok_dup (by decide +kernel : decode cX12_run 106 = .ok (.dup, 1))
theorem o299_107 : Okp RX12 cX12_run 5 (some .int) "run" false 107 (sGI 13 54 110) := ok_getI (by decide +kernel : decode cX12_run 107 = .ok (.getfield 466, 3)) fw_X12_466 rfl
theorem o299_110 : Okp RX12 cX12_run 5 (some .int) "run" false 110 (sK 1 111) := ok_iconst (by decide +kernel : decode cX12_run 110 = .ok (.iconst 1, 1)) (by decide)
theorem o299_111 : Okp RX12 cX12_run 5 (some .int) "run" false 111 (sB2 fAdd 112) := ok_iadd (by decide +kernel : decode cX12_run 111 = .ok (.iadd, 1))
theorem o299_112 : Okp RX12 cX12_run 5 (some .int) "run" false 112 (sPI 13 54 115) := ok_putI (by decide +kernel : decode cX12_run 112 = .ok (.putfield 466, 3)) fw_X12_466 ⟨⟨tyX12_ok, nmX12⟩, Or.inl rfl, rfl⟩ rfl
theorem o299_115 : Okp RX12 cX12_run 5 (some .int) "run" false 115 (sLR 0 116) := ok_aload_n (by decide +kernel : decode cX12_run 115 = .ok (.aload_n 0, 1)) rfl
theorem o299_116 : Okp RX12 cX12_run 5 (some .int) "run" false 116 (sLI 4 118) := ok_iload (by decide +kernel : decode cX12_run 116 = .ok (.iload 4, 2))
theorem o299_118 : Okp RX12 cX12_run 5 (some .int) "run" false 118 (sCV false 309 2 13 121) := ok_cv (by decide +kernel : decode cX12_run 118 = .ok (.invokevirtual 513, 3)) mw_X12_513 rfl (by decide) wm_X12_act1 wse_X12_act1 (by decide) rfl
theorem o299_121 : Okp RX12 cX12_run 5 (some .int) "run" false 121 (sLR 0 122) := ok_aload_n (by decide +kernel : decode cX12_run 121 = .ok (.aload_n 0, 1)) rfl
theorem o299_122 : Okp RX12 cX12_run 5 (some .int) "run" false 122 (sGI 13 54 125) := ok_getI (by decide +kernel : decode cX12_run 122 = .ok (.getfield 466, 3)) fw_X12_466 rfl
theorem o299_125 : Okp RX12 cX12_run 5 (some .int) "run" false 125 (sK 8 127) := ok_bipush (by decide +kernel : decode cX12_run 125 = .ok (.bipush 8, 2)) (by decide)
theorem o299_127 : Okp RX12 cX12_run 5 (some .int) "run" false 127 (sI2 0 148 130) := ok_icmp_eq (by decide +kernel : decode cX12_run 127 = .ok (.if_icmp .eq 21, 3)) (by decide)
theorem o299_130 : Okp RX12 cX12_run 5 (some .int) "run" false 130 (sLR 0 131) := ok_aload_n (by decide +kernel : decode cX12_run 130 = .ok (.aload_n 0, 1)) rfl
theorem o299_131 : Okp RX12 cX12_run 5 (some .int) "run" false 131 (sGI 13 89 134) := ok_getI (by decide +kernel : decode cX12_run 131 = .ok (.getfield 510, 3)) fw_X12_510 rfl
theorem o299_134 : Okp RX12 cX12_run 5 (some .int) "run" false 134 (sI1 1 148 137) := ok_if_ne (by decide +kernel : decode cX12_run 134 = .ok (.ifCond .ne 14, 3)) (by decide)
theorem o299_137 : Okp RX12 cX12_run 5 (some .int) "run" false 137 (sLR 0 138) := ok_aload_n (by decide +kernel : decode cX12_run 137 = .ok (.aload_n 0, 1)) rfl
theorem o299_138 : Okp RX12 cX12_run 5 (some .int) "run" false 138 (sGR 13 59 141) := ok_getR (by decide +kernel : decode cX12_run 138 = .ok (.getfield 137, 3)) fw_X12_137 rfl
theorem o299_141 : Okp RX12 cX12_run 5 (some .int) "run" false 141 (sLI 4 143) := ok_iload (by decide +kernel : decode cX12_run 141 = .ok (.iload 4, 2))
theorem o299_143 : Okp RX12 cX12_run 5 (some .int) "run" false 143 (sIA 144) := ok_iaload (by decide +kernel : decode cX12_run 143 = .ok (.iaload, 1))
theorem o299_144 : Okp RX12 cX12_run 5 (some .int) "run" false 144 (sK 4 145) := ok_iconst (by decide +kernel : decode cX12_run 144 = .ok (.iconst 4, 1)) (by decide)
theorem o299_145 : Okp RX12 cX12_run 5 (some .int) "run" false 145 (sI2 2 29 148) := ok_icmp_lt (by decide +kernel : decode cX12_run 145 = .ok (.if_icmp .lt (-116), 3)) (by decide)
theorem o299_148 : Okp RX12 cX12_run 5 (some .int) "run" false 148 (sLR 0 149) := ok_aload_n (by decide +kernel : decode cX12_run 148 = .ok (.aload_n 0, 1)) rfl
theorem o299_149 : Okp RX12 cX12_run 5 (some .int) "run" false 149 (sCV false 300 1 13 152) := ok_cv (by decide +kernel : decode cX12_run 149 = .ok (.invokevirtual 516, 3)) mw_X12_516 rfl (by decide) wm_X12_nextTurn wse_X12_nextTurn (by decide) rfl
theorem o299_152 : Okp RX12 cX12_run 5 (some .int) "run" false 152 (sGo 29) := ok_goto (by decide +kernel : decode cX12_run 152 = .ok (.goto (-123), 3)) (by decide)
theorem o299_155 : Okp RX12 cX12_run 5 (some .int) "run" false 155 (sLR 0 156) := ok_aload_n (by decide +kernel : decode cX12_run 155 = .ok (.aload_n 0, 1)) rfl
theorem o299_156 : Okp RX12 cX12_run 5 (some .int) "run" false 156 (sGR 13 59 159) := ok_getR (by decide +kernel : decode cX12_run 156 = .ok (.getfield 137, 3)) fw_X12_137 rfl
theorem o299_159 : Okp RX12 cX12_run 5 (some .int) "run" false 159 (sLI 4 161) := ok_iload (by decide +kernel : decode cX12_run 159 = .ok (.iload 4, 2))
theorem o299_161 : Okp RX12 cX12_run 5 (some .int) "run" false 161 (sIA 162) := ok_iaload (by decide +kernel : decode cX12_run 161 = .ok (.iaload, 1))
theorem o299_162 : Okp RX12 cX12_run 5 (some .int) "run" false 162 (sK 4 163) := ok_iconst (by decide +kernel : decode cX12_run 162 = .ok (.iconst 4, 1)) (by decide)
theorem o299_163 : Okp RX12 cX12_run 5 (some .int) "run" false 163 (sI2 3 189 166) := ok_icmp_ge (by decide +kernel : decode cX12_run 163 = .ok (.if_icmp .ge 26, 3)) (by decide)
theorem o299_166 : Okp RX12 cX12_run 5 (some .int) "run" false 166 (sLR 0 167) := ok_aload_n (by decide +kernel : decode cX12_run 166 = .ok (.aload_n 0, 1)) rfl
theorem o299_167 : Okp RX12 cX12_run 5 (some .int) "run" false 167 (sGR 13 59 170) := ok_getR (by decide +kernel : decode cX12_run 167 = .ok (.getfield 137, 3)) fw_X12_137 rfl
theorem o299_170 : Okp RX12 cX12_run 5 (some .int) "run" false 170 (sLI 4 172) := ok_iload (by decide +kernel : decode cX12_run 170 = .ok (.iload 4, 2))
theorem o299_172 : Okp RX12 cX12_run 5 (some .int) "run" false 172 (sLR 0 173) := ok_aload_n (by decide +kernel : decode cX12_run 172 = .ok (.aload_n 0, 1)) rfl
theorem o299_173 : Okp RX12 cX12_run 5 (some .int) "run" false 173 (sLI 4 175) := ok_iload (by decide +kernel : decode cX12_run 173 = .ok (.iload 4, 2))
theorem o299_175 : Okp RX12 cX12_run 5 (some .int) "run" false 175 (sCV false 303 2 13 178) := ok_cv (by decide +kernel : decode cX12_run 175 = .ok (.invokevirtual 519, 3)) mw_X12_519 rfl (by decide) wm_X12_op wse_X12_op (by decide) rfl
theorem o299_178 : Okp RX12 cX12_run 5 (some .int) "run" false 178 (sK 38 180) := ok_bipush (by decide +kernel : decode cX12_run 178 = .ok (.bipush 38, 2)) (by decide)
theorem o299_180 : Okp RX12 cX12_run 5 (some .int) "run" false 180 (sI2 1 187 183) := ok_icmp_ne (by decide +kernel : decode cX12_run 180 = .ok (.if_icmp .ne 7, 3)) (by decide)
theorem o299_183 : Okp RX12 cX12_run 5 (some .int) "run" false 183 (sK 2 184) := ok_iconst (by decide +kernel : decode cX12_run 183 = .ok (.iconst 2, 1)) (by decide)
theorem o299_184 : Okp RX12 cX12_run 5 (some .int) "run" false 184 (sGo 188) := ok_goto (by decide +kernel : decode cX12_run 184 = .ok (.goto 4, 3)) (by decide)
theorem o299_187 : Okp RX12 cX12_run 5 (some .int) "run" false 187 (sK 3 188) := ok_iconst (by decide +kernel : decode cX12_run 187 = .ok (.iconst 3, 1)) (by decide)
theorem o299_188 : Okp RX12 cX12_run 5 (some .int) "run" false 188 (sIS 189) := ok_iastore (by decide +kernel : decode cX12_run 188 = .ok (.iastore, 1))
theorem o299_189 : Okp RX12 cX12_run 5 (some .int) "run" false 189 (sInc 3 1 192) := ok_iinc (by decide +kernel : decode cX12_run 189 = .ok (.iinc 3 1, 3)) (by decide) (by decide)
theorem o299_192 : Okp RX12 cX12_run 5 (some .int) "run" false 192 (sLR 0 193) := ok_aload_n (by decide +kernel : decode cX12_run 192 = .ok (.aload_n 0, 1)) rfl
theorem o299_193 : Okp RX12 cX12_run 5 (some .int) "run" false 193 (sCV false 300 1 13 196) := ok_cv (by decide +kernel : decode cX12_run 193 = .ok (.invokevirtual 516, 3)) mw_X12_516 rfl (by decide) wm_X12_nextTurn wse_X12_nextTurn (by decide) rfl
theorem o299_196 : Okp RX12 cX12_run 5 (some .int) "run" false 196 (sGo 29) := ok_goto (by decide +kernel : decode cX12_run 196 = .ok (.goto (-167), 3)) (by decide)
theorem o299_199 : Okp RX12 cX12_run 5 (some .int) "run" false 199 (sLI 2 200) := ok_iload_n (by decide +kernel : decode cX12_run 199 = .ok (.iload_n 2, 1)) rfl
theorem o299_200 : Okp RX12 cX12_run 5 (some .int) "run" false 200 sRI := ok_iret rfl (by decide +kernel : decode cX12_run 200 = .ok (.ireturn, 1))
theorem oc299_0 : ∀ pc, Mnp (c299_0 pc) ∧ Okp RX12 cX12_run 5 (some .int) "run" false pc (c299_0 pc) := by
  intro pc
  unfold c299_0
  split
  · exact ⟨mn_sLR, o299_0⟩
  · exact ⟨mn_sK, o299_1⟩
  · exact ⟨mn_sPI, o299_2⟩
  · exact ⟨mn_sLI, o299_5⟩
  · exact ⟨mn_sI1, o299_6⟩
  · exact ⟨mn_sLI, o299_9⟩
  · exact ⟨mn_sK, o299_10⟩
  · exact ⟨mn_sI2, o299_13⟩
  · exact ⟨mn_sLR, o299_16⟩
  · exact ⟨mn_sGI, o299_17⟩
  · exact ⟨mn_sI1, o299_20⟩
  · exact ⟨mn_sK, o299_23⟩
  · exact ⟨mn_sX, ok_X⟩
theorem oc299_1 : ∀ pc, Mnp (c299_1 pc) ∧ Okp RX12 cX12_run 5 (some .int) "run" false pc (c299_1 pc) := by
  intro pc
  unfold c299_1
  split
  · exact ⟨mn_sRI, o299_24⟩
  · exact ⟨mn_sK, o299_25⟩
  · exact ⟨mn_sSI, o299_26⟩
  · exact ⟨mn_sK, o299_27⟩
  · exact ⟨mn_sSI, o299_28⟩
  · exact ⟨mn_sLI, o299_29⟩
  · exact ⟨mn_sLI, o299_30⟩
  · exact ⟨mn_sI2, o299_31⟩
  · exact ⟨mn_sLI, o299_34⟩
  · exact ⟨mn_sK, o299_35⟩
  · exact ⟨mn_sI2, o299_37⟩
  · exact ⟨mn_sLR, o299_40⟩
  · exact ⟨mn_sGI, o299_41⟩
  · exact ⟨mn_sSI, o299_44⟩
  · exact ⟨mn_sLR, o299_46⟩
  · exact ⟨mn_sGR, o299_47⟩
  · exact ⟨mn_sX, ok_X⟩
theorem oc299_2 : ∀ pc, Mnp (c299_2 pc) ∧ Okp RX12 cX12_run 5 (some .int) "run" false pc (c299_2 pc) := by
  intro pc
  unfold c299_2
  split
  · exact ⟨mn_sLI, o299_50⟩
  · exact ⟨mn_sIA, o299_52⟩
  · exact ⟨mn_sK, o299_53⟩
  · exact ⟨mn_sI2, o299_54⟩
  · exact ⟨mn_sLR, o299_57⟩
  · exact ⟨mn_sLI, o299_58⟩
  · exact ⟨mn_sCV, o299_60⟩
  · exact ⟨mn_sI1, o299_63⟩
  · exact ⟨mn_sK, o299_66⟩
  · exact ⟨mn_sSI, o299_67⟩
  · exact ⟨mn_sLR, o299_68⟩
  · exact ⟨mn_sGR, o299_69⟩
  · exact ⟨mn_sX, ok_X⟩
theorem oc299_3 : ∀ pc, Mnp (c299_3 pc) ∧ Okp RX12 cX12_run 5 (some .int) "run" false pc (c299_3 pc) := by
  intro pc
  unfold c299_3
  split
  · exact ⟨mn_sLI, o299_72⟩
  · exact ⟨mn_sK, o299_74⟩
  · exact ⟨mn_sIS, o299_75⟩
  · exact ⟨mn_sLR, o299_76⟩
  · exact ⟨mn_sK, o299_77⟩
  · exact ⟨mn_sPZ, o299_78⟩
  · exact ⟨mn_sLR, o299_81⟩
  · exact ⟨mn_sGR, o299_82⟩
  · exact ⟨mn_sLI, o299_85⟩
  · exact ⟨mn_sDup2, o299_87⟩
  · exact ⟨mn_sIA, o299_88⟩
  · exact ⟨mn_sK, o299_89⟩
  · exact ⟨mn_sB2, o299_90⟩
  · exact ⟨mn_sIS, o299_91⟩
  · exact ⟨mn_sLR, o299_92⟩
  · exact ⟨mn_sDup, o299_93⟩
  · exact ⟨mn_sGI, o299_94⟩
  · exact ⟨mn_sX, ok_X⟩
theorem oc299_4 : ∀ pc, Mnp (c299_4 pc) ∧ Okp RX12 cX12_run 5 (some .int) "run" false pc (c299_4 pc) := by
  intro pc
  unfold c299_4
  split
  · exact ⟨mn_sK, o299_97⟩
  · exact ⟨mn_sB2, o299_98⟩
  · exact ⟨mn_sPI, o299_99⟩
  · exact ⟨mn_sInc, o299_102⟩
  · exact ⟨mn_sLR, o299_105⟩
  · exact ⟨mn_sDup, o299_106⟩
  · exact ⟨mn_sGI, o299_107⟩
  · exact ⟨mn_sK, o299_110⟩
  · exact ⟨mn_sB2, o299_111⟩
  · exact ⟨mn_sPI, o299_112⟩
  · exact ⟨mn_sLR, o299_115⟩
  · exact ⟨mn_sLI, o299_116⟩
  · exact ⟨mn_sCV, o299_118⟩
  · exact ⟨mn_sX, ok_X⟩
theorem oc299_5 : ∀ pc, Mnp (c299_5 pc) ∧ Okp RX12 cX12_run 5 (some .int) "run" false pc (c299_5 pc) := by
  intro pc
  unfold c299_5
  split
  · exact ⟨mn_sLR, o299_121⟩
  · exact ⟨mn_sGI, o299_122⟩
  · exact ⟨mn_sK, o299_125⟩
  · exact ⟨mn_sI2, o299_127⟩
  · exact ⟨mn_sLR, o299_130⟩
  · exact ⟨mn_sGI, o299_131⟩
  · exact ⟨mn_sI1, o299_134⟩
  · exact ⟨mn_sLR, o299_137⟩
  · exact ⟨mn_sGR, o299_138⟩
  · exact ⟨mn_sLI, o299_141⟩
  · exact ⟨mn_sIA, o299_143⟩
  · exact ⟨mn_sX, ok_X⟩
theorem oc299_6 : ∀ pc, Mnp (c299_6 pc) ∧ Okp RX12 cX12_run 5 (some .int) "run" false pc (c299_6 pc) := by
  intro pc
  unfold c299_6
  split
  · exact ⟨mn_sK, o299_144⟩
  · exact ⟨mn_sI2, o299_145⟩
  · exact ⟨mn_sLR, o299_148⟩
  · exact ⟨mn_sCV, o299_149⟩
  · exact ⟨mn_sGo, o299_152⟩
  · exact ⟨mn_sLR, o299_155⟩
  · exact ⟨mn_sGR, o299_156⟩
  · exact ⟨mn_sLI, o299_159⟩
  · exact ⟨mn_sIA, o299_161⟩
  · exact ⟨mn_sK, o299_162⟩
  · exact ⟨mn_sI2, o299_163⟩
  · exact ⟨mn_sLR, o299_166⟩
  · exact ⟨mn_sGR, o299_167⟩
  · exact ⟨mn_sX, ok_X⟩
theorem oc299_7 : ∀ pc, Mnp (c299_7 pc) ∧ Okp RX12 cX12_run 5 (some .int) "run" false pc (c299_7 pc) := by
  intro pc
  unfold c299_7
  split
  · exact ⟨mn_sLI, o299_170⟩
  · exact ⟨mn_sLR, o299_172⟩
  · exact ⟨mn_sLI, o299_173⟩
  · exact ⟨mn_sCV, o299_175⟩
  · exact ⟨mn_sK, o299_178⟩
  · exact ⟨mn_sI2, o299_180⟩
  · exact ⟨mn_sK, o299_183⟩
  · exact ⟨mn_sGo, o299_184⟩
  · exact ⟨mn_sK, o299_187⟩
  · exact ⟨mn_sIS, o299_188⟩
  · exact ⟨mn_sInc, o299_189⟩
  · exact ⟨mn_sX, ok_X⟩
theorem oc299_8 : ∀ pc, Mnp (c299_8 pc) ∧ Okp RX12 cX12_run 5 (some .int) "run" false pc (c299_8 pc) := by
  intro pc
  unfold c299_8
  split
  · exact ⟨mn_sLR, o299_192⟩
  · exact ⟨mn_sCV, o299_193⟩
  · exact ⟨mn_sGo, o299_196⟩
  · exact ⟨mn_sLI, o299_199⟩
  · exact ⟨mn_sRI, o299_200⟩
  · exact ⟨mn_sX, ok_X⟩
theorem oc299 : ∀ pc, Mnp (c299 pc) ∧ Okp RX12 cX12_run 5 (some .int) "run" false pc (c299 pc) := by
  intro pc
  unfold c299
  split
  · exact oc299_0 pc
  · exact oc299_1 pc
  · exact oc299_2 pc
  · exact oc299_3 pc
  · exact oc299_4 pc
  · exact oc299_5 pc
  · exact oc299_6 pc
  · exact oc299_7 pc
  · exact oc299_8 pc
  · exact ⟨mn_sX, ok_X⟩
theorem o300_0 : Okp RX12 cX12_nextTurn 1 none "nextTurn" false 0 (sLR 0 1) := ok_aload_n (by decide +kernel : decode cX12_nextTurn 0 = .ok (.aload_n 0, 1)) rfl
theorem o300_1 : Okp RX12 cX12_nextTurn 1 none "nextTurn" false 1 (sLR 0 2) := ok_aload_n (by decide +kernel : decode cX12_nextTurn 1 = .ok (.aload_n 0, 1)) rfl
theorem o300_2 : Okp RX12 cX12_nextTurn 1 none "nextTurn" false 2 (sGI 13 53 5) := ok_getI (by decide +kernel : decode cX12_nextTurn 2 = .ok (.getfield 463, 3)) fw_X12_463 rfl
theorem o300_5 : Okp RX12 cX12_nextTurn 1 none "nextTurn" false 5 (sK 1 6) := ok_iconst (by decide +kernel : decode cX12_nextTurn 5 = .ok (.iconst 1, 1)) (by decide)
theorem o300_6 : Okp RX12 cX12_nextTurn 1 none "nextTurn" false 6 (sB2 fAdd 7) := ok_iadd (by decide +kernel : decode cX12_nextTurn 6 = .ok (.iadd, 1))
theorem o300_7 : Okp RX12 cX12_nextTurn 1 none "nextTurn" false 7 (sK 12 9) := ok_bipush (by decide +kernel : decode cX12_nextTurn 7 = .ok (.bipush 12, 2)) (by decide)
theorem o300_9 : Okp RX12 cX12_nextTurn 1 none "nextTurn" false 9 (sD2 fRem 10) := ok_irem (by decide +kernel : decode cX12_nextTurn 9 = .ok (.irem, 1))
theorem o300_10 : Okp RX12 cX12_nextTurn 1 none "nextTurn" false 10 (sPI 13 53 13) := ok_putI (by decide +kernel : decode cX12_nextTurn 10 = .ok (.putfield 463, 3)) fw_X12_463 ⟨⟨tyX12_ok, nmX12⟩, Or.inl rfl, rfl⟩ rfl
theorem o300_13 : Okp RX12 cX12_nextTurn 1 none "nextTurn" false 13 (sLR 0 14) := ok_aload_n (by decide +kernel : decode cX12_nextTurn 13 = .ok (.aload_n 0, 1)) rfl
theorem o300_14 : Okp RX12 cX12_nextTurn 1 none "nextTurn" false 14 (sK 0 15) := ok_iconst (by decide +kernel : decode cX12_nextTurn 14 = .ok (.iconst 0, 1)) (by decide)
theorem o300_15 : Okp RX12 cX12_nextTurn 1 none "nextTurn" false 15 (sPI 13 54 18) := ok_putI (by decide +kernel : decode cX12_nextTurn 15 = .ok (.putfield 466, 3)) fw_X12_466 ⟨⟨tyX12_ok, nmX12⟩, Or.inl rfl, rfl⟩ rfl
theorem o300_18 : Okp RX12 cX12_nextTurn 1 none "nextTurn" false 18 sRV := ok_vret rfl (by decide +kernel : decode cX12_nextTurn 18 = .ok (.return_, 1))
theorem oc300 : ∀ pc, Mnp (c300 pc) ∧ Okp RX12 cX12_nextTurn 1 none "nextTurn" false pc (c300 pc) := by
  intro pc
  unfold c300
  split
  · exact ⟨mn_sLR, o300_0⟩
  · exact ⟨mn_sLR, o300_1⟩
  · exact ⟨mn_sGI, o300_2⟩
  · exact ⟨mn_sK, o300_5⟩
  · exact ⟨mn_sB2, o300_6⟩
  · exact ⟨mn_sK, o300_7⟩
  · exact ⟨mn_sD2, o300_9⟩
  · exact ⟨mn_sPI, o300_10⟩
  · exact ⟨mn_sLR, o300_13⟩
  · exact ⟨mn_sK, o300_14⟩
  · exact ⟨mn_sPI, o300_15⟩
  · exact ⟨mn_sRV, o300_18⟩
  · exact ⟨mn_sX, ok_X⟩
theorem o301_0 : Okp RX12 cX12_function 2 (some .int) "function" false 0 (sK 10 2) := ok_bipush (by decide +kernel : decode cX12_function 0 = .ok (.bipush 10, 2)) (by decide)
theorem o301_2 : Okp RX12 cX12_function 2 (some .int) "function" false 2 (sLR 0 3) := ok_aload_n (by decide +kernel : decode cX12_function 2 = .ok (.aload_n 0, 1)) rfl
theorem o301_3 : Okp RX12 cX12_function 2 (some .int) "function" false 3 (sGR 13 61 6) := ok_getR (by decide +kernel : decode cX12_function 3 = .ok (.getfield 143, 3)) fw_X12_143 rfl
theorem o301_6 : Okp RX12 cX12_function 2 (some .int) "function" false 6 (sLI 1 7) := ok_iload_n (by decide +kernel : decode cX12_function 6 = .ok (.iload_n 1, 1)) rfl
theorem o301_7 : Okp RX12 cX12_function 2 (some .int) "function" false 7 (sIA 8) := ok_iaload (by decide +kernel : decode cX12_function 7 = .ok (.iaload, 1))
theorem o301_8 : Okp RX12 cX12_function 2 (some .int) "function" false 8 (sB2 fMul 9) := ok_imul (by decide +kernel : decode cX12_function 8 = .ok (.imul, 1))
theorem o301_9 : Okp RX12 cX12_function 2 (some .int) "function" false 9 (sLR 0 10) := ok_aload_n (by decide +kernel : decode cX12_function 9 = .ok (.aload_n 0, 1)) rfl
theorem o301_10 : Okp RX12 cX12_function 2 (some .int) "function" false 10 (sGR 13 65 13) := ok_getR (by decide +kernel : decode cX12_function 10 = .ok (.getfield 155, 3)) fw_X12_155 rfl
theorem o301_13 : Okp RX12 cX12_function 2 (some .int) "function" false 13 (sLR 0 14) := ok_aload_n (by decide +kernel : decode cX12_function 13 = .ok (.aload_n 0, 1)) rfl
theorem o301_14 : Okp RX12 cX12_function 2 (some .int) "function" false 14 (sLI 1 15) := ok_iload_n (by decide +kernel : decode cX12_function 14 = .ok (.iload_n 1, 1)) rfl
theorem o301_15 : Okp RX12 cX12_function 2 (some .int) "function" false 15 (sCV false 282 2 13 18) := ok_cv (by decide +kernel : decode cX12_function 15 = .ok (.invokevirtual 487, 3)) mw_X12_487 rfl (by decide) wm_X12_act wse_X12_act (by decide) rfl
theorem o301_18 : Okp RX12 cX12_function 2 (some .int) "function" false 18 (sIA 19) := ok_iaload (by decide +kernel : decode cX12_function 18 = .ok (.iaload, 1))
theorem o301_19 : Okp RX12 cX12_function 2 (some .int) "function" false 19 (sB2 fAdd 20) := ok_iadd (by decide +kernel : decode cX12_function 19 = .ok (.iadd, 1))
theorem o301_20 : Okp RX12 cX12_function 2 (some .int) "function" false 20 sRI := ok_iret rfl (by decide +kernel : decode cX12_function 20 = .ok (.ireturn, 1))
theorem oc301 : ∀ pc, Mnp (c301 pc) ∧ Okp RX12 cX12_function 2 (some .int) "function" false pc (c301 pc) := by
  intro pc
  unfold c301
  split
  · exact ⟨mn_sK, o301_0⟩
  · exact ⟨mn_sLR, o301_2⟩
  · exact ⟨mn_sGR, o301_3⟩
  · exact ⟨mn_sLI, o301_6⟩
  · exact ⟨mn_sIA, o301_7⟩
  · exact ⟨mn_sB2, o301_8⟩
  · exact ⟨mn_sLR, o301_9⟩
  · exact ⟨mn_sGR, o301_10⟩
  · exact ⟨mn_sLR, o301_13⟩
  · exact ⟨mn_sLI, o301_14⟩
  · exact ⟨mn_sCV, o301_15⟩
  · exact ⟨mn_sIA, o301_18⟩
  · exact ⟨mn_sB2, o301_19⟩
  · exact ⟨mn_sRI, o301_20⟩
  · exact ⟨mn_sX, ok_X⟩
theorem o302_0 : Okp RX12 cX12_codePlace 2 (some .int) "codePlace" false 0 (sLR 0 1) := ok_aload_n (by decide +kernel : decode cX12_codePlace 0 = .ok (.aload_n 0, 1)) rfl
theorem o302_1 : Okp RX12 cX12_codePlace 2 (some .int) "codePlace" false 1 (sGR 13 21 4) := ok_getR (by decide +kernel : decode cX12_codePlace 1 = .ok (.getfield 69, 3)) fw_X12_69 rfl
theorem o302_4 : Okp RX12 cX12_codePlace 2 (some .int) "codePlace" false 4 (sLR 0 5) := ok_aload_n (by decide +kernel : decode cX12_codePlace 4 = .ok (.aload_n 0, 1)) rfl
theorem o302_5 : Okp RX12 cX12_codePlace 2 (some .int) "codePlace" false 5 (sLI 1 6) := ok_iload_n (by decide +kernel : decode cX12_codePlace 5 = .ok (.iload_n 1, 1)) rfl
theorem o302_6 : Okp RX12 cX12_codePlace 2 (some .int) "codePlace" false 6 (sCV false 301 2 13 9) := ok_cv (by decide +kernel : decode cX12_codePlace 6 = .ok (.invokevirtual 522, 3)) mw_X12_522 rfl (by decide) wm_X12_function wse_X12_function (by decide) rfl
theorem o302_9 : Okp RX12 cX12_codePlace 2 (some .int) "codePlace" false 9 (sIA 10) := ok_iaload (by decide +kernel : decode cX12_codePlace 9 = .ok (.iaload, 1))
theorem o302_10 : Okp RX12 cX12_codePlace 2 (some .int) "codePlace" false 10 (sLR 0 11) := ok_aload_n (by decide +kernel : decode cX12_codePlace 10 = .ok (.aload_n 0, 1)) rfl
theorem o302_11 : Okp RX12 cX12_codePlace 2 (some .int) "codePlace" false 11 (sGR 13 66 14) := ok_getR (by decide +kernel : decode cX12_codePlace 11 = .ok (.getfield 158, 3)) fw_X12_158 rfl
theorem o302_14 : Okp RX12 cX12_codePlace 2 (some .int) "codePlace" false 14 (sLR 0 15) := ok_aload_n (by decide +kernel : decode cX12_codePlace 14 = .ok (.aload_n 0, 1)) rfl
theorem o302_15 : Okp RX12 cX12_codePlace 2 (some .int) "codePlace" false 15 (sLI 1 16) := ok_iload_n (by decide +kernel : decode cX12_codePlace 15 = .ok (.iload_n 1, 1)) rfl
theorem o302_16 : Okp RX12 cX12_codePlace 2 (some .int) "codePlace" false 16 (sCV false 282 2 13 19) := ok_cv (by decide +kernel : decode cX12_codePlace 16 = .ok (.invokevirtual 487, 3)) mw_X12_487 rfl (by decide) wm_X12_act wse_X12_act (by decide) rfl
theorem o302_19 : Okp RX12 cX12_codePlace 2 (some .int) "codePlace" false 19 (sIA 20) := ok_iaload (by decide +kernel : decode cX12_codePlace 19 = .ok (.iaload, 1))
theorem o302_20 : Okp RX12 cX12_codePlace 2 (some .int) "codePlace" false 20 (sB2 fAdd 21) := ok_iadd (by decide +kernel : decode cX12_codePlace 20 = .ok (.iadd, 1))
theorem o302_21 : Okp RX12 cX12_codePlace 2 (some .int) "codePlace" false 21 sRI := ok_iret rfl (by decide +kernel : decode cX12_codePlace 21 = .ok (.ireturn, 1))
theorem oc302 : ∀ pc, Mnp (c302 pc) ∧ Okp RX12 cX12_codePlace 2 (some .int) "codePlace" false pc (c302 pc) := by
  intro pc
  unfold c302
  split
  · exact ⟨mn_sLR, o302_0⟩
  · exact ⟨mn_sGR, o302_1⟩
  · exact ⟨mn_sLR, o302_4⟩
  · exact ⟨mn_sLI, o302_5⟩
  · exact ⟨mn_sCV, o302_6⟩
  · exact ⟨mn_sIA, o302_9⟩
  · exact ⟨mn_sLR, o302_10⟩
  · exact ⟨mn_sGR, o302_11⟩
  · exact ⟨mn_sLR, o302_14⟩
  · exact ⟨mn_sLI, o302_15⟩
  · exact ⟨mn_sCV, o302_16⟩
  · exact ⟨mn_sIA, o302_19⟩
  · exact ⟨mn_sB2, o302_20⟩
  · exact ⟨mn_sRI, o302_21⟩
  · exact ⟨mn_sX, ok_X⟩
theorem o303_0 : Okp RX12 cX12_op 2 (some .int) "op" false 0 (sLR 0 1) := ok_aload_n (by decide +kernel : decode cX12_op 0 = .ok (.aload_n 0, 1)) rfl
theorem o303_1 : Okp RX12 cX12_op 2 (some .int) "op" false 1 (sLR 0 2) := ok_aload_n (by decide +kernel : decode cX12_op 1 = .ok (.aload_n 0, 1)) rfl
theorem o303_2 : Okp RX12 cX12_op 2 (some .int) "op" false 2 (sGR 13 61 5) := ok_getR (by decide +kernel : decode cX12_op 2 = .ok (.getfield 143, 3)) fw_X12_143 rfl
theorem o303_5 : Okp RX12 cX12_op 2 (some .int) "op" false 5 (sLI 1 6) := ok_iload_n (by decide +kernel : decode cX12_op 5 = .ok (.iload_n 1, 1)) rfl
theorem o303_6 : Okp RX12 cX12_op 2 (some .int) "op" false 6 (sIA 7) := ok_iaload (by decide +kernel : decode cX12_op 6 = .ok (.iaload, 1))
theorem o303_7 : Okp RX12 cX12_op 2 (some .int) "op" false 7 (sLR 0 8) := ok_aload_n (by decide +kernel : decode cX12_op 7 = .ok (.aload_n 0, 1)) rfl
theorem o303_8 : Okp RX12 cX12_op 2 (some .int) "op" false 8 (sLI 1 9) := ok_iload_n (by decide +kernel : decode cX12_op 8 = .ok (.iload_n 1, 1)) rfl
theorem o303_9 : Okp RX12 cX12_op 2 (some .int) "op" false 9 (sCV false 302 2 13 12) := ok_cv (by decide +kernel : decode cX12_op 9 = .ok (.invokevirtual 525, 3)) mw_X12_525 rfl (by decide) wm_X12_codePlace wse_X12_codePlace (by decide) rfl
theorem o303_12 : Okp RX12 cX12_op 2 (some .int) "op" false 12 (sCV false 220 3 13 15) := ok_cv (by decide +kernel : decode cX12_op 12 = .ok (.invokevirtual 246, 3)) mw_X12_246 rfl (by decide) wm_X12_byteAt wse_X12_byteAt (by decide) rfl
theorem o303_15 : Okp RX12 cX12_op 2 (some .int) "op" false 15 sRI := ok_iret rfl (by decide +kernel : decode cX12_op 15 = .ok (.ireturn, 1))
theorem oc303 : ∀ pc, Mnp (c303 pc) ∧ Okp RX12 cX12_op 2 (some .int) "op" false pc (c303 pc) := by
  intro pc
  unfold c303
  split
  · exact ⟨mn_sLR, o303_0⟩
  · exact ⟨mn_sLR, o303_1⟩
  · exact ⟨mn_sGR, o303_2⟩
  · exact ⟨mn_sLI, o303_5⟩
  · exact ⟨mn_sIA, o303_6⟩
  · exact ⟨mn_sLR, o303_7⟩
  · exact ⟨mn_sLI, o303_8⟩
  · exact ⟨mn_sCV, o303_9⟩
  · exact ⟨mn_sCV, o303_12⟩
  · exact ⟨mn_sRI, o303_15⟩
  · exact ⟨mn_sX, ok_X⟩
theorem o304_0 : Okp RX12 cX12_part_ 3 (some .int) "part" false 0 (sLR 0 1) := ok_aload_n (by decide +kernel : decode cX12_part_ 0 = .ok (.aload_n 0, 1)) rfl
theorem o304_1 : Okp RX12 cX12_part_ 3 (some .int) "part" false 1 (sLR 0 2) := ok_aload_n (by decide +kernel : decode cX12_part_ 1 = .ok (.aload_n 0, 1)) rfl
theorem o304_2 : Okp RX12 cX12_part_ 3 (some .int) "part" false 2 (sGR 13 61 5) := ok_getR (by decide +kernel : decode cX12_part_ 2 = .ok (.getfield 143, 3)) fw_X12_143 rfl
theorem o304_5 : Okp RX12 cX12_part_ 3 (some .int) "part" false 5 (sLI 1 6) := ok_iload_n (by decide +kernel : decode cX12_part_ 5 = .ok (.iload_n 1, 1)) rfl
theorem o304_6 : Okp RX12 cX12_part_ 3 (some .int) "part" false 6 (sIA 7) := ok_iaload (by decide +kernel : decode cX12_part_ 6 = .ok (.iaload, 1))
theorem o304_7 : Okp RX12 cX12_part_ 3 (some .int) "part" false 7 (sLR 0 8) := ok_aload_n (by decide +kernel : decode cX12_part_ 7 = .ok (.aload_n 0, 1)) rfl
theorem o304_8 : Okp RX12 cX12_part_ 3 (some .int) "part" false 8 (sLI 1 9) := ok_iload_n (by decide +kernel : decode cX12_part_ 8 = .ok (.iload_n 1, 1)) rfl
theorem o304_9 : Okp RX12 cX12_part_ 3 (some .int) "part" false 9 (sCV false 302 2 13 12) := ok_cv (by decide +kernel : decode cX12_part_ 9 = .ok (.invokevirtual 525, 3)) mw_X12_525 rfl (by decide) wm_X12_codePlace wse_X12_codePlace (by decide) rfl
theorem o304_12 : Okp RX12 cX12_part_ 3 (some .int) "part" false 12 (sLI 2 13) := ok_iload_n (by decide +kernel : decode cX12_part_ 12 = .ok (.iload_n 2, 1)) rfl
theorem o304_13 : Okp RX12 cX12_part_ 3 (some .int) "part" false 13 (sB2 fAdd 14) := ok_iadd (by decide +kernel : decode cX12_part_ 13 = .ok (.iadd, 1))
theorem o304_14 : Okp RX12 cX12_part_ 3 (some .int) "part" false 14 (sCV false 220 3 13 17) := ok_cv (by decide +kernel : decode cX12_part_ 14 = .ok (.invokevirtual 246, 3)) mw_X12_246 rfl (by decide) wm_X12_byteAt wse_X12_byteAt (by decide) rfl
theorem o304_17 : Okp RX12 cX12_part_ 3 (some .int) "part" false 17 sRI := ok_iret rfl (by decide +kernel : decode cX12_part_ 17 = .ok (.ireturn, 1))
theorem oc304 : ∀ pc, Mnp (c304 pc) ∧ Okp RX12 cX12_part_ 3 (some .int) "part" false pc (c304 pc) := by
  intro pc
  unfold c304
  split
  · exact ⟨mn_sLR, o304_0⟩
  · exact ⟨mn_sLR, o304_1⟩
  · exact ⟨mn_sGR, o304_2⟩
  · exact ⟨mn_sLI, o304_5⟩
  · exact ⟨mn_sIA, o304_6⟩
  · exact ⟨mn_sLR, o304_7⟩
  · exact ⟨mn_sLI, o304_8⟩
  · exact ⟨mn_sCV, o304_9⟩
  · exact ⟨mn_sLI, o304_12⟩
  · exact ⟨mn_sB2, o304_13⟩
  · exact ⟨mn_sCV, o304_14⟩
  · exact ⟨mn_sRI, o304_17⟩
  · exact ⟨mn_sX, ok_X⟩
theorem o305_0 : Okp RX12 cX12_depthOfEnd 6 (some .int) "depthOfEnd" false 0 (sLR 0 1) := ok_aload_n (by decide +kernel : decode cX12_depthOfEnd 0 = .ok (.aload_n 0, 1)) rfl
theorem o305_1 : Okp RX12 cX12_depthOfEnd 6 (some .int) "depthOfEnd" false 1 (sLI 1 2) := ok_iload_n (by decide +kernel : decode cX12_depthOfEnd 1 = .ok (.iload_n 1, 1)) rfl
theorem o305_2 : Okp RX12 cX12_depthOfEnd 6 (some .int) "depthOfEnd" false 2 (sLR 0 3) := ok_aload_n (by decide +kernel : decode cX12_depthOfEnd 2 = .ok (.aload_n 0, 1)) rfl
theorem o305_3 : Okp RX12 cX12_depthOfEnd 6 (some .int) "depthOfEnd" false 3 (sGR 13 67 6) := ok_getR (by decide +kernel : decode cX12_depthOfEnd 3 = .ok (.getfield 161, 3)) fw_X12_161 rfl
theorem o305_6 : Okp RX12 cX12_depthOfEnd 6 (some .int) "depthOfEnd" false 6 (sLR 0 7) := ok_aload_n (by decide +kernel : decode cX12_depthOfEnd 6 = .ok (.aload_n 0, 1)) rfl
theorem o305_7 : Okp RX12 cX12_depthOfEnd 6 (some .int) "depthOfEnd" false 7 (sLI 1 8) := ok_iload_n (by decide +kernel : decode cX12_depthOfEnd 7 = .ok (.iload_n 1, 1)) rfl
theorem o305_8 : Okp RX12 cX12_depthOfEnd 6 (some .int) "depthOfEnd" false 8 (sCV false 282 2 13 11) := ok_cv (by decide +kernel : decode cX12_depthOfEnd 8 = .ok (.invokevirtual 487, 3)) mw_X12_487 rfl (by decide) wm_X12_act wse_X12_act (by decide) rfl
theorem o305_11 : Okp RX12 cX12_depthOfEnd 6 (some .int) "depthOfEnd" false 11 (sIA 12) := ok_iaload (by decide +kernel : decode cX12_depthOfEnd 11 = .ok (.iaload, 1))
theorem o305_12 : Okp RX12 cX12_depthOfEnd 6 (some .int) "depthOfEnd" false 12 (sK 1 13) := ok_iconst (by decide +kernel : decode cX12_depthOfEnd 12 = .ok (.iconst 1, 1)) (by decide)
theorem o305_13 : Okp RX12 cX12_depthOfEnd 6 (some .int) "depthOfEnd" false 13 (sB2 fSub 14) := ok_isub (by decide +kernel : decode cX12_depthOfEnd 13 = .ok (.isub, 1))
theorem o305_14 : Okp RX12 cX12_depthOfEnd 6 (some .int) "depthOfEnd" false 14 (sCV false 284 3 13 17) := ok_cv (by decide +kernel : decode cX12_depthOfEnd 14 = .ok (.invokevirtual 490, 3)) mw_X12_490 rfl (by decide) wm_X12_stack wse_X12_stack (by decide) rfl
theorem o305_17 : Okp RX12 cX12_depthOfEnd 6 (some .int) "depthOfEnd" false 17 (sSI 3 18) := ok_istore_n (by decide +kernel : decode cX12_depthOfEnd 17 = .ok (.istore_n 3, 1)) rfl (by decide) (by decide)
theorem o305_18 : Okp RX12 cX12_depthOfEnd 6 (some .int) "depthOfEnd" false 18 (sLR 0 19) := ok_aload_n (by decide +kernel : decode cX12_depthOfEnd 18 = .ok (.aload_n 0, 1)) rfl
theorem o305_19 : Okp RX12 cX12_depthOfEnd 6 (some .int) "depthOfEnd" false 19 (sGR 13 69 22) := ok_getR (by decide +kernel : decode cX12_depthOfEnd 19 = .ok (.getfield 167, 3)) fw_X12_167 rfl
theorem o305_22 : Okp RX12 cX12_depthOfEnd 6 (some .int) "depthOfEnd" false 22 (sLI 3 23) := ok_iload_n (by decide +kernel : decode cX12_depthOfEnd 22 = .ok (.iload_n 3, 1)) rfl
theorem o305_23 : Okp RX12 cX12_depthOfEnd 6 (some .int) "depthOfEnd" false 23 (sIA 24) := ok_iaload (by decide +kernel : decode cX12_depthOfEnd 23 = .ok (.iaload, 1))
theorem o305_24 : Okp RX12 cX12_depthOfEnd 6 (some .int) "depthOfEnd" false 24 (sK 3 25) := ok_iconst (by decide +kernel : decode cX12_depthOfEnd 24 = .ok (.iconst 3, 1)) (by decide)
theorem o305_25 : Okp RX12 cX12_depthOfEnd 6 (some .int) "depthOfEnd" false 25 (sI2 0 30 28) := ok_icmp_eq (by decide +kernel : decode cX12_depthOfEnd 25 = .ok (.if_icmp .eq 5, 3)) (by decide)
theorem o305_28 : Okp RX12 cX12_depthOfEnd 6 (some .int) "depthOfEnd" false 28 (sK 1 29) := ok_iconst (by decide +kernel : decode cX12_depthOfEnd 28 = .ok (.iconst 1, 1)) (by decide)
theorem o305_29 : Okp RX12 cX12_depthOfEnd 6 (some .int) "depthOfEnd" false 29 sRI := ok_iret rfl (by decide +kernel : decode cX12_depthOfEnd 29 = .ok (.ireturn, 1))
theorem o305_30 : Okp RX12 cX12_depthOfEnd 6 (some .int) "depthOfEnd" false 30 (sLR 0 31) := ok_aload_n (by decide +kernel : decode cX12_depthOfEnd 30 = .ok (.aload_n 0, 1)) rfl
theorem o305_31 : Okp RX12 cX12_depthOfEnd 6 (some .int) "depthOfEnd" false 31 (sGR 13 68 34) := ok_getR (by decide +kernel : decode cX12_depthOfEnd 31 = .ok (.getfield 164, 3)) fw_X12_164 rfl
theorem o305_34 : Okp RX12 cX12_depthOfEnd 6 (some .int) "depthOfEnd" false 34 (sLI 3 35) := ok_iload_n (by decide +kernel : decode cX12_depthOfEnd 34 = .ok (.iload_n 3, 1)) rfl
theorem o305_35 : Okp RX12 cX12_depthOfEnd 6 (some .int) "depthOfEnd" false 35 (sIA 36) := ok_iaload (by decide +kernel : decode cX12_depthOfEnd 35 = .ok (.iaload, 1))
theorem o305_36 : Okp RX12 cX12_depthOfEnd 6 (some .int) "depthOfEnd" false 36 (sSI 4 38) := ok_istore (by decide +kernel : decode cX12_depthOfEnd 36 = .ok (.istore 4, 2)) (by decide) (by decide)
theorem o305_38 : Okp RX12 cX12_depthOfEnd 6 (some .int) "depthOfEnd" false 38 (sK 8 40) := ok_bipush (by decide +kernel : decode cX12_depthOfEnd 38 = .ok (.bipush 8, 2)) (by decide)
theorem o305_40 : Okp RX12 cX12_depthOfEnd 6 (some .int) "depthOfEnd" false 40 (sLR 0 41) := ok_aload_n (by decide +kernel : decode cX12_depthOfEnd 40 = .ok (.aload_n 0, 1)) rfl
theorem o305_41 : Okp RX12 cX12_depthOfEnd 6 (some .int) "depthOfEnd" false 41 (sGR 13 88 44) := ok_getR (by decide +kernel : decode cX12_depthOfEnd 41 = .ok (.getfield 224, 3)) fw_X12_224 rfl
theorem o305_44 : Okp RX12 cX12_depthOfEnd 6 (some .int) "depthOfEnd" false 44 (sLI 4 46) := ok_iload (by decide +kernel : decode cX12_depthOfEnd 44 = .ok (.iload 4, 2))
theorem o305_46 : Okp RX12 cX12_depthOfEnd 6 (some .int) "depthOfEnd" false 46 (sIA 47) := ok_iaload (by decide +kernel : decode cX12_depthOfEnd 46 = .ok (.iaload, 1))
theorem o305_47 : Okp RX12 cX12_depthOfEnd 6 (some .int) "depthOfEnd" false 47 (sB2 fMul 48) := ok_imul (by decide +kernel : decode cX12_depthOfEnd 47 = .ok (.imul, 1))
theorem o305_48 : Okp RX12 cX12_depthOfEnd 6 (some .int) "depthOfEnd" false 48 (sLR 0 49) := ok_aload_n (by decide +kernel : decode cX12_depthOfEnd 48 = .ok (.aload_n 0, 1)) rfl
theorem o305_49 : Okp RX12 cX12_depthOfEnd 6 (some .int) "depthOfEnd" false 49 (sGR 13 82 52) := ok_getR (by decide +kernel : decode cX12_depthOfEnd 49 = .ok (.getfield 206, 3)) fw_X12_206 rfl
theorem o305_52 : Okp RX12 cX12_depthOfEnd 6 (some .int) "depthOfEnd" false 52 (sLI 4 54) := ok_iload (by decide +kernel : decode cX12_depthOfEnd 52 = .ok (.iload 4, 2))
theorem o305_54 : Okp RX12 cX12_depthOfEnd 6 (some .int) "depthOfEnd" false 54 (sIA 55) := ok_iaload (by decide +kernel : decode cX12_depthOfEnd 54 = .ok (.iaload, 1))
theorem o305_55 : Okp RX12 cX12_depthOfEnd 6 (some .int) "depthOfEnd" false 55 (sB2 fAdd 56) := ok_iadd (by decide +kernel : decode cX12_depthOfEnd 55 = .ok (.iadd, 1))
theorem o305_56 : Okp RX12 cX12_depthOfEnd 6 (some .int) "depthOfEnd" false 56 (sSI 5 58) := ok_istore (by decide +kernel : decode cX12_depthOfEnd 56 = .ok (.istore 5, 2)) (by decide) (by decide)
theorem o305_58 : Okp RX12 cX12_depthOfEnd 6 (some .int) "depthOfEnd" false 58 (sLR 0 59) := ok_aload_n (by decide +kernel : decode cX12_depthOfEnd 58 = .ok (.aload_n 0, 1)) rfl
theorem o305_59 : Okp RX12 cX12_depthOfEnd 6 (some .int) "depthOfEnd" false 59 (sGR 13 12 62) := ok_getR (by decide +kernel : decode cX12_depthOfEnd 59 = .ok (.getfield 42, 3)) fw_X12_42 rfl
theorem o305_62 : Okp RX12 cX12_depthOfEnd 6 (some .int) "depthOfEnd" false 62 (sLI 5 64) := ok_iload (by decide +kernel : decode cX12_depthOfEnd 62 = .ok (.iload 5, 2))
theorem o305_64 : Okp RX12 cX12_depthOfEnd 6 (some .int) "depthOfEnd" false 64 (sIA 65) := ok_iaload (by decide +kernel : decode cX12_depthOfEnd 64 = .ok (.iaload, 1))
theorem o305_65 : Okp RX12 cX12_depthOfEnd 6 (some .int) "depthOfEnd" false 65 (sK 1 66) := ok_iconst (by decide +kernel : decode cX12_depthOfEnd 65 = .ok (.iconst 1, 1)) (by decide)
theorem o305_66 : Okp RX12 cX12_depthOfEnd 6 (some .int) "depthOfEnd" false 66 (sLI 4 68) := ok_iload (by decide +kernel : decode cX12_depthOfEnd 66 = .ok (.iload 4, 2))
theorem o305_68 : Okp RX12 cX12_depthOfEnd 6 (some .int) "depthOfEnd" false 68 (sK 2 69) := ok_iconst (by decide +kernel : decode cX12_depthOfEnd 68 = .ok (.iconst 2, 1)) (by decide)
theorem o305_69 : Okp RX12 cX12_depthOfEnd 6 (some .int) "depthOfEnd" false 69 (sD2 fRem 70) := ok_irem (by decide +kernel : decode cX12_depthOfEnd 69 = .ok (.irem, 1))
theorem o305_70 : Okp RX12 cX12_depthOfEnd 6 (some .int) "depthOfEnd" false 70 (sB2 fAdd 71) := ok_iadd (by decide +kernel : decode cX12_depthOfEnd 70 = .ok (.iadd, 1))
theorem o305_71 : Okp RX12 cX12_depthOfEnd 6 (some .int) "depthOfEnd" false 71 (sI2 1 104 74) := ok_icmp_ne (by decide +kernel : decode cX12_depthOfEnd 71 = .ok (.if_icmp .ne 33, 3)) (by decide)
theorem o305_74 : Okp RX12 cX12_depthOfEnd 6 (some .int) "depthOfEnd" false 74 (sLI 2 75) := ok_iload_n (by decide +kernel : decode cX12_depthOfEnd 74 = .ok (.iload_n 2, 1)) rfl
theorem o305_75 : Okp RX12 cX12_depthOfEnd 6 (some .int) "depthOfEnd" false 75 (sLR 0 76) := ok_aload_n (by decide +kernel : decode cX12_depthOfEnd 75 = .ok (.aload_n 0, 1)) rfl
theorem o305_76 : Okp RX12 cX12_depthOfEnd 6 (some .int) "depthOfEnd" false 76 (sGR 13 13 79) := ok_getR (by decide +kernel : decode cX12_depthOfEnd 76 = .ok (.getfield 45, 3)) fw_X12_45 rfl
theorem o305_79 : Okp RX12 cX12_depthOfEnd 6 (some .int) "depthOfEnd" false 79 (sLI 5 81) := ok_iload (by decide +kernel : decode cX12_depthOfEnd 79 = .ok (.iload 5, 2))
theorem o305_81 : Okp RX12 cX12_depthOfEnd 6 (some .int) "depthOfEnd" false 81 (sIA 82) := ok_iaload (by decide +kernel : decode cX12_depthOfEnd 81 = .ok (.iaload, 1))
theorem o305_82 : Okp RX12 cX12_depthOfEnd 6 (some .int) "depthOfEnd" false 82 (sI2 3 104 85) := ok_icmp_ge (by decide +kernel : decode cX12_depthOfEnd 82 = .ok (.if_icmp .ge 22, 3)) (by decide)
theorem o305_85 : Okp RX12 cX12_depthOfEnd 6 (some .int) "depthOfEnd" false 85 (sLR 0 86) := ok_aload_n (by decide +kernel : decode cX12_depthOfEnd 85 = .ok (.aload_n 0, 1)) rfl
theorem o305_86 : Okp RX12 cX12_depthOfEnd 6 (some .int) "depthOfEnd" false 86 (sGR 13 14 89) := ok_getR (by decide +kernel : decode cX12_depthOfEnd 86 = .ok (.getfield 48, 3)) fw_X12_48 rfl
theorem o305_89 : Okp RX12 cX12_depthOfEnd 6 (some .int) "depthOfEnd" false 89 (sK 4 90) := ok_iconst (by decide +kernel : decode cX12_depthOfEnd 89 = .ok (.iconst 4, 1)) (by decide)
theorem o305_90 : Okp RX12 cX12_depthOfEnd 6 (some .int) "depthOfEnd" false 90 (sLI 5 92) := ok_iload (by decide +kernel : decode cX12_depthOfEnd 90 = .ok (.iload 5, 2))
theorem o305_92 : Okp RX12 cX12_depthOfEnd 6 (some .int) "depthOfEnd" false 92 (sB2 fMul 93) := ok_imul (by decide +kernel : decode cX12_depthOfEnd 92 = .ok (.imul, 1))
theorem o305_93 : Okp RX12 cX12_depthOfEnd 6 (some .int) "depthOfEnd" false 93 (sLI 2 94) := ok_iload_n (by decide +kernel : decode cX12_depthOfEnd 93 = .ok (.iload_n 2, 1)) rfl
theorem o305_94 : Okp RX12 cX12_depthOfEnd 6 (some .int) "depthOfEnd" false 94 (sB2 fAdd 95) := ok_iadd (by decide +kernel : decode cX12_depthOfEnd 94 = .ok (.iadd, 1))
theorem o305_95 : Okp RX12 cX12_depthOfEnd 6 (some .int) "depthOfEnd" false 95 (sIA 96) := ok_iaload (by decide +kernel : decode cX12_depthOfEnd 95 = .ok (.iaload, 1))
theorem o305_96 : Okp RX12 cX12_depthOfEnd 6 (some .int) "depthOfEnd" false 96 (sK (-1) 97) := ok_iconst (by decide +kernel : decode cX12_depthOfEnd 96 = .ok (.iconst (-1), 1)) (by decide)
theorem o305_97 : Okp RX12 cX12_depthOfEnd 6 (some .int) "depthOfEnd" false 97 (sI2 1 104 100) := ok_icmp_ne (by decide +kernel : decode cX12_depthOfEnd 97 = .ok (.if_icmp .ne 7, 3)) (by decide)
theorem o305_100 : Okp RX12 cX12_depthOfEnd 6 (some .int) "depthOfEnd" false 100 (sK 0 101) := ok_iconst (by decide +kernel : decode cX12_depthOfEnd 100 = .ok (.iconst 0, 1)) (by decide)
theorem o305_101 : Okp RX12 cX12_depthOfEnd 6 (some .int) "depthOfEnd" false 101 (sGo 105) := ok_goto (by decide +kernel : decode cX12_depthOfEnd 101 = .ok (.goto 4, 3)) (by decide)
theorem o305_104 : Okp RX12 cX12_depthOfEnd 6 (some .int) "depthOfEnd" false 104 (sK 1 105) := ok_iconst (by decide +kernel : decode cX12_depthOfEnd 104 = .ok (.iconst 1, 1)) (by decide)
theorem o305_105 : Okp RX12 cX12_depthOfEnd 6 (some .int) "depthOfEnd" false 105 sRI := ok_iret rfl (by decide +kernel : decode cX12_depthOfEnd 105 = .ok (.ireturn, 1))
theorem oc305_0 : ∀ pc, Mnp (c305_0 pc) ∧ Okp RX12 cX12_depthOfEnd 6 (some .int) "depthOfEnd" false pc (c305_0 pc) := by
  intro pc
  unfold c305_0
  split
  · exact ⟨mn_sLR, o305_0⟩
  · exact ⟨mn_sLI, o305_1⟩
  · exact ⟨mn_sLR, o305_2⟩
  · exact ⟨mn_sGR, o305_3⟩
  · exact ⟨mn_sLR, o305_6⟩
  · exact ⟨mn_sLI, o305_7⟩
  · exact ⟨mn_sCV, o305_8⟩
  · exact ⟨mn_sIA, o305_11⟩
  · exact ⟨mn_sK, o305_12⟩
  · exact ⟨mn_sB2, o305_13⟩
  · exact ⟨mn_sCV, o305_14⟩
  · exact ⟨mn_sSI, o305_17⟩
  · exact ⟨mn_sLR, o305_18⟩
  · exact ⟨mn_sGR, o305_19⟩
  · exact ⟨mn_sLI, o305_22⟩
  · exact ⟨mn_sIA, o305_23⟩
  · exact ⟨mn_sX, ok_X⟩
theorem oc305_1 : ∀ pc, Mnp (c305_1 pc) ∧ Okp RX12 cX12_depthOfEnd 6 (some .int) "depthOfEnd" false pc (c305_1 pc) := by
  intro pc
  unfold c305_1
  split
  · exact ⟨mn_sK, o305_24⟩
  · exact ⟨mn_sI2, o305_25⟩
  · exact ⟨mn_sK, o305_28⟩
  · exact ⟨mn_sRI, o305_29⟩
  · exact ⟨mn_sLR, o305_30⟩
  · exact ⟨mn_sGR, o305_31⟩
  · exact ⟨mn_sLI, o305_34⟩
  · exact ⟨mn_sIA, o305_35⟩
  · exact ⟨mn_sSI, o305_36⟩
  · exact ⟨mn_sK, o305_38⟩
  · exact ⟨mn_sLR, o305_40⟩
  · exact ⟨mn_sGR, o305_41⟩
  · exact ⟨mn_sLI, o305_44⟩
  · exact ⟨mn_sIA, o305_46⟩
  · exact ⟨mn_sB2, o305_47⟩
  · exact ⟨mn_sX, ok_X⟩
theorem oc305_2 : ∀ pc, Mnp (c305_2 pc) ∧ Okp RX12 cX12_depthOfEnd 6 (some .int) "depthOfEnd" false pc (c305_2 pc) := by
  intro pc
  unfold c305_2
  split
  · exact ⟨mn_sLR, o305_48⟩
  · exact ⟨mn_sGR, o305_49⟩
  · exact ⟨mn_sLI, o305_52⟩
  · exact ⟨mn_sIA, o305_54⟩
  · exact ⟨mn_sB2, o305_55⟩
  · exact ⟨mn_sSI, o305_56⟩
  · exact ⟨mn_sLR, o305_58⟩
  · exact ⟨mn_sGR, o305_59⟩
  · exact ⟨mn_sLI, o305_62⟩
  · exact ⟨mn_sIA, o305_64⟩
  · exact ⟨mn_sK, o305_65⟩
  · exact ⟨mn_sLI, o305_66⟩
  · exact ⟨mn_sK, o305_68⟩
  · exact ⟨mn_sD2, o305_69⟩
  · exact ⟨mn_sB2, o305_70⟩
  · exact ⟨mn_sI2, o305_71⟩
  · exact ⟨mn_sX, ok_X⟩
theorem oc305_3 : ∀ pc, Mnp (c305_3 pc) ∧ Okp RX12 cX12_depthOfEnd 6 (some .int) "depthOfEnd" false pc (c305_3 pc) := by
  intro pc
  unfold c305_3
  split
  · exact ⟨mn_sLI, o305_74⟩
  · exact ⟨mn_sLR, o305_75⟩
  · exact ⟨mn_sGR, o305_76⟩
  · exact ⟨mn_sLI, o305_79⟩
  · exact ⟨mn_sIA, o305_81⟩
  · exact ⟨mn_sI2, o305_82⟩
  · exact ⟨mn_sLR, o305_85⟩
  · exact ⟨mn_sGR, o305_86⟩
  · exact ⟨mn_sK, o305_89⟩
  · exact ⟨mn_sLI, o305_90⟩
  · exact ⟨mn_sB2, o305_92⟩
  · exact ⟨mn_sLI, o305_93⟩
  · exact ⟨mn_sB2, o305_94⟩
  · exact ⟨mn_sIA, o305_95⟩
  · exact ⟨mn_sX, ok_X⟩
theorem oc305_4 : ∀ pc, Mnp (c305_4 pc) ∧ Okp RX12 cX12_depthOfEnd 6 (some .int) "depthOfEnd" false pc (c305_4 pc) := by
  intro pc
  unfold c305_4
  split
  · exact ⟨mn_sK, o305_96⟩
  · exact ⟨mn_sI2, o305_97⟩
  · exact ⟨mn_sK, o305_100⟩
  · exact ⟨mn_sGo, o305_101⟩
  · exact ⟨mn_sK, o305_104⟩
  · exact ⟨mn_sRI, o305_105⟩
  · exact ⟨mn_sX, ok_X⟩
theorem oc305 : ∀ pc, Mnp (c305 pc) ∧ Okp RX12 cX12_depthOfEnd 6 (some .int) "depthOfEnd" false pc (c305 pc) := by
  intro pc
  unfold c305
  split
  · exact oc305_0 pc
  · exact oc305_1 pc
  · exact oc305_2 pc
  · exact oc305_3 pc
  · exact oc305_4 pc
  · exact ⟨mn_sX, ok_X⟩
