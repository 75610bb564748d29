theorem o34_0 : Okp RX3 cX3_walkInstruction 6 none "walkInstruction" false 0 (sLR 2 1) := ok_aload_n (by decide +kernel : decode cX3_walkInstruction 0 = .ok (.aload_n 2, 1)) rfl
theorem o34_1 : Okp RX3 cX3_walkInstruction 6 none "walkInstruction" false 1 (sLR 0 2) := ok_aload_n (by decide +kernel : decode cX3_walkInstruction 1 = .ok (.aload_n 0, 1)) rfl
theorem o34_2 : Okp RX3 cX3_walkInstruction 6 none "walkInstruction" false 2 (sGR 4 0 5) := ok_getR (by decide +kernel : decode cX3_walkInstruction 2 = .ok (.getfield 14, 3)) fw_X3_14 rfl
theorem o34_5 : Okp RX3 cX3_walkInstruction 6 none "walkInstruction" false 5 (sGI 2 3 8) := ok_getI (by decide +kernel : decode cX3_walkInstruction 5 = .ok (.getfield 103, 3)) fw_X3_103 rfl
theorem o34_8 : Okp RX3 cX3_walkInstruction 6 none "walkInstruction" false 8 (sLR 2 9) := ok_aload_n (by decide +kernel : decode cX3_walkInstruction 8 = .ok (.aload_n 2, 1)) rfl
theorem o34_9 : Okp RX3 cX3_walkInstruction 6 none "walkInstruction" false 9 (sGI 8 5 12) := ok_getI (by decide +kernel : decode cX3_walkInstruction 9 = .ok (.getfield 117, 3)) fw_X3_117 rfl
theorem o34_12 : Okp RX3 cX3_walkInstruction 6 none "walkInstruction" false 12 (sB2 fSub 13) := ok_isub (by decide +kernel : decode cX3_walkInstruction 12 = .ok (.isub, 1))
theorem o34_13 : Okp RX3 cX3_walkInstruction 6 none "walkInstruction" false 13 (sCV false 109 2 8 16) := ok_cv (by decide +kernel : decode cX3_walkInstruction 13 = .ok (.invokevirtual 129, 3)) mw_X3_129 rfl (by decide) wm_X7_setBegin wse_X7_setBegin (by decide) rfl
theorem o34_16 : Okp RX3 cX3_walkInstruction 6 none "walkInstruction" false 16 (sLR 0 17) := ok_aload_n (by decide +kernel : decode cX3_walkInstruction 16 = .ok (.aload_n 0, 1)) rfl
theorem o34_17 : Okp RX3 cX3_walkInstruction 6 none "walkInstruction" false 17 (sGR 4 0 20) := ok_getR (by decide +kernel : decode cX3_walkInstruction 17 = .ok (.getfield 14, 3)) fw_X3_14 rfl
theorem o34_20 : Okp RX3 cX3_walkInstruction 6 none "walkInstruction" false 20 (sK 0 21) := ok_iconst (by decide +kernel : decode cX3_walkInstruction 20 = .ok (.iconst 0, 1)) (by decide)
theorem o34_21 : Okp RX3 cX3_walkInstruction 6 none "walkInstruction" false 21 (sGS 24) := ok_getstatic (by decide +kernel : decode cX3_walkInstruction 21 = .ok (.getstatic 132, 3)) ws_X3_132 (Or.inr ⟨_, rfl⟩)
theorem o34_24 : Okp RX3 cX3_walkInstruction 6 none "walkInstruction" false 24 (sLen 25) := ok_alen (by decide +kernel : decode cX3_walkInstruction 24 = .ok (.arraylength, 1))
theorem o34_25 : Okp RX3 cX3_walkInstruction 6 none "walkInstruction" false 25 (sK 1 26) := ok_iconst (by decide +kernel : decode cX3_walkInstruction 25 = .ok (.iconst 1, 1)) (by decide)
theorem o34_26 : Okp RX3 cX3_walkInstruction 6 none "walkInstruction" false 26 (sB2 fSub 27) := ok_isub (by decide +kernel : decode cX3_walkInstruction 26 = .ok (.isub, 1))
theorem o34_27 : Okp RX3 cX3_walkInstruction 6 none "walkInstruction" false 27 (sCV false 16 3 2 30) := ok_cv (by decide +kernel : decode cX3_walkInstruction 27 = .ok (.invokevirtual 39, 3)) mw_X3_39 rfl (by decide) wm_X1_takeWithin wse_X1_takeWithin (by decide) rfl
theorem o34_30 : Okp RX3 cX3_walkInstruction 6 none "walkInstruction" false 30 (sSI 3 31) := ok_istore_n (by decide +kernel : decode cX3_walkInstruction 30 = .ok (.istore_n 3, 1)) rfl (by decide) (by decide)
theorem o34_31 : Okp RX3 cX3_walkInstruction 6 none "walkInstruction" false 31 (sGS 34) := ok_getstatic (by decide +kernel : decode cX3_walkInstruction 31 = .ok (.getstatic 132, 3)) ws_X3_132 (Or.inr ⟨_, rfl⟩)
theorem o34_34 : Okp RX3 cX3_walkInstruction 6 none "walkInstruction" false 34 (sLI 3 35) := ok_iload_n (by decide +kernel : decode cX3_walkInstruction 34 = .ok (.iload_n 3, 1)) rfl
theorem o34_35 : Okp RX3 cX3_walkInstruction 6 none "walkInstruction" false 35 (sIA 36) := ok_iaload (by decide +kernel : decode cX3_walkInstruction 35 = .ok (.iaload, 1))
theorem o34_36 : Okp RX3 cX3_walkInstruction 6 none "walkInstruction" false 36 (sSw [(1, 92), (2, 103), (3, 121), (4, 129), (5, 141), (6, 154), (7, 166), (8, 175), (9, 187), (10, 200)] 235) := ok_tsw (by decide +kernel : decode cX3_walkInstruction 36 = .ok (.tableswitch 199 1 10 #[56, 67, 85, 93, 105, 118, 130, 139, 151, 164], 56)) (by decide) (by decide) (by decide)
theorem o34_92 : Okp RX3 cX3_walkInstruction 6 none "walkInstruction" false 92 (sLR 0 93) := ok_aload_n (by decide +kernel : decode cX3_walkInstruction 92 = .ok (.aload_n 0, 1)) rfl
theorem o34_93 : Okp RX3 cX3_walkInstruction 6 none "walkInstruction" false 93 (sGR 4 0 96) := ok_getR (by decide +kernel : decode cX3_walkInstruction 93 = .ok (.getfield 14, 3)) fw_X3_14 rfl
theorem o34_96 : Okp RX3 cX3_walkInstruction 6 none "walkInstruction" false 96 (sCV false 17 1 2 99) := ok_cv (by decide +kernel : decode cX3_walkInstruction 96 = .ok (.invokevirtual 135, 3)) mw_X3_135 rfl (by decide) wm_X1_takeWord wse_X1_takeWord (by decide) rfl
theorem o34_99 : Okp RX3 cX3_walkInstruction 6 none "walkInstruction" false 99 (sPop 100) := ok_pop (by decide +kernel : decode cX3_walkInstruction 99 = .ok (.pop, 1))
theorem o34_100 : Okp RX3 cX3_walkInstruction 6 none "walkInstruction" false 100 (sGo 235) := ok_goto (by decide +kernel : decode cX3_walkInstruction 100 = .ok (.goto 135, 3)) (by decide)
theorem o34_103 : Okp RX3 cX3_walkInstruction 6 none "walkInstruction" false 103 (sLR 0 104) := ok_aload_n (by decide +kernel : decode cX3_walkInstruction 103 = .ok (.aload_n 0, 1)) rfl
theorem o34_104 : Okp RX3 cX3_walkInstruction 6 none "walkInstruction" false 104 (sGR 4 0 107) := ok_getR (by decide +kernel : decode cX3_walkInstruction 104 = .ok (.getfield 14, 3)) fw_X3_14 rfl
theorem o34_107 : Okp RX3 cX3_walkInstruction 6 none "walkInstruction" false 107 (sK 0 108) := ok_iconst (by decide +kernel : decode cX3_walkInstruction 107 = .ok (.iconst 0, 1)) (by decide)
theorem o34_108 : Okp RX3 cX3_walkInstruction 6 none "walkInstruction" false 108 (sLR 2 109) := ok_aload_n (by decide +kernel : decode cX3_walkInstruction 108 = .ok (.aload_n 2, 1)) rfl
theorem o34_109 : Okp RX3 cX3_walkInstruction 6 none "walkInstruction" false 109 (sGI 8 3 112) := ok_getI (by decide +kernel : decode cX3_walkInstruction 109 = .ok (.getfield 139, 3)) fw_X3_139 rfl
theorem o34_112 : Okp RX3 cX3_walkInstruction 6 none "walkInstruction" false 112 (sK 1 113) := ok_iconst (by decide +kernel : decode cX3_walkInstruction 112 = .ok (.iconst 1, 1)) (by decide)
theorem o34_113 : Okp RX3 cX3_walkInstruction 6 none "walkInstruction" false 113 (sB2 fSub 114) := ok_isub (by decide +kernel : decode cX3_walkInstruction 113 = .ok (.isub, 1))
theorem o34_114 : Okp RX3 cX3_walkInstruction 6 none "walkInstruction" false 114 (sCV false 16 3 2 117) := ok_cv (by decide +kernel : decode cX3_walkInstruction 114 = .ok (.invokevirtual 39, 3)) mw_X3_39 rfl (by decide) wm_X1_takeWithin wse_X1_takeWithin (by decide) rfl
theorem o34_117 : Okp RX3 cX3_walkInstruction 6 none "walkInstruction" false 117 (sPop 118) := ok_pop (by decide +kernel : decode cX3_walkInstruction 117 = .ok (.pop, 1))
theorem o34_118 : Okp RX3 cX3_walkInstruction 6 none "walkInstruction" false 118 (sGo 235) := ok_goto (by decide +kernel : decode cX3_walkInstruction 118 = .ok (.goto 117, 3)) (by decide)
theorem o34_121 : Okp RX3 cX3_walkInstruction 6 none "walkInstruction" false 121 (sLR 0 122) := ok_aload_n (by decide +kernel : decode cX3_walkInstruction 121 = .ok (.aload_n 0, 1)) rfl
theorem o34_122 : Okp RX3 cX3_walkInstruction 6 none "walkInstruction" false 122 (sLR 2 123) := ok_aload_n (by decide +kernel : decode cX3_walkInstruction 122 = .ok (.aload_n 2, 1)) rfl
theorem o34_123 : Okp RX3 cX3_walkInstruction 6 none "walkInstruction" false 123 (sCV false 38 2 4 126) := ok_cv (by decide +kernel : decode cX3_walkInstruction 123 = .ok (.invokevirtual 142, 3)) mw_X3_142 rfl (by decide) wm_X3_takeTarget wse_X3_takeTarget (by decide) rfl
theorem o34_126 : Okp RX3 cX3_walkInstruction 6 none "walkInstruction" false 126 (sGo 235) := ok_goto (by decide +kernel : decode cX3_walkInstruction 126 = .ok (.goto 109, 3)) (by decide)
theorem o34_129 : Okp RX3 cX3_walkInstruction 6 none "walkInstruction" false 129 (sLR 0 130) := ok_aload_n (by decide +kernel : decode cX3_walkInstruction 129 = .ok (.aload_n 0, 1)) rfl
theorem o34_130 : Okp RX3 cX3_walkInstruction 6 none "walkInstruction" false 130 (sLR 1 131) := ok_aload_n (by decide +kernel : decode cX3_walkInstruction 130 = .ok (.aload_n 1, 1)) rfl
theorem o34_131 : Okp RX3 cX3_walkInstruction 6 none "walkInstruction" false 131 (sGI 10 2 134) := ok_getI (by decide +kernel : decode cX3_walkInstruction 131 = .ok (.getfield 43, 3)) fw_X3_43 rfl
theorem o34_134 : Okp RX3 cX3_walkInstruction 6 none "walkInstruction" false 134 (sCV false 36 2 4 137) := ok_cv (by decide +kernel : decode cX3_walkInstruction 134 = .ok (.invokevirtual 93, 3)) mw_X3_93 rfl (by decide) wm_X3_takeName wse_X3_takeName (by decide) rfl
theorem o34_137 : Okp RX3 cX3_walkInstruction 6 none "walkInstruction" false 137 (sPop 138) := ok_pop (by decide +kernel : decode cX3_walkInstruction 137 = .ok (.pop, 1))
theorem o34_138 : Okp RX3 cX3_walkInstruction 6 none "walkInstruction" false 138 (sGo 235) := ok_goto (by decide +kernel : decode cX3_walkInstruction 138 = .ok (.goto 97, 3)) (by decide)
theorem o34_141 : Okp RX3 cX3_walkInstruction 6 none "walkInstruction" false 141 (sLR 0 142) := ok_aload_n (by decide +kernel : decode cX3_walkInstruction 141 = .ok (.aload_n 0, 1)) rfl
theorem o34_142 : Okp RX3 cX3_walkInstruction 6 none "walkInstruction" false 142 (sGR 4 0 145) := ok_getR (by decide +kernel : decode cX3_walkInstruction 142 = .ok (.getfield 14, 3)) fw_X3_14 rfl
theorem o34_145 : Okp RX3 cX3_walkInstruction 6 none "walkInstruction" false 145 (sK 0 146) := ok_iconst (by decide +kernel : decode cX3_walkInstruction 145 = .ok (.iconst 0, 1)) (by decide)
theorem o34_146 : Okp RX3 cX3_walkInstruction 6 none "walkInstruction" false 146 (sK 5 147) := ok_iconst (by decide +kernel : decode cX3_walkInstruction 146 = .ok (.iconst 5, 1)) (by decide)
theorem o34_147 : Okp RX3 cX3_walkInstruction 6 none "walkInstruction" false 147 (sCV false 16 3 2 150) := ok_cv (by decide +kernel : decode cX3_walkInstruction 147 = .ok (.invokevirtual 39, 3)) mw_X3_39 rfl (by decide) wm_X1_takeWithin wse_X1_takeWithin (by decide) rfl
theorem o34_150 : Okp RX3 cX3_walkInstruction 6 none "walkInstruction" false 150 (sPop 151) := ok_pop (by decide +kernel : decode cX3_walkInstruction 150 = .ok (.pop, 1))
theorem o34_151 : Okp RX3 cX3_walkInstruction 6 none "walkInstruction" false 151 (sGo 235) := ok_goto (by decide +kernel : decode cX3_walkInstruction 151 = .ok (.goto 84, 3)) (by decide)
theorem o34_154 : Okp RX3 cX3_walkInstruction 6 none "walkInstruction" false 154 (sLR 0 155) := ok_aload_n (by decide +kernel : decode cX3_walkInstruction 154 = .ok (.aload_n 0, 1)) rfl
theorem o34_155 : Okp RX3 cX3_walkInstruction 6 none "walkInstruction" false 155 (sLR 1 156) := ok_aload_n (by decide +kernel : decode cX3_walkInstruction 155 = .ok (.aload_n 1, 1)) rfl
theorem o34_156 : Okp RX3 cX3_walkInstruction 6 none "walkInstruction" false 156 (sGI 10 8 159) := ok_getI (by decide +kernel : decode cX3_walkInstruction 156 = .ok (.getfield 56, 3)) fw_X3_56 rfl
theorem o34_159 : Okp RX3 cX3_walkInstruction 6 none "walkInstruction" false 159 (sCV false 36 2 4 162) := ok_cv (by decide +kernel : decode cX3_walkInstruction 159 = .ok (.invokevirtual 93, 3)) mw_X3_93 rfl (by decide) wm_X3_takeName wse_X3_takeName (by decide) rfl
theorem o34_162 : Okp RX3 cX3_walkInstruction 6 none "walkInstruction" false 162 (sPop 163) := ok_pop (by decide +kernel : decode cX3_walkInstruction 162 = .ok (.pop, 1))
theorem o34_163 : Okp RX3 cX3_walkInstruction 6 none "walkInstruction" false 163 (sGo 235) := ok_goto (by decide +kernel : decode cX3_walkInstruction 163 = .ok (.goto 72, 3)) (by decide)
theorem o34_166 : Okp RX3 cX3_walkInstruction 6 none "walkInstruction" false 166 (sLR 0 167) := ok_aload_n (by decide +kernel : decode cX3_walkInstruction 166 = .ok (.aload_n 0, 1)) rfl
theorem o34_167 : Okp RX3 cX3_walkInstruction 6 none "walkInstruction" false 167 (sLR 1 168) := ok_aload_n (by decide +kernel : decode cX3_walkInstruction 167 = .ok (.aload_n 1, 1)) rfl
theorem o34_168 : Okp RX3 cX3_walkInstruction 6 none "walkInstruction" false 168 (sCV false 37 2 4 171) := ok_cv (by decide +kernel : decode cX3_walkInstruction 168 = .ok (.invokevirtual 146, 3)) mw_X3_146 rfl (by decide) wm_X3_takeBlockRecord wse_X3_takeBlockRecord (by decide) rfl
theorem o34_171 : Okp RX3 cX3_walkInstruction 6 none "walkInstruction" false 171 (sPop 172) := ok_pop (by decide +kernel : decode cX3_walkInstruction 171 = .ok (.pop, 1))
theorem o34_172 : Okp RX3 cX3_walkInstruction 6 none "walkInstruction" false 172 (sGo 235) := ok_goto (by decide +kernel : decode cX3_walkInstruction 172 = .ok (.goto 63, 3)) (by decide)
theorem o34_175 : Okp RX3 cX3_walkInstruction 6 none "walkInstruction" false 175 (sLR 0 176) := ok_aload_n (by decide +kernel : decode cX3_walkInstruction 175 = .ok (.aload_n 0, 1)) rfl
theorem o34_176 : Okp RX3 cX3_walkInstruction 6 none "walkInstruction" false 176 (sLR 1 177) := ok_aload_n (by decide +kernel : decode cX3_walkInstruction 176 = .ok (.aload_n 1, 1)) rfl
theorem o34_177 : Okp RX3 cX3_walkInstruction 6 none "walkInstruction" false 177 (sGI 10 6 180) := ok_getI (by decide +kernel : decode cX3_walkInstruction 177 = .ok (.getfield 50, 3)) fw_X3_50 rfl
theorem o34_180 : Okp RX3 cX3_walkInstruction 6 none "walkInstruction" false 180 (sCV false 36 2 4 183) := ok_cv (by decide +kernel : decode cX3_walkInstruction 180 = .ok (.invokevirtual 93, 3)) mw_X3_93 rfl (by decide) wm_X3_takeName wse_X3_takeName (by decide) rfl
theorem o34_183 : Okp RX3 cX3_walkInstruction 6 none "walkInstruction" false 183 (sPop 184) := ok_pop (by decide +kernel : decode cX3_walkInstruction 183 = .ok (.pop, 1))
theorem o34_184 : Okp RX3 cX3_walkInstruction 6 none "walkInstruction" false 184 (sGo 235) := ok_goto (by decide +kernel : decode cX3_walkInstruction 184 = .ok (.goto 51, 3)) (by decide)
theorem o34_187 : Okp RX3 cX3_walkInstruction 6 none "walkInstruction" false 187 (sLR 0 188) := ok_aload_n (by decide +kernel : decode cX3_walkInstruction 187 = .ok (.aload_n 0, 1)) rfl
theorem o34_188 : Okp RX3 cX3_walkInstruction 6 none "walkInstruction" false 188 (sGR 4 0 191) := ok_getR (by decide +kernel : decode cX3_walkInstruction 188 = .ok (.getfield 14, 3)) fw_X3_14 rfl
theorem o34_191 : Okp RX3 cX3_walkInstruction 6 none "walkInstruction" false 191 (sK 0 192) := ok_iconst (by decide +kernel : decode cX3_walkInstruction 191 = .ok (.iconst 0, 1)) (by decide)
theorem o34_192 : Okp RX3 cX3_walkInstruction 6 none "walkInstruction" false 192 (sK 3 193) := ok_iconst (by decide +kernel : decode cX3_walkInstruction 192 = .ok (.iconst 3, 1)) (by decide)
theorem o34_193 : Okp RX3 cX3_walkInstruction 6 none "walkInstruction" false 193 (sCV false 16 3 2 196) := ok_cv (by decide +kernel : decode cX3_walkInstruction 193 = .ok (.invokevirtual 39, 3)) mw_X3_39 rfl (by decide) wm_X1_takeWithin wse_X1_takeWithin (by decide) rfl
theorem o34_196 : Okp RX3 cX3_walkInstruction 6 none "walkInstruction" false 196 (sPop 197) := ok_pop (by decide +kernel : decode cX3_walkInstruction 196 = .ok (.pop, 1))
theorem o34_197 : Okp RX3 cX3_walkInstruction 6 none "walkInstruction" false 197 (sGo 235) := ok_goto (by decide +kernel : decode cX3_walkInstruction 197 = .ok (.goto 38, 3)) (by decide)
theorem o34_200 : Okp RX3 cX3_walkInstruction 6 none "walkInstruction" false 200 (sLR 0 201) := ok_aload_n (by decide +kernel : decode cX3_walkInstruction 200 = .ok (.aload_n 0, 1)) rfl
theorem o34_201 : Okp RX3 cX3_walkInstruction 6 none "walkInstruction" false 201 (sGR 4 0 204) := ok_getR (by decide +kernel : decode cX3_walkInstruction 201 = .ok (.getfield 14, 3)) fw_X3_14 rfl
theorem o34_204 : Okp RX3 cX3_walkInstruction 6 none "walkInstruction" false 204 (sK 1 205) := ok_iconst (by decide +kernel : decode cX3_walkInstruction 204 = .ok (.iconst 1, 1)) (by decide)
theorem o34_205 : Okp RX3 cX3_walkInstruction 6 none "walkInstruction" false 205 (sK 4 206) := ok_iconst (by decide +kernel : decode cX3_walkInstruction 205 = .ok (.iconst 4, 1)) (by decide)
theorem o34_206 : Okp RX3 cX3_walkInstruction 6 none "walkInstruction" false 206 (sCV false 16 3 2 209) := ok_cv (by decide +kernel : decode cX3_walkInstruction 206 = .ok (.invokevirtual 39, 3)) mw_X3_39 rfl (by decide) wm_X1_takeWithin wse_X1_takeWithin (by decide) rfl
theorem o34_209 : Okp RX3 cX3_walkInstruction 6 none "walkInstruction" false 209 (sSI 4 211) := ok_istore (by decide +kernel : decode cX3_walkInstruction 209 = .ok (.istore 4, 2)) (by decide) (by decide)
theorem o34_211 : Okp RX3 cX3_walkInstruction 6 none "walkInstruction" false 211 (sK 0 212) := ok_iconst (by decide +kernel : decode cX3_walkInstruction 211 = .ok (.iconst 0, 1)) (by decide)
theorem o34_212 : Okp RX3 cX3_walkInstruction 6 none "walkInstruction" false 212 (sSI 5 214) := ok_istore (by decide +kernel : decode cX3_walkInstruction 212 = .ok (.istore 5, 2)) (by decide) (by decide)
theorem o34_214 : Okp RX3 cX3_walkInstruction 6 none "walkInstruction" false 214 (sLI 5 216) := ok_iload (by decide +kernel : decode cX3_walkInstruction 214 = .ok (.iload 5, 2))
theorem o34_216 : Okp RX3 cX3_walkInstruction 6 none "walkInstruction" false 216 (sLI 4 218) := ok_iload (by decide +kernel : decode cX3_walkInstruction 216 = .ok (.iload 4, 2))
theorem o34_218 : Okp RX3 cX3_walkInstruction 6 none "walkInstruction" false 218 (sI2 3 232 221) := ok_icmp_ge (by decide +kernel : decode cX3_walkInstruction 218 = .ok (.if_icmp .ge 14, 3)) (by decide)
theorem o34_221 : Okp RX3 cX3_walkInstruction 6 none "walkInstruction" false 221 (sLR 0 222) := ok_aload_n (by decide +kernel : decode cX3_walkInstruction 221 = .ok (.aload_n 0, 1)) rfl
theorem o34_222 : Okp RX3 cX3_walkInstruction 6 none "walkInstruction" false 222 (sLR 2 223) := ok_aload_n (by decide +kernel : decode cX3_walkInstruction 222 = .ok (.aload_n 2, 1)) rfl
theorem o34_223 : Okp RX3 cX3_walkInstruction 6 none "walkInstruction" false 223 (sCV false 38 2 4 226) := ok_cv (by decide +kernel : decode cX3_walkInstruction 223 = .ok (.invokevirtual 142, 3)) mw_X3_142 rfl (by decide) wm_X3_takeTarget wse_X3_takeTarget (by decide) rfl
theorem o34_226 : Okp RX3 cX3_walkInstruction 6 none "walkInstruction" false 226 (sInc 5 1 229) := ok_iinc (by decide +kernel : decode cX3_walkInstruction 226 = .ok (.iinc 5 1, 3)) (by decide) (by decide)
theorem o34_229 : Okp RX3 cX3_walkInstruction 6 none "walkInstruction" false 229 (sGo 214) := ok_goto (by decide +kernel : decode cX3_walkInstruction 229 = .ok (.goto (-15), 3)) (by decide)
theorem o34_232 : Okp RX3 cX3_walkInstruction 6 none "walkInstruction" false 232 (sGo 235) := ok_goto (by decide +kernel : decode cX3_walkInstruction 232 = .ok (.goto 3, 3)) (by decide)
theorem o34_235 : Okp RX3 cX3_walkInstruction 6 none "walkInstruction" false 235 sRV := ok_vret rfl (by decide +kernel : decode cX3_walkInstruction 235 = .ok (.return_, 1))
theorem oc34_0 : ∀ pc, Mnp (c34_0 pc) ∧ Okp RX3 cX3_walkInstruction 6 none "walkInstruction" false pc (c34_0 pc) := by
  intro pc
  unfold c34_0
  split
  · exact ⟨mn_sLR, o34_0⟩
  · exact ⟨mn_sLR, o34_1⟩
  · exact ⟨mn_sGR, o34_2⟩
  · exact ⟨mn_sGI, o34_5⟩
  · exact ⟨mn_sLR, o34_8⟩
  · exact ⟨mn_sGI, o34_9⟩
  · exact ⟨mn_sB2, o34_12⟩
  · exact ⟨mn_sCV, o34_13⟩
  · exact ⟨mn_sLR, o34_16⟩
  · exact ⟨mn_sGR, o34_17⟩
  · exact ⟨mn_sK, o34_20⟩
  · exact ⟨mn_sGS, o34_21⟩
  · exact ⟨mn_sX, ok_X⟩
theorem oc34_1 : ∀ pc, Mnp (c34_1 pc) ∧ Okp RX3 cX3_walkInstruction 6 none "walkInstruction" false pc (c34_1 pc) := by
  intro pc
  unfold c34_1
  split
  · exact ⟨mn_sLen, o34_24⟩
  · exact ⟨mn_sK, o34_25⟩
  · exact ⟨mn_sB2, o34_26⟩
  · exact ⟨mn_sCV, o34_27⟩
  · exact ⟨mn_sSI, o34_30⟩
  · exact ⟨mn_sGS, o34_31⟩
  · exact ⟨mn_sLI, o34_34⟩
  · exact ⟨mn_sIA, o34_35⟩
  · exact ⟨mn_sSw, o34_36⟩
  · exact ⟨mn_sX, ok_X⟩
theorem oc34_3 : ∀ pc, Mnp (c34_3 pc) ∧ Okp RX3 cX3_walkInstruction 6 none "walkInstruction" false pc (c34_3 pc) := by
  intro pc
  unfold c34_3
  split
  · exact ⟨mn_sLR, o34_92⟩
  · exact ⟨mn_sGR, o34_93⟩
  · exact ⟨mn_sX, ok_X⟩
theorem oc34_4 : ∀ pc, Mnp (c34_4 pc) ∧ Okp RX3 cX3_walkInstruction 6 none "walkInstruction" false pc (c34_4 pc) := by
  intro pc
  unfold c34_4
  split
  · exact ⟨mn_sCV, o34_96⟩
  · exact ⟨mn_sPop, o34_99⟩
  · exact ⟨mn_sGo, o34_100⟩
  · exact ⟨mn_sLR, o34_103⟩
  · exact ⟨mn_sGR, o34_104⟩
  · exact ⟨mn_sK, o34_107⟩
  · exact ⟨mn_sLR, o34_108⟩
  · exact ⟨mn_sGI, o34_109⟩
  · exact ⟨mn_sK, o34_112⟩
  · exact ⟨mn_sB2, o34_113⟩
  · exact ⟨mn_sCV, o34_114⟩
  · exact ⟨mn_sPop, o34_117⟩
  · exact ⟨mn_sGo, o34_118⟩
  · exact ⟨mn_sX, ok_X⟩
theorem oc34_5 : ∀ pc, Mnp (c34_5 pc) ∧ Okp RX3 cX3_walkInstruction 6 none "walkInstruction" false pc (c34_5 pc) := by
  intro pc
  unfold c34_5
  split
  · exact ⟨mn_sLR, o34_121⟩
  · exact ⟨mn_sLR, o34_122⟩
  · exact ⟨mn_sCV, o34_123⟩
  · exact ⟨mn_sGo, o34_126⟩
  · exact ⟨mn_sLR, o34_129⟩
  · exact ⟨mn_sLR, o34_130⟩
  · exact ⟨mn_sGI, o34_131⟩
  · exact ⟨mn_sCV, o34_134⟩
  · exact ⟨mn_sPop, o34_137⟩
  · exact ⟨mn_sGo, o34_138⟩
  · exact ⟨mn_sLR, o34_141⟩
  · exact ⟨mn_sGR, o34_142⟩
  · exact ⟨mn_sX, ok_X⟩
theorem oc34_6 : ∀ pc, Mnp (c34_6 pc) ∧ Okp RX3 cX3_walkInstruction 6 none "walkInstruction" false pc (c34_6 pc) := by
  intro pc
  unfold c34_6
  split
  · exact ⟨mn_sK, o34_145⟩
  · exact ⟨mn_sK, o34_146⟩
  · exact ⟨mn_sCV, o34_147⟩
  · exact ⟨mn_sPop, o34_150⟩
  · exact ⟨mn_sGo, o34_151⟩
  · exact ⟨mn_sLR, o34_154⟩
  · exact ⟨mn_sLR, o34_155⟩
  · exact ⟨mn_sGI, o34_156⟩
  · exact ⟨mn_sCV, o34_159⟩
  · exact ⟨mn_sPop, o34_162⟩
  · exact ⟨mn_sGo, o34_163⟩
  · exact ⟨mn_sLR, o34_166⟩
  · exact ⟨mn_sLR, o34_167⟩
  · exact ⟨mn_sX, ok_X⟩
theorem oc34_7 : ∀ pc, Mnp (c34_7 pc) ∧ Okp RX3 cX3_walkInstruction 6 none "walkInstruction" false pc (c34_7 pc) := by
  intro pc
  unfold c34_7
  split
  · exact ⟨mn_sCV, o34_168⟩
  · exact ⟨mn_sPop, o34_171⟩
  · exact ⟨mn_sGo, o34_172⟩
  · exact ⟨mn_sLR, o34_175⟩
  · exact ⟨mn_sLR, o34_176⟩
  · exact ⟨mn_sGI, o34_177⟩
  · exact ⟨mn_sCV, o34_180⟩
  · exact ⟨mn_sPop, o34_183⟩
  · exact ⟨mn_sGo, o34_184⟩
  · exact ⟨mn_sLR, o34_187⟩
  · exact ⟨mn_sGR, o34_188⟩
  · exact ⟨mn_sK, o34_191⟩
  · exact ⟨mn_sX, ok_X⟩
theorem oc34_8 : ∀ pc, Mnp (c34_8 pc) ∧ Okp RX3 cX3_walkInstruction 6 none "walkInstruction" false pc (c34_8 pc) := by
  intro pc
  unfold c34_8
  split
  · exact ⟨mn_sK, o34_192⟩
  · exact ⟨mn_sCV, o34_193⟩
  · exact ⟨mn_sPop, o34_196⟩
  · exact ⟨mn_sGo, o34_197⟩
  · exact ⟨mn_sLR, o34_200⟩
  · exact ⟨mn_sGR, o34_201⟩
  · exact ⟨mn_sK, o34_204⟩
  · exact ⟨mn_sK, o34_205⟩
  · exact ⟨mn_sCV, o34_206⟩
  · exact ⟨mn_sSI, o34_209⟩
  · exact ⟨mn_sK, o34_211⟩
  · exact ⟨mn_sSI, o34_212⟩
  · exact ⟨mn_sLI, o34_214⟩
  · exact ⟨mn_sX, ok_X⟩
theorem oc34_9 : ∀ pc, Mnp (c34_9 pc) ∧ Okp RX3 cX3_walkInstruction 6 none "walkInstruction" false pc (c34_9 pc) := by
  intro pc
  unfold c34_9
  split
  · exact ⟨mn_sLI, o34_216⟩
  · exact ⟨mn_sI2, o34_218⟩
  · exact ⟨mn_sLR, o34_221⟩
  · exact ⟨mn_sLR, o34_222⟩
  · exact ⟨mn_sCV, o34_223⟩
  · exact ⟨mn_sInc, o34_226⟩
  · exact ⟨mn_sGo, o34_229⟩
  · exact ⟨mn_sGo, o34_232⟩
  · exact ⟨mn_sRV, o34_235⟩
  · exact ⟨mn_sX, ok_X⟩
theorem oc34 : ∀ pc, Mnp (c34 pc) ∧ Okp RX3 cX3_walkInstruction 6 none "walkInstruction" false pc (c34 pc) := by
  intro pc
  unfold c34
  split
  · exact oc34_0 pc
  · exact oc34_1 pc
  · exact oc34_3 pc
  · exact oc34_4 pc
  · exact oc34_5 pc
  · exact oc34_6 pc
  · exact oc34_7 pc
  · exact oc34_8 pc
  · exact oc34_9 pc
  · exact ⟨mn_sX, ok_X⟩
theorem o35_0 : Okp RX3 cX3_takeType 8 (some .int) "takeType" false 0 (sLR 0 1) := ok_aload_n (by decide +kernel : decode cX3_takeType 0 = .ok (.aload_n 0, 1)) rfl
theorem o35_1 : Okp RX3 cX3_takeType 8 (some .int) "takeType" false 1 (sGR 4 0 4) := ok_getR (by decide +kernel : decode cX3_takeType 1 = .ok (.getfield 14, 3)) fw_X3_14 rfl
theorem o35_4 : Okp RX3 cX3_takeType 8 (some .int) "takeType" false 4 (sGI 2 3 7) := ok_getI (by decide +kernel : decode cX3_takeType 4 = .ok (.getfield 103, 3)) fw_X3_103 rfl
theorem o35_7 : Okp RX3 cX3_takeType 8 (some .int) "takeType" false 7 (sSI 3 8) := ok_istore_n (by decide +kernel : decode cX3_takeType 7 = .ok (.istore_n 3, 1)) rfl (by decide) (by decide)
theorem o35_8 : Okp RX3 cX3_takeType 8 (some .int) "takeType" false 8 (sLR 0 9) := ok_aload_n (by decide +kernel : decode cX3_takeType 8 = .ok (.aload_n 0, 1)) rfl
theorem o35_9 : Okp RX3 cX3_takeType 8 (some .int) "takeType" false 9 (sGR 4 0 12) := ok_getR (by decide +kernel : decode cX3_takeType 9 = .ok (.getfield 14, 3)) fw_X3_14 rfl
theorem o35_12 : Okp RX3 cX3_takeType 8 (some .int) "takeType" false 12 (sCV false 15 1 2 15) := ok_cv (by decide +kernel : decode cX3_takeType 12 = .ok (.invokevirtual 150, 3)) mw_X3_150 rfl (by decide) wm_X1_take wse_X1_take (by decide) rfl
theorem o35_15 : Okp RX3 cX3_takeType 8 (some .int) "takeType" false 15 (sSI 4 17) := ok_istore (by decide +kernel : decode cX3_takeType 15 = .ok (.istore 4, 2)) (by decide) (by decide)
theorem o35_17 : Okp RX3 cX3_takeType 8 (some .int) "takeType" false 17 (sLI 4 19) := ok_iload (by decide +kernel : decode cX3_takeType 17 = .ok (.iload 4, 2))
theorem o35_19 : Okp RX3 cX3_takeType 8 (some .int) "takeType" false 19 (sK 255 22) := ok_sipush (by decide +kernel : decode cX3_takeType 19 = .ok (.sipush 255, 3)) (by decide)
theorem o35_22 : Okp RX3 cX3_takeType 8 (some .int) "takeType" false 22 (sI2 1 34 25) := ok_icmp_ne (by decide +kernel : decode cX3_takeType 22 = .ok (.if_icmp .ne 12, 3)) (by decide)
theorem o35_25 : Okp RX3 cX3_takeType 8 (some .int) "takeType" false 25 (sLI 2 26) := ok_iload_n (by decide +kernel : decode cX3_takeType 25 = .ok (.iload_n 2, 1)) rfl
theorem o35_26 : Okp RX3 cX3_takeType 8 (some .int) "takeType" false 26 (sK 64 28) := ok_bipush (by decide +kernel : decode cX3_takeType 26 = .ok (.bipush 64, 2)) (by decide)
theorem o35_28 : Okp RX3 cX3_takeType 8 (some .int) "takeType" false 28 (sB2 fAnd 29) := ok_iand (by decide +kernel : decode cX3_takeType 28 = .ok (.iand, 1))
theorem o35_29 : Okp RX3 cX3_takeType 8 (some .int) "takeType" false 29 (sI1 0 34 32) := ok_if_eq (by decide +kernel : decode cX3_takeType 29 = .ok (.ifCond .eq 5, 3)) (by decide)
theorem o35_32 : Okp RX3 cX3_takeType 8 (some .int) "takeType" false 32 (sK (-1) 33) := ok_iconst (by decide +kernel : decode cX3_takeType 32 = .ok (.iconst (-1), 1)) (by decide)
theorem o35_33 : Okp RX3 cX3_takeType 8 (some .int) "takeType" false 33 sRI := ok_iret rfl (by decide +kernel : decode cX3_takeType 33 = .ok (.ireturn, 1))
theorem o35_34 : Okp RX3 cX3_takeType 8 (some .int) "takeType" false 34 (sLI 4 36) := ok_iload (by decide +kernel : decode cX3_takeType 34 = .ok (.iload 4, 2))
theorem o35_36 : Okp RX3 cX3_takeType 8 (some .int) "takeType" false 36 (sK 5 37) := ok_iconst (by decide +kernel : decode cX3_takeType 36 = .ok (.iconst 5, 1)) (by decide)
theorem o35_37 : Okp RX3 cX3_takeType 8 (some .int) "takeType" false 37 (sI2 4 49 40) := ok_icmp_gt (by decide +kernel : decode cX3_takeType 37 = .ok (.if_icmp .gt 12, 3)) (by decide)
theorem o35_40 : Okp RX3 cX3_takeType 8 (some .int) "takeType" false 40 (sLI 2 41) := ok_iload_n (by decide +kernel : decode cX3_takeType 40 = .ok (.iload_n 2, 1)) rfl
theorem o35_41 : Okp RX3 cX3_takeType 8 (some .int) "takeType" false 41 (sLI 4 43) := ok_iload (by decide +kernel : decode cX3_takeType 41 = .ok (.iload 4, 2))
theorem o35_43 : Okp RX3 cX3_takeType 8 (some .int) "takeType" false 43 (sB2 fShr 44) := ok_ishr (by decide +kernel : decode cX3_takeType 43 = .ok (.ishr, 1))
theorem o35_44 : Okp RX3 cX3_takeType 8 (some .int) "takeType" false 44 (sK 1 45) := ok_iconst (by decide +kernel : decode cX3_takeType 44 = .ok (.iconst 1, 1)) (by decide)
theorem o35_45 : Okp RX3 cX3_takeType 8 (some .int) "takeType" false 45 (sB2 fAnd 46) := ok_iand (by decide +kernel : decode cX3_takeType 45 = .ok (.iand, 1))
theorem o35_46 : Okp RX3 cX3_takeType 8 (some .int) "takeType" false 46 (sI1 1 60 49) := ok_if_ne (by decide +kernel : decode cX3_takeType 46 = .ok (.ifCond .ne 14, 3)) (by decide)
theorem o35_49 : Okp RX3 cX3_takeType 8 (some .int) "takeType" false 49 (sLR 0 50) := ok_aload_n (by decide +kernel : decode cX3_takeType 49 = .ok (.aload_n 0, 1)) rfl
theorem o35_50 : Okp RX3 cX3_takeType 8 (some .int) "takeType" false 50 (sGR 4 0 53) := ok_getR (by decide +kernel : decode cX3_takeType 50 = .ok (.getfield 14, 3)) fw_X3_14 rfl
theorem o35_53 : Okp RX3 cX3_takeType 8 (some .int) "takeType" false 53 (sK 1 54) := ok_iconst (by decide +kernel : decode cX3_takeType 53 = .ok (.iconst 1, 1)) (by decide)
theorem o35_54 : Okp RX3 cX3_takeType 8 (some .int) "takeType" false 54 (sLI 3 55) := ok_iload_n (by decide +kernel : decode cX3_takeType 54 = .ok (.iload_n 3, 1)) rfl
theorem o35_55 : Okp RX3 cX3_takeType 8 (some .int) "takeType" false 55 (sCV false 13 3 2 58) := ok_cv (by decide +kernel : decode cX3_takeType 55 = .ok (.invokevirtual 153, 3)) mw_X3_153 rfl (by decide) wm_X1_fail wse_X1_fail (by decide) rfl
theorem o35_58 : Okp RX3 cX3_takeType 8 (some .int) "takeType" false 58 (sK 0 59) := ok_iconst (by decide +kernel : decode cX3_takeType 58 = .ok (.iconst 0, 1)) (by decide)
theorem o35_59 : Okp RX3 cX3_takeType 8 (some .int) "takeType" false 59 sRI := ok_iret rfl (by decide +kernel : decode cX3_takeType 59 = .ok (.ireturn, 1))
theorem o35_60 : Okp RX3 cX3_takeType 8 (some .int) "takeType" false 60 (sLI 4 62) := ok_iload (by decide +kernel : decode cX3_takeType 60 = .ok (.iload 4, 2))
theorem o35_62 : Okp RX3 cX3_takeType 8 (some .int) "takeType" false 62 (sSw [(1, 96), (2, 178), (3, 96), (4, 110), (5, 121)] 178) := ok_tsw (by decide +kernel : decode cX3_takeType 62 = .ok (.tableswitch 116 1 5 #[34, 116, 34, 48, 59], 34)) (by decide) (by decide) (by decide)
theorem o35_96 : Okp RX3 cX3_takeType 8 (some .int) "takeType" false 96 (sLI 4 98) := ok_iload (by decide +kernel : decode cX3_takeType 96 = .ok (.iload 4, 2))
theorem o35_98 : Okp RX3 cX3_takeType 8 (some .int) "takeType" false 98 (sLR 0 99) := ok_aload_n (by decide +kernel : decode cX3_takeType 98 = .ok (.aload_n 0, 1)) rfl
theorem o35_99 : Okp RX3 cX3_takeType 8 (some .int) "takeType" false 99 (sLR 1 100) := ok_aload_n (by decide +kernel : decode cX3_takeType 99 = .ok (.aload_n 1, 1)) rfl
theorem o35_100 : Okp RX3 cX3_takeType 8 (some .int) "takeType" false 100 (sGI 10 2 103) := ok_getI (by decide +kernel : decode cX3_takeType 100 = .ok (.getfield 43, 3)) fw_X3_43 rfl
theorem o35_103 : Okp RX3 cX3_takeType 8 (some .int) "takeType" false 103 (sCV false 36 2 4 106) := ok_cv (by decide +kernel : decode cX3_takeType 103 = .ok (.invokevirtual 93, 3)) mw_X3_93 rfl (by decide) wm_X3_takeName wse_X3_takeName (by decide) rfl
theorem o35_106 : Okp RX3 cX3_takeType 8 (some .int) "takeType" false 106 (sCS false 205 2 109) := ok_cs (by decide +kernel : decode cX3_takeType 106 = .ok (.invokestatic 156, 3)) mw_X3_156 wt_X11_typeOf (by decide) rfl
theorem o35_109 : Okp RX3 cX3_takeType 8 (some .int) "takeType" false 109 sRI := ok_iret rfl (by decide +kernel : decode cX3_takeType 109 = .ok (.ireturn, 1))
theorem o35_110 : Okp RX3 cX3_takeType 8 (some .int) "takeType" false 110 (sLI 4 112) := ok_iload (by decide +kernel : decode cX3_takeType 110 = .ok (.iload 4, 2))
theorem o35_112 : Okp RX3 cX3_takeType 8 (some .int) "takeType" false 112 (sLR 0 113) := ok_aload_n (by decide +kernel : decode cX3_takeType 112 = .ok (.aload_n 0, 1)) rfl
theorem o35_113 : Okp RX3 cX3_takeType 8 (some .int) "takeType" false 113 (sLR 1 114) := ok_aload_n (by decide +kernel : decode cX3_takeType 113 = .ok (.aload_n 1, 1)) rfl
theorem o35_114 : Okp RX3 cX3_takeType 8 (some .int) "takeType" false 114 (sCV false 37 2 4 117) := ok_cv (by decide +kernel : decode cX3_takeType 114 = .ok (.invokevirtual 146, 3)) mw_X3_146 rfl (by decide) wm_X3_takeBlockRecord wse_X3_takeBlockRecord (by decide) rfl
theorem o35_117 : Okp RX3 cX3_takeType 8 (some .int) "takeType" false 117 (sCS false 205 2 120) := ok_cs (by decide +kernel : decode cX3_takeType 117 = .ok (.invokestatic 156, 3)) mw_X3_156 wt_X11_typeOf (by decide) rfl
theorem o35_120 : Okp RX3 cX3_takeType 8 (some .int) "takeType" false 120 sRI := ok_iret rfl (by decide +kernel : decode cX3_takeType 120 = .ok (.ireturn, 1))
theorem o35_121 : Okp RX3 cX3_takeType 8 (some .int) "takeType" false 121 (sLR 0 122) := ok_aload_n (by decide +kernel : decode cX3_takeType 121 = .ok (.aload_n 0, 1)) rfl
theorem o35_122 : Okp RX3 cX3_takeType 8 (some .int) "takeType" false 122 (sLR 1 123) := ok_aload_n (by decide +kernel : decode cX3_takeType 122 = .ok (.aload_n 1, 1)) rfl
theorem o35_123 : Okp RX3 cX3_takeType 8 (some .int) "takeType" false 123 (sGI 10 6 126) := ok_getI (by decide +kernel : decode cX3_takeType 123 = .ok (.getfield 50, 3)) fw_X3_50 rfl
theorem o35_126 : Okp RX3 cX3_takeType 8 (some .int) "takeType" false 126 (sCV false 36 2 4 129) := ok_cv (by decide +kernel : decode cX3_takeType 126 = .ok (.invokevirtual 93, 3)) mw_X3_93 rfl (by decide) wm_X3_takeName wse_X3_takeName (by decide) rfl
theorem o35_129 : Okp RX3 cX3_takeType 8 (some .int) "takeType" false 129 (sSI 5 131) := ok_istore (by decide +kernel : decode cX3_takeType 129 = .ok (.istore 5, 2)) (by decide) (by decide)
theorem o35_131 : Okp RX3 cX3_takeType 8 (some .int) "takeType" false 131 (sLR 1 132) := ok_aload_n (by decide +kernel : decode cX3_takeType 131 = .ok (.aload_n 1, 1)) rfl
theorem o35_132 : Okp RX3 cX3_takeType 8 (some .int) "takeType" false 132 (sLI 5 134) := ok_iload (by decide +kernel : decode cX3_takeType 132 = .ok (.iload 5, 2))
theorem o35_134 : Okp RX3 cX3_takeType 8 (some .int) "takeType" false 134 (sCV false 148 2 10 137) := ok_cv (by decide +kernel : decode cX3_takeType 134 = .ok (.invokevirtual 86, 3)) mw_X3_86 rfl (by decide) wm_X9_contractAt wse_X9_contractAt (by decide) rfl
theorem o35_137 : Okp RX3 cX3_takeType 8 (some .int) "takeType" false 137 (sSR 6 139) := ok_astore (by decide +kernel : decode cX3_takeType 137 = .ok (.astore 6, 2)) (by decide) (by decide)
theorem o35_139 : Okp RX3 cX3_takeType 8 (some .int) "takeType" false 139 (sLR 0 140) := ok_aload_n (by decide +kernel : decode cX3_takeType 139 = .ok (.aload_n 0, 1)) rfl
theorem o35_140 : Okp RX3 cX3_takeType 8 (some .int) "takeType" false 140 (sLR 6 142) := ok_aload (by decide +kernel : decode cX3_takeType 140 = .ok (.aload 6, 2))
theorem o35_142 : Okp RX3 cX3_takeType 8 (some .int) "takeType" false 142 (sNl 145 151) := ok_ifnonnull (by decide +kernel : decode cX3_takeType 142 = .ok (.ifnonnull 9, 3)) (by decide)
theorem o35_145 : Okp RX3 cX3_takeType 8 (some .int) "takeType" false 145 (sK 256 148) := ok_sipush (by decide +kernel : decode cX3_takeType 145 = .ok (.sipush 256, 3)) (by decide)
theorem o35_148 : Okp RX3 cX3_takeType 8 (some .int) "takeType" false 148 (sGo 156) := ok_goto (by decide +kernel : decode cX3_takeType 148 = .ok (.goto 8, 3)) (by decide)
theorem o35_151 : Okp RX3 cX3_takeType 8 (some .int) "takeType" false 151 (sLR 6 153) := ok_aload (by decide +kernel : decode cX3_takeType 151 = .ok (.aload 6, 2))
theorem o35_153 : Okp RX3 cX3_takeType 8 (some .int) "takeType" false 153 (sGI 3 0 156) := ok_getI (by decide +kernel : decode cX3_takeType 153 = .ok (.getfield 159, 3)) fw_X3_159 rfl
theorem o35_156 : Okp RX3 cX3_takeType 8 (some .int) "takeType" false 156 (sCV false 36 2 4 159) := ok_cv (by decide +kernel : decode cX3_takeType 156 = .ok (.invokevirtual 93, 3)) mw_X3_93 rfl (by decide) wm_X3_takeName wse_X3_takeName (by decide) rfl
theorem o35_159 : Okp RX3 cX3_takeType 8 (some .int) "takeType" false 159 (sSI 7 161) := ok_istore (by decide +kernel : decode cX3_takeType 159 = .ok (.istore 7, 2)) (by decide) (by decide)
theorem o35_161 : Okp RX3 cX3_takeType 8 (some .int) "takeType" false 161 (sLI 5 163) := ok_iload (by decide +kernel : decode cX3_takeType 161 = .ok (.iload 5, 2))
theorem o35_163 : Okp RX3 cX3_takeType 8 (some .int) "takeType" false 163 (sLI 7 165) := ok_iload (by decide +kernel : decode cX3_takeType 163 = .ok (.iload 7, 2))
theorem o35_165 : Okp RX3 cX3_takeType 8 (some .int) "takeType" false 165 (sLR 0 166) := ok_aload_n (by decide +kernel : decode cX3_takeType 165 = .ok (.aload_n 0, 1)) rfl
theorem o35_166 : Okp RX3 cX3_takeType 8 (some .int) "takeType" false 166 (sGR 4 0 169) := ok_getR (by decide +kernel : decode cX3_takeType 166 = .ok (.getfield 14, 3)) fw_X3_14 rfl
theorem o35_169 : Okp RX3 cX3_takeType 8 (some .int) "takeType" false 169 (sK 0 170) := ok_iconst (by decide +kernel : decode cX3_takeType 169 = .ok (.iconst 0, 1)) (by decide)
theorem o35_170 : Okp RX3 cX3_takeType 8 (some .int) "takeType" false 170 (sK 1 171) := ok_iconst (by decide +kernel : decode cX3_takeType 170 = .ok (.iconst 1, 1)) (by decide)
theorem o35_171 : Okp RX3 cX3_takeType 8 (some .int) "takeType" false 171 (sCV false 16 3 2 174) := ok_cv (by decide +kernel : decode cX3_takeType 171 = .ok (.invokevirtual 39, 3)) mw_X3_39 rfl (by decide) wm_X1_takeWithin wse_X1_takeWithin (by decide) rfl
theorem o35_174 : Okp RX3 cX3_takeType 8 (some .int) "takeType" false 174 (sCS false 206 3 177) := ok_cs (by decide +kernel : decode cX3_takeType 174 = .ok (.invokestatic 162, 3)) mw_X3_162 wt_X11_endType (by decide) rfl
theorem o35_177 : Okp RX3 cX3_takeType 8 (some .int) "takeType" false 177 sRI := ok_iret rfl (by decide +kernel : decode cX3_takeType 177 = .ok (.ireturn, 1))
theorem o35_178 : Okp RX3 cX3_takeType 8 (some .int) "takeType" false 178 (sLI 4 180) := ok_iload (by decide +kernel : decode cX3_takeType 178 = .ok (.iload 4, 2))
theorem o35_180 : Okp RX3 cX3_takeType 8 (some .int) "takeType" false 180 sRI := ok_iret rfl (by decide +kernel : decode cX3_takeType 180 = .ok (.ireturn, 1))
theorem oc35_0 : ∀ pc, Mnp (c35_0 pc) ∧ Okp RX3 cX3_takeType 8 (some .int) "takeType" false pc (c35_0 pc) := by
  intro pc
  unfold c35_0
  split
  · exact ⟨mn_sLR, o35_0⟩
  · exact ⟨mn_sGR, o35_1⟩
  · exact ⟨mn_sGI, o35_4⟩
  · exact ⟨mn_sSI, o35_7⟩
  · exact ⟨mn_sLR, o35_8⟩
  · exact ⟨mn_sGR, o35_9⟩
  · exact ⟨mn_sCV, o35_12⟩
  · exact ⟨mn_sSI, o35_15⟩
  · exact ⟨mn_sLI, o35_17⟩
  · exact ⟨mn_sK, o35_19⟩
  · exact ⟨mn_sI2, o35_22⟩
  · exact ⟨mn_sX, ok_X⟩
theorem oc35_1 : ∀ pc, Mnp (c35_1 pc) ∧ Okp RX3 cX3_takeType 8 (some .int) "takeType" false pc (c35_1 pc) := by
  intro pc
  unfold c35_1
  split
  · exact ⟨mn_sLI, o35_25⟩
  · exact ⟨mn_sK, o35_26⟩
  · exact ⟨mn_sB2, o35_28⟩
  · exact ⟨mn_sI1, o35_29⟩
  · exact ⟨mn_sK, o35_32⟩
  · exact ⟨mn_sRI, o35_33⟩
  · exact ⟨mn_sLI, o35_34⟩
  · exact ⟨mn_sK, o35_36⟩
  · exact ⟨mn_sI2, o35_37⟩
  · exact ⟨mn_sLI, o35_40⟩
  · exact ⟨mn_sLI, o35_41⟩
  · exact ⟨mn_sB2, o35_43⟩
  · exact ⟨mn_sK, o35_44⟩
  · exact ⟨mn_sB2, o35_45⟩
  · exact ⟨mn_sI1, o35_46⟩
  · exact ⟨mn_sX, ok_X⟩
theorem oc35_2 : ∀ pc, Mnp (c35_2 pc) ∧ Okp RX3 cX3_takeType 8 (some .int) "takeType" false pc (c35_2 pc) := by
  intro pc
  unfold c35_2
  split
  · exact ⟨mn_sLR, o35_49⟩
  · exact ⟨mn_sGR, o35_50⟩
  · exact ⟨mn_sK, o35_53⟩
  · exact ⟨mn_sLI, o35_54⟩
  · exact ⟨mn_sCV, o35_55⟩
  · exact ⟨mn_sK, o35_58⟩
  · exact ⟨mn_sRI, o35_59⟩
  · exact ⟨mn_sLI, o35_60⟩
  · exact ⟨mn_sSw, o35_62⟩
  · exact ⟨mn_sX, ok_X⟩
theorem oc35_4 : ∀ pc, Mnp (c35_4 pc) ∧ Okp RX3 cX3_takeType 8 (some .int) "takeType" false pc (c35_4 pc) := by
  intro pc
  unfold c35_4
  split
  · exact ⟨mn_sLI, o35_96⟩
  · exact ⟨mn_sLR, o35_98⟩
  · exact ⟨mn_sLR, o35_99⟩
  · exact ⟨mn_sGI, o35_100⟩
  · exact ⟨mn_sCV, o35_103⟩
  · exact ⟨mn_sCS, o35_106⟩
  · exact ⟨mn_sRI, o35_109⟩
  · exact ⟨mn_sLI, o35_110⟩
  · exact ⟨mn_sLR, o35_112⟩
  · exact ⟨mn_sLR, o35_113⟩
  · exact ⟨mn_sCV, o35_114⟩
  · exact ⟨mn_sCS, o35_117⟩
  · exact ⟨mn_sX, ok_X⟩
theorem oc35_5 : ∀ pc, Mnp (c35_5 pc) ∧ Okp RX3 cX3_takeType 8 (some .int) "takeType" false pc (c35_5 pc) := by
  intro pc
  unfold c35_5
  split
  · exact ⟨mn_sRI, o35_120⟩
  · exact ⟨mn_sLR, o35_121⟩
  · exact ⟨mn_sLR, o35_122⟩
  · exact ⟨mn_sGI, o35_123⟩
  · exact ⟨mn_sCV, o35_126⟩
  · exact ⟨mn_sSI, o35_129⟩
  · exact ⟨mn_sLR, o35_131⟩
  · exact ⟨mn_sLI, o35_132⟩
  · exact ⟨mn_sCV, o35_134⟩
  · exact ⟨mn_sSR, o35_137⟩
  · exact ⟨mn_sLR, o35_139⟩
  · exact ⟨mn_sLR, o35_140⟩
  · exact ⟨mn_sNl, o35_142⟩
  · exact ⟨mn_sX, ok_X⟩
theorem oc35_6 : ∀ pc, Mnp (c35_6 pc) ∧ Okp RX3 cX3_takeType 8 (some .int) "takeType" false pc (c35_6 pc) := by
  intro pc
  unfold c35_6
  split
  · exact ⟨mn_sK, o35_145⟩
  · exact ⟨mn_sGo, o35_148⟩
  · exact ⟨mn_sLR, o35_151⟩
  · exact ⟨mn_sGI, o35_153⟩
  · exact ⟨mn_sCV, o35_156⟩
  · exact ⟨mn_sSI, o35_159⟩
  · exact ⟨mn_sLI, o35_161⟩
  · exact ⟨mn_sLI, o35_163⟩
  · exact ⟨mn_sLR, o35_165⟩
  · exact ⟨mn_sGR, o35_166⟩
  · exact ⟨mn_sX, ok_X⟩
theorem oc35_7 : ∀ pc, Mnp (c35_7 pc) ∧ Okp RX3 cX3_takeType 8 (some .int) "takeType" false pc (c35_7 pc) := by
  intro pc
  unfold c35_7
  split
  · exact ⟨mn_sK, o35_169⟩
  · exact ⟨mn_sK, o35_170⟩
  · exact ⟨mn_sCV, o35_171⟩
  · exact ⟨mn_sCS, o35_174⟩
  · exact ⟨mn_sRI, o35_177⟩
  · exact ⟨mn_sLI, o35_178⟩
  · exact ⟨mn_sRI, o35_180⟩
  · exact ⟨mn_sX, ok_X⟩
theorem oc35 : ∀ pc, Mnp (c35 pc) ∧ Okp RX3 cX3_takeType 8 (some .int) "takeType" false pc (c35 pc) := by
  intro pc
  unfold c35
  split
  · exact oc35_0 pc
  · exact oc35_1 pc
  · exact oc35_2 pc
  · exact oc35_4 pc
  · exact oc35_5 pc
  · exact oc35_6 pc
  · exact oc35_7 pc
  · exact ⟨mn_sX, ok_X⟩
theorem o36_0 : Okp RX3 cX3_takeName 4 (some .int) "takeName" false 0 (sLR 0 1) := ok_aload_n (by decide +kernel : decode cX3_takeName 0 = .ok (.aload_n 0, 1)) rfl
theorem o36_1 : Okp RX3 cX3_takeName 4 (some .int) "takeName" false 1 (sGR 4 0 4) := ok_getR (by decide +kernel : decode cX3_takeName 1 = .ok (.getfield 14, 3)) fw_X3_14 rfl
theorem o36_4 : Okp RX3 cX3_takeName 4 (some .int) "takeName" false 4 (sGI 2 3 7) := ok_getI (by decide +kernel : decode cX3_takeName 4 = .ok (.getfield 103, 3)) fw_X3_103 rfl
theorem o36_7 : Okp RX3 cX3_takeName 4 (some .int) "takeName" false 7 (sSI 2 8) := ok_istore_n (by decide +kernel : decode cX3_takeName 7 = .ok (.istore_n 2, 1)) rfl (by decide) (by decide)
theorem o36_8 : Okp RX3 cX3_takeName 4 (some .int) "takeName" false 8 (sLR 0 9) := ok_aload_n (by decide +kernel : decode cX3_takeName 8 = .ok (.aload_n 0, 1)) rfl
theorem o36_9 : Okp RX3 cX3_takeName 4 (some .int) "takeName" false 9 (sGR 4 0 12) := ok_getR (by decide +kernel : decode cX3_takeName 9 = .ok (.getfield 14, 3)) fw_X3_14 rfl
theorem o36_12 : Okp RX3 cX3_takeName 4 (some .int) "takeName" false 12 (sCV false 15 1 2 15) := ok_cv (by decide +kernel : decode cX3_takeName 12 = .ok (.invokevirtual 150, 3)) mw_X3_150 rfl (by decide) wm_X1_take wse_X1_take (by decide) rfl
theorem o36_15 : Okp RX3 cX3_takeName 4 (some .int) "takeName" false 15 (sSI 3 16) := ok_istore_n (by decide +kernel : decode cX3_takeName 15 = .ok (.istore_n 3, 1)) rfl (by decide) (by decide)
theorem o36_16 : Okp RX3 cX3_takeName 4 (some .int) "takeName" false 16 (sLR 0 17) := ok_aload_n (by decide +kernel : decode cX3_takeName 16 = .ok (.aload_n 0, 1)) rfl
theorem o36_17 : Okp RX3 cX3_takeName 4 (some .int) "takeName" false 17 (sGI 4 1 20) := ok_getI (by decide +kernel : decode cX3_takeName 17 = .ok (.getfield 18, 3)) fw_X3_18 rfl
theorem o36_20 : Okp RX3 cX3_takeName 4 (some .int) "takeName" false 20 (sI1 0 37 23) := ok_if_eq (by decide +kernel : decode cX3_takeName 20 = .ok (.ifCond .eq 17, 3)) (by decide)
theorem o36_23 : Okp RX3 cX3_takeName 4 (some .int) "takeName" false 23 (sLI 3 24) := ok_iload_n (by decide +kernel : decode cX3_takeName 23 = .ok (.iload_n 3, 1)) rfl
theorem o36_24 : Okp RX3 cX3_takeName 4 (some .int) "takeName" false 24 (sLI 1 25) := ok_iload_n (by decide +kernel : decode cX3_takeName 24 = .ok (.iload_n 1, 1)) rfl
theorem o36_25 : Okp RX3 cX3_takeName 4 (some .int) "takeName" false 25 (sI2 2 37 28) := ok_icmp_lt (by decide +kernel : decode cX3_takeName 25 = .ok (.if_icmp .lt 12, 3)) (by decide)
theorem o36_28 : Okp RX3 cX3_takeName 4 (some .int) "takeName" false 28 (sLR 0 29) := ok_aload_n (by decide +kernel : decode cX3_takeName 28 = .ok (.aload_n 0, 1)) rfl
theorem o36_29 : Okp RX3 cX3_takeName 4 (some .int) "takeName" false 29 (sGR 4 0 32) := ok_getR (by decide +kernel : decode cX3_takeName 29 = .ok (.getfield 14, 3)) fw_X3_14 rfl
theorem o36_32 : Okp RX3 cX3_takeName 4 (some .int) "takeName" false 32 (sK 1 33) := ok_iconst (by decide +kernel : decode cX3_takeName 32 = .ok (.iconst 1, 1)) (by decide)
theorem o36_33 : Okp RX3 cX3_takeName 4 (some .int) "takeName" false 33 (sLI 2 34) := ok_iload_n (by decide +kernel : decode cX3_takeName 33 = .ok (.iload_n 2, 1)) rfl
theorem o36_34 : Okp RX3 cX3_takeName 4 (some .int) "takeName" false 34 (sCV false 13 3 2 37) := ok_cv (by decide +kernel : decode cX3_takeName 34 = .ok (.invokevirtual 153, 3)) mw_X3_153 rfl (by decide) wm_X1_fail wse_X1_fail (by decide) rfl
theorem o36_37 : Okp RX3 cX3_takeName 4 (some .int) "takeName" false 37 (sLI 3 38) := ok_iload_n (by decide +kernel : decode cX3_takeName 37 = .ok (.iload_n 3, 1)) rfl
theorem o36_38 : Okp RX3 cX3_takeName 4 (some .int) "takeName" false 38 sRI := ok_iret rfl (by decide +kernel : decode cX3_takeName 38 = .ok (.ireturn, 1))
theorem oc36_0 : ∀ pc, Mnp (c36_0 pc) ∧ Okp RX3 cX3_takeName 4 (some .int) "takeName" false pc (c36_0 pc) := by
  intro pc
  unfold c36_0
  split
  · exact ⟨mn_sLR, o36_0⟩
  · exact ⟨mn_sGR, o36_1⟩
  · exact ⟨mn_sGI, o36_4⟩
  · exact ⟨mn_sSI, o36_7⟩
  · exact ⟨mn_sLR, o36_8⟩
  · exact ⟨mn_sGR, o36_9⟩
  · exact ⟨mn_sCV, o36_12⟩
  · exact ⟨mn_sSI, o36_15⟩
  · exact ⟨mn_sLR, o36_16⟩
  · exact ⟨mn_sGI, o36_17⟩
  · exact ⟨mn_sI1, o36_20⟩
  · exact ⟨mn_sLI, o36_23⟩
  · exact ⟨mn_sX, ok_X⟩
theorem oc36_1 : ∀ pc, Mnp (c36_1 pc) ∧ Okp RX3 cX3_takeName 4 (some .int) "takeName" false pc (c36_1 pc) := by
  intro pc
  unfold c36_1
  split
  · exact ⟨mn_sLI, o36_24⟩
  · exact ⟨mn_sI2, o36_25⟩
  · exact ⟨mn_sLR, o36_28⟩
  · exact ⟨mn_sGR, o36_29⟩
  · exact ⟨mn_sK, o36_32⟩
  · exact ⟨mn_sLI, o36_33⟩
  · exact ⟨mn_sCV, o36_34⟩
  · exact ⟨mn_sLI, o36_37⟩
  · exact ⟨mn_sRI, o36_38⟩
  · exact ⟨mn_sX, ok_X⟩
theorem oc36 : ∀ pc, Mnp (c36 pc) ∧ Okp RX3 cX3_takeName 4 (some .int) "takeName" false pc (c36 pc) := by
  intro pc
  unfold c36
  split
  · exact oc36_0 pc
  · exact oc36_1 pc
  · exact ⟨mn_sX, ok_X⟩
theorem o37_0 : Okp RX3 cX3_takeBlockRecord 4 (some .int) "takeBlockRecord" false 0 (sLR 0 1) := ok_aload_n (by decide +kernel : decode cX3_takeBlockRecord 0 = .ok (.aload_n 0, 1)) rfl
theorem o37_1 : Okp RX3 cX3_takeBlockRecord 4 (some .int) "takeBlockRecord" false 1 (sGR 4 0 4) := ok_getR (by decide +kernel : decode cX3_takeBlockRecord 1 = .ok (.getfield 14, 3)) fw_X3_14 rfl
theorem o37_4 : Okp RX3 cX3_takeBlockRecord 4 (some .int) "takeBlockRecord" false 4 (sGI 2 3 7) := ok_getI (by decide +kernel : decode cX3_takeBlockRecord 4 = .ok (.getfield 103, 3)) fw_X3_103 rfl
theorem o37_7 : Okp RX3 cX3_takeBlockRecord 4 (some .int) "takeBlockRecord" false 7 (sSI 2 8) := ok_istore_n (by decide +kernel : decode cX3_takeBlockRecord 7 = .ok (.istore_n 2, 1)) rfl (by decide) (by decide)
theorem o37_8 : Okp RX3 cX3_takeBlockRecord 4 (some .int) "takeBlockRecord" false 8 (sLR 0 9) := ok_aload_n (by decide +kernel : decode cX3_takeBlockRecord 8 = .ok (.aload_n 0, 1)) rfl
theorem o37_9 : Okp RX3 cX3_takeBlockRecord 4 (some .int) "takeBlockRecord" false 9 (sLR 1 10) := ok_aload_n (by decide +kernel : decode cX3_takeBlockRecord 9 = .ok (.aload_n 1, 1)) rfl
theorem o37_10 : Okp RX3 cX3_takeBlockRecord 4 (some .int) "takeBlockRecord" false 10 (sGI 10 2 13) := ok_getI (by decide +kernel : decode cX3_takeBlockRecord 10 = .ok (.getfield 43, 3)) fw_X3_43 rfl
theorem o37_13 : Okp RX3 cX3_takeBlockRecord 4 (some .int) "takeBlockRecord" false 13 (sCV false 36 2 4 16) := ok_cv (by decide +kernel : decode cX3_takeBlockRecord 13 = .ok (.invokevirtual 93, 3)) mw_X3_93 rfl (by decide) wm_X3_takeName wse_X3_takeName (by decide) rfl
theorem o37_16 : Okp RX3 cX3_takeBlockRecord 4 (some .int) "takeBlockRecord" false 16 (sSI 3 17) := ok_istore_n (by decide +kernel : decode cX3_takeBlockRecord 16 = .ok (.istore_n 3, 1)) rfl (by decide) (by decide)
theorem o37_17 : Okp RX3 cX3_takeBlockRecord 4 (some .int) "takeBlockRecord" false 17 (sLR 0 18) := ok_aload_n (by decide +kernel : decode cX3_takeBlockRecord 17 = .ok (.aload_n 0, 1)) rfl
theorem o37_18 : Okp RX3 cX3_takeBlockRecord 4 (some .int) "takeBlockRecord" false 18 (sGI 4 1 21) := ok_getI (by decide +kernel : decode cX3_takeBlockRecord 18 = .ok (.getfield 18, 3)) fw_X3_18 rfl
theorem o37_21 : Okp RX3 cX3_takeBlockRecord 4 (some .int) "takeBlockRecord" false 21 (sI1 0 41 24) := ok_if_eq (by decide +kernel : decode cX3_takeBlockRecord 21 = .ok (.ifCond .eq 20, 3)) (by decide)
theorem o37_24 : Okp RX3 cX3_takeBlockRecord 4 (some .int) "takeBlockRecord" false 24 (sLR 1 25) := ok_aload_n (by decide +kernel : decode cX3_takeBlockRecord 24 = .ok (.aload_n 1, 1)) rfl
theorem o37_25 : Okp RX3 cX3_takeBlockRecord 4 (some .int) "takeBlockRecord" false 25 (sLI 3 26) := ok_iload_n (by decide +kernel : decode cX3_takeBlockRecord 25 = .ok (.iload_n 3, 1)) rfl
theorem o37_26 : Okp RX3 cX3_takeBlockRecord 4 (some .int) "takeBlockRecord" false 26 (sCV false 157 2 10 29) := ok_cv (by decide +kernel : decode cX3_takeBlockRecord 26 = .ok (.invokevirtual 166, 3)) mw_X3_166 rfl (by decide) wm_X9_hasIntsAlone wse_X9_hasIntsAlone (by decide) rfl
theorem o37_29 : Okp RX3 cX3_takeBlockRecord 4 (some .int) "takeBlockRecord" false 29 (sI1 1 41 32) := ok_if_ne (by decide +kernel : decode cX3_takeBlockRecord 29 = .ok (.ifCond .ne 12, 3)) (by decide)
theorem o37_32 : Okp RX3 cX3_takeBlockRecord 4 (some .int) "takeBlockRecord" false 32 (sLR 0 33) := ok_aload_n (by decide +kernel : decode cX3_takeBlockRecord 32 = .ok (.aload_n 0, 1)) rfl
theorem o37_33 : Okp RX3 cX3_takeBlockRecord 4 (some .int) "takeBlockRecord" false 33 (sGR 4 0 36) := ok_getR (by decide +kernel : decode cX3_takeBlockRecord 33 = .ok (.getfield 14, 3)) fw_X3_14 rfl
theorem o37_36 : Okp RX3 cX3_takeBlockRecord 4 (some .int) "takeBlockRecord" false 36 (sK 1 37) := ok_iconst (by decide +kernel : decode cX3_takeBlockRecord 36 = .ok (.iconst 1, 1)) (by decide)
theorem o37_37 : Okp RX3 cX3_takeBlockRecord 4 (some .int) "takeBlockRecord" false 37 (sLI 2 38) := ok_iload_n (by decide +kernel : decode cX3_takeBlockRecord 37 = .ok (.iload_n 2, 1)) rfl
theorem o37_38 : Okp RX3 cX3_takeBlockRecord 4 (some .int) "takeBlockRecord" false 38 (sCV false 13 3 2 41) := ok_cv (by decide +kernel : decode cX3_takeBlockRecord 38 = .ok (.invokevirtual 153, 3)) mw_X3_153 rfl (by decide) wm_X1_fail wse_X1_fail (by decide) rfl
theorem o37_41 : Okp RX3 cX3_takeBlockRecord 4 (some .int) "takeBlockRecord" false 41 (sLI 3 42) := ok_iload_n (by decide +kernel : decode cX3_takeBlockRecord 41 = .ok (.iload_n 3, 1)) rfl
theorem o37_42 : Okp RX3 cX3_takeBlockRecord 4 (some .int) "takeBlockRecord" false 42 sRI := ok_iret rfl (by decide +kernel : decode cX3_takeBlockRecord 42 = .ok (.ireturn, 1))
theorem oc37_0 : ∀ pc, Mnp (c37_0 pc) ∧ Okp RX3 cX3_takeBlockRecord 4 (some .int) "takeBlockRecord" false pc (c37_0 pc) := by
  intro pc
  unfold c37_0
  split
  · exact ⟨mn_sLR, o37_0⟩
  · exact ⟨mn_sGR, o37_1⟩
  · exact ⟨mn_sGI, o37_4⟩
  · exact ⟨mn_sSI, o37_7⟩
  · exact ⟨mn_sLR, o37_8⟩
  · exact ⟨mn_sLR, o37_9⟩
  · exact ⟨mn_sGI, o37_10⟩
  · exact ⟨mn_sCV, o37_13⟩
  · exact ⟨mn_sSI, o37_16⟩
  · exact ⟨mn_sLR, o37_17⟩
  · exact ⟨mn_sGI, o37_18⟩
  · exact ⟨mn_sI1, o37_21⟩
  · exact ⟨mn_sX, ok_X⟩
theorem oc37_1 : ∀ pc, Mnp (c37_1 pc) ∧ Okp RX3 cX3_takeBlockRecord 4 (some .int) "takeBlockRecord" false pc (c37_1 pc) := by
  intro pc
  unfold c37_1
  split
  · exact ⟨mn_sLR, o37_24⟩
  · exact ⟨mn_sLI, o37_25⟩
  · exact ⟨mn_sCV, o37_26⟩
  · exact ⟨mn_sI1, o37_29⟩
  · exact ⟨mn_sLR, o37_32⟩
  · exact ⟨mn_sGR, o37_33⟩
  · exact ⟨mn_sK, o37_36⟩
  · exact ⟨mn_sLI, o37_37⟩
  · exact ⟨mn_sCV, o37_38⟩
  · exact ⟨mn_sLI, o37_41⟩
  · exact ⟨mn_sRI, o37_42⟩
  · exact ⟨mn_sX, ok_X⟩
theorem oc37 : ∀ pc, Mnp (c37 pc) ∧ Okp RX3 cX3_takeBlockRecord 4 (some .int) "takeBlockRecord" false pc (c37 pc) := by
  intro pc
  unfold c37
  split
  · exact oc37_0 pc
  · exact oc37_1 pc
  · exact ⟨mn_sX, ok_X⟩
theorem o38_0 : Okp RX3 cX3_takeTarget 4 none "takeTarget" false 0 (sLR 0 1) := ok_aload_n (by decide +kernel : decode cX3_takeTarget 0 = .ok (.aload_n 0, 1)) rfl
theorem o38_1 : Okp RX3 cX3_takeTarget 4 none "takeTarget" false 1 (sGR 4 0 4) := ok_getR (by decide +kernel : decode cX3_takeTarget 1 = .ok (.getfield 14, 3)) fw_X3_14 rfl
theorem o38_4 : Okp RX3 cX3_takeTarget 4 none "takeTarget" false 4 (sGI 2 3 7) := ok_getI (by decide +kernel : decode cX3_takeTarget 4 = .ok (.getfield 103, 3)) fw_X3_103 rfl
theorem o38_7 : Okp RX3 cX3_takeTarget 4 none "takeTarget" false 7 (sSI 2 8) := ok_istore_n (by decide +kernel : decode cX3_takeTarget 7 = .ok (.istore_n 2, 1)) rfl (by decide) (by decide)
theorem o38_8 : Okp RX3 cX3_takeTarget 4 none "takeTarget" false 8 (sLR 0 9) := ok_aload_n (by decide +kernel : decode cX3_takeTarget 8 = .ok (.aload_n 0, 1)) rfl
theorem o38_9 : Okp RX3 cX3_takeTarget 4 none "takeTarget" false 9 (sGR 4 0 12) := ok_getR (by decide +kernel : decode cX3_takeTarget 9 = .ok (.getfield 14, 3)) fw_X3_14 rfl
theorem o38_12 : Okp RX3 cX3_takeTarget 4 none "takeTarget" false 12 (sCV false 15 1 2 15) := ok_cv (by decide +kernel : decode cX3_takeTarget 12 = .ok (.invokevirtual 150, 3)) mw_X3_150 rfl (by decide) wm_X1_take wse_X1_take (by decide) rfl
theorem o38_15 : Okp RX3 cX3_takeTarget 4 none "takeTarget" false 15 (sSI 3 16) := ok_istore_n (by decide +kernel : decode cX3_takeTarget 15 = .ok (.istore_n 3, 1)) rfl (by decide) (by decide)
theorem o38_16 : Okp RX3 cX3_takeTarget 4 none "takeTarget" false 16 (sLR 0 17) := ok_aload_n (by decide +kernel : decode cX3_takeTarget 16 = .ok (.aload_n 0, 1)) rfl
theorem o38_17 : Okp RX3 cX3_takeTarget 4 none "takeTarget" false 17 (sGI 4 1 20) := ok_getI (by decide +kernel : decode cX3_takeTarget 17 = .ok (.getfield 18, 3)) fw_X3_18 rfl
theorem o38_20 : Okp RX3 cX3_takeTarget 4 none "takeTarget" false 20 (sI1 0 40 23) := ok_if_eq (by decide +kernel : decode cX3_takeTarget 20 = .ok (.ifCond .eq 20, 3)) (by decide)
theorem o38_23 : Okp RX3 cX3_takeTarget 4 none "takeTarget" false 23 (sLR 1 24) := ok_aload_n (by decide +kernel : decode cX3_takeTarget 23 = .ok (.aload_n 1, 1)) rfl
theorem o38_24 : Okp RX3 cX3_takeTarget 4 none "takeTarget" false 24 (sLI 3 25) := ok_iload_n (by decide +kernel : decode cX3_takeTarget 24 = .ok (.iload_n 3, 1)) rfl
theorem o38_25 : Okp RX3 cX3_takeTarget 4 none "takeTarget" false 25 (sCV false 108 2 8 28) := ok_cv (by decide +kernel : decode cX3_takeTarget 25 = .ok (.invokevirtual 170, 3)) mw_X3_170 rfl (by decide) wm_X7_beginsAt wse_X7_beginsAt (by decide) rfl
theorem o38_28 : Okp RX3 cX3_takeTarget 4 none "takeTarget" false 28 (sI1 1 40 31) := ok_if_ne (by decide +kernel : decode cX3_takeTarget 28 = .ok (.ifCond .ne 12, 3)) (by decide)
theorem o38_31 : Okp RX3 cX3_takeTarget 4 none "takeTarget" false 31 (sLR 0 32) := ok_aload_n (by decide +kernel : decode cX3_takeTarget 31 = .ok (.aload_n 0, 1)) rfl
theorem o38_32 : Okp RX3 cX3_takeTarget 4 none "takeTarget" false 32 (sGR 4 0 35) := ok_getR (by decide +kernel : decode cX3_takeTarget 32 = .ok (.getfield 14, 3)) fw_X3_14 rfl
theorem o38_35 : Okp RX3 cX3_takeTarget 4 none "takeTarget" false 35 (sK 1 36) := ok_iconst (by decide +kernel : decode cX3_takeTarget 35 = .ok (.iconst 1, 1)) (by decide)
theorem o38_36 : Okp RX3 cX3_takeTarget 4 none "takeTarget" false 36 (sLI 2 37) := ok_iload_n (by decide +kernel : decode cX3_takeTarget 36 = .ok (.iload_n 2, 1)) rfl
theorem o38_37 : Okp RX3 cX3_takeTarget 4 none "takeTarget" false 37 (sCV false 13 3 2 40) := ok_cv (by decide +kernel : decode cX3_takeTarget 37 = .ok (.invokevirtual 153, 3)) mw_X3_153 rfl (by decide) wm_X1_fail wse_X1_fail (by decide) rfl
theorem o38_40 : Okp RX3 cX3_takeTarget 4 none "takeTarget" false 40 sRV := ok_vret rfl (by decide +kernel : decode cX3_takeTarget 40 = .ok (.return_, 1))
theorem oc38_0 : ∀ pc, Mnp (c38_0 pc) ∧ Okp RX3 cX3_takeTarget 4 none "takeTarget" false pc (c38_0 pc) := by
  intro pc
  unfold c38_0
  split
  · exact ⟨mn_sLR, o38_0⟩
  · exact ⟨mn_sGR, o38_1⟩
  · exact ⟨mn_sGI, o38_4⟩
  · exact ⟨mn_sSI, o38_7⟩
  · exact ⟨mn_sLR, o38_8⟩
  · exact ⟨mn_sGR, o38_9⟩
  · exact ⟨mn_sCV, o38_12⟩
  · exact ⟨mn_sSI, o38_15⟩
  · exact ⟨mn_sLR, o38_16⟩
  · exact ⟨mn_sGI, o38_17⟩
  · exact ⟨mn_sI1, o38_20⟩
  · exact ⟨mn_sLR, o38_23⟩
  · exact ⟨mn_sX, ok_X⟩
theorem oc38_1 : ∀ pc, Mnp (c38_1 pc) ∧ Okp RX3 cX3_takeTarget 4 none "takeTarget" false pc (c38_1 pc) := by
  intro pc
  unfold c38_1
  split
  · exact ⟨mn_sLI, o38_24⟩
  · exact ⟨mn_sCV, o38_25⟩
  · exact ⟨mn_sI1, o38_28⟩
  · exact ⟨mn_sLR, o38_31⟩
  · exact ⟨mn_sGR, o38_32⟩
  · exact ⟨mn_sK, o38_35⟩
  · exact ⟨mn_sLI, o38_36⟩
  · exact ⟨mn_sCV, o38_37⟩
  · exact ⟨mn_sRV, o38_40⟩
  · exact ⟨mn_sX, ok_X⟩
theorem oc38 : ∀ pc, Mnp (c38 pc) ∧ Okp RX3 cX3_takeTarget 4 none "takeTarget" false pc (c38 pc) := by
  intro pc
  unfold c38
  split
  · exact oc38_0 pc
  · exact oc38_1 pc
  · exact ⟨mn_sX, ok_X⟩
theorem o39_0 : Okp RX4 cX4_init 2 none "<init>" false 0 (sLR 0 1) := ok_aload_n (by decide +kernel : decode cX4_init 0 = .ok (.aload_n 0, 1)) rfl
theorem o39_1 : Okp RX4 cX4_init 2 none "<init>" false 1 (sCt 4) := ok_oinit (by decide +kernel : decode cX4_init 1 = .ok (.invokespecial 3, 3)) wq_X4_3 wq_i wq_c
theorem o39_4 : Okp RX4 cX4_init 2 none "<init>" false 4 (sLR 0 5) := ok_aload_n (by decide +kernel : decode cX4_init 4 = .ok (.aload_n 0, 1)) rfl
theorem o39_5 : Okp RX4 cX4_init 2 none "<init>" false 5 (sK 24 7) := ok_bipush (by decide +kernel : decode cX4_init 5 = .ok (.bipush 24, 2)) (by decide)
theorem o39_7 : Okp RX4 cX4_init 2 none "<init>" false 7 (sNA 16 9) := ok_newZ (by decide +kernel : decode cX4_init 7 = .ok (.newarray .boolean, 2)) wa_boolean
theorem o39_9 : Okp RX4 cX4_init 2 none "<init>" false 9 (sPR 5 1 12) := ok_putR (by decide +kernel : decode cX4_init 9 = .ok (.putfield 9, 3)) fw_X4_9 ⟨⟨tyX4_ok, nmX4⟩, Or.inr ⟨rfl, rfl, rfl⟩, rfl⟩ (Or.inr ⟨_, rfl⟩) rfl
theorem o39_12 : Okp RX4 cX4_init 2 none "<init>" false 12 (sLR 0 13) := ok_aload_n (by decide +kernel : decode cX4_init 12 = .ok (.aload_n 0, 1)) rfl
theorem o39_13 : Okp RX4 cX4_init 2 none "<init>" false 13 (sK 24 15) := ok_bipush (by decide +kernel : decode cX4_init 13 = .ok (.bipush 24, 2)) (by decide)
theorem o39_15 : Okp RX4 cX4_init 2 none "<init>" false 15 (sNA 15 17) := ok_newI (by decide +kernel : decode cX4_init 15 = .ok (.newarray .int, 2)) wa_int
theorem o39_17 : Okp RX4 cX4_init 2 none "<init>" false 17 (sPR 5 2 20) := ok_putR (by decide +kernel : decode cX4_init 17 = .ok (.putfield 15, 3)) fw_X4_15 ⟨⟨tyX4_ok, nmX4⟩, Or.inr ⟨rfl, rfl, rfl⟩, rfl⟩ (Or.inr ⟨_, rfl⟩) rfl
theorem o39_20 : Okp RX4 cX4_init 2 none "<init>" false 20 (sLR 0 21) := ok_aload_n (by decide +kernel : decode cX4_init 20 = .ok (.aload_n 0, 1)) rfl
theorem o39_21 : Okp RX4 cX4_init 2 none "<init>" false 21 (sK 24 23) := ok_bipush (by decide +kernel : decode cX4_init 21 = .ok (.bipush 24, 2)) (by decide)
theorem o39_23 : Okp RX4 cX4_init 2 none "<init>" false 23 (sNA 15 25) := ok_newI (by decide +kernel : decode cX4_init 23 = .ok (.newarray .int, 2)) wa_int
theorem o39_25 : Okp RX4 cX4_init 2 none "<init>" false 25 (sPR 5 3 28) := ok_putR (by decide +kernel : decode cX4_init 25 = .ok (.putfield 19, 3)) fw_X4_19 ⟨⟨tyX4_ok, nmX4⟩, Or.inr ⟨rfl, rfl, rfl⟩, rfl⟩ (Or.inr ⟨_, rfl⟩) rfl
theorem o39_28 : Okp RX4 cX4_init 2 none "<init>" false 28 (sLR 0 29) := ok_aload_n (by decide +kernel : decode cX4_init 28 = .ok (.aload_n 0, 1)) rfl
theorem o39_29 : Okp RX4 cX4_init 2 none "<init>" false 29 (sK 12 31) := ok_bipush (by decide +kernel : decode cX4_init 29 = .ok (.bipush 12, 2)) (by decide)
theorem o39_31 : Okp RX4 cX4_init 2 none "<init>" false 31 (sNA 17 34) := ok_anew (by decide +kernel : decode cX4_init 31 = .ok (.anewarray 22, 3)) (by decide) (fun _ => rfl) wl_X4_22 wo_X2
theorem o39_34 : Okp RX4 cX4_init 2 none "<init>" false 34 (sPR 5 4 37) := ok_putR (by decide +kernel : decode cX4_init 34 = .ok (.putfield 24, 3)) fw_X4_24 ⟨⟨tyX4_ok, nmX4⟩, Or.inr ⟨rfl, rfl, rfl⟩, rfl⟩ (Or.inr ⟨_, rfl⟩) rfl
theorem o39_37 : Okp RX4 cX4_init 2 none "<init>" false 37 (sLR 0 38) := ok_aload_n (by decide +kernel : decode cX4_init 37 = .ok (.aload_n 0, 1)) rfl
theorem o39_38 : Okp RX4 cX4_init 2 none "<init>" false 38 (sK 24 40) := ok_bipush (by decide +kernel : decode cX4_init 38 = .ok (.bipush 24, 2)) (by decide)
theorem o39_40 : Okp RX4 cX4_init 2 none "<init>" false 40 (sNA 15 42) := ok_newI (by decide +kernel : decode cX4_init 40 = .ok (.newarray .int, 2)) wa_int
theorem o39_42 : Okp RX4 cX4_init 2 none "<init>" false 42 (sPR 5 5 45) := ok_putR (by decide +kernel : decode cX4_init 42 = .ok (.putfield 28, 3)) fw_X4_28 ⟨⟨tyX4_ok, nmX4⟩, Or.inr ⟨rfl, rfl, rfl⟩, rfl⟩ (Or.inr ⟨_, rfl⟩) rfl
theorem o39_45 : Okp RX4 cX4_init 2 none "<init>" false 45 (sLR 0 46) := ok_aload_n (by decide +kernel : decode cX4_init 45 = .ok (.aload_n 0, 1)) rfl
theorem o39_46 : Okp RX4 cX4_init 2 none "<init>" false 46 (sK 96 48) := ok_bipush (by decide +kernel : decode cX4_init 46 = .ok (.bipush 96, 2)) (by decide)
theorem o39_48 : Okp RX4 cX4_init 2 none "<init>" false 48 (sNA 15 50) := ok_newI (by decide +kernel : decode cX4_init 48 = .ok (.newarray .int, 2)) wa_int
theorem o39_50 : Okp RX4 cX4_init 2 none "<init>" false 50 (sPR 5 6 53) := ok_putR (by decide +kernel : decode cX4_init 50 = .ok (.putfield 31, 3)) fw_X4_31 ⟨⟨tyX4_ok, nmX4⟩, Or.inr ⟨rfl, rfl, rfl⟩, rfl⟩ (Or.inr ⟨_, rfl⟩) rfl
theorem o39_53 : Okp RX4 cX4_init 2 none "<init>" false 53 (sLR 0 54) := ok_aload_n (by decide +kernel : decode cX4_init 53 = .ok (.aload_n 0, 1)) rfl
theorem o39_54 : Okp RX4 cX4_init 2 none "<init>" false 54 (sK 96 56) := ok_bipush (by decide +kernel : decode cX4_init 54 = .ok (.bipush 96, 2)) (by decide)
theorem o39_56 : Okp RX4 cX4_init 2 none "<init>" false 56 (sNA 15 58) := ok_newI (by decide +kernel : decode cX4_init 56 = .ok (.newarray .int, 2)) wa_int
theorem o39_58 : Okp RX4 cX4_init 2 none "<init>" false 58 (sPR 5 7 61) := ok_putR (by decide +kernel : decode cX4_init 58 = .ok (.putfield 34, 3)) fw_X4_34 ⟨⟨tyX4_ok, nmX4⟩, Or.inr ⟨rfl, rfl, rfl⟩, rfl⟩ (Or.inr ⟨_, rfl⟩) rfl
theorem o39_61 : Okp RX4 cX4_init 2 none "<init>" false 61 (sLR 0 62) := ok_aload_n (by decide +kernel : decode cX4_init 61 = .ok (.aload_n 0, 1)) rfl
theorem o39_62 : Okp RX4 cX4_init 2 none "<init>" false 62 (sK 96 64) := ok_bipush (by decide +kernel : decode cX4_init 62 = .ok (.bipush 96, 2)) (by decide)
theorem o39_64 : Okp RX4 cX4_init 2 none "<init>" false 64 (sNA 15 66) := ok_newI (by decide +kernel : decode cX4_init 64 = .ok (.newarray .int, 2)) wa_int
theorem o39_66 : Okp RX4 cX4_init 2 none "<init>" false 66 (sPR 5 8 69) := ok_putR (by decide +kernel : decode cX4_init 66 = .ok (.putfield 37, 3)) fw_X4_37 ⟨⟨tyX4_ok, nmX4⟩, Or.inr ⟨rfl, rfl, rfl⟩, rfl⟩ (Or.inr ⟨_, rfl⟩) rfl
theorem o39_69 : Okp RX4 cX4_init 2 none "<init>" false 69 (sLR 0 70) := ok_aload_n (by decide +kernel : decode cX4_init 69 = .ok (.aload_n 0, 1)) rfl
theorem o39_70 : Okp RX4 cX4_init 2 none "<init>" false 70 (sK 25 72) := ok_bipush (by decide +kernel : decode cX4_init 70 = .ok (.bipush 25, 2)) (by decide)
theorem o39_72 : Okp RX4 cX4_init 2 none "<init>" false 72 (sNA 15 74) := ok_newI (by decide +kernel : decode cX4_init 72 = .ok (.newarray .int, 2)) wa_int
theorem o39_74 : Okp RX4 cX4_init 2 none "<init>" false 74 (sPR 5 9 77) := ok_putR (by decide +kernel : decode cX4_init 74 = .ok (.putfield 40, 3)) fw_X4_40 ⟨⟨tyX4_ok, nmX4⟩, Or.inr ⟨rfl, rfl, rfl⟩, rfl⟩ (Or.inr ⟨_, rfl⟩) rfl
theorem o39_77 : Okp RX4 cX4_init 2 none "<init>" false 77 (sLR 0 78) := ok_aload_n (by decide +kernel : decode cX4_init 77 = .ok (.aload_n 0, 1)) rfl
theorem o39_78 : Okp RX4 cX4_init 2 none "<init>" false 78 (sK 0 79) := ok_iconst (by decide +kernel : decode cX4_init 78 = .ok (.iconst 0, 1)) (by decide)
theorem o39_79 : Okp RX4 cX4_init 2 none "<init>" false 79 (sPI 5 10 82) := ok_putI (by decide +kernel : decode cX4_init 79 = .ok (.putfield 43, 3)) fw_X4_43 ⟨⟨tyX4_ok, nmX4⟩, Or.inl rfl, rfl⟩ rfl
theorem o39_82 : Okp RX4 cX4_init 2 none "<init>" false 82 (sLR 0 83) := ok_aload_n (by decide +kernel : decode cX4_init 82 = .ok (.aload_n 0, 1)) rfl
theorem o39_83 : Okp RX4 cX4_init 2 none "<init>" false 83 (sLR 1 84) := ok_aload_n (by decide +kernel : decode cX4_init 83 = .ok (.aload_n 1, 1)) rfl
theorem o39_84 : Okp RX4 cX4_init 2 none "<init>" false 84 (sPR 5 0 87) := ok_putR (by decide +kernel : decode cX4_init 84 = .ok (.putfield 47, 3)) fw_X4_47 ⟨⟨tyX4_ok, nmX4⟩, Or.inr ⟨rfl, rfl, rfl⟩, rfl⟩ (Or.inl ⟨_, rfl⟩) rfl
theorem o39_87 : Okp RX4 cX4_init 2 none "<init>" false 87 sRV := ok_vret rfl (by decide +kernel : decode cX4_init 87 = .ok (.return_, 1))
theorem oc39_0 : ∀ pc, Mnp (c39_0 pc) ∧ Okp RX4 cX4_init 2 none "<init>" false pc (c39_0 pc) := by
  intro pc
  unfold c39_0
  split
  · exact ⟨mn_sLR, o39_0⟩
  · exact ⟨mn_sCt, o39_1⟩
  · exact ⟨mn_sLR, o39_4⟩
  · exact ⟨mn_sK, o39_5⟩
  · exact ⟨mn_sNA, o39_7⟩
  · exact ⟨mn_sPR, o39_9⟩
  · exact ⟨mn_sLR, o39_12⟩
  · exact ⟨mn_sK, o39_13⟩
  · exact ⟨mn_sNA, o39_15⟩
  · exact ⟨mn_sPR, o39_17⟩
  · exact ⟨mn_sLR, o39_20⟩
  · exact ⟨mn_sK, o39_21⟩
  · exact ⟨mn_sNA, o39_23⟩
  · exact ⟨mn_sX, ok_X⟩
theorem oc39_1 : ∀ pc, Mnp (c39_1 pc) ∧ Okp RX4 cX4_init 2 none "<init>" false pc (c39_1 pc) := by
  intro pc
  unfold c39_1
  split
  · exact ⟨mn_sPR, o39_25⟩
  · exact ⟨mn_sLR, o39_28⟩
  · exact ⟨mn_sK, o39_29⟩
  · exact ⟨mn_sNA, o39_31⟩
  · exact ⟨mn_sPR, o39_34⟩
  · exact ⟨mn_sLR, o39_37⟩
  · exact ⟨mn_sK, o39_38⟩
  · exact ⟨mn_sNA, o39_40⟩
  · exact ⟨mn_sPR, o39_42⟩
  · exact ⟨mn_sLR, o39_45⟩
  · exact ⟨mn_sK, o39_46⟩
  · exact ⟨mn_sX, ok_X⟩
theorem oc39_2 : ∀ pc, Mnp (c39_2 pc) ∧ Okp RX4 cX4_init 2 none "<init>" false pc (c39_2 pc) := by
  intro pc
  unfold c39_2
  split
  · exact ⟨mn_sNA, o39_48⟩
  · exact ⟨mn_sPR, o39_50⟩
  · exact ⟨mn_sLR, o39_53⟩
  · exact ⟨mn_sK, o39_54⟩
  · exact ⟨mn_sNA, o39_56⟩
  · exact ⟨mn_sPR, o39_58⟩
  · exact ⟨mn_sLR, o39_61⟩
  · exact ⟨mn_sK, o39_62⟩
  · exact ⟨mn_sNA, o39_64⟩
  · exact ⟨mn_sPR, o39_66⟩
  · exact ⟨mn_sLR, o39_69⟩
  · exact ⟨mn_sK, o39_70⟩
  · exact ⟨mn_sX, ok_X⟩
theorem oc39_3 : ∀ pc, Mnp (c39_3 pc) ∧ Okp RX4 cX4_init 2 none "<init>" false pc (c39_3 pc) := by
  intro pc
  unfold c39_3
  split
  · exact ⟨mn_sNA, o39_72⟩
  · exact ⟨mn_sPR, o39_74⟩
  · exact ⟨mn_sLR, o39_77⟩
  · exact ⟨mn_sK, o39_78⟩
  · exact ⟨mn_sPI, o39_79⟩
  · exact ⟨mn_sLR, o39_82⟩
  · exact ⟨mn_sLR, o39_83⟩
  · exact ⟨mn_sPR, o39_84⟩
  · exact ⟨mn_sRV, o39_87⟩
  · exact ⟨mn_sX, ok_X⟩
theorem oc39 : ∀ pc, Mnp (c39 pc) ∧ Okp RX4 cX4_init 2 none "<init>" false pc (c39 pc) := by
  intro pc
  unfold c39
  split
  · exact oc39_0 pc
  · exact oc39_1 pc
  · exact oc39_2 pc
  · exact oc39_3 pc
  · exact ⟨mn_sX, ok_X⟩
theorem o40_0 : Okp RX4 cX4_clear 2 none "clear" false 0 (sK 0 1) := ok_iconst (by decide +kernel : decode cX4_clear 0 = .ok (.iconst 0, 1)) (by decide)
theorem o40_1 : Okp RX4 cX4_clear 2 none "clear" false 1 (sSI 1 2) := ok_istore_n (by decide +kernel : decode cX4_clear 1 = .ok (.istore_n 1, 1)) rfl (by decide) (by decide)
theorem o40_2 : Okp RX4 cX4_clear 2 none "clear" false 2 (sLI 1 3) := ok_iload_n (by decide +kernel : decode cX4_clear 2 = .ok (.iload_n 1, 1)) rfl
theorem o40_3 : Okp RX4 cX4_clear 2 none "clear" false 3 (sK 24 5) := ok_bipush (by decide +kernel : decode cX4_clear 3 = .ok (.bipush 24, 2)) (by decide)
theorem o40_5 : Okp RX4 cX4_clear 2 none "clear" false 5 (sI2 3 37 8) := ok_icmp_ge (by decide +kernel : decode cX4_clear 5 = .ok (.if_icmp .ge 32, 3)) (by decide)
theorem o40_8 : Okp RX4 cX4_clear 2 none "clear" false 8 (sLR 0 9) := ok_aload_n (by decide +kernel : decode cX4_clear 8 = .ok (.aload_n 0, 1)) rfl
theorem o40_9 : Okp RX4 cX4_clear 2 none "clear" false 9 (sGR 5 1 12) := ok_getR (by decide +kernel : decode cX4_clear 9 = .ok (.getfield 9, 3)) fw_X4_9 rfl
theorem o40_12 : Okp RX4 cX4_clear 2 none "clear" false 12 (sLI 1 13) := ok_iload_n (by decide +kernel : decode cX4_clear 12 = .ok (.iload_n 1, 1)) rfl
theorem o40_13 : Okp RX4 cX4_clear 2 none "clear" false 13 (sK 0 14) := ok_iconst (by decide +kernel : decode cX4_clear 13 = .ok (.iconst 0, 1)) (by decide)
theorem o40_14 : Okp RX4 cX4_clear 2 none "clear" false 14 (sBS 15) := ok_bastore (by decide +kernel : decode cX4_clear 14 = .ok (.bastore, 1))
theorem o40_15 : Okp RX4 cX4_clear 2 none "clear" false 15 (sLR 0 16) := ok_aload_n (by decide +kernel : decode cX4_clear 15 = .ok (.aload_n 0, 1)) rfl
theorem o40_16 : Okp RX4 cX4_clear 2 none "clear" false 16 (sGR 5 5 19) := ok_getR (by decide +kernel : decode cX4_clear 16 = .ok (.getfield 28, 3)) fw_X4_28 rfl
theorem o40_19 : Okp RX4 cX4_clear 2 none "clear" false 19 (sLI 1 20) := ok_iload_n (by decide +kernel : decode cX4_clear 19 = .ok (.iload_n 1, 1)) rfl
theorem o40_20 : Okp RX4 cX4_clear 2 none "clear" false 20 (sK 0 21) := ok_iconst (by decide +kernel : decode cX4_clear 20 = .ok (.iconst 0, 1)) (by decide)
theorem o40_21 : Okp RX4 cX4_clear 2 none "clear" false 21 (sIS 22) := ok_iastore (by decide +kernel : decode cX4_clear 21 = .ok (.iastore, 1))
theorem o40_22 : Okp RX4 cX4_clear 2 none "clear" false 22 (sLR 0 23) := ok_aload_n (by decide +kernel : decode cX4_clear 22 = .ok (.aload_n 0, 1)) rfl
theorem o40_23 : Okp RX4 cX4_clear 2 none "clear" false 23 (sGR 5 4 26) := ok_getR (by decide +kernel : decode cX4_clear 23 = .ok (.getfield 24, 3)) fw_X4_24 rfl
theorem o40_26 : Okp RX4 cX4_clear 2 none "clear" false 26 (sLI 1 27) := ok_iload_n (by decide +kernel : decode cX4_clear 26 = .ok (.iload_n 1, 1)) rfl
theorem o40_27 : Okp RX4 cX4_clear 2 none "clear" false 27 (sK 2 28) := ok_iconst (by decide +kernel : decode cX4_clear 27 = .ok (.iconst 2, 1)) (by decide)
theorem o40_28 : Okp RX4 cX4_clear 2 none "clear" false 28 (sD2 fDiv 29) := ok_idiv (by decide +kernel : decode cX4_clear 28 = .ok (.idiv, 1))
theorem o40_29 : Okp RX4 cX4_clear 2 none "clear" false 29 (sNul 30) := ok_null (by decide +kernel : decode cX4_clear 29 = .ok (.aconst_null, 1))
theorem o40_30 : Okp RX4 cX4_clear 2 none "clear" false 30 (sRS 31) := ok_aastore (by decide +kernel : decode cX4_clear 30 = .ok (.aastore, 1))
theorem o40_31 : Okp RX4 cX4_clear 2 none "clear" false 31 (sInc 1 1 34) := ok_iinc (by decide +kernel : decode cX4_clear 31 = .ok (.iinc 1 1, 3)) (by decide) (by decide)
theorem o40_34 : Okp RX4 cX4_clear 2 none "clear" false 34 (sGo 2) := ok_goto (by decide +kernel : decode cX4_clear 34 = .ok (.goto (-32), 3)) (by decide)
theorem o40_37 : Okp RX4 cX4_clear 2 none "clear" false 37 sRV := ok_vret rfl (by decide +kernel : decode cX4_clear 37 = .ok (.return_, 1))
theorem oc40_0 : ∀ pc, Mnp (c40_0 pc) ∧ Okp RX4 cX4_clear 2 none "clear" false pc (c40_0 pc) := by
  intro pc
  unfold c40_0
  split
  · exact ⟨mn_sK, o40_0⟩
  · exact ⟨mn_sSI, o40_1⟩
  · exact ⟨mn_sLI, o40_2⟩
  · exact ⟨mn_sK, o40_3⟩
  · exact ⟨mn_sI2, o40_5⟩
  · exact ⟨mn_sLR, o40_8⟩
  · exact ⟨mn_sGR, o40_9⟩
  · exact ⟨mn_sLI, o40_12⟩
  · exact ⟨mn_sK, o40_13⟩
  · exact ⟨mn_sBS, o40_14⟩
  · exact ⟨mn_sLR, o40_15⟩
  · exact ⟨mn_sGR, o40_16⟩
  · exact ⟨mn_sLI, o40_19⟩
  · exact ⟨mn_sK, o40_20⟩
  · exact ⟨mn_sIS, o40_21⟩
  · exact ⟨mn_sLR, o40_22⟩
  · exact ⟨mn_sGR, o40_23⟩
  · exact ⟨mn_sX, ok_X⟩
theorem oc40_1 : ∀ pc, Mnp (c40_1 pc) ∧ Okp RX4 cX4_clear 2 none "clear" false pc (c40_1 pc) := by
  intro pc
  unfold c40_1
  split
  · exact ⟨mn_sLI, o40_26⟩
  · exact ⟨mn_sK, o40_27⟩
  · exact ⟨mn_sD2, o40_28⟩
  · exact ⟨mn_sNul, o40_29⟩
  · exact ⟨mn_sRS, o40_30⟩
  · exact ⟨mn_sInc, o40_31⟩
  · exact ⟨mn_sGo, o40_34⟩
  · exact ⟨mn_sRV, o40_37⟩
  · exact ⟨mn_sX, ok_X⟩
theorem oc40 : ∀ pc, Mnp (c40 pc) ∧ Okp RX4 cX4_clear 2 none "clear" false pc (c40 pc) := by
  intro pc
  unfold c40
  split
  · exact oc40_0 pc
  · exact oc40_1 pc
  · exact ⟨mn_sX, ok_X⟩
theorem o41_0 : Okp RX4 cX4_isOpen 2 (some .boolean) "isOpen" false 0 (sLI 1 1) := ok_iload_n (by decide +kernel : decode cX4_isOpen 0 = .ok (.iload_n 1, 1)) rfl
theorem o41_1 : Okp RX4 cX4_isOpen 2 (some .boolean) "isOpen" false 1 (sI1 2 23 4) := ok_if_lt (by decide +kernel : decode cX4_isOpen 1 = .ok (.ifCond .lt 22, 3)) (by decide)
theorem o41_4 : Okp RX4 cX4_isOpen 2 (some .boolean) "isOpen" false 4 (sLI 1 5) := ok_iload_n (by decide +kernel : decode cX4_isOpen 4 = .ok (.iload_n 1, 1)) rfl
theorem o41_5 : Okp RX4 cX4_isOpen 2 (some .boolean) "isOpen" false 5 (sK 24 7) := ok_bipush (by decide +kernel : decode cX4_isOpen 5 = .ok (.bipush 24, 2)) (by decide)
theorem o41_7 : Okp RX4 cX4_isOpen 2 (some .boolean) "isOpen" false 7 (sI2 3 23 10) := ok_icmp_ge (by decide +kernel : decode cX4_isOpen 7 = .ok (.if_icmp .ge 16, 3)) (by decide)
theorem o41_10 : Okp RX4 cX4_isOpen 2 (some .boolean) "isOpen" false 10 (sLR 0 11) := ok_aload_n (by decide +kernel : decode cX4_isOpen 10 = .ok (.aload_n 0, 1)) rfl
theorem o41_11 : Okp RX4 cX4_isOpen 2 (some .boolean) "isOpen" false 11 (sGR 5 1 14) := ok_getR (by decide +kernel : decode cX4_isOpen 11 = .ok (.getfield 9, 3)) fw_X4_9 rfl
theorem o41_14 : Okp RX4 cX4_isOpen 2 (some .boolean) "isOpen" false 14 (sLI 1 15) := ok_iload_n (by decide +kernel : decode cX4_isOpen 14 = .ok (.iload_n 1, 1)) rfl
theorem o41_15 : Okp RX4 cX4_isOpen 2 (some .boolean) "isOpen" false 15 (sBA 16) := ok_baload (by decide +kernel : decode cX4_isOpen 15 = .ok (.baload, 1))
theorem o41_16 : Okp RX4 cX4_isOpen 2 (some .boolean) "isOpen" false 16 (sI1 0 23 19) := ok_if_eq (by decide +kernel : decode cX4_isOpen 16 = .ok (.ifCond .eq 7, 3)) (by decide)
theorem o41_19 : Okp RX4 cX4_isOpen 2 (some .boolean) "isOpen" false 19 (sK 1 20) := ok_iconst (by decide +kernel : decode cX4_isOpen 19 = .ok (.iconst 1, 1)) (by decide)
theorem o41_20 : Okp RX4 cX4_isOpen 2 (some .boolean) "isOpen" false 20 (sGo 24) := ok_goto (by decide +kernel : decode cX4_isOpen 20 = .ok (.goto 4, 3)) (by decide)
theorem o41_23 : Okp RX4 cX4_isOpen 2 (some .boolean) "isOpen" false 23 (sK 0 24) := ok_iconst (by decide +kernel : decode cX4_isOpen 23 = .ok (.iconst 0, 1)) (by decide)
theorem o41_24 : Okp RX4 cX4_isOpen 2 (some .boolean) "isOpen" false 24 sRZ := ok_zret rfl (by decide +kernel : decode cX4_isOpen 24 = .ok (.ireturn, 1))
theorem oc41_0 : ∀ pc, Mnp (c41_0 pc) ∧ Okp RX4 cX4_isOpen 2 (some .boolean) "isOpen" false pc (c41_0 pc) := by
  intro pc
  unfold c41_0
  split
  · exact ⟨mn_sLI, o41_0⟩
  · exact ⟨mn_sI1, o41_1⟩
  · exact ⟨mn_sLI, o41_4⟩
  · exact ⟨mn_sK, o41_5⟩
  · exact ⟨mn_sI2, o41_7⟩
  · exact ⟨mn_sLR, o41_10⟩
  · exact ⟨mn_sGR, o41_11⟩
  · exact ⟨mn_sLI, o41_14⟩
  · exact ⟨mn_sBA, o41_15⟩
  · exact ⟨mn_sI1, o41_16⟩
  · exact ⟨mn_sK, o41_19⟩
  · exact ⟨mn_sGo, o41_20⟩
  · exact ⟨mn_sK, o41_23⟩
  · exact ⟨mn_sX, ok_X⟩
theorem oc41_1 : ∀ pc, Mnp (c41_1 pc) ∧ Okp RX4 cX4_isOpen 2 (some .boolean) "isOpen" false pc (c41_1 pc) := by
  intro pc
  unfold c41_1
  split
  · exact ⟨mn_sRZ, o41_24⟩
  · exact ⟨mn_sX, ok_X⟩
theorem oc41 : ∀ pc, Mnp (c41 pc) ∧ Okp RX4 cX4_isOpen 2 (some .boolean) "isOpen" false pc (c41 pc) := by
  intro pc
  unfold c41
  split
  · exact oc41_0 pc
  · exact oc41_1 pc
  · exact ⟨mn_sX, ok_X⟩
theorem o42_0 : Okp RX4 cX4_channels 3 (some .int) "channels" false 0 (sK 0 1) := ok_iconst (by decide +kernel : decode cX4_channels 0 = .ok (.iconst 0, 1)) (by decide)
theorem o42_1 : Okp RX4 cX4_channels 3 (some .int) "channels" false 1 (sSI 1 2) := ok_istore_n (by decide +kernel : decode cX4_channels 1 = .ok (.istore_n 1, 1)) rfl (by decide) (by decide)
theorem o42_2 : Okp RX4 cX4_channels 3 (some .int) "channels" false 2 (sK 0 3) := ok_iconst (by decide +kernel : decode cX4_channels 2 = .ok (.iconst 0, 1)) (by decide)
theorem o42_3 : Okp RX4 cX4_channels 3 (some .int) "channels" false 3 (sSI 2 4) := ok_istore_n (by decide +kernel : decode cX4_channels 3 = .ok (.istore_n 2, 1)) rfl (by decide) (by decide)
theorem o42_4 : Okp RX4 cX4_channels 3 (some .int) "channels" false 4 (sLI 2 5) := ok_iload_n (by decide +kernel : decode cX4_channels 4 = .ok (.iload_n 2, 1)) rfl
theorem o42_5 : Okp RX4 cX4_channels 3 (some .int) "channels" false 5 (sK 12 7) := ok_bipush (by decide +kernel : decode cX4_channels 5 = .ok (.bipush 12, 2)) (by decide)
theorem o42_7 : Okp RX4 cX4_channels 3 (some .int) "channels" false 7 (sI2 3 43 10) := ok_icmp_ge (by decide +kernel : decode cX4_channels 7 = .ok (.if_icmp .ge 36, 3)) (by decide)
theorem o42_10 : Okp RX4 cX4_channels 3 (some .int) "channels" false 10 (sLR 0 11) := ok_aload_n (by decide +kernel : decode cX4_channels 10 = .ok (.aload_n 0, 1)) rfl
theorem o42_11 : Okp RX4 cX4_channels 3 (some .int) "channels" false 11 (sGR 5 1 14) := ok_getR (by decide +kernel : decode cX4_channels 11 = .ok (.getfield 9, 3)) fw_X4_9 rfl
theorem o42_14 : Okp RX4 cX4_channels 3 (some .int) "channels" false 14 (sK 2 15) := ok_iconst (by decide +kernel : decode cX4_channels 14 = .ok (.iconst 2, 1)) (by decide)
theorem o42_15 : Okp RX4 cX4_channels 3 (some .int) "channels" false 15 (sLI 2 16) := ok_iload_n (by decide +kernel : decode cX4_channels 15 = .ok (.iload_n 2, 1)) rfl
theorem o42_16 : Okp RX4 cX4_channels 3 (some .int) "channels" false 16 (sB2 fMul 17) := ok_imul (by decide +kernel : decode cX4_channels 16 = .ok (.imul, 1))
theorem o42_17 : Okp RX4 cX4_channels 3 (some .int) "channels" false 17 (sBA 18) := ok_baload (by decide +kernel : decode cX4_channels 17 = .ok (.baload, 1))
theorem o42_18 : Okp RX4 cX4_channels 3 (some .int) "channels" false 18 (sI1 1 34 21) := ok_if_ne (by decide +kernel : decode cX4_channels 18 = .ok (.ifCond .ne 16, 3)) (by decide)
theorem o42_21 : Okp RX4 cX4_channels 3 (some .int) "channels" false 21 (sLR 0 22) := ok_aload_n (by decide +kernel : decode cX4_channels 21 = .ok (.aload_n 0, 1)) rfl
theorem o42_22 : Okp RX4 cX4_channels 3 (some .int) "channels" false 22 (sGR 5 1 25) := ok_getR (by decide +kernel : decode cX4_channels 22 = .ok (.getfield 9, 3)) fw_X4_9 rfl
theorem o42_25 : Okp RX4 cX4_channels 3 (some .int) "channels" false 25 (sK 2 26) := ok_iconst (by decide +kernel : decode cX4_channels 25 = .ok (.iconst 2, 1)) (by decide)
theorem o42_26 : Okp RX4 cX4_channels 3 (some .int) "channels" false 26 (sLI 2 27) := ok_iload_n (by decide +kernel : decode cX4_channels 26 = .ok (.iload_n 2, 1)) rfl
theorem o42_27 : Okp RX4 cX4_channels 3 (some .int) "channels" false 27 (sB2 fMul 28) := ok_imul (by decide +kernel : decode cX4_channels 27 = .ok (.imul, 1))
theorem o42_28 : Okp RX4 cX4_channels 3 (some .int) "channels" false 28 (sK 1 29) := ok_iconst (by decide +kernel : decode cX4_channels 28 = .ok (.iconst 1, 1)) (by decide)
theorem o42_29 : Okp RX4 cX4_channels 3 (some .int) "channels" false 29 (sB2 fAdd 30) := ok_iadd (by decide +kernel : decode cX4_channels 29 = .ok (.iadd, 1))
theorem o42_30 : Okp RX4 cX4_channels 3 (some .int) "channels" false 30 (sBA 31) := ok_baload (by decide +kernel : decode cX4_channels 30 = .ok (.baload, 1))
theorem o42_31 : Okp RX4 cX4_channels 3 (some .int) "channels" false 31 (sI1 0 37 34) := ok_if_eq (by decide +kernel : decode cX4_channels 31 = .ok (.ifCond .eq 6, 3)) (by decide)
theorem o42_34 : Okp RX4 cX4_channels 3 (some .int) "channels" false 34 (sInc 1 1 37) := ok_iinc (by decide +kernel : decode cX4_channels 34 = .ok (.iinc 1 1, 3)) (by decide) (by decide)
theorem o42_37 : Okp RX4 cX4_channels 3 (some .int) "channels" false 37 (sInc 2 1 40) := ok_iinc (by decide +kernel : decode cX4_channels 37 = .ok (.iinc 2 1, 3)) (by decide) (by decide)
theorem o42_40 : Okp RX4 cX4_channels 3 (some .int) "channels" false 40 (sGo 4) := ok_goto (by decide +kernel : decode cX4_channels 40 = .ok (.goto (-36), 3)) (by decide)
theorem o42_43 : Okp RX4 cX4_channels 3 (some .int) "channels" false 43 (sLI 1 44) := ok_iload_n (by decide +kernel : decode cX4_channels 43 = .ok (.iload_n 1, 1)) rfl
theorem o42_44 : Okp RX4 cX4_channels 3 (some .int) "channels" false 44 sRI := ok_iret rfl (by decide +kernel : decode cX4_channels 44 = .ok (.ireturn, 1))
theorem oc42_0 : ∀ pc, Mnp (c42_0 pc) ∧ Okp RX4 cX4_channels 3 (some .int) "channels" false pc (c42_0 pc) := by
  intro pc
  unfold c42_0
  split
  · exact ⟨mn_sK, o42_0⟩
  · exact ⟨mn_sSI, o42_1⟩
  · exact ⟨mn_sK, o42_2⟩
  · exact ⟨mn_sSI, o42_3⟩
  · exact ⟨mn_sLI, o42_4⟩
  · exact ⟨mn_sK, o42_5⟩
  · exact ⟨mn_sI2, o42_7⟩
  · exact ⟨mn_sLR, o42_10⟩
  · exact ⟨mn_sGR, o42_11⟩
  · exact ⟨mn_sK, o42_14⟩
  · exact ⟨mn_sLI, o42_15⟩
  · exact ⟨mn_sB2, o42_16⟩
  · exact ⟨mn_sBA, o42_17⟩
  · exact ⟨mn_sI1, o42_18⟩
  · exact ⟨mn_sLR, o42_21⟩
  · exact ⟨mn_sGR, o42_22⟩
  · exact ⟨mn_sX, ok_X⟩
theorem oc42_1 : ∀ pc, Mnp (c42_1 pc) ∧ Okp RX4 cX4_channels 3 (some .int) "channels" false pc (c42_1 pc) := by
  intro pc
  unfold c42_1
  split
  · exact ⟨mn_sK, o42_25⟩
  · exact ⟨mn_sLI, o42_26⟩
  · exact ⟨mn_sB2, o42_27⟩
  · exact ⟨mn_sK, o42_28⟩
  · exact ⟨mn_sB2, o42_29⟩
  · exact ⟨mn_sBA, o42_30⟩
  · exact ⟨mn_sI1, o42_31⟩
  · exact ⟨mn_sInc, o42_34⟩
  · exact ⟨mn_sInc, o42_37⟩
  · exact ⟨mn_sGo, o42_40⟩
  · exact ⟨mn_sLI, o42_43⟩
  · exact ⟨mn_sRI, o42_44⟩
  · exact ⟨mn_sX, ok_X⟩
theorem oc42 : ∀ pc, Mnp (c42 pc) ∧ Okp RX4 cX4_channels 3 (some .int) "channels" false pc (c42 pc) := by
  intro pc
  unfold c42
  split
  · exact oc42_0 pc
  · exact oc42_1 pc
  · exact ⟨mn_sX, ok_X⟩
theorem o43_0 : Okp RX4 cX4_make 4 (some .int) "make" false 0 (sK 0 1) := ok_iconst (by decide +kernel : decode cX4_make 0 = .ok (.iconst 0, 1)) (by decide)
theorem o43_1 : Okp RX4 cX4_make 4 (some .int) "make" false 1 (sSI 3 2) := ok_istore_n (by decide +kernel : decode cX4_make 1 = .ok (.istore_n 3, 1)) rfl (by decide) (by decide)
theorem o43_2 : Okp RX4 cX4_make 4 (some .int) "make" false 2 (sLI 3 3) := ok_iload_n (by decide +kernel : decode cX4_make 2 = .ok (.iload_n 3, 1)) rfl
theorem o43_3 : Okp RX4 cX4_make 4 (some .int) "make" false 3 (sK 12 5) := ok_bipush (by decide +kernel : decode cX4_make 3 = .ok (.bipush 12, 2)) (by decide)
theorem o43_5 : Okp RX4 cX4_make 4 (some .int) "make" false 5 (sI2 3 65 8) := ok_icmp_ge (by decide +kernel : decode cX4_make 5 = .ok (.if_icmp .ge 60, 3)) (by decide)
theorem o43_8 : Okp RX4 cX4_make 4 (some .int) "make" false 8 (sLR 0 9) := ok_aload_n (by decide +kernel : decode cX4_make 8 = .ok (.aload_n 0, 1)) rfl
theorem o43_9 : Okp RX4 cX4_make 4 (some .int) "make" false 9 (sGR 5 1 12) := ok_getR (by decide +kernel : decode cX4_make 9 = .ok (.getfield 9, 3)) fw_X4_9 rfl
theorem o43_12 : Okp RX4 cX4_make 4 (some .int) "make" false 12 (sK 2 13) := ok_iconst (by decide +kernel : decode cX4_make 12 = .ok (.iconst 2, 1)) (by decide)
theorem o43_13 : Okp RX4 cX4_make 4 (some .int) "make" false 13 (sLI 3 14) := ok_iload_n (by decide +kernel : decode cX4_make 13 = .ok (.iload_n 3, 1)) rfl
theorem o43_14 : Okp RX4 cX4_make 4 (some .int) "make" false 14 (sB2 fMul 15) := ok_imul (by decide +kernel : decode cX4_make 14 = .ok (.imul, 1))
theorem o43_15 : Okp RX4 cX4_make 4 (some .int) "make" false 15 (sBA 16) := ok_baload (by decide +kernel : decode cX4_make 15 = .ok (.baload, 1))
theorem o43_16 : Okp RX4 cX4_make 4 (some .int) "make" false 16 (sI1 1 59 19) := ok_if_ne (by decide +kernel : decode cX4_make 16 = .ok (.ifCond .ne 43, 3)) (by decide)
theorem o43_19 : Okp RX4 cX4_make 4 (some .int) "make" false 19 (sLR 0 20) := ok_aload_n (by decide +kernel : decode cX4_make 19 = .ok (.aload_n 0, 1)) rfl
theorem o43_20 : Okp RX4 cX4_make 4 (some .int) "make" false 20 (sGR 5 1 23) := ok_getR (by decide +kernel : decode cX4_make 20 = .ok (.getfield 9, 3)) fw_X4_9 rfl
theorem o43_23 : Okp RX4 cX4_make 4 (some .int) "make" false 23 (sK 2 24) := ok_iconst (by decide +kernel : decode cX4_make 23 = .ok (.iconst 2, 1)) (by decide)
theorem o43_24 : Okp RX4 cX4_make 4 (some .int) "make" false 24 (sLI 3 25) := ok_iload_n (by decide +kernel : decode cX4_make 24 = .ok (.iload_n 3, 1)) rfl
theorem o43_25 : Okp RX4 cX4_make 4 (some .int) "make" false 25 (sB2 fMul 26) := ok_imul (by decide +kernel : decode cX4_make 25 = .ok (.imul, 1))
theorem o43_26 : Okp RX4 cX4_make 4 (some .int) "make" false 26 (sK 1 27) := ok_iconst (by decide +kernel : decode cX4_make 26 = .ok (.iconst 1, 1)) (by decide)
theorem o43_27 : Okp RX4 cX4_make 4 (some .int) "make" false 27 (sB2 fAdd 28) := ok_iadd (by decide +kernel : decode cX4_make 27 = .ok (.iadd, 1))
theorem o43_28 : Okp RX4 cX4_make 4 (some .int) "make" false 28 (sBA 29) := ok_baload (by decide +kernel : decode cX4_make 28 = .ok (.baload, 1))
theorem o43_29 : Okp RX4 cX4_make 4 (some .int) "make" false 29 (sI1 1 59 32) := ok_if_ne (by decide +kernel : decode cX4_make 29 = .ok (.ifCond .ne 30, 3)) (by decide)
theorem o43_32 : Okp RX4 cX4_make 4 (some .int) "make" false 32 (sLR 0 33) := ok_aload_n (by decide +kernel : decode cX4_make 32 = .ok (.aload_n 0, 1)) rfl
theorem o43_33 : Okp RX4 cX4_make 4 (some .int) "make" false 33 (sGR 5 4 36) := ok_getR (by decide +kernel : decode cX4_make 33 = .ok (.getfield 24, 3)) fw_X4_24 rfl
theorem o43_36 : Okp RX4 cX4_make 4 (some .int) "make" false 36 (sLI 3 37) := ok_iload_n (by decide +kernel : decode cX4_make 36 = .ok (.iload_n 3, 1)) rfl
theorem o43_37 : Okp RX4 cX4_make 4 (some .int) "make" false 37 (sLR 1 38) := ok_aload_n (by decide +kernel : decode cX4_make 37 = .ok (.aload_n 1, 1)) rfl
theorem o43_38 : Okp RX4 cX4_make 4 (some .int) "make" false 38 (sRS 39) := ok_aastore (by decide +kernel : decode cX4_make 38 = .ok (.aastore, 1))
theorem o43_39 : Okp RX4 cX4_make 4 (some .int) "make" false 39 (sLR 0 40) := ok_aload_n (by decide +kernel : decode cX4_make 39 = .ok (.aload_n 0, 1)) rfl
theorem o43_40 : Okp RX4 cX4_make 4 (some .int) "make" false 40 (sK 2 41) := ok_iconst (by decide +kernel : decode cX4_make 40 = .ok (.iconst 2, 1)) (by decide)
theorem o43_41 : Okp RX4 cX4_make 4 (some .int) "make" false 41 (sLI 3 42) := ok_iload_n (by decide +kernel : decode cX4_make 41 = .ok (.iload_n 3, 1)) rfl
theorem o43_42 : Okp RX4 cX4_make 4 (some .int) "make" false 42 (sB2 fMul 43) := ok_imul (by decide +kernel : decode cX4_make 42 = .ok (.imul, 1))
theorem o43_43 : Okp RX4 cX4_make 4 (some .int) "make" false 43 (sLI 2 44) := ok_iload_n (by decide +kernel : decode cX4_make 43 = .ok (.iload_n 2, 1)) rfl
theorem o43_44 : Okp RX4 cX4_make 4 (some .int) "make" false 44 (sCV false 44 3 5 47) := ok_cv (by decide +kernel : decode cX4_make 44 = .ok (.invokevirtual 51, 3)) mw_X4_51 rfl (by decide) wm_X4_openEnd wse_X4_openEnd (by decide) rfl
theorem o43_47 : Okp RX4 cX4_make 4 (some .int) "make" false 47 (sLR 0 48) := ok_aload_n (by decide +kernel : decode cX4_make 47 = .ok (.aload_n 0, 1)) rfl
theorem o43_48 : Okp RX4 cX4_make 4 (some .int) "make" false 48 (sK 2 49) := ok_iconst (by decide +kernel : decode cX4_make 48 = .ok (.iconst 2, 1)) (by decide)
theorem o43_49 : Okp RX4 cX4_make 4 (some .int) "make" false 49 (sLI 3 50) := ok_iload_n (by decide +kernel : decode cX4_make 49 = .ok (.iload_n 3, 1)) rfl
theorem o43_50 : Okp RX4 cX4_make 4 (some .int) "make" false 50 (sB2 fMul 51) := ok_imul (by decide +kernel : decode cX4_make 50 = .ok (.imul, 1))
theorem o43_51 : Okp RX4 cX4_make 4 (some .int) "make" false 51 (sK 1 52) := ok_iconst (by decide +kernel : decode cX4_make 51 = .ok (.iconst 1, 1)) (by decide)
theorem o43_52 : Okp RX4 cX4_make 4 (some .int) "make" false 52 (sB2 fAdd 53) := ok_iadd (by decide +kernel : decode cX4_make 52 = .ok (.iadd, 1))
theorem o43_53 : Okp RX4 cX4_make 4 (some .int) "make" false 53 (sLI 2 54) := ok_iload_n (by decide +kernel : decode cX4_make 53 = .ok (.iload_n 2, 1)) rfl
theorem o43_54 : Okp RX4 cX4_make 4 (some .int) "make" false 54 (sCV false 44 3 5 57) := ok_cv (by decide +kernel : decode cX4_make 54 = .ok (.invokevirtual 51, 3)) mw_X4_51 rfl (by decide) wm_X4_openEnd wse_X4_openEnd (by decide) rfl
theorem o43_57 : Okp RX4 cX4_make 4 (some .int) "make" false 57 (sLI 3 58) := ok_iload_n (by decide +kernel : decode cX4_make 57 = .ok (.iload_n 3, 1)) rfl
theorem o43_58 : Okp RX4 cX4_make 4 (some .int) "make" false 58 sRI := ok_iret rfl (by decide +kernel : decode cX4_make 58 = .ok (.ireturn, 1))
theorem o43_59 : Okp RX4 cX4_make 4 (some .int) "make" false 59 (sInc 3 1 62) := ok_iinc (by decide +kernel : decode cX4_make 59 = .ok (.iinc 3 1, 3)) (by decide) (by decide)
theorem o43_62 : Okp RX4 cX4_make 4 (some .int) "make" false 62 (sGo 2) := ok_goto (by decide +kernel : decode cX4_make 62 = .ok (.goto (-60), 3)) (by decide)
theorem o43_65 : Okp RX4 cX4_make 4 (some .int) "make" false 65 (sK (-1) 66) := ok_iconst (by decide +kernel : decode cX4_make 65 = .ok (.iconst (-1), 1)) (by decide)
theorem o43_66 : Okp RX4 cX4_make 4 (some .int) "make" false 66 sRI := ok_iret rfl (by decide +kernel : decode cX4_make 66 = .ok (.ireturn, 1))
theorem oc43_0 : ∀ pc, Mnp (c43_0 pc) ∧ Okp RX4 cX4_make 4 (some .int) "make" false pc (c43_0 pc) := by
  intro pc
  unfold c43_0
  split
  · exact ⟨mn_sK, o43_0⟩
  · exact ⟨mn_sSI, o43_1⟩
  · exact ⟨mn_sLI, o43_2⟩
  · exact ⟨mn_sK, o43_3⟩
  · exact ⟨mn_sI2, o43_5⟩
  · exact ⟨mn_sLR, o43_8⟩
  · exact ⟨mn_sGR, o43_9⟩
  · exact ⟨mn_sK, o43_12⟩
  · exact ⟨mn_sLI, o43_13⟩
  · exact ⟨mn_sB2, o43_14⟩
  · exact ⟨mn_sBA, o43_15⟩
  · exact ⟨mn_sI1, o43_16⟩
  · exact ⟨mn_sLR, o43_19⟩
  · exact ⟨mn_sGR, o43_20⟩
  · exact ⟨mn_sK, o43_23⟩
  · exact ⟨mn_sX, ok_X⟩
theorem oc43_1 : ∀ pc, Mnp (c43_1 pc) ∧ Okp RX4 cX4_make 4 (some .int) "make" false pc (c43_1 pc) := by
  intro pc
  unfold c43_1
  split
  · exact ⟨mn_sLI, o43_24⟩
  · exact ⟨mn_sB2, o43_25⟩
  · exact ⟨mn_sK, o43_26⟩
  · exact ⟨mn_sB2, o43_27⟩
  · exact ⟨mn_sBA, o43_28⟩
  · exact ⟨mn_sI1, o43_29⟩
  · exact ⟨mn_sLR, o43_32⟩
  · exact ⟨mn_sGR, o43_33⟩
  · exact ⟨mn_sLI, o43_36⟩
  · exact ⟨mn_sLR, o43_37⟩
  · exact ⟨mn_sRS, o43_38⟩
  · exact ⟨mn_sLR, o43_39⟩
  · exact ⟨mn_sK, o43_40⟩
  · exact ⟨mn_sLI, o43_41⟩
  · exact ⟨mn_sB2, o43_42⟩
  · exact ⟨mn_sLI, o43_43⟩
  · exact ⟨mn_sCV, o43_44⟩
  · exact ⟨mn_sLR, o43_47⟩
  · exact ⟨mn_sX, ok_X⟩
theorem oc43_2 : ∀ pc, Mnp (c43_2 pc) ∧ Okp RX4 cX4_make 4 (some .int) "make" false pc (c43_2 pc) := by
  intro pc
  unfold c43_2
  split
  · exact ⟨mn_sK, o43_48⟩
  · exact ⟨mn_sLI, o43_49⟩
  · exact ⟨mn_sB2, o43_50⟩
  · exact ⟨mn_sK, o43_51⟩
  · exact ⟨mn_sB2, o43_52⟩
  · exact ⟨mn_sLI, o43_53⟩
  · exact ⟨mn_sCV, o43_54⟩
  · exact ⟨mn_sLI, o43_57⟩
  · exact ⟨mn_sRI, o43_58⟩
  · exact ⟨mn_sInc, o43_59⟩
  · exact ⟨mn_sGo, o43_62⟩
  · exact ⟨mn_sK, o43_65⟩
  · exact ⟨mn_sRI, o43_66⟩
  · exact ⟨mn_sX, ok_X⟩
theorem oc43 : ∀ pc, Mnp (c43 pc) ∧ Okp RX4 cX4_make 4 (some .int) "make" false pc (c43 pc) := by
  intro pc
  unfold c43
  split
  · exact oc43_0 pc
  · exact oc43_1 pc
  · exact oc43_2 pc
  · exact ⟨mn_sX, ok_X⟩
theorem o44_0 : Okp RX4 cX4_openEnd 3 none "openEnd" false 0 (sLR 0 1) := ok_aload_n (by decide +kernel : decode cX4_openEnd 0 = .ok (.aload_n 0, 1)) rfl
theorem o44_1 : Okp RX4 cX4_openEnd 3 none "openEnd" false 1 (sGR 5 1 4) := ok_getR (by decide +kernel : decode cX4_openEnd 1 = .ok (.getfield 9, 3)) fw_X4_9 rfl
theorem o44_4 : Okp RX4 cX4_openEnd 3 none "openEnd" false 4 (sLI 1 5) := ok_iload_n (by decide +kernel : decode cX4_openEnd 4 = .ok (.iload_n 1, 1)) rfl
theorem o44_5 : Okp RX4 cX4_openEnd 3 none "openEnd" false 5 (sK 1 6) := ok_iconst (by decide +kernel : decode cX4_openEnd 5 = .ok (.iconst 1, 1)) (by decide)
theorem o44_6 : Okp RX4 cX4_openEnd 3 none "openEnd" false 6 (sBS 7) := ok_bastore (by decide +kernel : decode cX4_openEnd 6 = .ok (.bastore, 1))
theorem o44_7 : Okp RX4 cX4_openEnd 3 none "openEnd" false 7 (sLR 0 8) := ok_aload_n (by decide +kernel : decode cX4_openEnd 7 = .ok (.aload_n 0, 1)) rfl
theorem o44_8 : Okp RX4 cX4_openEnd 3 none "openEnd" false 8 (sGR 5 2 11) := ok_getR (by decide +kernel : decode cX4_openEnd 8 = .ok (.getfield 15, 3)) fw_X4_15 rfl
theorem o44_11 : Okp RX4 cX4_openEnd 3 none "openEnd" false 11 (sLI 1 12) := ok_iload_n (by decide +kernel : decode cX4_openEnd 11 = .ok (.iload_n 1, 1)) rfl
theorem o44_12 : Okp RX4 cX4_openEnd 3 none "openEnd" false 12 (sK 0 13) := ok_iconst (by decide +kernel : decode cX4_openEnd 12 = .ok (.iconst 0, 1)) (by decide)
theorem o44_13 : Okp RX4 cX4_openEnd 3 none "openEnd" false 13 (sIS 14) := ok_iastore (by decide +kernel : decode cX4_openEnd 13 = .ok (.iastore, 1))
theorem o44_14 : Okp RX4 cX4_openEnd 3 none "openEnd" false 14 (sLR 0 15) := ok_aload_n (by decide +kernel : decode cX4_openEnd 14 = .ok (.aload_n 0, 1)) rfl
theorem o44_15 : Okp RX4 cX4_openEnd 3 none "openEnd" false 15 (sGR 5 3 18) := ok_getR (by decide +kernel : decode cX4_openEnd 15 = .ok (.getfield 19, 3)) fw_X4_19 rfl
theorem o44_18 : Okp RX4 cX4_openEnd 3 none "openEnd" false 18 (sLI 1 19) := ok_iload_n (by decide +kernel : decode cX4_openEnd 18 = .ok (.iload_n 1, 1)) rfl
theorem o44_19 : Okp RX4 cX4_openEnd 3 none "openEnd" false 19 (sLI 2 20) := ok_iload_n (by decide +kernel : decode cX4_openEnd 19 = .ok (.iload_n 2, 1)) rfl
theorem o44_20 : Okp RX4 cX4_openEnd 3 none "openEnd" false 20 (sIS 21) := ok_iastore (by decide +kernel : decode cX4_openEnd 20 = .ok (.iastore, 1))
theorem o44_21 : Okp RX4 cX4_openEnd 3 none "openEnd" false 21 (sLR 0 22) := ok_aload_n (by decide +kernel : decode cX4_openEnd 21 = .ok (.aload_n 0, 1)) rfl
theorem o44_22 : Okp RX4 cX4_openEnd 3 none "openEnd" false 22 (sGR 5 5 25) := ok_getR (by decide +kernel : decode cX4_openEnd 22 = .ok (.getfield 28, 3)) fw_X4_28 rfl
theorem o44_25 : Okp RX4 cX4_openEnd 3 none "openEnd" false 25 (sLI 1 26) := ok_iload_n (by decide +kernel : decode cX4_openEnd 25 = .ok (.iload_n 1, 1)) rfl
theorem o44_26 : Okp RX4 cX4_openEnd 3 none "openEnd" false 26 (sK 0 27) := ok_iconst (by decide +kernel : decode cX4_openEnd 26 = .ok (.iconst 0, 1)) (by decide)
theorem o44_27 : Okp RX4 cX4_openEnd 3 none "openEnd" false 27 (sIS 28) := ok_iastore (by decide +kernel : decode cX4_openEnd 27 = .ok (.iastore, 1))
theorem o44_28 : Okp RX4 cX4_openEnd 3 none "openEnd" false 28 sRV := ok_vret rfl (by decide +kernel : decode cX4_openEnd 28 = .ok (.return_, 1))
theorem oc44_0 : ∀ pc, Mnp (c44_0 pc) ∧ Okp RX4 cX4_openEnd 3 none "openEnd" false pc (c44_0 pc) := by
  intro pc
  unfold c44_0
  split
  · exact ⟨mn_sLR, o44_0⟩
  · exact ⟨mn_sGR, o44_1⟩
  · exact ⟨mn_sLI, o44_4⟩
  · exact ⟨mn_sK, o44_5⟩
  · exact ⟨mn_sBS, o44_6⟩
  · exact ⟨mn_sLR, o44_7⟩
  · exact ⟨mn_sGR, o44_8⟩
  · exact ⟨mn_sLI, o44_11⟩
  · exact ⟨mn_sK, o44_12⟩
  · exact ⟨mn_sIS, o44_13⟩
  · exact ⟨mn_sLR, o44_14⟩
  · exact ⟨mn_sGR, o44_15⟩
  · exact ⟨mn_sLI, o44_18⟩
  · exact ⟨mn_sLI, o44_19⟩
  · exact ⟨mn_sIS, o44_20⟩
  · exact ⟨mn_sLR, o44_21⟩
  · exact ⟨mn_sGR, o44_22⟩
  · exact ⟨mn_sX, ok_X⟩
theorem oc44_1 : ∀ pc, Mnp (c44_1 pc) ∧ Okp RX4 cX4_openEnd 3 none "openEnd" false pc (c44_1 pc) := by
  intro pc
  unfold c44_1
  split
  · exact ⟨mn_sLI, o44_25⟩
  · exact ⟨mn_sK, o44_26⟩
  · exact ⟨mn_sIS, o44_27⟩
  · exact ⟨mn_sRV, o44_28⟩
  · exact ⟨mn_sX, ok_X⟩
theorem oc44 : ∀ pc, Mnp (c44 pc) ∧ Okp RX4 cX4_openEnd 3 none "openEnd" false pc (c44 pc) := by
  intro pc
  unfold c44
  split
  · exact oc44_0 pc
  · exact oc44_1 pc
  · exact ⟨mn_sX, ok_X⟩
theorem o45_0 : Okp RX4 cX4_stateOf 2 (some .int) "stateOf" false 0 (sLR 0 1) := ok_aload_n (by decide +kernel : decode cX4_stateOf 0 = .ok (.aload_n 0, 1)) rfl
theorem o45_1 : Okp RX4 cX4_stateOf 2 (some .int) "stateOf" false 1 (sLI 1 2) := ok_iload_n (by decide +kernel : decode cX4_stateOf 1 = .ok (.iload_n 1, 1)) rfl
theorem o45_2 : Okp RX4 cX4_stateOf 2 (some .int) "stateOf" false 2 (sCV false 41 2 5 5) := ok_cv (by decide +kernel : decode cX4_stateOf 2 = .ok (.invokevirtual 55, 3)) mw_X4_55 rfl (by decide) wm_X4_isOpen wse_X4_isOpen (by decide) rfl
theorem o45_5 : Okp RX4 cX4_stateOf 2 (some .int) "stateOf" false 5 (sI1 0 17 8) := ok_if_eq (by decide +kernel : decode cX4_stateOf 5 = .ok (.ifCond .eq 12, 3)) (by decide)
theorem o45_8 : Okp RX4 cX4_stateOf 2 (some .int) "stateOf" false 8 (sLR 0 9) := ok_aload_n (by decide +kernel : decode cX4_stateOf 8 = .ok (.aload_n 0, 1)) rfl
theorem o45_9 : Okp RX4 cX4_stateOf 2 (some .int) "stateOf" false 9 (sGR 5 2 12) := ok_getR (by decide +kernel : decode cX4_stateOf 9 = .ok (.getfield 15, 3)) fw_X4_15 rfl
theorem o45_12 : Okp RX4 cX4_stateOf 2 (some .int) "stateOf" false 12 (sLI 1 13) := ok_iload_n (by decide +kernel : decode cX4_stateOf 12 = .ok (.iload_n 1, 1)) rfl
theorem o45_13 : Okp RX4 cX4_stateOf 2 (some .int) "stateOf" false 13 (sIA 14) := ok_iaload (by decide +kernel : decode cX4_stateOf 13 = .ok (.iaload, 1))
theorem o45_14 : Okp RX4 cX4_stateOf 2 (some .int) "stateOf" false 14 (sGo 18) := ok_goto (by decide +kernel : decode cX4_stateOf 14 = .ok (.goto 4, 3)) (by decide)
theorem o45_17 : Okp RX4 cX4_stateOf 2 (some .int) "stateOf" false 17 (sK (-1) 18) := ok_iconst (by decide +kernel : decode cX4_stateOf 17 = .ok (.iconst (-1), 1)) (by decide)
theorem o45_18 : Okp RX4 cX4_stateOf 2 (some .int) "stateOf" false 18 sRI := ok_iret rfl (by decide +kernel : decode cX4_stateOf 18 = .ok (.ireturn, 1))
theorem oc45 : ∀ pc, Mnp (c45 pc) ∧ Okp RX4 cX4_stateOf 2 (some .int) "stateOf" false pc (c45 pc) := by
  intro pc
  unfold c45
  split
  · exact ⟨mn_sLR, o45_0⟩
  · exact ⟨mn_sLI, o45_1⟩
  · exact ⟨mn_sCV, o45_2⟩
  · exact ⟨mn_sI1, o45_5⟩
  · exact ⟨mn_sLR, o45_8⟩
  · exact ⟨mn_sGR, o45_9⟩
  · exact ⟨mn_sLI, o45_12⟩
  · exact ⟨mn_sIA, o45_13⟩
  · exact ⟨mn_sGo, o45_14⟩
  · exact ⟨mn_sK, o45_17⟩
  · exact ⟨mn_sRI, o45_18⟩
  · exact ⟨mn_sX, ok_X⟩
theorem o46_0 : Okp RX4 cX4_ownerOf 2 (some .int) "ownerOf" false 0 (sLR 0 1) := ok_aload_n (by decide +kernel : decode cX4_ownerOf 0 = .ok (.aload_n 0, 1)) rfl
theorem o46_1 : Okp RX4 cX4_ownerOf 2 (some .int) "ownerOf" false 1 (sLI 1 2) := ok_iload_n (by decide +kernel : decode cX4_ownerOf 1 = .ok (.iload_n 1, 1)) rfl
theorem o46_2 : Okp RX4 cX4_ownerOf 2 (some .int) "ownerOf" false 2 (sCV false 41 2 5 5) := ok_cv (by decide +kernel : decode cX4_ownerOf 2 = .ok (.invokevirtual 55, 3)) mw_X4_55 rfl (by decide) wm_X4_isOpen wse_X4_isOpen (by decide) rfl
theorem o46_5 : Okp RX4 cX4_ownerOf 2 (some .int) "ownerOf" false 5 (sI1 0 17 8) := ok_if_eq (by decide +kernel : decode cX4_ownerOf 5 = .ok (.ifCond .eq 12, 3)) (by decide)
theorem o46_8 : Okp RX4 cX4_ownerOf 2 (some .int) "ownerOf" false 8 (sLR 0 9) := ok_aload_n (by decide +kernel : decode cX4_ownerOf 8 = .ok (.aload_n 0, 1)) rfl
theorem o46_9 : Okp RX4 cX4_ownerOf 2 (some .int) "ownerOf" false 9 (sGR 5 3 12) := ok_getR (by decide +kernel : decode cX4_ownerOf 9 = .ok (.getfield 19, 3)) fw_X4_19 rfl
theorem o46_12 : Okp RX4 cX4_ownerOf 2 (some .int) "ownerOf" false 12 (sLI 1 13) := ok_iload_n (by decide +kernel : decode cX4_ownerOf 12 = .ok (.iload_n 1, 1)) rfl
theorem o46_13 : Okp RX4 cX4_ownerOf 2 (some .int) "ownerOf" false 13 (sIA 14) := ok_iaload (by decide +kernel : decode cX4_ownerOf 13 = .ok (.iaload, 1))
theorem o46_14 : Okp RX4 cX4_ownerOf 2 (some .int) "ownerOf" false 14 (sGo 18) := ok_goto (by decide +kernel : decode cX4_ownerOf 14 = .ok (.goto 4, 3)) (by decide)
theorem o46_17 : Okp RX4 cX4_ownerOf 2 (some .int) "ownerOf" false 17 (sK (-1) 18) := ok_iconst (by decide +kernel : decode cX4_ownerOf 17 = .ok (.iconst (-1), 1)) (by decide)
theorem o46_18 : Okp RX4 cX4_ownerOf 2 (some .int) "ownerOf" false 18 sRI := ok_iret rfl (by decide +kernel : decode cX4_ownerOf 18 = .ok (.ireturn, 1))
theorem oc46 : ∀ pc, Mnp (c46 pc) ∧ Okp RX4 cX4_ownerOf 2 (some .int) "ownerOf" false pc (c46 pc) := by
  intro pc
  unfold c46
  split
  · exact ⟨mn_sLR, o46_0⟩
  · exact ⟨mn_sLI, o46_1⟩
  · exact ⟨mn_sCV, o46_2⟩
  · exact ⟨mn_sI1, o46_5⟩
  · exact ⟨mn_sLR, o46_8⟩
  · exact ⟨mn_sGR, o46_9⟩
  · exact ⟨mn_sLI, o46_12⟩
  · exact ⟨mn_sIA, o46_13⟩
  · exact ⟨mn_sGo, o46_14⟩
  · exact ⟨mn_sK, o46_17⟩
  · exact ⟨mn_sRI, o46_18⟩
  · exact ⟨mn_sX, ok_X⟩
theorem o47_0 : Okp RX4 cX4_give 3 none "give" false 0 (sLI 1 1) := ok_iload_n (by decide +kernel : decode cX4_give 0 = .ok (.iload_n 1, 1)) rfl
theorem o47_1 : Okp RX4 cX4_give 3 none "give" false 1 (sI1 2 17 4) := ok_if_lt (by decide +kernel : decode cX4_give 1 = .ok (.ifCond .lt 16, 3)) (by decide)
theorem o47_4 : Okp RX4 cX4_give 3 none "give" false 4 (sLI 1 5) := ok_iload_n (by decide +kernel : decode cX4_give 4 = .ok (.iload_n 1, 1)) rfl
theorem o47_5 : Okp RX4 cX4_give 3 none "give" false 5 (sK 24 7) := ok_bipush (by decide +kernel : decode cX4_give 5 = .ok (.bipush 24, 2)) (by decide)
theorem o47_7 : Okp RX4 cX4_give 3 none "give" false 7 (sI2 3 17 10) := ok_icmp_ge (by decide +kernel : decode cX4_give 7 = .ok (.if_icmp .ge 10, 3)) (by decide)
theorem o47_10 : Okp RX4 cX4_give 3 none "give" false 10 (sLR 0 11) := ok_aload_n (by decide +kernel : decode cX4_give 10 = .ok (.aload_n 0, 1)) rfl
theorem o47_11 : Okp RX4 cX4_give 3 none "give" false 11 (sGR 5 3 14) := ok_getR (by decide +kernel : decode cX4_give 11 = .ok (.getfield 19, 3)) fw_X4_19 rfl
theorem o47_14 : Okp RX4 cX4_give 3 none "give" false 14 (sLI 1 15) := ok_iload_n (by decide +kernel : decode cX4_give 14 = .ok (.iload_n 1, 1)) rfl
theorem o47_15 : Okp RX4 cX4_give 3 none "give" false 15 (sLI 2 16) := ok_iload_n (by decide +kernel : decode cX4_give 15 = .ok (.iload_n 2, 1)) rfl
theorem o47_16 : Okp RX4 cX4_give 3 none "give" false 16 (sIS 17) := ok_iastore (by decide +kernel : decode cX4_give 16 = .ok (.iastore, 1))
theorem o47_17 : Okp RX4 cX4_give 3 none "give" false 17 sRV := ok_vret rfl (by decide +kernel : decode cX4_give 17 = .ok (.return_, 1))
theorem oc47 : ∀ pc, Mnp (c47 pc) ∧ Okp RX4 cX4_give 3 none "give" false pc (c47 pc) := by
  intro pc
  unfold c47
  split
  · exact ⟨mn_sLI, o47_0⟩
  · exact ⟨mn_sI1, o47_1⟩
  · exact ⟨mn_sLI, o47_4⟩
  · exact ⟨mn_sK, o47_5⟩
  · exact ⟨mn_sI2, o47_7⟩
  · exact ⟨mn_sLR, o47_10⟩
  · exact ⟨mn_sGR, o47_11⟩
  · exact ⟨mn_sLI, o47_14⟩
  · exact ⟨mn_sLI, o47_15⟩
  · exact ⟨mn_sIS, o47_16⟩
  · exact ⟨mn_sRV, o47_17⟩
  · exact ⟨mn_sX, ok_X⟩
theorem o48_0 : Okp RX4 cX4_waitingFor 2 (some .int) "waitingFor" false 0 (sLR 0 1) := ok_aload_n (by decide +kernel : decode cX4_waitingFor 0 = .ok (.aload_n 0, 1)) rfl
theorem o48_1 : Okp RX4 cX4_waitingFor 2 (some .int) "waitingFor" false 1 (sLI 1 2) := ok_iload_n (by decide +kernel : decode cX4_waitingFor 1 = .ok (.iload_n 1, 1)) rfl
theorem o48_2 : Okp RX4 cX4_waitingFor 2 (some .int) "waitingFor" false 2 (sCV false 41 2 5 5) := ok_cv (by decide +kernel : decode cX4_waitingFor 2 = .ok (.invokevirtual 55, 3)) mw_X4_55 rfl (by decide) wm_X4_isOpen wse_X4_isOpen (by decide) rfl
theorem o48_5 : Okp RX4 cX4_waitingFor 2 (some .int) "waitingFor" false 5 (sI1 0 17 8) := ok_if_eq (by decide +kernel : decode cX4_waitingFor 5 = .ok (.ifCond .eq 12, 3)) (by decide)
theorem o48_8 : Okp RX4 cX4_waitingFor 2 (some .int) "waitingFor" false 8 (sLR 0 9) := ok_aload_n (by decide +kernel : decode cX4_waitingFor 8 = .ok (.aload_n 0, 1)) rfl
theorem o48_9 : Okp RX4 cX4_waitingFor 2 (some .int) "waitingFor" false 9 (sGR 5 5 12) := ok_getR (by decide +kernel : decode cX4_waitingFor 9 = .ok (.getfield 28, 3)) fw_X4_28 rfl
theorem o48_12 : Okp RX4 cX4_waitingFor 2 (some .int) "waitingFor" false 12 (sLI 1 13) := ok_iload_n (by decide +kernel : decode cX4_waitingFor 12 = .ok (.iload_n 1, 1)) rfl
theorem o48_13 : Okp RX4 cX4_waitingFor 2 (some .int) "waitingFor" false 13 (sIA 14) := ok_iaload (by decide +kernel : decode cX4_waitingFor 13 = .ok (.iaload, 1))
theorem o48_14 : Okp RX4 cX4_waitingFor 2 (some .int) "waitingFor" false 14 (sGo 18) := ok_goto (by decide +kernel : decode cX4_waitingFor 14 = .ok (.goto 4, 3)) (by decide)
theorem o48_17 : Okp RX4 cX4_waitingFor 2 (some .int) "waitingFor" false 17 (sK 0 18) := ok_iconst (by decide +kernel : decode cX4_waitingFor 17 = .ok (.iconst 0, 1)) (by decide)
theorem o48_18 : Okp RX4 cX4_waitingFor 2 (some .int) "waitingFor" false 18 sRI := ok_iret rfl (by decide +kernel : decode cX4_waitingFor 18 = .ok (.ireturn, 1))
theorem oc48 : ∀ pc, Mnp (c48 pc) ∧ Okp RX4 cX4_waitingFor 2 (some .int) "waitingFor" false pc (c48 pc) := by
  intro pc
  unfold c48
  split
  · exact ⟨mn_sLR, o48_0⟩
  · exact ⟨mn_sLI, o48_1⟩
  · exact ⟨mn_sCV, o48_2⟩
  · exact ⟨mn_sI1, o48_5⟩
  · exact ⟨mn_sLR, o48_8⟩
  · exact ⟨mn_sGR, o48_9⟩
  · exact ⟨mn_sLI, o48_12⟩
  · exact ⟨mn_sIA, o48_13⟩
  · exact ⟨mn_sGo, o48_14⟩
  · exact ⟨mn_sK, o48_17⟩
  · exact ⟨mn_sRI, o48_18⟩
  · exact ⟨mn_sX, ok_X⟩
theorem o49_0 : Okp RX4 cX4_sendsBare 4 (some .boolean) "sendsBare" false 0 (sLR 0 1) := ok_aload_n (by decide +kernel : decode cX4_sendsBare 0 = .ok (.aload_n 0, 1)) rfl
theorem o49_1 : Okp RX4 cX4_sendsBare 4 (some .boolean) "sendsBare" false 1 (sLI 1 2) := ok_iload_n (by decide +kernel : decode cX4_sendsBare 1 = .ok (.iload_n 1, 1)) rfl
theorem o49_2 : Okp RX4 cX4_sendsBare 4 (some .boolean) "sendsBare" false 2 (sCV false 41 2 5 5) := ok_cv (by decide +kernel : decode cX4_sendsBare 2 = .ok (.invokevirtual 55, 3)) mw_X4_55 rfl (by decide) wm_X4_isOpen wse_X4_isOpen (by decide) rfl
theorem o49_5 : Okp RX4 cX4_sendsBare 4 (some .boolean) "sendsBare" false 5 (sI1 0 19 8) := ok_if_eq (by decide +kernel : decode cX4_sendsBare 5 = .ok (.ifCond .eq 14, 3)) (by decide)
theorem o49_8 : Okp RX4 cX4_sendsBare 4 (some .boolean) "sendsBare" false 8 (sLR 0 9) := ok_aload_n (by decide +kernel : decode cX4_sendsBare 8 = .ok (.aload_n 0, 1)) rfl
theorem o49_9 : Okp RX4 cX4_sendsBare 4 (some .boolean) "sendsBare" false 9 (sGR 5 4 12) := ok_getR (by decide +kernel : decode cX4_sendsBare 9 = .ok (.getfield 24, 3)) fw_X4_24 rfl
theorem o49_12 : Okp RX4 cX4_sendsBare 4 (some .boolean) "sendsBare" false 12 (sLI 1 13) := ok_iload_n (by decide +kernel : decode cX4_sendsBare 12 = .ok (.iload_n 1, 1)) rfl
theorem o49_13 : Okp RX4 cX4_sendsBare 4 (some .boolean) "sendsBare" false 13 (sK 2 14) := ok_iconst (by decide +kernel : decode cX4_sendsBare 13 = .ok (.iconst 2, 1)) (by decide)
theorem o49_14 : Okp RX4 cX4_sendsBare 4 (some .boolean) "sendsBare" false 14 (sD2 fDiv 15) := ok_idiv (by decide +kernel : decode cX4_sendsBare 14 = .ok (.idiv, 1))
theorem o49_15 : Okp RX4 cX4_sendsBare 4 (some .boolean) "sendsBare" false 15 (sRA 16) := ok_aaload (by decide +kernel : decode cX4_sendsBare 15 = .ok (.aaload, 1))
theorem o49_16 : Okp RX4 cX4_sendsBare 4 (some .boolean) "sendsBare" false 16 (sGo 20) := ok_goto (by decide +kernel : decode cX4_sendsBare 16 = .ok (.goto 4, 3)) (by decide)
theorem o49_19 : Okp RX4 cX4_sendsBare 4 (some .boolean) "sendsBare" false 19 (sNul 20) := ok_null (by decide +kernel : decode cX4_sendsBare 19 = .ok (.aconst_null, 1))
theorem o49_20 : Okp RX4 cX4_sendsBare 4 (some .boolean) "sendsBare" false 20 (sSR 3 21) := ok_astore_n (by decide +kernel : decode cX4_sendsBare 20 = .ok (.astore_n 3, 1)) rfl (by decide) (by decide)
theorem o49_21 : Okp RX4 cX4_sendsBare 4 (some .boolean) "sendsBare" false 21 (sLR 3 22) := ok_aload_n (by decide +kernel : decode cX4_sendsBare 21 = .ok (.aload_n 3, 1)) rfl
theorem o49_22 : Okp RX4 cX4_sendsBare 4 (some .boolean) "sendsBare" false 22 (sNl 46 25) := ok_ifnull (by decide +kernel : decode cX4_sendsBare 22 = .ok (.ifnull 24, 3)) (by decide)
theorem o49_25 : Okp RX4 cX4_sendsBare 4 (some .boolean) "sendsBare" false 25 (sLR 3 26) := ok_aload_n (by decide +kernel : decode cX4_sendsBare 25 = .ok (.aload_n 3, 1)) rfl
theorem o49_26 : Okp RX4 cX4_sendsBare 4 (some .boolean) "sendsBare" false 26 (sLR 0 27) := ok_aload_n (by decide +kernel : decode cX4_sendsBare 26 = .ok (.aload_n 0, 1)) rfl
theorem o49_27 : Okp RX4 cX4_sendsBare 4 (some .boolean) "sendsBare" false 27 (sGR 5 2 30) := ok_getR (by decide +kernel : decode cX4_sendsBare 27 = .ok (.getfield 15, 3)) fw_X4_15 rfl
theorem o49_30 : Okp RX4 cX4_sendsBare 4 (some .boolean) "sendsBare" false 30 (sLI 1 31) := ok_iload_n (by decide +kernel : decode cX4_sendsBare 30 = .ok (.iload_n 1, 1)) rfl
theorem o49_31 : Okp RX4 cX4_sendsBare 4 (some .boolean) "sendsBare" false 31 (sIA 32) := ok_iaload (by decide +kernel : decode cX4_sendsBare 31 = .ok (.iaload, 1))
theorem o49_32 : Okp RX4 cX4_sendsBare 4 (some .boolean) "sendsBare" false 32 (sLI 1 33) := ok_iload_n (by decide +kernel : decode cX4_sendsBare 32 = .ok (.iload_n 1, 1)) rfl
theorem o49_33 : Okp RX4 cX4_sendsBare 4 (some .boolean) "sendsBare" false 33 (sK 2 34) := ok_iconst (by decide +kernel : decode cX4_sendsBare 33 = .ok (.iconst 2, 1)) (by decide)
theorem o49_34 : Okp RX4 cX4_sendsBare 4 (some .boolean) "sendsBare" false 34 (sD2 fRem 35) := ok_irem (by decide +kernel : decode cX4_sendsBare 34 = .ok (.irem, 1))
theorem o49_35 : Okp RX4 cX4_sendsBare 4 (some .boolean) "sendsBare" false 35 (sLI 2 36) := ok_iload_n (by decide +kernel : decode cX4_sendsBare 35 = .ok (.iload_n 2, 1)) rfl
theorem o49_36 : Okp RX4 cX4_sendsBare 4 (some .boolean) "sendsBare" false 36 (sCV false 28 4 3 39) := ok_cv (by decide +kernel : decode cX4_sendsBare 36 = .ok (.invokevirtual 59, 3)) mw_X4_59 rfl (by decide) wm_X2_sendsBare wse_X2_sendsBare (by decide) rfl
theorem o49_39 : Okp RX4 cX4_sendsBare 4 (some .boolean) "sendsBare" false 39 (sI1 0 46 42) := ok_if_eq (by decide +kernel : decode cX4_sendsBare 39 = .ok (.ifCond .eq 7, 3)) (by decide)
theorem o49_42 : Okp RX4 cX4_sendsBare 4 (some .boolean) "sendsBare" false 42 (sK 1 43) := ok_iconst (by decide +kernel : decode cX4_sendsBare 42 = .ok (.iconst 1, 1)) (by decide)
theorem o49_43 : Okp RX4 cX4_sendsBare 4 (some .boolean) "sendsBare" false 43 (sGo 47) := ok_goto (by decide +kernel : decode cX4_sendsBare 43 = .ok (.goto 4, 3)) (by decide)
theorem o49_46 : Okp RX4 cX4_sendsBare 4 (some .boolean) "sendsBare" false 46 (sK 0 47) := ok_iconst (by decide +kernel : decode cX4_sendsBare 46 = .ok (.iconst 0, 1)) (by decide)
theorem o49_47 : Okp RX4 cX4_sendsBare 4 (some .boolean) "sendsBare" false 47 sRZ := ok_zret rfl (by decide +kernel : decode cX4_sendsBare 47 = .ok (.ireturn, 1))
theorem oc49_0 : ∀ pc, Mnp (c49_0 pc) ∧ Okp RX4 cX4_sendsBare 4 (some .boolean) "sendsBare" false pc (c49_0 pc) := by
  intro pc
  unfold c49_0
  split
  · exact ⟨mn_sLR, o49_0⟩
  · exact ⟨mn_sLI, o49_1⟩
  · exact ⟨mn_sCV, o49_2⟩
  · exact ⟨mn_sI1, o49_5⟩
  · exact ⟨mn_sLR, o49_8⟩
  · exact ⟨mn_sGR, o49_9⟩
  · exact ⟨mn_sLI, o49_12⟩
  · exact ⟨mn_sK, o49_13⟩
  · exact ⟨mn_sD2, o49_14⟩
  · exact ⟨mn_sRA, o49_15⟩
  · exact ⟨mn_sGo, o49_16⟩
  · exact ⟨mn_sNul, o49_19⟩
  · exact ⟨mn_sSR, o49_20⟩
  · exact ⟨mn_sLR, o49_21⟩
  · exact ⟨mn_sNl, o49_22⟩
  · exact ⟨mn_sX, ok_X⟩
theorem oc49_1 : ∀ pc, Mnp (c49_1 pc) ∧ Okp RX4 cX4_sendsBare 4 (some .boolean) "sendsBare" false pc (c49_1 pc) := by
  intro pc
  unfold c49_1
  split
  · exact ⟨mn_sLR, o49_25⟩
  · exact ⟨mn_sLR, o49_26⟩
  · exact ⟨mn_sGR, o49_27⟩
  · exact ⟨mn_sLI, o49_30⟩
  · exact ⟨mn_sIA, o49_31⟩
  · exact ⟨mn_sLI, o49_32⟩
  · exact ⟨mn_sK, o49_33⟩
  · exact ⟨mn_sD2, o49_34⟩
  · exact ⟨mn_sLI, o49_35⟩
  · exact ⟨mn_sCV, o49_36⟩
  · exact ⟨mn_sI1, o49_39⟩
  · exact ⟨mn_sK, o49_42⟩
  · exact ⟨mn_sGo, o49_43⟩
  · exact ⟨mn_sK, o49_46⟩
  · exact ⟨mn_sRZ, o49_47⟩
  · exact ⟨mn_sX, ok_X⟩
theorem oc49 : ∀ pc, Mnp (c49 pc) ∧ Okp RX4 cX4_sendsBare 4 (some .boolean) "sendsBare" false pc (c49 pc) := by
  intro pc
  unfold c49
  split
  · exact oc49_0 pc
  · exact oc49_1 pc
  · exact ⟨mn_sX, ok_X⟩
theorem o50_0 : Okp RX4 cX4_isFull 2 (some .boolean) "isFull" false 0 (sLR 0 1) := ok_aload_n (by decide +kernel : decode cX4_isFull 0 = .ok (.aload_n 0, 1)) rfl
theorem o50_1 : Okp RX4 cX4_isFull 2 (some .boolean) "isFull" false 1 (sLI 1 2) := ok_iload_n (by decide +kernel : decode cX4_isFull 1 = .ok (.iload_n 1, 1)) rfl
theorem o50_2 : Okp RX4 cX4_isFull 2 (some .boolean) "isFull" false 2 (sCV false 48 2 5 5) := ok_cv (by decide +kernel : decode cX4_isFull 2 = .ok (.invokevirtual 63, 3)) mw_X4_63 rfl (by decide) wm_X4_waitingFor wse_X4_waitingFor (by decide) rfl
theorem o50_5 : Okp RX4 cX4_isFull 2 (some .boolean) "isFull" false 5 (sK 4 6) := ok_iconst (by decide +kernel : decode cX4_isFull 5 = .ok (.iconst 4, 1)) (by decide)
theorem o50_6 : Okp RX4 cX4_isFull 2 (some .boolean) "isFull" false 6 (sI2 2 13 9) := ok_icmp_lt (by decide +kernel : decode cX4_isFull 6 = .ok (.if_icmp .lt 7, 3)) (by decide)
theorem o50_9 : Okp RX4 cX4_isFull 2 (some .boolean) "isFull" false 9 (sK 1 10) := ok_iconst (by decide +kernel : decode cX4_isFull 9 = .ok (.iconst 1, 1)) (by decide)
theorem o50_10 : Okp RX4 cX4_isFull 2 (some .boolean) "isFull" false 10 (sGo 14) := ok_goto (by decide +kernel : decode cX4_isFull 10 = .ok (.goto 4, 3)) (by decide)
theorem o50_13 : Okp RX4 cX4_isFull 2 (some .boolean) "isFull" false 13 (sK 0 14) := ok_iconst (by decide +kernel : decode cX4_isFull 13 = .ok (.iconst 0, 1)) (by decide)
theorem o50_14 : Okp RX4 cX4_isFull 2 (some .boolean) "isFull" false 14 sRZ := ok_zret rfl (by decide +kernel : decode cX4_isFull 14 = .ok (.ireturn, 1))
theorem oc50 : ∀ pc, Mnp (c50 pc) ∧ Okp RX4 cX4_isFull 2 (some .boolean) "isFull" false pc (c50 pc) := by
  intro pc
  unfold c50
  split
  · exact ⟨mn_sLR, o50_0⟩
  · exact ⟨mn_sLI, o50_1⟩
  · exact ⟨mn_sCV, o50_2⟩
  · exact ⟨mn_sK, o50_5⟩
  · exact ⟨mn_sI2, o50_6⟩
  · exact ⟨mn_sK, o50_9⟩
  · exact ⟨mn_sGo, o50_10⟩
  · exact ⟨mn_sK, o50_13⟩
  · exact ⟨mn_sRZ, o50_14⟩
  · exact ⟨mn_sX, ok_X⟩
theorem o51_0 : Okp RX4 cX4_moveOn 4 none "moveOn" false 0 (sLR 0 1) := ok_aload_n (by decide +kernel : decode cX4_moveOn 0 = .ok (.aload_n 0, 1)) rfl
theorem o51_1 : Okp RX4 cX4_moveOn 4 none "moveOn" false 1 (sLI 1 2) := ok_iload_n (by decide +kernel : decode cX4_moveOn 1 = .ok (.iload_n 1, 1)) rfl
theorem o51_2 : Okp RX4 cX4_moveOn 4 none "moveOn" false 2 (sCV false 41 2 5 5) := ok_cv (by decide +kernel : decode cX4_moveOn 2 = .ok (.invokevirtual 55, 3)) mw_X4_55 rfl (by decide) wm_X4_isOpen wse_X4_isOpen (by decide) rfl
theorem o51_5 : Okp RX4 cX4_moveOn 4 none "moveOn" false 5 (sI1 0 19 8) := ok_if_eq (by decide +kernel : decode cX4_moveOn 5 = .ok (.ifCond .eq 14, 3)) (by decide)
theorem o51_8 : Okp RX4 cX4_moveOn 4 none "moveOn" false 8 (sLR 0 9) := ok_aload_n (by decide +kernel : decode cX4_moveOn 8 = .ok (.aload_n 0, 1)) rfl
theorem o51_9 : Okp RX4 cX4_moveOn 4 none "moveOn" false 9 (sGR 5 4 12) := ok_getR (by decide +kernel : decode cX4_moveOn 9 = .ok (.getfield 24, 3)) fw_X4_24 rfl
theorem o51_12 : Okp RX4 cX4_moveOn 4 none "moveOn" false 12 (sLI 1 13) := ok_iload_n (by decide +kernel : decode cX4_moveOn 12 = .ok (.iload_n 1, 1)) rfl
theorem o51_13 : Okp RX4 cX4_moveOn 4 none "moveOn" false 13 (sK 2 14) := ok_iconst (by decide +kernel : decode cX4_moveOn 13 = .ok (.iconst 2, 1)) (by decide)
theorem o51_14 : Okp RX4 cX4_moveOn 4 none "moveOn" false 14 (sD2 fDiv 15) := ok_idiv (by decide +kernel : decode cX4_moveOn 14 = .ok (.idiv, 1))
theorem o51_15 : Okp RX4 cX4_moveOn 4 none "moveOn" false 15 (sRA 16) := ok_aaload (by decide +kernel : decode cX4_moveOn 15 = .ok (.aaload, 1))
theorem o51_16 : Okp RX4 cX4_moveOn 4 none "moveOn" false 16 (sGo 20) := ok_goto (by decide +kernel : decode cX4_moveOn 16 = .ok (.goto 4, 3)) (by decide)
theorem o51_19 : Okp RX4 cX4_moveOn 4 none "moveOn" false 19 (sNul 20) := ok_null (by decide +kernel : decode cX4_moveOn 19 = .ok (.aconst_null, 1))
theorem o51_20 : Okp RX4 cX4_moveOn 4 none "moveOn" false 20 (sSR 3 21) := ok_astore_n (by decide +kernel : decode cX4_moveOn 20 = .ok (.astore_n 3, 1)) rfl (by decide) (by decide)
theorem o51_21 : Okp RX4 cX4_moveOn 4 none "moveOn" false 21 (sLR 3 22) := ok_aload_n (by decide +kernel : decode cX4_moveOn 21 = .ok (.aload_n 3, 1)) rfl
theorem o51_22 : Okp RX4 cX4_moveOn 4 none "moveOn" false 22 (sNl 42 25) := ok_ifnull (by decide +kernel : decode cX4_moveOn 22 = .ok (.ifnull 20, 3)) (by decide)
theorem o51_25 : Okp RX4 cX4_moveOn 4 none "moveOn" false 25 (sLR 0 26) := ok_aload_n (by decide +kernel : decode cX4_moveOn 25 = .ok (.aload_n 0, 1)) rfl
theorem o51_26 : Okp RX4 cX4_moveOn 4 none "moveOn" false 26 (sGR 5 2 29) := ok_getR (by decide +kernel : decode cX4_moveOn 26 = .ok (.getfield 15, 3)) fw_X4_15 rfl
theorem o51_29 : Okp RX4 cX4_moveOn 4 none "moveOn" false 29 (sLI 1 30) := ok_iload_n (by decide +kernel : decode cX4_moveOn 29 = .ok (.iload_n 1, 1)) rfl
theorem o51_30 : Okp RX4 cX4_moveOn 4 none "moveOn" false 30 (sLR 3 31) := ok_aload_n (by decide +kernel : decode cX4_moveOn 30 = .ok (.aload_n 3, 1)) rfl
theorem o51_31 : Okp RX4 cX4_moveOn 4 none "moveOn" false 31 (sLR 0 32) := ok_aload_n (by decide +kernel : decode cX4_moveOn 31 = .ok (.aload_n 0, 1)) rfl
theorem o51_32 : Okp RX4 cX4_moveOn 4 none "moveOn" false 32 (sGR 5 2 35) := ok_getR (by decide +kernel : decode cX4_moveOn 32 = .ok (.getfield 15, 3)) fw_X4_15 rfl
theorem o51_35 : Okp RX4 cX4_moveOn 4 none "moveOn" false 35 (sLI 1 36) := ok_iload_n (by decide +kernel : decode cX4_moveOn 35 = .ok (.iload_n 1, 1)) rfl
theorem o51_36 : Okp RX4 cX4_moveOn 4 none "moveOn" false 36 (sIA 37) := ok_iaload (by decide +kernel : decode cX4_moveOn 36 = .ok (.iaload, 1))
theorem o51_37 : Okp RX4 cX4_moveOn 4 none "moveOn" false 37 (sLI 2 38) := ok_iload_n (by decide +kernel : decode cX4_moveOn 37 = .ok (.iload_n 2, 1)) rfl
theorem o51_38 : Okp RX4 cX4_moveOn 4 none "moveOn" false 38 (sCV false 25 3 3 41) := ok_cv (by decide +kernel : decode cX4_moveOn 38 = .ok (.invokevirtual 67, 3)) mw_X4_67 rfl (by decide) wm_X2_nextOf wse_X2_nextOf (by decide) rfl
theorem o51_41 : Okp RX4 cX4_moveOn 4 none "moveOn" false 41 (sIS 42) := ok_iastore (by decide +kernel : decode cX4_moveOn 41 = .ok (.iastore, 1))
theorem o51_42 : Okp RX4 cX4_moveOn 4 none "moveOn" false 42 sRV := ok_vret rfl (by decide +kernel : decode cX4_moveOn 42 = .ok (.return_, 1))
theorem oc51_0 : ∀ pc, Mnp (c51_0 pc) ∧ Okp RX4 cX4_moveOn 4 none "moveOn" false pc (c51_0 pc) := by
  intro pc
  unfold c51_0
  split
  · exact ⟨mn_sLR, o51_0⟩
  · exact ⟨mn_sLI, o51_1⟩
  · exact ⟨mn_sCV, o51_2⟩
  · exact ⟨mn_sI1, o51_5⟩
  · exact ⟨mn_sLR, o51_8⟩
  · exact ⟨mn_sGR, o51_9⟩
  · exact ⟨mn_sLI, o51_12⟩
  · exact ⟨mn_sK, o51_13⟩
  · exact ⟨mn_sD2, o51_14⟩
  · exact ⟨mn_sRA, o51_15⟩
  · exact ⟨mn_sGo, o51_16⟩
  · exact ⟨mn_sNul, o51_19⟩
  · exact ⟨mn_sSR, o51_20⟩
  · exact ⟨mn_sLR, o51_21⟩
  · exact ⟨mn_sNl, o51_22⟩
  · exact ⟨mn_sX, ok_X⟩
theorem oc51_1 : ∀ pc, Mnp (c51_1 pc) ∧ Okp RX4 cX4_moveOn 4 none "moveOn" false pc (c51_1 pc) := by
  intro pc
  unfold c51_1
  split
  · exact ⟨mn_sLR, o51_25⟩
  · exact ⟨mn_sGR, o51_26⟩
  · exact ⟨mn_sLI, o51_29⟩
  · exact ⟨mn_sLR, o51_30⟩
  · exact ⟨mn_sLR, o51_31⟩
  · exact ⟨mn_sGR, o51_32⟩
  · exact ⟨mn_sLI, o51_35⟩
  · exact ⟨mn_sIA, o51_36⟩
  · exact ⟨mn_sLI, o51_37⟩
  · exact ⟨mn_sCV, o51_38⟩
  · exact ⟨mn_sIS, o51_41⟩
  · exact ⟨mn_sRV, o51_42⟩
  · exact ⟨mn_sX, ok_X⟩
theorem oc51 : ∀ pc, Mnp (c51 pc) ∧ Okp RX4 cX4_moveOn 4 none "moveOn" false pc (c51 pc) := by
  intro pc
  unfold c51
  split
  · exact oc51_0 pc
  · exact oc51_1 pc
  · exact ⟨mn_sX, ok_X⟩
theorem o52_0 : Okp RX4 cX4_send 7 none "send" false 0 (sLI 1 1) := ok_iload_n (by decide +kernel : decode cX4_send 0 = .ok (.iload_n 1, 1)) rfl
theorem o52_1 : Okp RX4 cX4_send 7 none "send" false 1 (sK 1 2) := ok_iconst (by decide +kernel : decode cX4_send 1 = .ok (.iconst 1, 1)) (by decide)
theorem o52_2 : Okp RX4 cX4_send 7 none "send" false 2 (sB2 fXor 3) := ok_ixor (by decide +kernel : decode cX4_send 2 = .ok (.ixor, 1))
theorem o52_3 : Okp RX4 cX4_send 7 none "send" false 3 (sSI 5 5) := ok_istore (by decide +kernel : decode cX4_send 3 = .ok (.istore 5, 2)) (by decide) (by decide)
theorem o52_5 : Okp RX4 cX4_send 7 none "send" false 5 (sLR 0 6) := ok_aload_n (by decide +kernel : decode cX4_send 5 = .ok (.aload_n 0, 1)) rfl
theorem o52_6 : Okp RX4 cX4_send 7 none "send" false 6 (sLI 1 7) := ok_iload_n (by decide +kernel : decode cX4_send 6 = .ok (.iload_n 1, 1)) rfl
theorem o52_7 : Okp RX4 cX4_send 7 none "send" false 7 (sCV false 41 2 5 10) := ok_cv (by decide +kernel : decode cX4_send 7 = .ok (.invokevirtual 55, 3)) mw_X4_55 rfl (by decide) wm_X4_isOpen wse_X4_isOpen (by decide) rfl
theorem o52_10 : Okp RX4 cX4_send 7 none "send" false 10 (sI1 0 24 13) := ok_if_eq (by decide +kernel : decode cX4_send 10 = .ok (.ifCond .eq 14, 3)) (by decide)
theorem o52_13 : Okp RX4 cX4_send 7 none "send" false 13 (sLR 0 14) := ok_aload_n (by decide +kernel : decode cX4_send 13 = .ok (.aload_n 0, 1)) rfl
theorem o52_14 : Okp RX4 cX4_send 7 none "send" false 14 (sGR 5 5 17) := ok_getR (by decide +kernel : decode cX4_send 14 = .ok (.getfield 28, 3)) fw_X4_28 rfl
theorem o52_17 : Okp RX4 cX4_send 7 none "send" false 17 (sLI 5 19) := ok_iload (by decide +kernel : decode cX4_send 17 = .ok (.iload 5, 2))
theorem o52_19 : Okp RX4 cX4_send 7 none "send" false 19 (sIA 20) := ok_iaload (by decide +kernel : decode cX4_send 19 = .ok (.iaload, 1))
theorem o52_20 : Okp RX4 cX4_send 7 none "send" false 20 (sK 4 21) := ok_iconst (by decide +kernel : decode cX4_send 20 = .ok (.iconst 4, 1)) (by decide)
theorem o52_21 : Okp RX4 cX4_send 7 none "send" false 21 (sI2 2 25 24) := ok_icmp_lt (by decide +kernel : decode cX4_send 21 = .ok (.if_icmp .lt 4, 3)) (by decide)
theorem o52_24 : Okp RX4 cX4_send 7 none "send" false 24 sRV := ok_vret rfl (by decide +kernel : decode cX4_send 24 = .ok (.return_, 1))
theorem o52_25 : Okp RX4 cX4_send 7 none "send" false 25 (sLI 5 27) := ok_iload (by decide +kernel : decode cX4_send 25 = .ok (.iload 5, 2))
theorem o52_27 : Okp RX4 cX4_send 7 none "send" false 27 (sK 4 28) := ok_iconst (by decide +kernel : decode cX4_send 27 = .ok (.iconst 4, 1)) (by decide)
theorem o52_28 : Okp RX4 cX4_send 7 none "send" false 28 (sB2 fMul 29) := ok_imul (by decide +kernel : decode cX4_send 28 = .ok (.imul, 1))
theorem o52_29 : Okp RX4 cX4_send 7 none "send" false 29 (sLR 0 30) := ok_aload_n (by decide +kernel : decode cX4_send 29 = .ok (.aload_n 0, 1)) rfl
theorem o52_30 : Okp RX4 cX4_send 7 none "send" false 30 (sGR 5 5 33) := ok_getR (by decide +kernel : decode cX4_send 30 = .ok (.getfield 28, 3)) fw_X4_28 rfl
theorem o52_33 : Okp RX4 cX4_send 7 none "send" false 33 (sLI 5 35) := ok_iload (by decide +kernel : decode cX4_send 33 = .ok (.iload 5, 2))
theorem o52_35 : Okp RX4 cX4_send 7 none "send" false 35 (sIA 36) := ok_iaload (by decide +kernel : decode cX4_send 35 = .ok (.iaload, 1))
theorem o52_36 : Okp RX4 cX4_send 7 none "send" false 36 (sB2 fAdd 37) := ok_iadd (by decide +kernel : decode cX4_send 36 = .ok (.iadd, 1))
theorem o52_37 : Okp RX4 cX4_send 7 none "send" false 37 (sSI 6 39) := ok_istore (by decide +kernel : decode cX4_send 37 = .ok (.istore 6, 2)) (by decide) (by decide)
theorem o52_39 : Okp RX4 cX4_send 7 none "send" false 39 (sLR 0 40) := ok_aload_n (by decide +kernel : decode cX4_send 39 = .ok (.aload_n 0, 1)) rfl
theorem o52_40 : Okp RX4 cX4_send 7 none "send" false 40 (sGR 5 6 43) := ok_getR (by decide +kernel : decode cX4_send 40 = .ok (.getfield 31, 3)) fw_X4_31 rfl
theorem o52_43 : Okp RX4 cX4_send 7 none "send" false 43 (sLI 6 45) := ok_iload (by decide +kernel : decode cX4_send 43 = .ok (.iload 6, 2))
theorem o52_45 : Okp RX4 cX4_send 7 none "send" false 45 (sLI 2 46) := ok_iload_n (by decide +kernel : decode cX4_send 45 = .ok (.iload_n 2, 1)) rfl
theorem o52_46 : Okp RX4 cX4_send 7 none "send" false 46 (sIS 47) := ok_iastore (by decide +kernel : decode cX4_send 46 = .ok (.iastore, 1))
theorem o52_47 : Okp RX4 cX4_send 7 none "send" false 47 (sLR 0 48) := ok_aload_n (by decide +kernel : decode cX4_send 47 = .ok (.aload_n 0, 1)) rfl
theorem o52_48 : Okp RX4 cX4_send 7 none "send" false 48 (sGR 5 7 51) := ok_getR (by decide +kernel : decode cX4_send 48 = .ok (.getfield 34, 3)) fw_X4_34 rfl
theorem o52_51 : Okp RX4 cX4_send 7 none "send" false 51 (sLI 6 53) := ok_iload (by decide +kernel : decode cX4_send 51 = .ok (.iload 6, 2))
theorem o52_53 : Okp RX4 cX4_send 7 none "send" false 53 (sLI 3 54) := ok_iload_n (by decide +kernel : decode cX4_send 53 = .ok (.iload_n 3, 1)) rfl
theorem o52_54 : Okp RX4 cX4_send 7 none "send" false 54 (sIS 55) := ok_iastore (by decide +kernel : decode cX4_send 54 = .ok (.iastore, 1))
theorem o52_55 : Okp RX4 cX4_send 7 none "send" false 55 (sLR 0 56) := ok_aload_n (by decide +kernel : decode cX4_send 55 = .ok (.aload_n 0, 1)) rfl
theorem o52_56 : Okp RX4 cX4_send 7 none "send" false 56 (sGR 5 8 59) := ok_getR (by decide +kernel : decode cX4_send 56 = .ok (.getfield 37, 3)) fw_X4_37 rfl
theorem o52_59 : Okp RX4 cX4_send 7 none "send" false 59 (sLI 6 61) := ok_iload (by decide +kernel : decode cX4_send 59 = .ok (.iload 6, 2))
theorem o52_61 : Okp RX4 cX4_send 7 none "send" false 61 (sLI 4 63) := ok_iload (by decide +kernel : decode cX4_send 61 = .ok (.iload 4, 2))
theorem o52_63 : Okp RX4 cX4_send 7 none "send" false 63 (sIS 64) := ok_iastore (by decide +kernel : decode cX4_send 63 = .ok (.iastore, 1))
theorem o52_64 : Okp RX4 cX4_send 7 none "send" false 64 (sLR 0 65) := ok_aload_n (by decide +kernel : decode cX4_send 64 = .ok (.aload_n 0, 1)) rfl
theorem o52_65 : Okp RX4 cX4_send 7 none "send" false 65 (sGR 5 5 68) := ok_getR (by decide +kernel : decode cX4_send 65 = .ok (.getfield 28, 3)) fw_X4_28 rfl
theorem o52_68 : Okp RX4 cX4_send 7 none "send" false 68 (sLI 5 70) := ok_iload (by decide +kernel : decode cX4_send 68 = .ok (.iload 5, 2))
theorem o52_70 : Okp RX4 cX4_send 7 none "send" false 70 (sDup2 71) := ok_dup2 (by decide +kernel : decode cX4_send 70 = .ok (.dup2, 1))
theorem o52_71 : Okp RX4 cX4_send 7 none "send" false 71 (sIA 72) := ok_iaload (by decide +kernel : decode cX4_send 71 = .ok (.iaload, 1))
theorem o52_72 : Okp RX4 cX4_send 7 none "send" false 72 (sK 1 73) := ok_iconst (by decide +kernel : decode cX4_send 72 = .ok (.iconst 1, 1)) (by decide)
theorem o52_73 : Okp RX4 cX4_send 7 none "send" false 73 (sB2 fAdd 74) := ok_iadd (by decide +kernel : decode cX4_send 73 = .ok (.iadd, 1))
theorem o52_74 : Okp RX4 cX4_send 7 none "send" false 74 (sIS 75) := ok_iastore (by decide +kernel : decode cX4_send 74 = .ok (.iastore, 1))
theorem o52_75 : Okp RX4 cX4_send 7 none "send" false 75 (sLR 0 76) := ok_aload_n (by decide +kernel : decode cX4_send 75 = .ok (.aload_n 0, 1)) rfl
theorem o52_76 : Okp RX4 cX4_send 7 none "send" false 76 (sLI 3 77) := ok_iload_n (by decide +kernel : decode cX4_send 76 = .ok (.iload_n 3, 1)) rfl
theorem o52_77 : Okp RX4 cX4_send 7 none "send" false 77 (sLI 4 79) := ok_iload (by decide +kernel : decode cX4_send 77 = .ok (.iload 4, 2))
theorem o52_79 : Okp RX4 cX4_send 7 none "send" false 79 (sK 100 81) := ok_bipush (by decide +kernel : decode cX4_send 79 = .ok (.bipush 100, 2)) (by decide)
theorem o52_81 : Okp RX4 cX4_send 7 none "send" false 81 (sLI 5 83) := ok_iload (by decide +kernel : decode cX4_send 81 = .ok (.iload 5, 2))
theorem o52_83 : Okp RX4 cX4_send 7 none "send" false 83 (sB2 fAdd 84) := ok_iadd (by decide +kernel : decode cX4_send 83 = .ok (.iadd, 1))
theorem o52_84 : Okp RX4 cX4_send 7 none "send" false 84 (sCV false 57 4 5 87) := ok_cv (by decide +kernel : decode cX4_send 84 = .ok (.invokevirtual 71, 3)) mw_X4_71 rfl (by decide) wm_X4_hand wse_X4_hand (by decide) rfl
theorem o52_87 : Okp RX4 cX4_send 7 none "send" false 87 (sLR 0 88) := ok_aload_n (by decide +kernel : decode cX4_send 87 = .ok (.aload_n 0, 1)) rfl
theorem o52_88 : Okp RX4 cX4_send 7 none "send" false 88 (sGR 5 1 91) := ok_getR (by decide +kernel : decode cX4_send 88 = .ok (.getfield 9, 3)) fw_X4_9 rfl
theorem o52_91 : Okp RX4 cX4_send 7 none "send" false 91 (sLI 5 93) := ok_iload (by decide +kernel : decode cX4_send 91 = .ok (.iload 5, 2))
theorem o52_93 : Okp RX4 cX4_send 7 none "send" false 93 (sBA 94) := ok_baload (by decide +kernel : decode cX4_send 93 = .ok (.baload, 1))
theorem o52_94 : Okp RX4 cX4_send 7 none "send" false 94 (sI1 1 103 97) := ok_if_ne (by decide +kernel : decode cX4_send 94 = .ok (.ifCond .ne 9, 3)) (by decide)
theorem o52_97 : Okp RX4 cX4_send 7 none "send" false 97 (sLR 0 98) := ok_aload_n (by decide +kernel : decode cX4_send 97 = .ok (.aload_n 0, 1)) rfl
theorem o52_98 : Okp RX4 cX4_send 7 none "send" false 98 (sLI 5 100) := ok_iload (by decide +kernel : decode cX4_send 98 = .ok (.iload 5, 2))
theorem o52_100 : Okp RX4 cX4_send 7 none "send" false 100 (sCV false 60 2 5 103) := ok_cv (by decide +kernel : decode cX4_send 100 = .ok (.invokevirtual 75, 3)) mw_X4_75 rfl (by decide) wm_X4_addClosing wse_X4_addClosing (by decide) rfl
theorem o52_103 : Okp RX4 cX4_send 7 none "send" false 103 sRV := ok_vret rfl (by decide +kernel : decode cX4_send 103 = .ok (.return_, 1))
theorem oc52_0 : ∀ pc, Mnp (c52_0 pc) ∧ Okp RX4 cX4_send 7 none "send" false pc (c52_0 pc) := by
  intro pc
  unfold c52_0
  split
  · exact ⟨mn_sLI, o52_0⟩
  · exact ⟨mn_sK, o52_1⟩
  · exact ⟨mn_sB2, o52_2⟩
  · exact ⟨mn_sSI, o52_3⟩
  · exact ⟨mn_sLR, o52_5⟩
  · exact ⟨mn_sLI, o52_6⟩
  · exact ⟨mn_sCV, o52_7⟩
  · exact ⟨mn_sI1, o52_10⟩
  · exact ⟨mn_sLR, o52_13⟩
  · exact ⟨mn_sGR, o52_14⟩
  · exact ⟨mn_sLI, o52_17⟩
  · exact ⟨mn_sIA, o52_19⟩
  · exact ⟨mn_sK, o52_20⟩
  · exact ⟨mn_sI2, o52_21⟩
  · exact ⟨mn_sX, ok_X⟩
theorem oc52_1 : ∀ pc, Mnp (c52_1 pc) ∧ Okp RX4 cX4_send 7 none "send" false pc (c52_1 pc) := by
  intro pc
  unfold c52_1
  split
  · exact ⟨mn_sRV, o52_24⟩
  · exact ⟨mn_sLI, o52_25⟩
  · exact ⟨mn_sK, o52_27⟩
  · exact ⟨mn_sB2, o52_28⟩
  · exact ⟨mn_sLR, o52_29⟩
  · exact ⟨mn_sGR, o52_30⟩
  · exact ⟨mn_sLI, o52_33⟩
  · exact ⟨mn_sIA, o52_35⟩
  · exact ⟨mn_sB2, o52_36⟩
  · exact ⟨mn_sSI, o52_37⟩
  · exact ⟨mn_sLR, o52_39⟩
  · exact ⟨mn_sGR, o52_40⟩
  · exact ⟨mn_sLI, o52_43⟩
  · exact ⟨mn_sLI, o52_45⟩
  · exact ⟨mn_sIS, o52_46⟩
  · exact ⟨mn_sLR, o52_47⟩
  · exact ⟨mn_sX, ok_X⟩
theorem oc52_2 : ∀ pc, Mnp (c52_2 pc) ∧ Okp RX4 cX4_send 7 none "send" false pc (c52_2 pc) := by
  intro pc
  unfold c52_2
  split
  · exact ⟨mn_sGR, o52_48⟩
  · exact ⟨mn_sLI, o52_51⟩
  · exact ⟨mn_sLI, o52_53⟩
  · exact ⟨mn_sIS, o52_54⟩
  · exact ⟨mn_sLR, o52_55⟩
  · exact ⟨mn_sGR, o52_56⟩
  · exact ⟨mn_sLI, o52_59⟩
  · exact ⟨mn_sLI, o52_61⟩
  · exact ⟨mn_sIS, o52_63⟩
  · exact ⟨mn_sLR, o52_64⟩
  · exact ⟨mn_sGR, o52_65⟩
  · exact ⟨mn_sLI, o52_68⟩
  · exact ⟨mn_sDup2, o52_70⟩
  · exact ⟨mn_sIA, o52_71⟩
  · exact ⟨mn_sX, ok_X⟩
theorem oc52_3 : ∀ pc, Mnp (c52_3 pc) ∧ Okp RX4 cX4_send 7 none "send" false pc (c52_3 pc) := by
  intro pc
  unfold c52_3
  split
  · exact ⟨mn_sK, o52_72⟩
  · exact ⟨mn_sB2, o52_73⟩
  · exact ⟨mn_sIS, o52_74⟩
  · exact ⟨mn_sLR, o52_75⟩
  · exact ⟨mn_sLI, o52_76⟩
  · exact ⟨mn_sLI, o52_77⟩
  · exact ⟨mn_sK, o52_79⟩
  · exact ⟨mn_sLI, o52_81⟩
  · exact ⟨mn_sB2, o52_83⟩
  · exact ⟨mn_sCV, o52_84⟩
  · exact ⟨mn_sLR, o52_87⟩
  · exact ⟨mn_sGR, o52_88⟩
  · exact ⟨mn_sLI, o52_91⟩
  · exact ⟨mn_sBA, o52_93⟩
  · exact ⟨mn_sI1, o52_94⟩
  · exact ⟨mn_sX, ok_X⟩
theorem oc52_4 : ∀ pc, Mnp (c52_4 pc) ∧ Okp RX4 cX4_send 7 none "send" false pc (c52_4 pc) := by
  intro pc
  unfold c52_4
  split
  · exact ⟨mn_sLR, o52_97⟩
  · exact ⟨mn_sLI, o52_98⟩
  · exact ⟨mn_sCV, o52_100⟩
  · exact ⟨mn_sRV, o52_103⟩
  · exact ⟨mn_sX, ok_X⟩
theorem oc52 : ∀ pc, Mnp (c52 pc) ∧ Okp RX4 cX4_send 7 none "send" false pc (c52 pc) := by
  intro pc
  unfold c52
  split
  · exact oc52_0 pc
  · exact oc52_1 pc
  · exact oc52_2 pc
  · exact oc52_3 pc
  · exact oc52_4 pc
  · exact ⟨mn_sX, ok_X⟩
theorem o53_0 : Okp RX4 cX4_nextMessage 2 (some .int) "nextMessage" false 0 (sLR 0 1) := ok_aload_n (by decide +kernel : decode cX4_nextMessage 0 = .ok (.aload_n 0, 1)) rfl
theorem o53_1 : Okp RX4 cX4_nextMessage 2 (some .int) "nextMessage" false 1 (sLI 1 2) := ok_iload_n (by decide +kernel : decode cX4_nextMessage 1 = .ok (.iload_n 1, 1)) rfl
theorem o53_2 : Okp RX4 cX4_nextMessage 2 (some .int) "nextMessage" false 2 (sCV false 48 2 5 5) := ok_cv (by decide +kernel : decode cX4_nextMessage 2 = .ok (.invokevirtual 63, 3)) mw_X4_63 rfl (by decide) wm_X4_waitingFor wse_X4_waitingFor (by decide) rfl
theorem o53_5 : Okp RX4 cX4_nextMessage 2 (some .int) "nextMessage" false 5 (sI1 5 19 8) := ok_if_le (by decide +kernel : decode cX4_nextMessage 5 = .ok (.ifCond .le 14, 3)) (by decide)
theorem o53_8 : Okp RX4 cX4_nextMessage 2 (some .int) "nextMessage" false 8 (sLR 0 9) := ok_aload_n (by decide +kernel : decode cX4_nextMessage 8 = .ok (.aload_n 0, 1)) rfl
theorem o53_9 : Okp RX4 cX4_nextMessage 2 (some .int) "nextMessage" false 9 (sGR 5 6 12) := ok_getR (by decide +kernel : decode cX4_nextMessage 9 = .ok (.getfield 31, 3)) fw_X4_31 rfl
theorem o53_12 : Okp RX4 cX4_nextMessage 2 (some .int) "nextMessage" false 12 (sLI 1 13) := ok_iload_n (by decide +kernel : decode cX4_nextMessage 12 = .ok (.iload_n 1, 1)) rfl
theorem o53_13 : Okp RX4 cX4_nextMessage 2 (some .int) "nextMessage" false 13 (sK 4 14) := ok_iconst (by decide +kernel : decode cX4_nextMessage 13 = .ok (.iconst 4, 1)) (by decide)
theorem o53_14 : Okp RX4 cX4_nextMessage 2 (some .int) "nextMessage" false 14 (sB2 fMul 15) := ok_imul (by decide +kernel : decode cX4_nextMessage 14 = .ok (.imul, 1))
theorem o53_15 : Okp RX4 cX4_nextMessage 2 (some .int) "nextMessage" false 15 (sIA 16) := ok_iaload (by decide +kernel : decode cX4_nextMessage 15 = .ok (.iaload, 1))
theorem o53_16 : Okp RX4 cX4_nextMessage 2 (some .int) "nextMessage" false 16 (sGo 20) := ok_goto (by decide +kernel : decode cX4_nextMessage 16 = .ok (.goto 4, 3)) (by decide)
theorem o53_19 : Okp RX4 cX4_nextMessage 2 (some .int) "nextMessage" false 19 (sK (-1) 20) := ok_iconst (by decide +kernel : decode cX4_nextMessage 19 = .ok (.iconst (-1), 1)) (by decide)
theorem o53_20 : Okp RX4 cX4_nextMessage 2 (some .int) "nextMessage" false 20 sRI := ok_iret rfl (by decide +kernel : decode cX4_nextMessage 20 = .ok (.ireturn, 1))
theorem oc53 : ∀ pc, Mnp (c53 pc) ∧ Okp RX4 cX4_nextMessage 2 (some .int) "nextMessage" false pc (c53 pc) := by
  intro pc
  unfold c53
  split
  · exact ⟨mn_sLR, o53_0⟩
  · exact ⟨mn_sLI, o53_1⟩
  · exact ⟨mn_sCV, o53_2⟩
  · exact ⟨mn_sI1, o53_5⟩
  · exact ⟨mn_sLR, o53_8⟩
  · exact ⟨mn_sGR, o53_9⟩
  · exact ⟨mn_sLI, o53_12⟩
  · exact ⟨mn_sK, o53_13⟩
  · exact ⟨mn_sB2, o53_14⟩
  · exact ⟨mn_sIA, o53_15⟩
  · exact ⟨mn_sGo, o53_16⟩
  · exact ⟨mn_sK, o53_19⟩
  · exact ⟨mn_sRI, o53_20⟩
  · exact ⟨mn_sX, ok_X⟩
theorem o54_0 : Okp RX4 cX4_nextLoadKind 2 (some .int) "nextLoadKind" false 0 (sLR 0 1) := ok_aload_n (by decide +kernel : decode cX4_nextLoadKind 0 = .ok (.aload_n 0, 1)) rfl
theorem o54_1 : Okp RX4 cX4_nextLoadKind 2 (some .int) "nextLoadKind" false 1 (sLI 1 2) := ok_iload_n (by decide +kernel : decode cX4_nextLoadKind 1 = .ok (.iload_n 1, 1)) rfl
theorem o54_2 : Okp RX4 cX4_nextLoadKind 2 (some .int) "nextLoadKind" false 2 (sCV false 48 2 5 5) := ok_cv (by decide +kernel : decode cX4_nextLoadKind 2 = .ok (.invokevirtual 63, 3)) mw_X4_63 rfl (by decide) wm_X4_waitingFor wse_X4_waitingFor (by decide) rfl
theorem o54_5 : Okp RX4 cX4_nextLoadKind 2 (some .int) "nextLoadKind" false 5 (sI1 5 19 8) := ok_if_le (by decide +kernel : decode cX4_nextLoadKind 5 = .ok (.ifCond .le 14, 3)) (by decide)
theorem o54_8 : Okp RX4 cX4_nextLoadKind 2 (some .int) "nextLoadKind" false 8 (sLR 0 9) := ok_aload_n (by decide +kernel : decode cX4_nextLoadKind 8 = .ok (.aload_n 0, 1)) rfl
theorem o54_9 : Okp RX4 cX4_nextLoadKind 2 (some .int) "nextLoadKind" false 9 (sGR 5 7 12) := ok_getR (by decide +kernel : decode cX4_nextLoadKind 9 = .ok (.getfield 34, 3)) fw_X4_34 rfl
theorem o54_12 : Okp RX4 cX4_nextLoadKind 2 (some .int) "nextLoadKind" false 12 (sLI 1 13) := ok_iload_n (by decide +kernel : decode cX4_nextLoadKind 12 = .ok (.iload_n 1, 1)) rfl
theorem o54_13 : Okp RX4 cX4_nextLoadKind 2 (some .int) "nextLoadKind" false 13 (sK 4 14) := ok_iconst (by decide +kernel : decode cX4_nextLoadKind 13 = .ok (.iconst 4, 1)) (by decide)
theorem o54_14 : Okp RX4 cX4_nextLoadKind 2 (some .int) "nextLoadKind" false 14 (sB2 fMul 15) := ok_imul (by decide +kernel : decode cX4_nextLoadKind 14 = .ok (.imul, 1))
theorem o54_15 : Okp RX4 cX4_nextLoadKind 2 (some .int) "nextLoadKind" false 15 (sIA 16) := ok_iaload (by decide +kernel : decode cX4_nextLoadKind 15 = .ok (.iaload, 1))
theorem o54_16 : Okp RX4 cX4_nextLoadKind 2 (some .int) "nextLoadKind" false 16 (sGo 20) := ok_goto (by decide +kernel : decode cX4_nextLoadKind 16 = .ok (.goto 4, 3)) (by decide)
theorem o54_19 : Okp RX4 cX4_nextLoadKind 2 (some .int) "nextLoadKind" false 19 (sK (-1) 20) := ok_iconst (by decide +kernel : decode cX4_nextLoadKind 19 = .ok (.iconst (-1), 1)) (by decide)
theorem o54_20 : Okp RX4 cX4_nextLoadKind 2 (some .int) "nextLoadKind" false 20 sRI := ok_iret rfl (by decide +kernel : decode cX4_nextLoadKind 20 = .ok (.ireturn, 1))
theorem oc54 : ∀ pc, Mnp (c54 pc) ∧ Okp RX4 cX4_nextLoadKind 2 (some .int) "nextLoadKind" false pc (c54 pc) := by
  intro pc
  unfold c54
  split
  · exact ⟨mn_sLR, o54_0⟩
  · exact ⟨mn_sLI, o54_1⟩
  · exact ⟨mn_sCV, o54_2⟩
  · exact ⟨mn_sI1, o54_5⟩
  · exact ⟨mn_sLR, o54_8⟩
  · exact ⟨mn_sGR, o54_9⟩
  · exact ⟨mn_sLI, o54_12⟩
  · exact ⟨mn_sK, o54_13⟩
  · exact ⟨mn_sB2, o54_14⟩
  · exact ⟨mn_sIA, o54_15⟩
  · exact ⟨mn_sGo, o54_16⟩
  · exact ⟨mn_sK, o54_19⟩
  · exact ⟨mn_sRI, o54_20⟩
  · exact ⟨mn_sX, ok_X⟩
theorem o55_0 : Okp RX4 cX4_nextLoad 2 (some .int) "nextLoad" false 0 (sLR 0 1) := ok_aload_n (by decide +kernel : decode cX4_nextLoad 0 = .ok (.aload_n 0, 1)) rfl
theorem o55_1 : Okp RX4 cX4_nextLoad 2 (some .int) "nextLoad" false 1 (sLI 1 2) := ok_iload_n (by decide +kernel : decode cX4_nextLoad 1 = .ok (.iload_n 1, 1)) rfl
theorem o55_2 : Okp RX4 cX4_nextLoad 2 (some .int) "nextLoad" false 2 (sCV false 48 2 5 5) := ok_cv (by decide +kernel : decode cX4_nextLoad 2 = .ok (.invokevirtual 63, 3)) mw_X4_63 rfl (by decide) wm_X4_waitingFor wse_X4_waitingFor (by decide) rfl
theorem o55_5 : Okp RX4 cX4_nextLoad 2 (some .int) "nextLoad" false 5 (sI1 5 19 8) := ok_if_le (by decide +kernel : decode cX4_nextLoad 5 = .ok (.ifCond .le 14, 3)) (by decide)
theorem o55_8 : Okp RX4 cX4_nextLoad 2 (some .int) "nextLoad" false 8 (sLR 0 9) := ok_aload_n (by decide +kernel : decode cX4_nextLoad 8 = .ok (.aload_n 0, 1)) rfl
theorem o55_9 : Okp RX4 cX4_nextLoad 2 (some .int) "nextLoad" false 9 (sGR 5 8 12) := ok_getR (by decide +kernel : decode cX4_nextLoad 9 = .ok (.getfield 37, 3)) fw_X4_37 rfl
theorem o55_12 : Okp RX4 cX4_nextLoad 2 (some .int) "nextLoad" false 12 (sLI 1 13) := ok_iload_n (by decide +kernel : decode cX4_nextLoad 12 = .ok (.iload_n 1, 1)) rfl
theorem o55_13 : Okp RX4 cX4_nextLoad 2 (some .int) "nextLoad" false 13 (sK 4 14) := ok_iconst (by decide +kernel : decode cX4_nextLoad 13 = .ok (.iconst 4, 1)) (by decide)
theorem o55_14 : Okp RX4 cX4_nextLoad 2 (some .int) "nextLoad" false 14 (sB2 fMul 15) := ok_imul (by decide +kernel : decode cX4_nextLoad 14 = .ok (.imul, 1))
theorem o55_15 : Okp RX4 cX4_nextLoad 2 (some .int) "nextLoad" false 15 (sIA 16) := ok_iaload (by decide +kernel : decode cX4_nextLoad 15 = .ok (.iaload, 1))
theorem o55_16 : Okp RX4 cX4_nextLoad 2 (some .int) "nextLoad" false 16 (sGo 20) := ok_goto (by decide +kernel : decode cX4_nextLoad 16 = .ok (.goto 4, 3)) (by decide)
theorem o55_19 : Okp RX4 cX4_nextLoad 2 (some .int) "nextLoad" false 19 (sK 0 20) := ok_iconst (by decide +kernel : decode cX4_nextLoad 19 = .ok (.iconst 0, 1)) (by decide)
theorem o55_20 : Okp RX4 cX4_nextLoad 2 (some .int) "nextLoad" false 20 sRI := ok_iret rfl (by decide +kernel : decode cX4_nextLoad 20 = .ok (.ireturn, 1))
theorem oc55 : ∀ pc, Mnp (c55 pc) ∧ Okp RX4 cX4_nextLoad 2 (some .int) "nextLoad" false pc (c55 pc) := by
  intro pc
  unfold c55
  split
  · exact ⟨mn_sLR, o55_0⟩
  · exact ⟨mn_sLI, o55_1⟩
  · exact ⟨mn_sCV, o55_2⟩
  · exact ⟨mn_sI1, o55_5⟩
  · exact ⟨mn_sLR, o55_8⟩
  · exact ⟨mn_sGR, o55_9⟩
  · exact ⟨mn_sLI, o55_12⟩
  · exact ⟨mn_sK, o55_13⟩
  · exact ⟨mn_sB2, o55_14⟩
  · exact ⟨mn_sIA, o55_15⟩
  · exact ⟨mn_sGo, o55_16⟩
  · exact ⟨mn_sK, o55_19⟩
  · exact ⟨mn_sRI, o55_20⟩
  · exact ⟨mn_sX, ok_X⟩
theorem o56_0 : Okp RX4 cX4_removeNext 3 none "removeNext" false 0 (sLR 0 1) := ok_aload_n (by decide +kernel : decode cX4_removeNext 0 = .ok (.aload_n 0, 1)) rfl
theorem o56_1 : Okp RX4 cX4_removeNext 3 none "removeNext" false 1 (sLI 1 2) := ok_iload_n (by decide +kernel : decode cX4_removeNext 1 = .ok (.iload_n 1, 1)) rfl
theorem o56_2 : Okp RX4 cX4_removeNext 3 none "removeNext" false 2 (sCV false 48 2 5 5) := ok_cv (by decide +kernel : decode cX4_removeNext 2 = .ok (.invokevirtual 63, 3)) mw_X4_63 rfl (by decide) wm_X4_waitingFor wse_X4_waitingFor (by decide) rfl
theorem o56_5 : Okp RX4 cX4_removeNext 3 none "removeNext" false 5 (sI1 5 84 8) := ok_if_le (by decide +kernel : decode cX4_removeNext 5 = .ok (.ifCond .le 79, 3)) (by decide)
theorem o56_8 : Okp RX4 cX4_removeNext 3 none "removeNext" false 8 (sLR 0 9) := ok_aload_n (by decide +kernel : decode cX4_removeNext 8 = .ok (.aload_n 0, 1)) rfl
theorem o56_9 : Okp RX4 cX4_removeNext 3 none "removeNext" false 9 (sGR 5 5 12) := ok_getR (by decide +kernel : decode cX4_removeNext 9 = .ok (.getfield 28, 3)) fw_X4_28 rfl
theorem o56_12 : Okp RX4 cX4_removeNext 3 none "removeNext" false 12 (sLI 1 13) := ok_iload_n (by decide +kernel : decode cX4_removeNext 12 = .ok (.iload_n 1, 1)) rfl
theorem o56_13 : Okp RX4 cX4_removeNext 3 none "removeNext" false 13 (sDup2 14) := ok_dup2 (by decide +kernel : decode cX4_removeNext 13 = .ok (.dup2, 1))
theorem o56_14 : Okp RX4 cX4_removeNext 3 none "removeNext" false 14 (sIA 15) := ok_iaload (by decide +kernel : decode cX4_removeNext 14 = .ok (.iaload, 1))
theorem o56_15 : Okp RX4 cX4_removeNext 3 none "removeNext" false 15 (sK 1 16) := ok_iconst (by decide +kernel : decode cX4_removeNext 15 = .ok (.iconst 1, 1)) (by decide)
theorem o56_16 : Okp RX4 cX4_removeNext 3 none "removeNext" false 16 (sB2 fSub 17) := ok_isub (by decide +kernel : decode cX4_removeNext 16 = .ok (.isub, 1))
theorem o56_17 : Okp RX4 cX4_removeNext 3 none "removeNext" false 17 (sIS 18) := ok_iastore (by decide +kernel : decode cX4_removeNext 17 = .ok (.iastore, 1))
theorem o56_18 : Okp RX4 cX4_removeNext 3 none "removeNext" false 18 (sLI 1 19) := ok_iload_n (by decide +kernel : decode cX4_removeNext 18 = .ok (.iload_n 1, 1)) rfl
theorem o56_19 : Okp RX4 cX4_removeNext 3 none "removeNext" false 19 (sK 4 20) := ok_iconst (by decide +kernel : decode cX4_removeNext 19 = .ok (.iconst 4, 1)) (by decide)
theorem o56_20 : Okp RX4 cX4_removeNext 3 none "removeNext" false 20 (sB2 fMul 21) := ok_imul (by decide +kernel : decode cX4_removeNext 20 = .ok (.imul, 1))
theorem o56_21 : Okp RX4 cX4_removeNext 3 none "removeNext" false 21 (sSI 2 22) := ok_istore_n (by decide +kernel : decode cX4_removeNext 21 = .ok (.istore_n 2, 1)) rfl (by decide) (by decide)
theorem o56_22 : Okp RX4 cX4_removeNext 3 none "removeNext" false 22 (sLI 2 23) := ok_iload_n (by decide +kernel : decode cX4_removeNext 22 = .ok (.iload_n 2, 1)) rfl
theorem o56_23 : Okp RX4 cX4_removeNext 3 none "removeNext" false 23 (sLI 1 24) := ok_iload_n (by decide +kernel : decode cX4_removeNext 23 = .ok (.iload_n 1, 1)) rfl
theorem o56_24 : Okp RX4 cX4_removeNext 3 none "removeNext" false 24 (sK 4 25) := ok_iconst (by decide +kernel : decode cX4_removeNext 24 = .ok (.iconst 4, 1)) (by decide)
theorem o56_25 : Okp RX4 cX4_removeNext 3 none "removeNext" false 25 (sB2 fMul 26) := ok_imul (by decide +kernel : decode cX4_removeNext 25 = .ok (.imul, 1))
theorem o56_26 : Okp RX4 cX4_removeNext 3 none "removeNext" false 26 (sLR 0 27) := ok_aload_n (by decide +kernel : decode cX4_removeNext 26 = .ok (.aload_n 0, 1)) rfl
theorem o56_27 : Okp RX4 cX4_removeNext 3 none "removeNext" false 27 (sGR 5 5 30) := ok_getR (by decide +kernel : decode cX4_removeNext 27 = .ok (.getfield 28, 3)) fw_X4_28 rfl
theorem o56_30 : Okp RX4 cX4_removeNext 3 none "removeNext" false 30 (sLI 1 31) := ok_iload_n (by decide +kernel : decode cX4_removeNext 30 = .ok (.iload_n 1, 1)) rfl
theorem o56_31 : Okp RX4 cX4_removeNext 3 none "removeNext" false 31 (sIA 32) := ok_iaload (by decide +kernel : decode cX4_removeNext 31 = .ok (.iaload, 1))
theorem o56_32 : Okp RX4 cX4_removeNext 3 none "removeNext" false 32 (sB2 fAdd 33) := ok_iadd (by decide +kernel : decode cX4_removeNext 32 = .ok (.iadd, 1))
theorem o56_33 : Okp RX4 cX4_removeNext 3 none "removeNext" false 33 (sI2 3 84 36) := ok_icmp_ge (by decide +kernel : decode cX4_removeNext 33 = .ok (.if_icmp .ge 51, 3)) (by decide)
theorem o56_36 : Okp RX4 cX4_removeNext 3 none "removeNext" false 36 (sLR 0 37) := ok_aload_n (by decide +kernel : decode cX4_removeNext 36 = .ok (.aload_n 0, 1)) rfl
theorem o56_37 : Okp RX4 cX4_removeNext 3 none "removeNext" false 37 (sGR 5 6 40) := ok_getR (by decide +kernel : decode cX4_removeNext 37 = .ok (.getfield 31, 3)) fw_X4_31 rfl
theorem o56_40 : Okp RX4 cX4_removeNext 3 none "removeNext" false 40 (sLI 2 41) := ok_iload_n (by decide +kernel : decode cX4_removeNext 40 = .ok (.iload_n 2, 1)) rfl
theorem o56_41 : Okp RX4 cX4_removeNext 3 none "removeNext" false 41 (sLR 0 42) := ok_aload_n (by decide +kernel : decode cX4_removeNext 41 = .ok (.aload_n 0, 1)) rfl
theorem o56_42 : Okp RX4 cX4_removeNext 3 none "removeNext" false 42 (sGR 5 6 45) := ok_getR (by decide +kernel : decode cX4_removeNext 42 = .ok (.getfield 31, 3)) fw_X4_31 rfl
theorem o56_45 : Okp RX4 cX4_removeNext 3 none "removeNext" false 45 (sLI 2 46) := ok_iload_n (by decide +kernel : decode cX4_removeNext 45 = .ok (.iload_n 2, 1)) rfl
theorem o56_46 : Okp RX4 cX4_removeNext 3 none "removeNext" false 46 (sK 1 47) := ok_iconst (by decide +kernel : decode cX4_removeNext 46 = .ok (.iconst 1, 1)) (by decide)
theorem o56_47 : Okp RX4 cX4_removeNext 3 none "removeNext" false 47 (sB2 fAdd 48) := ok_iadd (by decide +kernel : decode cX4_removeNext 47 = .ok (.iadd, 1))
theorem o56_48 : Okp RX4 cX4_removeNext 3 none "removeNext" false 48 (sIA 49) := ok_iaload (by decide +kernel : decode cX4_removeNext 48 = .ok (.iaload, 1))
theorem o56_49 : Okp RX4 cX4_removeNext 3 none "removeNext" false 49 (sIS 50) := ok_iastore (by decide +kernel : decode cX4_removeNext 49 = .ok (.iastore, 1))
theorem o56_50 : Okp RX4 cX4_removeNext 3 none "removeNext" false 50 (sLR 0 51) := ok_aload_n (by decide +kernel : decode cX4_removeNext 50 = .ok (.aload_n 0, 1)) rfl
theorem o56_51 : Okp RX4 cX4_removeNext 3 none "removeNext" false 51 (sGR 5 7 54) := ok_getR (by decide +kernel : decode cX4_removeNext 51 = .ok (.getfield 34, 3)) fw_X4_34 rfl
theorem o56_54 : Okp RX4 cX4_removeNext 3 none "removeNext" false 54 (sLI 2 55) := ok_iload_n (by decide +kernel : decode cX4_removeNext 54 = .ok (.iload_n 2, 1)) rfl
theorem o56_55 : Okp RX4 cX4_removeNext 3 none "removeNext" false 55 (sLR 0 56) := ok_aload_n (by decide +kernel : decode cX4_removeNext 55 = .ok (.aload_n 0, 1)) rfl
theorem o56_56 : Okp RX4 cX4_removeNext 3 none "removeNext" false 56 (sGR 5 7 59) := ok_getR (by decide +kernel : decode cX4_removeNext 56 = .ok (.getfield 34, 3)) fw_X4_34 rfl
theorem o56_59 : Okp RX4 cX4_removeNext 3 none "removeNext" false 59 (sLI 2 60) := ok_iload_n (by decide +kernel : decode cX4_removeNext 59 = .ok (.iload_n 2, 1)) rfl
theorem o56_60 : Okp RX4 cX4_removeNext 3 none "removeNext" false 60 (sK 1 61) := ok_iconst (by decide +kernel : decode cX4_removeNext 60 = .ok (.iconst 1, 1)) (by decide)
theorem o56_61 : Okp RX4 cX4_removeNext 3 none "removeNext" false 61 (sB2 fAdd 62) := ok_iadd (by decide +kernel : decode cX4_removeNext 61 = .ok (.iadd, 1))
theorem o56_62 : Okp RX4 cX4_removeNext 3 none "removeNext" false 62 (sIA 63) := ok_iaload (by decide +kernel : decode cX4_removeNext 62 = .ok (.iaload, 1))
theorem o56_63 : Okp RX4 cX4_removeNext 3 none "removeNext" false 63 (sIS 64) := ok_iastore (by decide +kernel : decode cX4_removeNext 63 = .ok (.iastore, 1))
theorem o56_64 : Okp RX4 cX4_removeNext 3 none "removeNext" false 64 (sLR 0 65) := ok_aload_n (by decide +kernel : decode cX4_removeNext 64 = .ok (.aload_n 0, 1)) rfl
theorem o56_65 : Okp RX4 cX4_removeNext 3 none "removeNext" false 65 (sGR 5 8 68) := ok_getR (by decide +kernel : decode cX4_removeNext 65 = .ok (.getfield 37, 3)) fw_X4_37 rfl
theorem o56_68 : Okp RX4 cX4_removeNext 3 none "removeNext" false 68 (sLI 2 69) := ok_iload_n (by decide +kernel : decode cX4_removeNext 68 = .ok (.iload_n 2, 1)) rfl
theorem o56_69 : Okp RX4 cX4_removeNext 3 none "removeNext" false 69 (sLR 0 70) := ok_aload_n (by decide +kernel : decode cX4_removeNext 69 = .ok (.aload_n 0, 1)) rfl
theorem o56_70 : Okp RX4 cX4_removeNext 3 none "removeNext" false 70 (sGR 5 8 73) := ok_getR (by decide +kernel : decode cX4_removeNext 70 = .ok (.getfield 37, 3)) fw_X4_37 rfl
theorem o56_73 : Okp RX4 cX4_removeNext 3 none "removeNext" false 73 (sLI 2 74) := ok_iload_n (by decide +kernel : decode cX4_removeNext 73 = .ok (.iload_n 2, 1)) rfl
theorem o56_74 : Okp RX4 cX4_removeNext 3 none "removeNext" false 74 (sK 1 75) := ok_iconst (by decide +kernel : decode cX4_removeNext 74 = .ok (.iconst 1, 1)) (by decide)
theorem o56_75 : Okp RX4 cX4_removeNext 3 none "removeNext" false 75 (sB2 fAdd 76) := ok_iadd (by decide +kernel : decode cX4_removeNext 75 = .ok (.iadd, 1))
theorem o56_76 : Okp RX4 cX4_removeNext 3 none "removeNext" false 76 (sIA 77) := ok_iaload (by decide +kernel : decode cX4_removeNext 76 = .ok (.iaload, 1))
theorem o56_77 : Okp RX4 cX4_removeNext 3 none "removeNext" false 77 (sIS 78) := ok_iastore (by decide +kernel : decode cX4_removeNext 77 = .ok (.iastore, 1))
theorem o56_78 : Okp RX4 cX4_removeNext 3 none "removeNext" false 78 (sInc 2 1 81) := ok_iinc (by decide +kernel : decode cX4_removeNext 78 = .ok (.iinc 2 1, 3)) (by decide) (by decide)
theorem o56_81 : Okp RX4 cX4_removeNext 3 none "removeNext" false 81 (sGo 22) := ok_goto (by decide +kernel : decode cX4_removeNext 81 = .ok (.goto (-59), 3)) (by decide)
theorem o56_84 : Okp RX4 cX4_removeNext 3 none "removeNext" false 84 sRV := ok_vret rfl (by decide +kernel : decode cX4_removeNext 84 = .ok (.return_, 1))
theorem oc56_0 : ∀ pc, Mnp (c56_0 pc) ∧ Okp RX4 cX4_removeNext 3 none "removeNext" false pc (c56_0 pc) := by
  intro pc
  unfold c56_0
  split
  · exact ⟨mn_sLR, o56_0⟩
  · exact ⟨mn_sLI, o56_1⟩
  · exact ⟨mn_sCV, o56_2⟩
  · exact ⟨mn_sI1, o56_5⟩
  · exact ⟨mn_sLR, o56_8⟩
  · exact ⟨mn_sGR, o56_9⟩
  · exact ⟨mn_sLI, o56_12⟩
  · exact ⟨mn_sDup2, o56_13⟩
  · exact ⟨mn_sIA, o56_14⟩
  · exact ⟨mn_sK, o56_15⟩
  · exact ⟨mn_sB2, o56_16⟩
  · exact ⟨mn_sIS, o56_17⟩
  · exact ⟨mn_sLI, o56_18⟩
  · exact ⟨mn_sK, o56_19⟩
  · exact ⟨mn_sB2, o56_20⟩
  · exact ⟨mn_sSI, o56_21⟩
  · exact ⟨mn_sLI, o56_22⟩
  · exact ⟨mn_sLI, o56_23⟩
  · exact ⟨mn_sX, ok_X⟩
theorem oc56_1 : ∀ pc, Mnp (c56_1 pc) ∧ Okp RX4 cX4_removeNext 3 none "removeNext" false pc (c56_1 pc) := by
  intro pc
  unfold c56_1
  split
  · exact ⟨mn_sK, o56_24⟩
  · exact ⟨mn_sB2, o56_25⟩
  · exact ⟨mn_sLR, o56_26⟩
  · exact ⟨mn_sGR, o56_27⟩
  · exact ⟨mn_sLI, o56_30⟩
  · exact ⟨mn_sIA, o56_31⟩
  · exact ⟨mn_sB2, o56_32⟩
  · exact ⟨mn_sI2, o56_33⟩
  · exact ⟨mn_sLR, o56_36⟩
  · exact ⟨mn_sGR, o56_37⟩
  · exact ⟨mn_sLI, o56_40⟩
  · exact ⟨mn_sLR, o56_41⟩
  · exact ⟨mn_sGR, o56_42⟩
  · exact ⟨mn_sLI, o56_45⟩
  · exact ⟨mn_sK, o56_46⟩
  · exact ⟨mn_sB2, o56_47⟩
  · exact ⟨mn_sX, ok_X⟩
theorem oc56_2 : ∀ pc, Mnp (c56_2 pc) ∧ Okp RX4 cX4_removeNext 3 none "removeNext" false pc (c56_2 pc) := by
  intro pc
  unfold c56_2
  split
  · exact ⟨mn_sIA, o56_48⟩
  · exact ⟨mn_sIS, o56_49⟩
  · exact ⟨mn_sLR, o56_50⟩
  · exact ⟨mn_sGR, o56_51⟩
  · exact ⟨mn_sLI, o56_54⟩
  · exact ⟨mn_sLR, o56_55⟩
  · exact ⟨mn_sGR, o56_56⟩
  · exact ⟨mn_sLI, o56_59⟩
  · exact ⟨mn_sK, o56_60⟩
  · exact ⟨mn_sB2, o56_61⟩
  · exact ⟨mn_sIA, o56_62⟩
  · exact ⟨mn_sIS, o56_63⟩
  · exact ⟨mn_sLR, o56_64⟩
  · exact ⟨mn_sGR, o56_65⟩
  · exact ⟨mn_sLI, o56_68⟩
  · exact ⟨mn_sLR, o56_69⟩
  · exact ⟨mn_sGR, o56_70⟩
  · exact ⟨mn_sX, ok_X⟩
theorem oc56_3 : ∀ pc, Mnp (c56_3 pc) ∧ Okp RX4 cX4_removeNext 3 none "removeNext" false pc (c56_3 pc) := by
  intro pc
  unfold c56_3
  split
  · exact ⟨mn_sLI, o56_73⟩
  · exact ⟨mn_sK, o56_74⟩
  · exact ⟨mn_sB2, o56_75⟩
  · exact ⟨mn_sIA, o56_76⟩
  · exact ⟨mn_sIS, o56_77⟩
  · exact ⟨mn_sInc, o56_78⟩
  · exact ⟨mn_sGo, o56_81⟩
  · exact ⟨mn_sRV, o56_84⟩
  · exact ⟨mn_sX, ok_X⟩
theorem oc56 : ∀ pc, Mnp (c56 pc) ∧ Okp RX4 cX4_removeNext 3 none "removeNext" false pc (c56 pc) := by
  intro pc
  unfold c56
  split
  · exact oc56_0 pc
  · exact oc56_1 pc
  · exact oc56_2 pc
  · exact oc56_3 pc
  · exact ⟨mn_sX, ok_X⟩
theorem o57_0 : Okp RX4 cX4_hand 4 none "hand" false 0 (sLI 1 1) := ok_iload_n (by decide +kernel : decode cX4_hand 0 = .ok (.iload_n 1, 1)) rfl
theorem o57_1 : Okp RX4 cX4_hand 4 none "hand" false 1 (sK 4 2) := ok_iconst (by decide +kernel : decode cX4_hand 1 = .ok (.iconst 4, 1)) (by decide)
theorem o57_2 : Okp RX4 cX4_hand 4 none "hand" false 2 (sI2 1 17 5) := ok_icmp_ne (by decide +kernel : decode cX4_hand 2 = .ok (.if_icmp .ne 15, 3)) (by decide)
theorem o57_5 : Okp RX4 cX4_hand 4 none "hand" false 5 (sLR 0 6) := ok_aload_n (by decide +kernel : decode cX4_hand 5 = .ok (.aload_n 0, 1)) rfl
theorem o57_6 : Okp RX4 cX4_hand 4 none "hand" false 6 (sGR 5 0 9) := ok_getR (by decide +kernel : decode cX4_hand 6 = .ok (.getfield 47, 3)) fw_X4_47 rfl
theorem o57_9 : Okp RX4 cX4_hand 4 none "hand" false 9 (sLI 2 10) := ok_iload_n (by decide +kernel : decode cX4_hand 9 = .ok (.iload_n 2, 1)) rfl
theorem o57_10 : Okp RX4 cX4_hand 4 none "hand" false 10 (sLI 3 11) := ok_iload_n (by decide +kernel : decode cX4_hand 10 = .ok (.iload_n 3, 1)) rfl
theorem o57_11 : Okp RX4 cX4_hand 4 none "hand" false 11 (sCV false 5 3 1 14) := ok_cv (by decide +kernel : decode cX4_hand 11 = .ok (.invokevirtual 79, 3)) mw_X4_79 rfl (by decide) wm_X0_give wse_X0_give (by decide) rfl
theorem o57_14 : Okp RX4 cX4_hand 4 none "hand" false 14 (sGo 28) := ok_goto (by decide +kernel : decode cX4_hand 14 = .ok (.goto 14, 3)) (by decide)
theorem o57_17 : Okp RX4 cX4_hand 4 none "hand" false 17 (sLI 1 18) := ok_iload_n (by decide +kernel : decode cX4_hand 17 = .ok (.iload_n 1, 1)) rfl
theorem o57_18 : Okp RX4 cX4_hand 4 none "hand" false 18 (sK 5 19) := ok_iconst (by decide +kernel : decode cX4_hand 18 = .ok (.iconst 5, 1)) (by decide)
theorem o57_19 : Okp RX4 cX4_hand 4 none "hand" false 19 (sI2 1 28 22) := ok_icmp_ne (by decide +kernel : decode cX4_hand 19 = .ok (.if_icmp .ne 9, 3)) (by decide)
theorem o57_22 : Okp RX4 cX4_hand 4 none "hand" false 22 (sLR 0 23) := ok_aload_n (by decide +kernel : decode cX4_hand 22 = .ok (.aload_n 0, 1)) rfl
theorem o57_23 : Okp RX4 cX4_hand 4 none "hand" false 23 (sLI 2 24) := ok_iload_n (by decide +kernel : decode cX4_hand 23 = .ok (.iload_n 2, 1)) rfl
theorem o57_24 : Okp RX4 cX4_hand 4 none "hand" false 24 (sLI 3 25) := ok_iload_n (by decide +kernel : decode cX4_hand 24 = .ok (.iload_n 3, 1)) rfl
theorem o57_25 : Okp RX4 cX4_hand 4 none "hand" false 25 (sCV false 47 3 5 28) := ok_cv (by decide +kernel : decode cX4_hand 25 = .ok (.invokevirtual 84, 3)) mw_X4_84 rfl (by decide) wm_X4_give wse_X4_give (by decide) rfl
theorem o57_28 : Okp RX4 cX4_hand 4 none "hand" false 28 sRV := ok_vret rfl (by decide +kernel : decode cX4_hand 28 = .ok (.return_, 1))
theorem oc57_0 : ∀ pc, Mnp (c57_0 pc) ∧ Okp RX4 cX4_hand 4 none "hand" false pc (c57_0 pc) := by
  intro pc
  unfold c57_0
  split
  · exact ⟨mn_sLI, o57_0⟩
  · exact ⟨mn_sK, o57_1⟩
  · exact ⟨mn_sI2, o57_2⟩
  · exact ⟨mn_sLR, o57_5⟩
  · exact ⟨mn_sGR, o57_6⟩
  · exact ⟨mn_sLI, o57_9⟩
  · exact ⟨mn_sLI, o57_10⟩
  · exact ⟨mn_sCV, o57_11⟩
  · exact ⟨mn_sGo, o57_14⟩
  · exact ⟨mn_sLI, o57_17⟩
  · exact ⟨mn_sK, o57_18⟩
  · exact ⟨mn_sI2, o57_19⟩
  · exact ⟨mn_sLR, o57_22⟩
  · exact ⟨mn_sLI, o57_23⟩
  · exact ⟨mn_sX, ok_X⟩
theorem oc57_1 : ∀ pc, Mnp (c57_1 pc) ∧ Okp RX4 cX4_hand 4 none "hand" false pc (c57_1 pc) := by
  intro pc
  unfold c57_1
  split
  · exact ⟨mn_sLI, o57_24⟩
  · exact ⟨mn_sCV, o57_25⟩
  · exact ⟨mn_sRV, o57_28⟩
  · exact ⟨mn_sX, ok_X⟩
theorem oc57 : ∀ pc, Mnp (c57 pc) ∧ Okp RX4 cX4_hand 4 none "hand" false pc (c57 pc) := by
  intro pc
  unfold c57
  split
  · exact oc57_0 pc
  · exact oc57_1 pc
  · exact ⟨mn_sX, ok_X⟩
theorem o58_0 : Okp RX4 cX4_close 2 none "close" false 0 (sLR 0 1) := ok_aload_n (by decide +kernel : decode cX4_close 0 = .ok (.aload_n 0, 1)) rfl
theorem o58_1 : Okp RX4 cX4_close 2 none "close" false 1 (sLI 1 2) := ok_iload_n (by decide +kernel : decode cX4_close 1 = .ok (.iload_n 1, 1)) rfl
theorem o58_2 : Okp RX4 cX4_close 2 none "close" false 2 (sCV false 41 2 5 5) := ok_cv (by decide +kernel : decode cX4_close 2 = .ok (.invokevirtual 55, 3)) mw_X4_55 rfl (by decide) wm_X4_isOpen wse_X4_isOpen (by decide) rfl
theorem o58_5 : Okp RX4 cX4_close 2 none "close" false 5 (sI1 0 20 8) := ok_if_eq (by decide +kernel : decode cX4_close 5 = .ok (.ifCond .eq 15, 3)) (by decide)
theorem o58_8 : Okp RX4 cX4_close 2 none "close" false 8 (sLR 0 9) := ok_aload_n (by decide +kernel : decode cX4_close 8 = .ok (.aload_n 0, 1)) rfl
theorem o58_9 : Okp RX4 cX4_close 2 none "close" false 9 (sGR 5 1 12) := ok_getR (by decide +kernel : decode cX4_close 9 = .ok (.getfield 9, 3)) fw_X4_9 rfl
theorem o58_12 : Okp RX4 cX4_close 2 none "close" false 12 (sLI 1 13) := ok_iload_n (by decide +kernel : decode cX4_close 12 = .ok (.iload_n 1, 1)) rfl
theorem o58_13 : Okp RX4 cX4_close 2 none "close" false 13 (sK 0 14) := ok_iconst (by decide +kernel : decode cX4_close 13 = .ok (.iconst 0, 1)) (by decide)
theorem o58_14 : Okp RX4 cX4_close 2 none "close" false 14 (sBS 15) := ok_bastore (by decide +kernel : decode cX4_close 14 = .ok (.bastore, 1))
theorem o58_15 : Okp RX4 cX4_close 2 none "close" false 15 (sLR 0 16) := ok_aload_n (by decide +kernel : decode cX4_close 15 = .ok (.aload_n 0, 1)) rfl
theorem o58_16 : Okp RX4 cX4_close 2 none "close" false 16 (sLI 1 17) := ok_iload_n (by decide +kernel : decode cX4_close 16 = .ok (.iload_n 1, 1)) rfl
theorem o58_17 : Okp RX4 cX4_close 2 none "close" false 17 (sCV false 60 2 5 20) := ok_cv (by decide +kernel : decode cX4_close 17 = .ok (.invokevirtual 75, 3)) mw_X4_75 rfl (by decide) wm_X4_addClosing wse_X4_addClosing (by decide) rfl
theorem o58_20 : Okp RX4 cX4_close 2 none "close" false 20 sRV := ok_vret rfl (by decide +kernel : decode cX4_close 20 = .ok (.return_, 1))
theorem oc58 : ∀ pc, Mnp (c58 pc) ∧ Okp RX4 cX4_close 2 none "close" false pc (c58 pc) := by
  intro pc
  unfold c58
  split
  · exact ⟨mn_sLR, o58_0⟩
  · exact ⟨mn_sLI, o58_1⟩
  · exact ⟨mn_sCV, o58_2⟩
  · exact ⟨mn_sI1, o58_5⟩
  · exact ⟨mn_sLR, o58_8⟩
  · exact ⟨mn_sGR, o58_9⟩
  · exact ⟨mn_sLI, o58_12⟩
  · exact ⟨mn_sK, o58_13⟩
  · exact ⟨mn_sBS, o58_14⟩
  · exact ⟨mn_sLR, o58_15⟩
  · exact ⟨mn_sLI, o58_16⟩
  · exact ⟨mn_sCV, o58_17⟩
  · exact ⟨mn_sRV, o58_20⟩
  · exact ⟨mn_sX, ok_X⟩
theorem o59_0 : Okp RX4 cX4_closeAllOf 3 none "closeAllOf" false 0 (sK 0 1) := ok_iconst (by decide +kernel : decode cX4_closeAllOf 0 = .ok (.iconst 0, 1)) (by decide)
theorem o59_1 : Okp RX4 cX4_closeAllOf 3 none "closeAllOf" false 1 (sSI 2 2) := ok_istore_n (by decide +kernel : decode cX4_closeAllOf 1 = .ok (.istore_n 2, 1)) rfl (by decide) (by decide)
theorem o59_2 : Okp RX4 cX4_closeAllOf 3 none "closeAllOf" false 2 (sLI 2 3) := ok_iload_n (by decide +kernel : decode cX4_closeAllOf 2 = .ok (.iload_n 2, 1)) rfl
theorem o59_3 : Okp RX4 cX4_closeAllOf 3 none "closeAllOf" false 3 (sK 24 5) := ok_bipush (by decide +kernel : decode cX4_closeAllOf 3 = .ok (.bipush 24, 2)) (by decide)
theorem o59_5 : Okp RX4 cX4_closeAllOf 3 none "closeAllOf" false 5 (sI2 3 38 8) := ok_icmp_ge (by decide +kernel : decode cX4_closeAllOf 5 = .ok (.if_icmp .ge 33, 3)) (by decide)
theorem o59_8 : Okp RX4 cX4_closeAllOf 3 none "closeAllOf" false 8 (sLR 0 9) := ok_aload_n (by decide +kernel : decode cX4_closeAllOf 8 = .ok (.aload_n 0, 1)) rfl
theorem o59_9 : Okp RX4 cX4_closeAllOf 3 none "closeAllOf" false 9 (sGR 5 1 12) := ok_getR (by decide +kernel : decode cX4_closeAllOf 9 = .ok (.getfield 9, 3)) fw_X4_9 rfl
theorem o59_12 : Okp RX4 cX4_closeAllOf 3 none "closeAllOf" false 12 (sLI 2 13) := ok_iload_n (by decide +kernel : decode cX4_closeAllOf 12 = .ok (.iload_n 2, 1)) rfl
theorem o59_13 : Okp RX4 cX4_closeAllOf 3 none "closeAllOf" false 13 (sBA 14) := ok_baload (by decide +kernel : decode cX4_closeAllOf 13 = .ok (.baload, 1))
theorem o59_14 : Okp RX4 cX4_closeAllOf 3 none "closeAllOf" false 14 (sI1 0 32 17) := ok_if_eq (by decide +kernel : decode cX4_closeAllOf 14 = .ok (.ifCond .eq 18, 3)) (by decide)
theorem o59_17 : Okp RX4 cX4_closeAllOf 3 none "closeAllOf" false 17 (sLR 0 18) := ok_aload_n (by decide +kernel : decode cX4_closeAllOf 17 = .ok (.aload_n 0, 1)) rfl
theorem o59_18 : Okp RX4 cX4_closeAllOf 3 none "closeAllOf" false 18 (sGR 5 3 21) := ok_getR (by decide +kernel : decode cX4_closeAllOf 18 = .ok (.getfield 19, 3)) fw_X4_19 rfl
theorem o59_21 : Okp RX4 cX4_closeAllOf 3 none "closeAllOf" false 21 (sLI 2 22) := ok_iload_n (by decide +kernel : decode cX4_closeAllOf 21 = .ok (.iload_n 2, 1)) rfl
theorem o59_22 : Okp RX4 cX4_closeAllOf 3 none "closeAllOf" false 22 (sIA 23) := ok_iaload (by decide +kernel : decode cX4_closeAllOf 22 = .ok (.iaload, 1))
theorem o59_23 : Okp RX4 cX4_closeAllOf 3 none "closeAllOf" false 23 (sLI 1 24) := ok_iload_n (by decide +kernel : decode cX4_closeAllOf 23 = .ok (.iload_n 1, 1)) rfl
theorem o59_24 : Okp RX4 cX4_closeAllOf 3 none "closeAllOf" false 24 (sI2 1 32 27) := ok_icmp_ne (by decide +kernel : decode cX4_closeAllOf 24 = .ok (.if_icmp .ne 8, 3)) (by decide)
theorem o59_27 : Okp RX4 cX4_closeAllOf 3 none "closeAllOf" false 27 (sLR 0 28) := ok_aload_n (by decide +kernel : decode cX4_closeAllOf 27 = .ok (.aload_n 0, 1)) rfl
theorem o59_28 : Okp RX4 cX4_closeAllOf 3 none "closeAllOf" false 28 (sLI 2 29) := ok_iload_n (by decide +kernel : decode cX4_closeAllOf 28 = .ok (.iload_n 2, 1)) rfl
theorem o59_29 : Okp RX4 cX4_closeAllOf 3 none "closeAllOf" false 29 (sCV false 58 2 5 32) := ok_cv (by decide +kernel : decode cX4_closeAllOf 29 = .ok (.invokevirtual 85, 3)) mw_X4_85 rfl (by decide) wm_X4_close wse_X4_close (by decide) rfl
theorem o59_32 : Okp RX4 cX4_closeAllOf 3 none "closeAllOf" false 32 (sInc 2 1 35) := ok_iinc (by decide +kernel : decode cX4_closeAllOf 32 = .ok (.iinc 2 1, 3)) (by decide) (by decide)
theorem o59_35 : Okp RX4 cX4_closeAllOf 3 none "closeAllOf" false 35 (sGo 2) := ok_goto (by decide +kernel : decode cX4_closeAllOf 35 = .ok (.goto (-33), 3)) (by decide)
theorem o59_38 : Okp RX4 cX4_closeAllOf 3 none "closeAllOf" false 38 sRV := ok_vret rfl (by decide +kernel : decode cX4_closeAllOf 38 = .ok (.return_, 1))
theorem oc59_0 : ∀ pc, Mnp (c59_0 pc) ∧ Okp RX4 cX4_closeAllOf 3 none "closeAllOf" false pc (c59_0 pc) := by
  intro pc
  unfold c59_0
  split
  · exact ⟨mn_sK, o59_0⟩
  · exact ⟨mn_sSI, o59_1⟩
  · exact ⟨mn_sLI, o59_2⟩
  · exact ⟨mn_sK, o59_3⟩
  · exact ⟨mn_sI2, o59_5⟩
  · exact ⟨mn_sLR, o59_8⟩
  · exact ⟨mn_sGR, o59_9⟩
  · exact ⟨mn_sLI, o59_12⟩
  · exact ⟨mn_sBA, o59_13⟩
  · exact ⟨mn_sI1, o59_14⟩
  · exact ⟨mn_sLR, o59_17⟩
  · exact ⟨mn_sGR, o59_18⟩
  · exact ⟨mn_sLI, o59_21⟩
  · exact ⟨mn_sIA, o59_22⟩
  · exact ⟨mn_sLI, o59_23⟩
  · exact ⟨mn_sX, ok_X⟩
theorem oc59_1 : ∀ pc, Mnp (c59_1 pc) ∧ Okp RX4 cX4_closeAllOf 3 none "closeAllOf" false pc (c59_1 pc) := by
  intro pc
  unfold c59_1
  split
  · exact ⟨mn_sI2, o59_24⟩
  · exact ⟨mn_sLR, o59_27⟩
  · exact ⟨mn_sLI, o59_28⟩
  · exact ⟨mn_sCV, o59_29⟩
  · exact ⟨mn_sInc, o59_32⟩
  · exact ⟨mn_sGo, o59_35⟩
  · exact ⟨mn_sRV, o59_38⟩
  · exact ⟨mn_sX, ok_X⟩
theorem oc59 : ∀ pc, Mnp (c59 pc) ∧ Okp RX4 cX4_closeAllOf 3 none "closeAllOf" false pc (c59 pc) := by
  intro pc
  unfold c59
  split
  · exact oc59_0 pc
  · exact oc59_1 pc
  · exact ⟨mn_sX, ok_X⟩
theorem o60_0 : Okp RX4 cX4_addClosing 2 none "addClosing" false 0 (sLR 0 1) := ok_aload_n (by decide +kernel : decode cX4_addClosing 0 = .ok (.aload_n 0, 1)) rfl
theorem o60_1 : Okp RX4 cX4_addClosing 2 none "addClosing" false 1 (sGI 5 10 4) := ok_getI (by decide +kernel : decode cX4_addClosing 1 = .ok (.getfield 43, 3)) fw_X4_43 rfl
theorem o60_4 : Okp RX4 cX4_addClosing 2 none "addClosing" false 4 (sLR 0 5) := ok_aload_n (by decide +kernel : decode cX4_addClosing 4 = .ok (.aload_n 0, 1)) rfl
theorem o60_5 : Okp RX4 cX4_addClosing 2 none "addClosing" false 5 (sGR 5 9 8) := ok_getR (by decide +kernel : decode cX4_addClosing 5 = .ok (.getfield 40, 3)) fw_X4_40 rfl
theorem o60_8 : Okp RX4 cX4_addClosing 2 none "addClosing" false 8 (sLen 9) := ok_alen (by decide +kernel : decode cX4_addClosing 8 = .ok (.arraylength, 1))
theorem o60_9 : Okp RX4 cX4_addClosing 2 none "addClosing" false 9 (sI2 3 32 12) := ok_icmp_ge (by decide +kernel : decode cX4_addClosing 9 = .ok (.if_icmp .ge 23, 3)) (by decide)
theorem o60_12 : Okp RX4 cX4_addClosing 2 none "addClosing" false 12 (sLR 0 13) := ok_aload_n (by decide +kernel : decode cX4_addClosing 12 = .ok (.aload_n 0, 1)) rfl
theorem o60_13 : Okp RX4 cX4_addClosing 2 none "addClosing" false 13 (sGR 5 9 16) := ok_getR (by decide +kernel : decode cX4_addClosing 13 = .ok (.getfield 40, 3)) fw_X4_40 rfl
theorem o60_16 : Okp RX4 cX4_addClosing 2 none "addClosing" false 16 (sLR 0 17) := ok_aload_n (by decide +kernel : decode cX4_addClosing 16 = .ok (.aload_n 0, 1)) rfl
theorem o60_17 : Okp RX4 cX4_addClosing 2 none "addClosing" false 17 (sGI 5 10 20) := ok_getI (by decide +kernel : decode cX4_addClosing 17 = .ok (.getfield 43, 3)) fw_X4_43 rfl
theorem o60_20 : Okp RX4 cX4_addClosing 2 none "addClosing" false 20 (sLI 1 21) := ok_iload_n (by decide +kernel : decode cX4_addClosing 20 = .ok (.iload_n 1, 1)) rfl
theorem o60_21 : Okp RX4 cX4_addClosing 2 none "addClosing" false 21 (sIS 22) := ok_iastore (by decide +kernel : decode cX4_addClosing 21 = .ok (.iastore, 1))
theorem o60_22 : Okp RX4 cX4_addClosing 2 none "addClosing" false 22 (sLR 0 23) := ok_aload_n (by decide +kernel : decode cX4_addClosing 22 = .ok (.aload_n 0, 1)) rfl
theorem o60_23 : Okp RX4 cX4_addClosing 2 none "addClosing" false 23 (sDup 24) := ok_dup (by decide +kernel : decode cX4_addClosing 23 = .ok (.dup, 1))
theorem o60_24 : Okp RX4 cX4_addClosing 2 none "addClosing" false 24 (sGI 5 10 27) := ok_getI (by decide +kernel : decode cX4_addClosing 24 = .ok (.getfield 43, 3)) fw_X4_43 rfl
theorem o60_27 : Okp RX4 cX4_addClosing 2 none "addClosing" false 27 (sK 1 28) := ok_iconst (by decide +kernel : decode cX4_addClosing 27 = .ok (.iconst 1, 1)) (by decide)
theorem o60_28 : Okp RX4 cX4_addClosing 2 none "addClosing" false 28 (sB2 fAdd 29) := ok_iadd (by decide +kernel : decode cX4_addClosing 28 = .ok (.iadd, 1))
theorem o60_29 : Okp RX4 cX4_addClosing 2 none "addClosing" false 29 (sPI 5 10 32) := ok_putI (by decide +kernel : decode cX4_addClosing 29 = .ok (.putfield 43, 3)) fw_X4_43 ⟨⟨tyX4_ok, nmX4⟩, Or.inl rfl, rfl⟩ rfl
theorem o60_32 : Okp RX4 cX4_addClosing 2 none "addClosing" false 32 sRV := ok_vret rfl (by decide +kernel : decode cX4_addClosing 32 = .ok (.return_, 1))
theorem oc60_0 : ∀ pc, Mnp (c60_0 pc) ∧ Okp RX4 cX4_addClosing 2 none "addClosing" false pc (c60_0 pc) := by
  intro pc
  unfold c60_0
  split
  · exact ⟨mn_sLR, o60_0⟩
  · exact ⟨mn_sGI, o60_1⟩
  · exact ⟨mn_sLR, o60_4⟩
  · exact ⟨mn_sGR, o60_5⟩
  · exact ⟨mn_sLen, o60_8⟩
  · exact ⟨mn_sI2, o60_9⟩
  · exact ⟨mn_sLR, o60_12⟩
  · exact ⟨mn_sGR, o60_13⟩
  · exact ⟨mn_sLR, o60_16⟩
  · exact ⟨mn_sGI, o60_17⟩
  · exact ⟨mn_sLI, o60_20⟩
  · exact ⟨mn_sIS, o60_21⟩
  · exact ⟨mn_sLR, o60_22⟩
  · exact ⟨mn_sDup, o60_23⟩
  · exact ⟨mn_sX, ok_X⟩
theorem oc60_1 : ∀ pc, Mnp (c60_1 pc) ∧ Okp RX4 cX4_addClosing 2 none "addClosing" false pc (c60_1 pc) := by
  intro pc
  unfold c60_1
  split
  · exact ⟨mn_sGI, o60_24⟩
  · exact ⟨mn_sK, o60_27⟩
  · exact ⟨mn_sB2, o60_28⟩
  · exact ⟨mn_sPI, o60_29⟩
  · exact ⟨mn_sRV, o60_32⟩
  · exact ⟨mn_sX, ok_X⟩
theorem oc60 : ∀ pc, Mnp (c60 pc) ∧ Okp RX4 cX4_addClosing 2 none "addClosing" false pc (c60 pc) := by
  intro pc
  unfold c60
  split
  · exact oc60_0 pc
  · exact oc60_1 pc
  · exact ⟨mn_sX, ok_X⟩
theorem o61_0 : Okp RX4 cX4_settle 5 none "settle" false 0 (sK 0 1) := ok_iconst (by decide +kernel : decode cX4_settle 0 = .ok (.iconst 0, 1)) (by decide)
theorem o61_1 : Okp RX4 cX4_settle 5 none "settle" false 1 (sSI 1 2) := ok_istore_n (by decide +kernel : decode cX4_settle 1 = .ok (.istore_n 1, 1)) rfl (by decide) (by decide)
theorem o61_2 : Okp RX4 cX4_settle 5 none "settle" false 2 (sLI 1 3) := ok_iload_n (by decide +kernel : decode cX4_settle 2 = .ok (.iload_n 1, 1)) rfl
theorem o61_3 : Okp RX4 cX4_settle 5 none "settle" false 3 (sLR 0 4) := ok_aload_n (by decide +kernel : decode cX4_settle 3 = .ok (.aload_n 0, 1)) rfl
theorem o61_4 : Okp RX4 cX4_settle 5 none "settle" false 4 (sGI 5 10 7) := ok_getI (by decide +kernel : decode cX4_settle 4 = .ok (.getfield 43, 3)) fw_X4_43 rfl
theorem o61_7 : Okp RX4 cX4_settle 5 none "settle" false 7 (sI2 3 120 10) := ok_icmp_ge (by decide +kernel : decode cX4_settle 7 = .ok (.if_icmp .ge 113, 3)) (by decide)
theorem o61_10 : Okp RX4 cX4_settle 5 none "settle" false 10 (sLI 1 11) := ok_iload_n (by decide +kernel : decode cX4_settle 10 = .ok (.iload_n 1, 1)) rfl
theorem o61_11 : Okp RX4 cX4_settle 5 none "settle" false 11 (sLR 0 12) := ok_aload_n (by decide +kernel : decode cX4_settle 11 = .ok (.aload_n 0, 1)) rfl
theorem o61_12 : Okp RX4 cX4_settle 5 none "settle" false 12 (sGR 5 9 15) := ok_getR (by decide +kernel : decode cX4_settle 12 = .ok (.getfield 40, 3)) fw_X4_40 rfl
theorem o61_15 : Okp RX4 cX4_settle 5 none "settle" false 15 (sLen 16) := ok_alen (by decide +kernel : decode cX4_settle 15 = .ok (.arraylength, 1))
theorem o61_16 : Okp RX4 cX4_settle 5 none "settle" false 16 (sI2 3 120 19) := ok_icmp_ge (by decide +kernel : decode cX4_settle 16 = .ok (.if_icmp .ge 104, 3)) (by decide)
theorem o61_19 : Okp RX4 cX4_settle 5 none "settle" false 19 (sLR 0 20) := ok_aload_n (by decide +kernel : decode cX4_settle 19 = .ok (.aload_n 0, 1)) rfl
theorem o61_20 : Okp RX4 cX4_settle 5 none "settle" false 20 (sGR 5 9 23) := ok_getR (by decide +kernel : decode cX4_settle 20 = .ok (.getfield 40, 3)) fw_X4_40 rfl
theorem o61_23 : Okp RX4 cX4_settle 5 none "settle" false 23 (sLI 1 24) := ok_iload_n (by decide +kernel : decode cX4_settle 23 = .ok (.iload_n 1, 1)) rfl
theorem o61_24 : Okp RX4 cX4_settle 5 none "settle" false 24 (sIA 25) := ok_iaload (by decide +kernel : decode cX4_settle 24 = .ok (.iaload, 1))
theorem o61_25 : Okp RX4 cX4_settle 5 none "settle" false 25 (sSI 2 26) := ok_istore_n (by decide +kernel : decode cX4_settle 25 = .ok (.istore_n 2, 1)) rfl (by decide) (by decide)
theorem o61_26 : Okp RX4 cX4_settle 5 none "settle" false 26 (sK 0 27) := ok_iconst (by decide +kernel : decode cX4_settle 26 = .ok (.iconst 0, 1)) (by decide)
theorem o61_27 : Okp RX4 cX4_settle 5 none "settle" false 27 (sSI 3 28) := ok_istore_n (by decide +kernel : decode cX4_settle 27 = .ok (.istore_n 3, 1)) rfl (by decide) (by decide)
theorem o61_28 : Okp RX4 cX4_settle 5 none "settle" false 28 (sLI 3 29) := ok_iload_n (by decide +kernel : decode cX4_settle 28 = .ok (.iload_n 3, 1)) rfl
theorem o61_29 : Okp RX4 cX4_settle 5 none "settle" false 29 (sLR 0 30) := ok_aload_n (by decide +kernel : decode cX4_settle 29 = .ok (.aload_n 0, 1)) rfl
theorem o61_30 : Okp RX4 cX4_settle 5 none "settle" false 30 (sGR 5 5 33) := ok_getR (by decide +kernel : decode cX4_settle 30 = .ok (.getfield 28, 3)) fw_X4_28 rfl
theorem o61_33 : Okp RX4 cX4_settle 5 none "settle" false 33 (sLI 2 34) := ok_iload_n (by decide +kernel : decode cX4_settle 33 = .ok (.iload_n 2, 1)) rfl
theorem o61_34 : Okp RX4 cX4_settle 5 none "settle" false 34 (sIA 35) := ok_iaload (by decide +kernel : decode cX4_settle 34 = .ok (.iaload, 1))
theorem o61_35 : Okp RX4 cX4_settle 5 none "settle" false 35 (sI2 3 107 38) := ok_icmp_ge (by decide +kernel : decode cX4_settle 35 = .ok (.if_icmp .ge 72, 3)) (by decide)
theorem o61_38 : Okp RX4 cX4_settle 5 none "settle" false 38 (sLI 3 39) := ok_iload_n (by decide +kernel : decode cX4_settle 38 = .ok (.iload_n 3, 1)) rfl
theorem o61_39 : Okp RX4 cX4_settle 5 none "settle" false 39 (sK 4 40) := ok_iconst (by decide +kernel : decode cX4_settle 39 = .ok (.iconst 4, 1)) (by decide)
theorem o61_40 : Okp RX4 cX4_settle 5 none "settle" false 40 (sI2 3 107 43) := ok_icmp_ge (by decide +kernel : decode cX4_settle 40 = .ok (.if_icmp .ge 67, 3)) (by decide)
theorem o61_43 : Okp RX4 cX4_settle 5 none "settle" false 43 (sLR 0 44) := ok_aload_n (by decide +kernel : decode cX4_settle 43 = .ok (.aload_n 0, 1)) rfl
theorem o61_44 : Okp RX4 cX4_settle 5 none "settle" false 44 (sGR 5 8 47) := ok_getR (by decide +kernel : decode cX4_settle 44 = .ok (.getfield 37, 3)) fw_X4_37 rfl
theorem o61_47 : Okp RX4 cX4_settle 5 none "settle" false 47 (sLI 2 48) := ok_iload_n (by decide +kernel : decode cX4_settle 47 = .ok (.iload_n 2, 1)) rfl
theorem o61_48 : Okp RX4 cX4_settle 5 none "settle" false 48 (sK 4 49) := ok_iconst (by decide +kernel : decode cX4_settle 48 = .ok (.iconst 4, 1)) (by decide)
theorem o61_49 : Okp RX4 cX4_settle 5 none "settle" false 49 (sB2 fMul 50) := ok_imul (by decide +kernel : decode cX4_settle 49 = .ok (.imul, 1))
theorem o61_50 : Okp RX4 cX4_settle 5 none "settle" false 50 (sLI 3 51) := ok_iload_n (by decide +kernel : decode cX4_settle 50 = .ok (.iload_n 3, 1)) rfl
theorem o61_51 : Okp RX4 cX4_settle 5 none "settle" false 51 (sB2 fAdd 52) := ok_iadd (by decide +kernel : decode cX4_settle 51 = .ok (.iadd, 1))
theorem o61_52 : Okp RX4 cX4_settle 5 none "settle" false 52 (sIA 53) := ok_iaload (by decide +kernel : decode cX4_settle 52 = .ok (.iaload, 1))
theorem o61_53 : Okp RX4 cX4_settle 5 none "settle" false 53 (sSI 4 55) := ok_istore (by decide +kernel : decode cX4_settle 53 = .ok (.istore 4, 2)) (by decide) (by decide)
theorem o61_55 : Okp RX4 cX4_settle 5 none "settle" false 55 (sLR 0 56) := ok_aload_n (by decide +kernel : decode cX4_settle 55 = .ok (.aload_n 0, 1)) rfl
theorem o61_56 : Okp RX4 cX4_settle 5 none "settle" false 56 (sGR 5 7 59) := ok_getR (by decide +kernel : decode cX4_settle 56 = .ok (.getfield 34, 3)) fw_X4_34 rfl
theorem o61_59 : Okp RX4 cX4_settle 5 none "settle" false 59 (sLI 2 60) := ok_iload_n (by decide +kernel : decode cX4_settle 59 = .ok (.iload_n 2, 1)) rfl
theorem o61_60 : Okp RX4 cX4_settle 5 none "settle" false 60 (sK 4 61) := ok_iconst (by decide +kernel : decode cX4_settle 60 = .ok (.iconst 4, 1)) (by decide)
theorem o61_61 : Okp RX4 cX4_settle 5 none "settle" false 61 (sB2 fMul 62) := ok_imul (by decide +kernel : decode cX4_settle 61 = .ok (.imul, 1))
theorem o61_62 : Okp RX4 cX4_settle 5 none "settle" false 62 (sLI 3 63) := ok_iload_n (by decide +kernel : decode cX4_settle 62 = .ok (.iload_n 3, 1)) rfl
theorem o61_63 : Okp RX4 cX4_settle 5 none "settle" false 63 (sB2 fAdd 64) := ok_iadd (by decide +kernel : decode cX4_settle 63 = .ok (.iadd, 1))
theorem o61_64 : Okp RX4 cX4_settle 5 none "settle" false 64 (sIA 65) := ok_iaload (by decide +kernel : decode cX4_settle 64 = .ok (.iaload, 1))
theorem o61_65 : Okp RX4 cX4_settle 5 none "settle" false 65 (sK 4 66) := ok_iconst (by decide +kernel : decode cX4_settle 65 = .ok (.iconst 4, 1)) (by decide)
theorem o61_66 : Okp RX4 cX4_settle 5 none "settle" false 66 (sI2 1 81 69) := ok_icmp_ne (by decide +kernel : decode cX4_settle 66 = .ok (.if_icmp .ne 15, 3)) (by decide)
theorem o61_69 : Okp RX4 cX4_settle 5 none "settle" false 69 (sLR 0 70) := ok_aload_n (by decide +kernel : decode cX4_settle 69 = .ok (.aload_n 0, 1)) rfl
theorem o61_70 : Okp RX4 cX4_settle 5 none "settle" false 70 (sGR 5 0 73) := ok_getR (by decide +kernel : decode cX4_settle 70 = .ok (.getfield 47, 3)) fw_X4_47 rfl
theorem o61_73 : Okp RX4 cX4_settle 5 none "settle" false 73 (sLI 4 75) := ok_iload (by decide +kernel : decode cX4_settle 73 = .ok (.iload 4, 2))
theorem o61_75 : Okp RX4 cX4_settle 5 none "settle" false 75 (sCV false 8 2 1 78) := ok_cv (by decide +kernel : decode cX4_settle 75 = .ok (.invokevirtual 88, 3)) mw_X4_88 rfl (by decide) wm_X0_free wse_X0_free (by decide) rfl
theorem o61_78 : Okp RX4 cX4_settle 5 none "settle" false 78 (sGo 101) := ok_goto (by decide +kernel : decode cX4_settle 78 = .ok (.goto 23, 3)) (by decide)
theorem o61_81 : Okp RX4 cX4_settle 5 none "settle" false 81 (sLR 0 82) := ok_aload_n (by decide +kernel : decode cX4_settle 81 = .ok (.aload_n 0, 1)) rfl
theorem o61_82 : Okp RX4 cX4_settle 5 none "settle" false 82 (sGR 5 7 85) := ok_getR (by decide +kernel : decode cX4_settle 82 = .ok (.getfield 34, 3)) fw_X4_34 rfl
theorem o61_85 : Okp RX4 cX4_settle 5 none "settle" false 85 (sLI 2 86) := ok_iload_n (by decide +kernel : decode cX4_settle 85 = .ok (.iload_n 2, 1)) rfl
theorem o61_86 : Okp RX4 cX4_settle 5 none "settle" false 86 (sK 4 87) := ok_iconst (by decide +kernel : decode cX4_settle 86 = .ok (.iconst 4, 1)) (by decide)
theorem o61_87 : Okp RX4 cX4_settle 5 none "settle" false 87 (sB2 fMul 88) := ok_imul (by decide +kernel : decode cX4_settle 87 = .ok (.imul, 1))
theorem o61_88 : Okp RX4 cX4_settle 5 none "settle" false 88 (sLI 3 89) := ok_iload_n (by decide +kernel : decode cX4_settle 88 = .ok (.iload_n 3, 1)) rfl
theorem o61_89 : Okp RX4 cX4_settle 5 none "settle" false 89 (sB2 fAdd 90) := ok_iadd (by decide +kernel : decode cX4_settle 89 = .ok (.iadd, 1))
theorem o61_90 : Okp RX4 cX4_settle 5 none "settle" false 90 (sIA 91) := ok_iaload (by decide +kernel : decode cX4_settle 90 = .ok (.iaload, 1))
theorem o61_91 : Okp RX4 cX4_settle 5 none "settle" false 91 (sK 5 92) := ok_iconst (by decide +kernel : decode cX4_settle 91 = .ok (.iconst 5, 1)) (by decide)
theorem o61_92 : Okp RX4 cX4_settle 5 none "settle" false 92 (sI2 1 101 95) := ok_icmp_ne (by decide +kernel : decode cX4_settle 92 = .ok (.if_icmp .ne 9, 3)) (by decide)
theorem o61_95 : Okp RX4 cX4_settle 5 none "settle" false 95 (sLR 0 96) := ok_aload_n (by decide +kernel : decode cX4_settle 95 = .ok (.aload_n 0, 1)) rfl
theorem o61_96 : Okp RX4 cX4_settle 5 none "settle" false 96 (sLI 4 98) := ok_iload (by decide +kernel : decode cX4_settle 96 = .ok (.iload 4, 2))
theorem o61_98 : Okp RX4 cX4_settle 5 none "settle" false 98 (sCV false 58 2 5 101) := ok_cv (by decide +kernel : decode cX4_settle 98 = .ok (.invokevirtual 85, 3)) mw_X4_85 rfl (by decide) wm_X4_close wse_X4_close (by decide) rfl
theorem o61_101 : Okp RX4 cX4_settle 5 none "settle" false 101 (sInc 3 1 104) := ok_iinc (by decide +kernel : decode cX4_settle 101 = .ok (.iinc 3 1, 3)) (by decide) (by decide)
theorem o61_104 : Okp RX4 cX4_settle 5 none "settle" false 104 (sGo 28) := ok_goto (by decide +kernel : decode cX4_settle 104 = .ok (.goto (-76), 3)) (by decide)
theorem o61_107 : Okp RX4 cX4_settle 5 none "settle" false 107 (sLR 0 108) := ok_aload_n (by decide +kernel : decode cX4_settle 107 = .ok (.aload_n 0, 1)) rfl
theorem o61_108 : Okp RX4 cX4_settle 5 none "settle" false 108 (sGR 5 5 111) := ok_getR (by decide +kernel : decode cX4_settle 108 = .ok (.getfield 28, 3)) fw_X4_28 rfl
theorem o61_111 : Okp RX4 cX4_settle 5 none "settle" false 111 (sLI 2 112) := ok_iload_n (by decide +kernel : decode cX4_settle 111 = .ok (.iload_n 2, 1)) rfl
theorem o61_112 : Okp RX4 cX4_settle 5 none "settle" false 112 (sK 0 113) := ok_iconst (by decide +kernel : decode cX4_settle 112 = .ok (.iconst 0, 1)) (by decide)
theorem o61_113 : Okp RX4 cX4_settle 5 none "settle" false 113 (sIS 114) := ok_iastore (by decide +kernel : decode cX4_settle 113 = .ok (.iastore, 1))
theorem o61_114 : Okp RX4 cX4_settle 5 none "settle" false 114 (sInc 1 1 117) := ok_iinc (by decide +kernel : decode cX4_settle 114 = .ok (.iinc 1 1, 3)) (by decide) (by decide)
theorem o61_117 : Okp RX4 cX4_settle 5 none "settle" false 117 (sGo 2) := ok_goto (by decide +kernel : decode cX4_settle 117 = .ok (.goto (-115), 3)) (by decide)
theorem o61_120 : Okp RX4 cX4_settle 5 none "settle" false 120 (sLR 0 121) := ok_aload_n (by decide +kernel : decode cX4_settle 120 = .ok (.aload_n 0, 1)) rfl
theorem o61_121 : Okp RX4 cX4_settle 5 none "settle" false 121 (sK 0 122) := ok_iconst (by decide +kernel : decode cX4_settle 121 = .ok (.iconst 0, 1)) (by decide)
theorem o61_122 : Okp RX4 cX4_settle 5 none "settle" false 122 (sPI 5 10 125) := ok_putI (by decide +kernel : decode cX4_settle 122 = .ok (.putfield 43, 3)) fw_X4_43 ⟨⟨tyX4_ok, nmX4⟩, Or.inl rfl, rfl⟩ rfl
theorem o61_125 : Okp RX4 cX4_settle 5 none "settle" false 125 sRV := ok_vret rfl (by decide +kernel : decode cX4_settle 125 = .ok (.return_, 1))
theorem oc61_0 : ∀ pc, Mnp (c61_0 pc) ∧ Okp RX4 cX4_settle 5 none "settle" false pc (c61_0 pc) := by
  intro pc
  unfold c61_0
  split
  · exact ⟨mn_sK, o61_0⟩
  · exact ⟨mn_sSI, o61_1⟩
  · exact ⟨mn_sLI, o61_2⟩
  · exact ⟨mn_sLR, o61_3⟩
  · exact ⟨mn_sGI, o61_4⟩
  · exact ⟨mn_sI2, o61_7⟩
  · exact ⟨mn_sLI, o61_10⟩
  · exact ⟨mn_sLR, o61_11⟩
  · exact ⟨mn_sGR, o61_12⟩
  · exact ⟨mn_sLen, o61_15⟩
  · exact ⟨mn_sI2, o61_16⟩
  · exact ⟨mn_sLR, o61_19⟩
  · exact ⟨mn_sGR, o61_20⟩
  · exact ⟨mn_sLI, o61_23⟩
  · exact ⟨mn_sX, ok_X⟩
theorem oc61_1 : ∀ pc, Mnp (c61_1 pc) ∧ Okp RX4 cX4_settle 5 none "settle" false pc (c61_1 pc) := by
  intro pc
  unfold c61_1
  split
  · exact ⟨mn_sIA, o61_24⟩
  · exact ⟨mn_sSI, o61_25⟩
  · exact ⟨mn_sK, o61_26⟩
  · exact ⟨mn_sSI, o61_27⟩
  · exact ⟨mn_sLI, o61_28⟩
  · exact ⟨mn_sLR, o61_29⟩
  · exact ⟨mn_sGR, o61_30⟩
  · exact ⟨mn_sLI, o61_33⟩
  · exact ⟨mn_sIA, o61_34⟩
  · exact ⟨mn_sI2, o61_35⟩
  · exact ⟨mn_sLI, o61_38⟩
  · exact ⟨mn_sK, o61_39⟩
  · exact ⟨mn_sI2, o61_40⟩
  · exact ⟨mn_sLR, o61_43⟩
  · exact ⟨mn_sGR, o61_44⟩
  · exact ⟨mn_sLI, o61_47⟩
  · exact ⟨mn_sX, ok_X⟩
theorem oc61_2 : ∀ pc, Mnp (c61_2 pc) ∧ Okp RX4 cX4_settle 5 none "settle" false pc (c61_2 pc) := by
  intro pc
  unfold c61_2
  split
  · exact ⟨mn_sK, o61_48⟩
  · exact ⟨mn_sB2, o61_49⟩
  · exact ⟨mn_sLI, o61_50⟩
  · exact ⟨mn_sB2, o61_51⟩
  · exact ⟨mn_sIA, o61_52⟩
  · exact ⟨mn_sSI, o61_53⟩
  · exact ⟨mn_sLR, o61_55⟩
  · exact ⟨mn_sGR, o61_56⟩
  · exact ⟨mn_sLI, o61_59⟩
  · exact ⟨mn_sK, o61_60⟩
  · exact ⟨mn_sB2, o61_61⟩
  · exact ⟨mn_sLI, o61_62⟩
  · exact ⟨mn_sB2, o61_63⟩
  · exact ⟨mn_sIA, o61_64⟩
  · exact ⟨mn_sK, o61_65⟩
  · exact ⟨mn_sI2, o61_66⟩
  · exact ⟨mn_sLR, o61_69⟩
  · exact ⟨mn_sGR, o61_70⟩
  · exact ⟨mn_sX, ok_X⟩
theorem oc61_3 : ∀ pc, Mnp (c61_3 pc) ∧ Okp RX4 cX4_settle 5 none "settle" false pc (c61_3 pc) := by
  intro pc
  unfold c61_3
  split
  · exact ⟨mn_sLI, o61_73⟩
  · exact ⟨mn_sCV, o61_75⟩
  · exact ⟨mn_sGo, o61_78⟩
  · exact ⟨mn_sLR, o61_81⟩
  · exact ⟨mn_sGR, o61_82⟩
  · exact ⟨mn_sLI, o61_85⟩
  · exact ⟨mn_sK, o61_86⟩
  · exact ⟨mn_sB2, o61_87⟩
  · exact ⟨mn_sLI, o61_88⟩
  · exact ⟨mn_sB2, o61_89⟩
  · exact ⟨mn_sIA, o61_90⟩
  · exact ⟨mn_sK, o61_91⟩
  · exact ⟨mn_sI2, o61_92⟩
  · exact ⟨mn_sLR, o61_95⟩
  · exact ⟨mn_sX, ok_X⟩
theorem oc61_4 : ∀ pc, Mnp (c61_4 pc) ∧ Okp RX4 cX4_settle 5 none "settle" false pc (c61_4 pc) := by
  intro pc
  unfold c61_4
  split
  · exact ⟨mn_sLI, o61_96⟩
  · exact ⟨mn_sCV, o61_98⟩
  · exact ⟨mn_sInc, o61_101⟩
  · exact ⟨mn_sGo, o61_104⟩
  · exact ⟨mn_sLR, o61_107⟩
  · exact ⟨mn_sGR, o61_108⟩
  · exact ⟨mn_sLI, o61_111⟩
  · exact ⟨mn_sK, o61_112⟩
  · exact ⟨mn_sIS, o61_113⟩
  · exact ⟨mn_sInc, o61_114⟩
  · exact ⟨mn_sGo, o61_117⟩
  · exact ⟨mn_sX, ok_X⟩
theorem oc61_5 : ∀ pc, Mnp (c61_5 pc) ∧ Okp RX4 cX4_settle 5 none "settle" false pc (c61_5 pc) := by
  intro pc
  unfold c61_5
  split
  · exact ⟨mn_sLR, o61_120⟩
  · exact ⟨mn_sK, o61_121⟩
  · exact ⟨mn_sPI, o61_122⟩
  · exact ⟨mn_sRV, o61_125⟩
  · exact ⟨mn_sX, ok_X⟩
theorem oc61 : ∀ pc, Mnp (c61 pc) ∧ Okp RX4 cX4_settle 5 none "settle" false pc (c61 pc) := by
  intro pc
  unfold c61
  split
  · exact oc61_0 pc
  · exact oc61_1 pc
  · exact oc61_2 pc
  · exact oc61_3 pc
  · exact oc61_4 pc
  · exact oc61_5 pc
  · exact ⟨mn_sX, ok_X⟩
theorem o62_0 : Okp RX5 cX5_init 1 none "<init>" false 0 (sLR 0 1) := ok_aload_n (by decide +kernel : decode cX5_init 0 = .ok (.aload_n 0, 1)) rfl
theorem o62_1 : Okp RX5 cX5_init 1 none "<init>" false 1 (sCt 4) := ok_oinit (by decide +kernel : decode cX5_init 1 = .ok (.invokespecial 3, 3)) wq_X5_3 wq_i wq_c
theorem o62_4 : Okp RX5 cX5_init 1 none "<init>" false 4 (sLR 0 5) := ok_aload_n (by decide +kernel : decode cX5_init 4 = .ok (.aload_n 0, 1)) rfl
theorem o62_5 : Okp RX5 cX5_init 1 none "<init>" false 5 (sK 0 6) := ok_iconst (by decide +kernel : decode cX5_init 5 = .ok (.iconst 0, 1)) (by decide)
theorem o62_6 : Okp RX5 cX5_init 1 none "<init>" false 6 (sPZ 6 0 9) := ok_putZ (by decide +kernel : decode cX5_init 6 = .ok (.putfield 9, 3)) fw_X5_9 ⟨⟨tyX5_ok, nmX5⟩, Or.inl rfl, rfl⟩ rfl
theorem o62_9 : Okp RX5 cX5_init 1 none "<init>" false 9 (sLR 0 10) := ok_aload_n (by decide +kernel : decode cX5_init 9 = .ok (.aload_n 0, 1)) rfl
theorem o62_10 : Okp RX5 cX5_init 1 none "<init>" false 10 (sK 12 12) := ok_bipush (by decide +kernel : decode cX5_init 10 = .ok (.bipush 12, 2)) (by decide)
theorem o62_12 : Okp RX5 cX5_init 1 none "<init>" false 12 (sNA 19 15) := ok_anew (by decide +kernel : decode cX5_init 12 = .ok (.anewarray 15, 3)) (by decide) (fun _ => rfl) wl_X5_15 wo_X8
theorem o62_15 : Okp RX5 cX5_init 1 none "<init>" false 15 (sPR 6 1 18) := ok_putR (by decide +kernel : decode cX5_init 15 = .ok (.putfield 17, 3)) fw_X5_17 ⟨⟨tyX5_ok, nmX5⟩, Or.inr ⟨rfl, rfl, rfl⟩, rfl⟩ (Or.inr ⟨_, rfl⟩) rfl
theorem o62_18 : Okp RX5 cX5_init 1 none "<init>" false 18 (sLR 0 19) := ok_aload_n (by decide +kernel : decode cX5_init 18 = .ok (.aload_n 0, 1)) rfl
theorem o62_19 : Okp RX5 cX5_init 1 none "<init>" false 19 (sK 12 21) := ok_bipush (by decide +kernel : decode cX5_init 19 = .ok (.bipush 12, 2)) (by decide)
theorem o62_21 : Okp RX5 cX5_init 1 none "<init>" false 21 (sNA 16 23) := ok_newZ (by decide +kernel : decode cX5_init 21 = .ok (.newarray .boolean, 2)) wa_boolean
theorem o62_23 : Okp RX5 cX5_init 1 none "<init>" false 23 (sPR 6 2 26) := ok_putR (by decide +kernel : decode cX5_init 23 = .ok (.putfield 21, 3)) fw_X5_21 ⟨⟨tyX5_ok, nmX5⟩, Or.inr ⟨rfl, rfl, rfl⟩, rfl⟩ (Or.inr ⟨_, rfl⟩) rfl
theorem o62_26 : Okp RX5 cX5_init 1 none "<init>" false 26 (sLR 0 27) := ok_aload_n (by decide +kernel : decode cX5_init 26 = .ok (.aload_n 0, 1)) rfl
theorem o62_27 : Okp RX5 cX5_init 1 none "<init>" false 27 (sNew 1 5 30) := ok_new (by decide +kernel : decode cX5_init 27 = .ok (.new 25, 3)) ⟨rfl, rfl, by decide, cw_X0, tyX0_ok, wl_X5_25, wn_X0, wi_SealedProcesses_Blocks, df_X0⟩
theorem o62_30 : Okp RX5 cX5_init 1 none "<init>" false 30 (sDup 31) := ok_dup (by decide +kernel : decode cX5_init 30 = .ok (.dup, 1))
theorem o62_31 : Okp RX5 cX5_init 1 none "<init>" false 31 (sCI 0 1 34) := ok_ci (by decide +kernel : decode cX5_init 31 = .ok (.invokespecial 27, 3)) mw_X5_27 rfl rfl wm_X0_init (by decide) rfl
theorem o62_34 : Okp RX5 cX5_init 1 none "<init>" false 34 (sPR 6 3 37) := ok_putR (by decide +kernel : decode cX5_init 34 = .ok (.putfield 28, 3)) fw_X5_28 ⟨⟨tyX5_ok, nmX5⟩, Or.inr ⟨rfl, rfl, rfl⟩, rfl⟩ (Or.inl ⟨_, rfl⟩) rfl
theorem o62_37 : Okp RX5 cX5_init 1 none "<init>" false 37 (sLR 0 38) := ok_aload_n (by decide +kernel : decode cX5_init 37 = .ok (.aload_n 0, 1)) rfl
theorem o62_38 : Okp RX5 cX5_init 1 none "<init>" false 38 (sNew 5 11 41) := ok_new (by decide +kernel : decode cX5_init 38 = .ok (.new 32, 3)) ⟨rfl, rfl, by decide, cw_X4, tyX4_ok, wl_X5_32, wn_X4, wi_SealedProcesses_Ends, df_X4⟩
theorem o62_41 : Okp RX5 cX5_init 1 none "<init>" false 41 (sDup 42) := ok_dup (by decide +kernel : decode cX5_init 41 = .ok (.dup, 1))
theorem o62_42 : Okp RX5 cX5_init 1 none "<init>" false 42 (sLR 0 43) := ok_aload_n (by decide +kernel : decode cX5_init 42 = .ok (.aload_n 0, 1)) rfl
theorem o62_43 : Okp RX5 cX5_init 1 none "<init>" false 43 (sGR 6 3 46) := ok_getR (by decide +kernel : decode cX5_init 43 = .ok (.getfield 28, 3)) fw_X5_28 rfl
theorem o62_46 : Okp RX5 cX5_init 1 none "<init>" false 46 (sCI 39 2 49) := ok_ci (by decide +kernel : decode cX5_init 46 = .ok (.invokespecial 34, 3)) mw_X5_34 rfl rfl wm_X4_init (by decide) rfl
theorem o62_49 : Okp RX5 cX5_init 1 none "<init>" false 49 (sPR 6 4 52) := ok_putR (by decide +kernel : decode cX5_init 49 = .ok (.putfield 37, 3)) fw_X5_37 ⟨⟨tyX5_ok, nmX5⟩, Or.inr ⟨rfl, rfl, rfl⟩, rfl⟩ (Or.inl ⟨_, rfl⟩) rfl
theorem o62_52 : Okp RX5 cX5_init 1 none "<init>" false 52 (sLR 0 53) := ok_aload_n (by decide +kernel : decode cX5_init 52 = .ok (.aload_n 0, 1)) rfl
theorem o62_53 : Okp RX5 cX5_init 1 none "<init>" false 53 (sK 1025 56) := ok_sipush (by decide +kernel : decode cX5_init 53 = .ok (.sipush 1025, 3)) (by decide)
theorem o62_56 : Okp RX5 cX5_init 1 none "<init>" false 56 (sNA 15 58) := ok_newI (by decide +kernel : decode cX5_init 56 = .ok (.newarray .int, 2)) wa_int
theorem o62_58 : Okp RX5 cX5_init 1 none "<init>" false 58 (sPR 6 5 61) := ok_putR (by decide +kernel : decode cX5_init 58 = .ok (.putfield 41, 3)) fw_X5_41 ⟨⟨tyX5_ok, nmX5⟩, Or.inl rfl, rfl⟩ (Or.inr ⟨_, rfl⟩) rfl
theorem o62_61 : Okp RX5 cX5_init 1 none "<init>" false 61 (sLR 0 62) := ok_aload_n (by decide +kernel : decode cX5_init 61 = .ok (.aload_n 0, 1)) rfl
theorem o62_62 : Okp RX5 cX5_init 1 none "<init>" false 62 (sK 500 65) := ok_sipush (by decide +kernel : decode cX5_init 62 = .ok (.sipush 500, 3)) (by decide)
theorem o62_65 : Okp RX5 cX5_init 1 none "<init>" false 65 (sNA 15 67) := ok_newI (by decide +kernel : decode cX5_init 65 = .ok (.newarray .int, 2)) wa_int
theorem o62_67 : Okp RX5 cX5_init 1 none "<init>" false 67 (sPR 6 6 70) := ok_putR (by decide +kernel : decode cX5_init 67 = .ok (.putfield 45, 3)) fw_X5_45 ⟨⟨tyX5_ok, nmX5⟩, Or.inr ⟨rfl, rfl, rfl⟩, rfl⟩ (Or.inr ⟨_, rfl⟩) rfl
theorem o62_70 : Okp RX5 cX5_init 1 none "<init>" false 70 (sLR 0 71) := ok_aload_n (by decide +kernel : decode cX5_init 70 = .ok (.aload_n 0, 1)) rfl
theorem o62_71 : Okp RX5 cX5_init 1 none "<init>" false 71 (sK 500 74) := ok_sipush (by decide +kernel : decode cX5_init 71 = .ok (.sipush 500, 3)) (by decide)
theorem o62_74 : Okp RX5 cX5_init 1 none "<init>" false 74 (sNA 15 76) := ok_newI (by decide +kernel : decode cX5_init 74 = .ok (.newarray .int, 2)) wa_int
theorem o62_76 : Okp RX5 cX5_init 1 none "<init>" false 76 (sPR 6 7 79) := ok_putR (by decide +kernel : decode cX5_init 76 = .ok (.putfield 48, 3)) fw_X5_48 ⟨⟨tyX5_ok, nmX5⟩, Or.inr ⟨rfl, rfl, rfl⟩, rfl⟩ (Or.inr ⟨_, rfl⟩) rfl
theorem o62_79 : Okp RX5 cX5_init 1 none "<init>" false 79 (sLR 0 80) := ok_aload_n (by decide +kernel : decode cX5_init 79 = .ok (.aload_n 0, 1)) rfl
theorem o62_80 : Okp RX5 cX5_init 1 none "<init>" false 80 (sK 0 81) := ok_iconst (by decide +kernel : decode cX5_init 80 = .ok (.iconst 0, 1)) (by decide)
theorem o62_81 : Okp RX5 cX5_init 1 none "<init>" false 81 (sPI 6 8 84) := ok_putI (by decide +kernel : decode cX5_init 81 = .ok (.putfield 51, 3)) fw_X5_51 ⟨⟨tyX5_ok, nmX5⟩, Or.inl rfl, rfl⟩ rfl
theorem o62_84 : Okp RX5 cX5_init 1 none "<init>" false 84 (sLR 0 85) := ok_aload_n (by decide +kernel : decode cX5_init 84 = .ok (.aload_n 0, 1)) rfl
theorem o62_85 : Okp RX5 cX5_init 1 none "<init>" false 85 (sK 0 86) := ok_iconst (by decide +kernel : decode cX5_init 85 = .ok (.iconst 0, 1)) (by decide)
theorem o62_86 : Okp RX5 cX5_init 1 none "<init>" false 86 (sPI 6 9 89) := ok_putI (by decide +kernel : decode cX5_init 86 = .ok (.putfield 55, 3)) fw_X5_55 ⟨⟨tyX5_ok, nmX5⟩, Or.inl rfl, rfl⟩ rfl
theorem o62_89 : Okp RX5 cX5_init 1 none "<init>" false 89 (sLR 0 90) := ok_aload_n (by decide +kernel : decode cX5_init 89 = .ok (.aload_n 0, 1)) rfl
theorem o62_90 : Okp RX5 cX5_init 1 none "<init>" false 90 (sK 0 91) := ok_iconst (by decide +kernel : decode cX5_init 90 = .ok (.iconst 0, 1)) (by decide)
theorem o62_91 : Okp RX5 cX5_init 1 none "<init>" false 91 (sPI 6 10 94) := ok_putI (by decide +kernel : decode cX5_init 91 = .ok (.putfield 58, 3)) fw_X5_58 ⟨⟨tyX5_ok, nmX5⟩, Or.inl rfl, rfl⟩ rfl
theorem o62_94 : Okp RX5 cX5_init 1 none "<init>" false 94 (sLR 0 95) := ok_aload_n (by decide +kernel : decode cX5_init 94 = .ok (.aload_n 0, 1)) rfl
theorem o62_95 : Okp RX5 cX5_init 1 none "<init>" false 95 (sK 0 96) := ok_iconst (by decide +kernel : decode cX5_init 95 = .ok (.iconst 0, 1)) (by decide)
theorem o62_96 : Okp RX5 cX5_init 1 none "<init>" false 96 (sPI 6 11 99) := ok_putI (by decide +kernel : decode cX5_init 96 = .ok (.putfield 61, 3)) fw_X5_61 ⟨⟨tyX5_ok, nmX5⟩, Or.inl rfl, rfl⟩ rfl
theorem o62_99 : Okp RX5 cX5_init 1 none "<init>" false 99 (sLR 0 100) := ok_aload_n (by decide +kernel : decode cX5_init 99 = .ok (.aload_n 0, 1)) rfl
theorem o62_100 : Okp RX5 cX5_init 1 none "<init>" false 100 (sK 8 102) := ok_bipush (by decide +kernel : decode cX5_init 100 = .ok (.bipush 8, 2)) (by decide)
theorem o62_102 : Okp RX5 cX5_init 1 none "<init>" false 102 (sNA 15 104) := ok_newI (by decide +kernel : decode cX5_init 102 = .ok (.newarray .int, 2)) wa_int
theorem o62_104 : Okp RX5 cX5_init 1 none "<init>" false 104 (sPR 6 12 107) := ok_putR (by decide +kernel : decode cX5_init 104 = .ok (.putfield 64, 3)) fw_X5_64 ⟨⟨tyX5_ok, nmX5⟩, Or.inr ⟨rfl, rfl, rfl⟩, rfl⟩ (Or.inr ⟨_, rfl⟩) rfl
theorem o62_107 : Okp RX5 cX5_init 1 none "<init>" false 107 (sLR 0 108) := ok_aload_n (by decide +kernel : decode cX5_init 107 = .ok (.aload_n 0, 1)) rfl
theorem o62_108 : Okp RX5 cX5_init 1 none "<init>" false 108 (sK 4 109) := ok_iconst (by decide +kernel : decode cX5_init 108 = .ok (.iconst 4, 1)) (by decide)
theorem o62_109 : Okp RX5 cX5_init 1 none "<init>" false 109 (sNA 15 111) := ok_newI (by decide +kernel : decode cX5_init 109 = .ok (.newarray .int, 2)) wa_int
theorem o62_111 : Okp RX5 cX5_init 1 none "<init>" false 111 (sPR 6 13 114) := ok_putR (by decide +kernel : decode cX5_init 111 = .ok (.putfield 67, 3)) fw_X5_67 ⟨⟨tyX5_ok, nmX5⟩, Or.inr ⟨rfl, rfl, rfl⟩, rfl⟩ (Or.inr ⟨_, rfl⟩) rfl
theorem o62_114 : Okp RX5 cX5_init 1 none "<init>" false 114 (sLR 0 115) := ok_aload_n (by decide +kernel : decode cX5_init 114 = .ok (.aload_n 0, 1)) rfl
theorem o62_115 : Okp RX5 cX5_init 1 none "<init>" false 115 (sK 4 116) := ok_iconst (by decide +kernel : decode cX5_init 115 = .ok (.iconst 4, 1)) (by decide)
theorem o62_116 : Okp RX5 cX5_init 1 none "<init>" false 116 (sNA 15 118) := ok_newI (by decide +kernel : decode cX5_init 116 = .ok (.newarray .int, 2)) wa_int
theorem o62_118 : Okp RX5 cX5_init 1 none "<init>" false 118 (sPR 6 14 121) := ok_putR (by decide +kernel : decode cX5_init 118 = .ok (.putfield 70, 3)) fw_X5_70 ⟨⟨tyX5_ok, nmX5⟩, Or.inr ⟨rfl, rfl, rfl⟩, rfl⟩ (Or.inr ⟨_, rfl⟩) rfl
theorem o62_121 : Okp RX5 cX5_init 1 none "<init>" false 121 sRV := ok_vret rfl (by decide +kernel : decode cX5_init 121 = .ok (.return_, 1))
theorem oc62_0 : ∀ pc, Mnp (c62_0 pc) ∧ Okp RX5 cX5_init 1 none "<init>" false pc (c62_0 pc) := by
  intro pc
  unfold c62_0
  split
  · exact ⟨mn_sLR, o62_0⟩
  · exact ⟨mn_sCt, o62_1⟩
  · exact ⟨mn_sLR, o62_4⟩
  · exact ⟨mn_sK, o62_5⟩
  · exact ⟨mn_sPZ, o62_6⟩
  · exact ⟨mn_sLR, o62_9⟩
  · exact ⟨mn_sK, o62_10⟩
  · exact ⟨mn_sNA, o62_12⟩
  · exact ⟨mn_sPR, o62_15⟩
  · exact ⟨mn_sLR, o62_18⟩
  · exact ⟨mn_sK, o62_19⟩
  · exact ⟨mn_sNA, o62_21⟩
  · exact ⟨mn_sPR, o62_23⟩
  · exact ⟨mn_sX, ok_X⟩
theorem oc62_1 : ∀ pc, Mnp (c62_1 pc) ∧ Okp RX5 cX5_init 1 none "<init>" false pc (c62_1 pc) := by
  intro pc
  unfold c62_1
  split
  · exact ⟨mn_sLR, o62_26⟩
  · exact ⟨mn_sNew, o62_27⟩
  · exact ⟨mn_sDup, o62_30⟩
  · exact ⟨mn_sCI, o62_31⟩
  · exact ⟨mn_sPR, o62_34⟩
  · exact ⟨mn_sLR, o62_37⟩
  · exact ⟨mn_sNew, o62_38⟩
  · exact ⟨mn_sDup, o62_41⟩
  · exact ⟨mn_sLR, o62_42⟩
  · exact ⟨mn_sGR, o62_43⟩
  · exact ⟨mn_sCI, o62_46⟩
  · exact ⟨mn_sX, ok_X⟩
theorem oc62_2 : ∀ pc, Mnp (c62_2 pc) ∧ Okp RX5 cX5_init 1 none "<init>" false pc (c62_2 pc) := by
  intro pc
  unfold c62_2
  split
  · exact ⟨mn_sPR, o62_49⟩
  · exact ⟨mn_sLR, o62_52⟩
  · exact ⟨mn_sK, o62_53⟩
  · exact ⟨mn_sNA, o62_56⟩
  · exact ⟨mn_sPR, o62_58⟩
  · exact ⟨mn_sLR, o62_61⟩
  · exact ⟨mn_sK, o62_62⟩
  · exact ⟨mn_sNA, o62_65⟩
  · exact ⟨mn_sPR, o62_67⟩
  · exact ⟨mn_sLR, o62_70⟩
  · exact ⟨mn_sK, o62_71⟩
  · exact ⟨mn_sX, ok_X⟩
theorem oc62_3 : ∀ pc, Mnp (c62_3 pc) ∧ Okp RX5 cX5_init 1 none "<init>" false pc (c62_3 pc) := by
  intro pc
  unfold c62_3
  split
  · exact ⟨mn_sNA, o62_74⟩
  · exact ⟨mn_sPR, o62_76⟩
  · exact ⟨mn_sLR, o62_79⟩
  · exact ⟨mn_sK, o62_80⟩
  · exact ⟨mn_sPI, o62_81⟩
  · exact ⟨mn_sLR, o62_84⟩
  · exact ⟨mn_sK, o62_85⟩
  · exact ⟨mn_sPI, o62_86⟩
  · exact ⟨mn_sLR, o62_89⟩
  · exact ⟨mn_sK, o62_90⟩
  · exact ⟨mn_sPI, o62_91⟩
  · exact ⟨mn_sLR, o62_94⟩
  · exact ⟨mn_sK, o62_95⟩
  · exact ⟨mn_sX, ok_X⟩
theorem oc62_4 : ∀ pc, Mnp (c62_4 pc) ∧ Okp RX5 cX5_init 1 none "<init>" false pc (c62_4 pc) := by
  intro pc
  unfold c62_4
  split
  · exact ⟨mn_sPI, o62_96⟩
  · exact ⟨mn_sLR, o62_99⟩
  · exact ⟨mn_sK, o62_100⟩
  · exact ⟨mn_sNA, o62_102⟩
  · exact ⟨mn_sPR, o62_104⟩
  · exact ⟨mn_sLR, o62_107⟩
  · exact ⟨mn_sK, o62_108⟩
  · exact ⟨mn_sNA, o62_109⟩
  · exact ⟨mn_sPR, o62_111⟩
  · exact ⟨mn_sLR, o62_114⟩
  · exact ⟨mn_sK, o62_115⟩
  · exact ⟨mn_sNA, o62_116⟩
  · exact ⟨mn_sPR, o62_118⟩
  · exact ⟨mn_sX, ok_X⟩
theorem oc62_5 : ∀ pc, Mnp (c62_5 pc) ∧ Okp RX5 cX5_init 1 none "<init>" false pc (c62_5 pc) := by
  intro pc
  unfold c62_5
  split
  · exact ⟨mn_sRV, o62_121⟩
  · exact ⟨mn_sX, ok_X⟩
theorem oc62 : ∀ pc, Mnp (c62 pc) ∧ Okp RX5 cX5_init 1 none "<init>" false pc (c62 pc) := by
  intro pc
  unfold c62
  split
  · exact oc62_0 pc
  · exact oc62_1 pc
  · exact oc62_2 pc
  · exact oc62_3 pc
  · exact oc62_4 pc
  · exact oc62_5 pc
  · exact ⟨mn_sX, ok_X⟩
theorem o63_0 : Okp RX5 cX5_start 3 none "start" false 0 (sLR 0 1) := ok_aload_n (by decide +kernel : decode cX5_start 0 = .ok (.aload_n 0, 1)) rfl
theorem o63_1 : Okp RX5 cX5_start 3 none "start" false 1 (sK 1 2) := ok_iconst (by decide +kernel : decode cX5_start 1 = .ok (.iconst 1, 1)) (by decide)
theorem o63_2 : Okp RX5 cX5_start 3 none "start" false 2 (sPZ 6 0 5) := ok_putZ (by decide +kernel : decode cX5_start 2 = .ok (.putfield 9, 3)) fw_X5_9 ⟨⟨tyX5_ok, nmX5⟩, Or.inl rfl, rfl⟩ rfl
theorem o63_5 : Okp RX5 cX5_start 3 none "start" false 5 (sK 0 6) := ok_iconst (by decide +kernel : decode cX5_start 5 = .ok (.iconst 0, 1)) (by decide)
theorem o63_6 : Okp RX5 cX5_start 3 none "start" false 6 (sSI 2 7) := ok_istore_n (by decide +kernel : decode cX5_start 6 = .ok (.istore_n 2, 1)) rfl (by decide) (by decide)
theorem o63_7 : Okp RX5 cX5_start 3 none "start" false 7 (sLI 2 8) := ok_iload_n (by decide +kernel : decode cX5_start 7 = .ok (.iload_n 2, 1)) rfl
theorem o63_8 : Okp RX5 cX5_start 3 none "start" false 8 (sK 12 10) := ok_bipush (by decide +kernel : decode cX5_start 8 = .ok (.bipush 12, 2)) (by decide)
theorem o63_10 : Okp RX5 cX5_start 3 none "start" false 10 (sI2 3 26 13) := ok_icmp_ge (by decide +kernel : decode cX5_start 10 = .ok (.if_icmp .ge 16, 3)) (by decide)
theorem o63_13 : Okp RX5 cX5_start 3 none "start" false 13 (sLR 0 14) := ok_aload_n (by decide +kernel : decode cX5_start 13 = .ok (.aload_n 0, 1)) rfl
theorem o63_14 : Okp RX5 cX5_start 3 none "start" false 14 (sGR 6 2 17) := ok_getR (by decide +kernel : decode cX5_start 14 = .ok (.getfield 21, 3)) fw_X5_21 rfl
theorem o63_17 : Okp RX5 cX5_start 3 none "start" false 17 (sLI 2 18) := ok_iload_n (by decide +kernel : decode cX5_start 17 = .ok (.iload_n 2, 1)) rfl
theorem o63_18 : Okp RX5 cX5_start 3 none "start" false 18 (sK 0 19) := ok_iconst (by decide +kernel : decode cX5_start 18 = .ok (.iconst 0, 1)) (by decide)
theorem o63_19 : Okp RX5 cX5_start 3 none "start" false 19 (sBS 20) := ok_bastore (by decide +kernel : decode cX5_start 19 = .ok (.bastore, 1))
theorem o63_20 : Okp RX5 cX5_start 3 none "start" false 20 (sInc 2 1 23) := ok_iinc (by decide +kernel : decode cX5_start 20 = .ok (.iinc 2 1, 3)) (by decide) (by decide)
theorem o63_23 : Okp RX5 cX5_start 3 none "start" false 23 (sGo 7) := ok_goto (by decide +kernel : decode cX5_start 23 = .ok (.goto (-16), 3)) (by decide)
theorem o63_26 : Okp RX5 cX5_start 3 none "start" false 26 (sLR 0 27) := ok_aload_n (by decide +kernel : decode cX5_start 26 = .ok (.aload_n 0, 1)) rfl
theorem o63_27 : Okp RX5 cX5_start 3 none "start" false 27 (sGR 6 3 30) := ok_getR (by decide +kernel : decode cX5_start 27 = .ok (.getfield 28, 3)) fw_X5_28 rfl
theorem o63_30 : Okp RX5 cX5_start 3 none "start" false 30 (sCV false 1 1 1 33) := ok_cv (by decide +kernel : decode cX5_start 30 = .ok (.invokevirtual 73, 3)) mw_X5_73 rfl (by decide) wm_X0_clear wse_X0_clear (by decide) rfl
theorem o63_33 : Okp RX5 cX5_start 3 none "start" false 33 (sLR 0 34) := ok_aload_n (by decide +kernel : decode cX5_start 33 = .ok (.aload_n 0, 1)) rfl
theorem o63_34 : Okp RX5 cX5_start 3 none "start" false 34 (sGR 6 4 37) := ok_getR (by decide +kernel : decode cX5_start 34 = .ok (.getfield 37, 3)) fw_X5_37 rfl
theorem o63_37 : Okp RX5 cX5_start 3 none "start" false 37 (sCV false 40 1 5 40) := ok_cv (by decide +kernel : decode cX5_start 37 = .ok (.invokevirtual 76, 3)) mw_X5_76 rfl (by decide) wm_X4_clear wse_X4_clear (by decide) rfl
theorem o63_40 : Okp RX5 cX5_start 3 none "start" false 40 (sLR 0 41) := ok_aload_n (by decide +kernel : decode cX5_start 40 = .ok (.aload_n 0, 1)) rfl
theorem o63_41 : Okp RX5 cX5_start 3 none "start" false 41 (sK 0 42) := ok_iconst (by decide +kernel : decode cX5_start 41 = .ok (.iconst 0, 1)) (by decide)
theorem o63_42 : Okp RX5 cX5_start 3 none "start" false 42 (sPI 6 8 45) := ok_putI (by decide +kernel : decode cX5_start 42 = .ok (.putfield 51, 3)) fw_X5_51 ⟨⟨tyX5_ok, nmX5⟩, Or.inl rfl, rfl⟩ rfl
theorem o63_45 : Okp RX5 cX5_start 3 none "start" false 45 (sLR 0 46) := ok_aload_n (by decide +kernel : decode cX5_start 45 = .ok (.aload_n 0, 1)) rfl
theorem o63_46 : Okp RX5 cX5_start 3 none "start" false 46 (sK 0 47) := ok_iconst (by decide +kernel : decode cX5_start 46 = .ok (.iconst 0, 1)) (by decide)
theorem o63_47 : Okp RX5 cX5_start 3 none "start" false 47 (sPI 6 9 50) := ok_putI (by decide +kernel : decode cX5_start 47 = .ok (.putfield 55, 3)) fw_X5_55 ⟨⟨tyX5_ok, nmX5⟩, Or.inl rfl, rfl⟩ rfl
theorem o63_50 : Okp RX5 cX5_start 3 none "start" false 50 (sLR 0 51) := ok_aload_n (by decide +kernel : decode cX5_start 50 = .ok (.aload_n 0, 1)) rfl
theorem o63_51 : Okp RX5 cX5_start 3 none "start" false 51 (sK 0 52) := ok_iconst (by decide +kernel : decode cX5_start 51 = .ok (.iconst 0, 1)) (by decide)
theorem o63_52 : Okp RX5 cX5_start 3 none "start" false 52 (sPI 6 10 55) := ok_putI (by decide +kernel : decode cX5_start 52 = .ok (.putfield 58, 3)) fw_X5_58 ⟨⟨tyX5_ok, nmX5⟩, Or.inl rfl, rfl⟩ rfl
theorem o63_55 : Okp RX5 cX5_start 3 none "start" false 55 (sLR 0 56) := ok_aload_n (by decide +kernel : decode cX5_start 55 = .ok (.aload_n 0, 1)) rfl
theorem o63_56 : Okp RX5 cX5_start 3 none "start" false 56 (sK 0 57) := ok_iconst (by decide +kernel : decode cX5_start 56 = .ok (.iconst 0, 1)) (by decide)
theorem o63_57 : Okp RX5 cX5_start 3 none "start" false 57 (sPI 6 11 60) := ok_putI (by decide +kernel : decode cX5_start 57 = .ok (.putfield 61, 3)) fw_X5_61 ⟨⟨tyX5_ok, nmX5⟩, Or.inl rfl, rfl⟩ rfl
theorem o63_60 : Okp RX5 cX5_start 3 none "start" false 60 (sK 0 61) := ok_iconst (by decide +kernel : decode cX5_start 60 = .ok (.iconst 0, 1)) (by decide)
theorem o63_61 : Okp RX5 cX5_start 3 none "start" false 61 (sSI 2 62) := ok_istore_n (by decide +kernel : decode cX5_start 61 = .ok (.istore_n 2, 1)) rfl (by decide) (by decide)
theorem o63_62 : Okp RX5 cX5_start 3 none "start" false 62 (sLI 2 63) := ok_iload_n (by decide +kernel : decode cX5_start 62 = .ok (.iload_n 2, 1)) rfl
theorem o63_63 : Okp RX5 cX5_start 3 none "start" false 63 (sK 8 65) := ok_bipush (by decide +kernel : decode cX5_start 63 = .ok (.bipush 8, 2)) (by decide)
theorem o63_65 : Okp RX5 cX5_start 3 none "start" false 65 (sI2 3 81 68) := ok_icmp_ge (by decide +kernel : decode cX5_start 65 = .ok (.if_icmp .ge 16, 3)) (by decide)
theorem o63_68 : Okp RX5 cX5_start 3 none "start" false 68 (sLR 0 69) := ok_aload_n (by decide +kernel : decode cX5_start 68 = .ok (.aload_n 0, 1)) rfl
theorem o63_69 : Okp RX5 cX5_start 3 none "start" false 69 (sGR 6 12 72) := ok_getR (by decide +kernel : decode cX5_start 69 = .ok (.getfield 64, 3)) fw_X5_64 rfl
theorem o63_72 : Okp RX5 cX5_start 3 none "start" false 72 (sLI 2 73) := ok_iload_n (by decide +kernel : decode cX5_start 72 = .ok (.iload_n 2, 1)) rfl
theorem o63_73 : Okp RX5 cX5_start 3 none "start" false 73 (sK (-1) 74) := ok_iconst (by decide +kernel : decode cX5_start 73 = .ok (.iconst (-1), 1)) (by decide)
theorem o63_74 : Okp RX5 cX5_start 3 none "start" false 74 (sIS 75) := ok_iastore (by decide +kernel : decode cX5_start 74 = .ok (.iastore, 1))
theorem o63_75 : Okp RX5 cX5_start 3 none "start" false 75 (sInc 2 1 78) := ok_iinc (by decide +kernel : decode cX5_start 75 = .ok (.iinc 2 1, 3)) (by decide) (by decide)
theorem o63_78 : Okp RX5 cX5_start 3 none "start" false 78 (sGo 62) := ok_goto (by decide +kernel : decode cX5_start 78 = .ok (.goto (-16), 3)) (by decide)
theorem o63_81 : Okp RX5 cX5_start 3 none "start" false 81 (sK 0 82) := ok_iconst (by decide +kernel : decode cX5_start 81 = .ok (.iconst 0, 1)) (by decide)
theorem o63_82 : Okp RX5 cX5_start 3 none "start" false 82 (sSI 2 83) := ok_istore_n (by decide +kernel : decode cX5_start 82 = .ok (.istore_n 2, 1)) rfl (by decide) (by decide)
theorem o63_83 : Okp RX5 cX5_start 3 none "start" false 83 (sLI 2 84) := ok_iload_n (by decide +kernel : decode cX5_start 83 = .ok (.iload_n 2, 1)) rfl
theorem o63_84 : Okp RX5 cX5_start 3 none "start" false 84 (sLR 1 85) := ok_aload_n (by decide +kernel : decode cX5_start 84 = .ok (.aload_n 1, 1)) rfl
theorem o63_85 : Okp RX5 cX5_start 3 none "start" false 85 (sGI 7 1 88) := ok_getI (by decide +kernel : decode cX5_start 85 = .ok (.getfield 77, 3)) fw_X5_77 rfl
theorem o63_88 : Okp RX5 cX5_start 3 none "start" false 88 (sI2 3 109 91) := ok_icmp_ge (by decide +kernel : decode cX5_start 88 = .ok (.if_icmp .ge 21, 3)) (by decide)
theorem o63_91 : Okp RX5 cX5_start 3 none "start" false 91 (sLI 2 92) := ok_iload_n (by decide +kernel : decode cX5_start 91 = .ok (.iload_n 2, 1)) rfl
theorem o63_92 : Okp RX5 cX5_start 3 none "start" false 92 (sK 6 94) := ok_bipush (by decide +kernel : decode cX5_start 92 = .ok (.bipush 6, 2)) (by decide)
theorem o63_94 : Okp RX5 cX5_start 3 none "start" false 94 (sI2 3 109 97) := ok_icmp_ge (by decide +kernel : decode cX5_start 94 = .ok (.if_icmp .ge 15, 3)) (by decide)
theorem o63_97 : Okp RX5 cX5_start 3 none "start" false 97 (sLR 0 98) := ok_aload_n (by decide +kernel : decode cX5_start 97 = .ok (.aload_n 0, 1)) rfl
theorem o63_98 : Okp RX5 cX5_start 3 none "start" false 98 (sLR 1 99) := ok_aload_n (by decide +kernel : decode cX5_start 98 = .ok (.aload_n 1, 1)) rfl
theorem o63_99 : Okp RX5 cX5_start 3 none "start" false 99 (sLI 2 100) := ok_iload_n (by decide +kernel : decode cX5_start 99 = .ok (.iload_n 2, 1)) rfl
theorem o63_100 : Okp RX5 cX5_start 3 none "start" false 100 (sCV false 64 3 6 103) := ok_cv (by decide +kernel : decode cX5_start 100 = .ok (.invokevirtual 82, 3)) mw_X5_82 rfl (by decide) wm_X5_startTask wse_X5_startTask (by decide) rfl
theorem o63_103 : Okp RX5 cX5_start 3 none "start" false 103 (sInc 2 1 106) := ok_iinc (by decide +kernel : decode cX5_start 103 = .ok (.iinc 2 1, 3)) (by decide) (by decide)
theorem o63_106 : Okp RX5 cX5_start 3 none "start" false 106 (sGo 83) := ok_goto (by decide +kernel : decode cX5_start 106 = .ok (.goto (-23), 3)) (by decide)
theorem o63_109 : Okp RX5 cX5_start 3 none "start" false 109 sRV := ok_vret rfl (by decide +kernel : decode cX5_start 109 = .ok (.return_, 1))
theorem oc63_0 : ∀ pc, Mnp (c63_0 pc) ∧ Okp RX5 cX5_start 3 none "start" false pc (c63_0 pc) := by
  intro pc
  unfold c63_0
  split
  · exact ⟨mn_sLR, o63_0⟩
  · exact ⟨mn_sK, o63_1⟩
  · exact ⟨mn_sPZ, o63_2⟩
  · exact ⟨mn_sK, o63_5⟩
  · exact ⟨mn_sSI, o63_6⟩
  · exact ⟨mn_sLI, o63_7⟩
  · exact ⟨mn_sK, o63_8⟩
  · exact ⟨mn_sI2, o63_10⟩
  · exact ⟨mn_sLR, o63_13⟩
  · exact ⟨mn_sGR, o63_14⟩
  · exact ⟨mn_sLI, o63_17⟩
  · exact ⟨mn_sK, o63_18⟩
  · exact ⟨mn_sBS, o63_19⟩
  · exact ⟨mn_sInc, o63_20⟩
  · exact ⟨mn_sGo, o63_23⟩
  · exact ⟨mn_sX, ok_X⟩
theorem oc63_1 : ∀ pc, Mnp (c63_1 pc) ∧ Okp RX5 cX5_start 3 none "start" false pc (c63_1 pc) := by
  intro pc
  unfold c63_1
  split
  · exact ⟨mn_sLR, o63_26⟩
  · exact ⟨mn_sGR, o63_27⟩
  · exact ⟨mn_sCV, o63_30⟩
  · exact ⟨mn_sLR, o63_33⟩
  · exact ⟨mn_sGR, o63_34⟩
  · exact ⟨mn_sCV, o63_37⟩
  · exact ⟨mn_sLR, o63_40⟩
  · exact ⟨mn_sK, o63_41⟩
  · exact ⟨mn_sPI, o63_42⟩
  · exact ⟨mn_sLR, o63_45⟩
  · exact ⟨mn_sK, o63_46⟩
  · exact ⟨mn_sPI, o63_47⟩
  · exact ⟨mn_sX, ok_X⟩
theorem oc63_2 : ∀ pc, Mnp (c63_2 pc) ∧ Okp RX5 cX5_start 3 none "start" false pc (c63_2 pc) := by
  intro pc
  unfold c63_2
  split
  · exact ⟨mn_sLR, o63_50⟩
  · exact ⟨mn_sK, o63_51⟩
  · exact ⟨mn_sPI, o63_52⟩
  · exact ⟨mn_sLR, o63_55⟩
  · exact ⟨mn_sK, o63_56⟩
  · exact ⟨mn_sPI, o63_57⟩
  · exact ⟨mn_sK, o63_60⟩
  · exact ⟨mn_sSI, o63_61⟩
  · exact ⟨mn_sLI, o63_62⟩
  · exact ⟨mn_sK, o63_63⟩
  · exact ⟨mn_sI2, o63_65⟩
  · exact ⟨mn_sLR, o63_68⟩
  · exact ⟨mn_sGR, o63_69⟩
  · exact ⟨mn_sX, ok_X⟩
theorem oc63_3 : ∀ pc, Mnp (c63_3 pc) ∧ Okp RX5 cX5_start 3 none "start" false pc (c63_3 pc) := by
  intro pc
  unfold c63_3
  split
  · exact ⟨mn_sLI, o63_72⟩
  · exact ⟨mn_sK, o63_73⟩
  · exact ⟨mn_sIS, o63_74⟩
  · exact ⟨mn_sInc, o63_75⟩
  · exact ⟨mn_sGo, o63_78⟩
  · exact ⟨mn_sK, o63_81⟩
  · exact ⟨mn_sSI, o63_82⟩
  · exact ⟨mn_sLI, o63_83⟩
  · exact ⟨mn_sLR, o63_84⟩
  · exact ⟨mn_sGI, o63_85⟩
  · exact ⟨mn_sI2, o63_88⟩
  · exact ⟨mn_sLI, o63_91⟩
  · exact ⟨mn_sK, o63_92⟩
  · exact ⟨mn_sI2, o63_94⟩
  · exact ⟨mn_sX, ok_X⟩
theorem oc63_4 : ∀ pc, Mnp (c63_4 pc) ∧ Okp RX5 cX5_start 3 none "start" false pc (c63_4 pc) := by
  intro pc
  unfold c63_4
  split
  · exact ⟨mn_sLR, o63_97⟩
  · exact ⟨mn_sLR, o63_98⟩
  · exact ⟨mn_sLI, o63_99⟩
  · exact ⟨mn_sCV, o63_100⟩
  · exact ⟨mn_sInc, o63_103⟩
  · exact ⟨mn_sGo, o63_106⟩
  · exact ⟨mn_sRV, o63_109⟩
  · exact ⟨mn_sX, ok_X⟩
theorem oc63 : ∀ pc, Mnp (c63 pc) ∧ Okp RX5 cX5_start 3 none "start" false pc (c63 pc) := by
  intro pc
  unfold c63
  split
  · exact oc63_0 pc
  · exact oc63_1 pc
  · exact oc63_2 pc
  · exact oc63_3 pc
  · exact oc63_4 pc
  · exact ⟨mn_sX, ok_X⟩
