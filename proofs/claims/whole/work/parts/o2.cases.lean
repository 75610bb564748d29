/-! THE LAW: the cases of its loop -/
section LJ0
variable {d : Nat} {al : AL} {hi : HI} {hr : HR} {Q : QQ} {g : Int → Int} {L b1 b2 k : Nat} {i : Int} {c1 : Nat × Nat}
theorem LW.tp (H : LW g (21, L) b1 b2 k al hi hr) : (∀ i, hi 1 i = g i) ∧ al.2.2 1 = (21, L) ∧ isF al 1 = true ∧ aln al 1 = L ∧ SA al := by
  obtain ⟨⟨-, h1, h2, -⟩, S, s, hL, -⟩ := H
  exact ⟨h1, h2, by unfold isF; rw [h2]; rfl, by unfold aln; rw [h2], hL.1⟩
theorem l_0 (H : LW g (21, L) b1 b2 k al hi hr) (hd : 80 ≤ d) (hk : k ≤ 64) (i0 : 0 ≤ i) (i1 : i + 6 ≤ L) (hL : L ≤ 384) (hg : ∀ i, g i ≤ 2147483647) (NX : ∀ al' hi' hr', LW g (21, L) b1 b2 (k + 1) al' hi' hr' → Wp d 328 596 [vR (some 1), vR (some 2), vR (some 49), vI i] [] al' hi' hr' Q) : Wp d 328 104 [vR (some 1), vR (some 2), vR (some 49), vI i] [] al hi hr Q := by
  obtain ⟨h1, h2, hF, hl, hA⟩ := H.tp
  have k2 : isK al 2 12 := hA.k (by decide) (by decide) rfl
  refine s328_104.mpr ?_
  refine s328_105.mpr ?_
  refine s328_106.mpr ?_
  refine s328_107.mpr ?_
  refine s328_108.mpr ?_
  rw [fAdd_id (by omega) (by omega)]
  refine (s328_109F hF (by omega) (by omega)).mpr ?_
  rw [h1]
  refine s328_110.mpr ?_
  refine s328_111.mpr ?_
  refine s328_112.mpr ?_
  refine s328_113.mpr ?_
  rw [fAdd_id (by omega) (by omega)]
  refine (s328_114F hF (by omega) (by omega)).mpr ?_
  rw [h1]
  refine s328_115.mpr ?_
  refine s328_116.mpr ?_
  refine s328_117.mpr ?_
  refine s328_118.mpr ?_
  rw [fAdd_id (by omega) (by omega)]
  refine (s328_119F hF (by omega) (by omega)).mpr ?_
  rw [h1]
  refine s328_120.mpr ?_
  refine s328_121.mpr ?_
  refine s328_122.mpr ?_
  refine s328_123.mpr ?_
  rw [fAdd_id (by omega) (by omega)]
  refine (s328_124F hF (by omega) (by omega)).mpr ?_
  rw [h1]
  refine s328_125.mpr ?_
  refine s328_126.mpr ?_
  refine s328_127.mpr ?_
  refine s328_128.mpr ?_
  rw [fAdd_id (by omega) (by omega)]
  refine (s328_129F hF (by omega) (by omega)).mpr ?_
  rw [h1]
  refine (s328_130 (by omega) k2).mpr ?_
  refine c_feed H (by omega) (fun v al' hi' hr' hA' h1b h2b hE => ?_)
  simp only [kon, knt_some, knt_none, Option.toList_some, Option.toList_none, List.cons_append, List.nil_append]
  have k49 : isK al' 49 13 := hA'.k (by decide) (by decide) rfl
  have hF2 : isF al' 1 = true := by unfold isF; rw [h2b]; rfl
  have hl2 : aln al' 1 = L := by unfold aln; rw [h2b]
  refine s328_133.mpr ?_
  refine s328_134.mpr ?_
  refine s328_135.mpr ?_
  refine s328_136.mpr ?_
  refine s328_137.mpr ?_
  rw [fAdd_id (by omega) (by omega)]
  refine (s328_138F hF2 (by omega) (by omega)).mpr ?_
  rw [h1b]
  refine s328_139.mpr ?_
  refine s328_140.mpr ?_
  refine s328_141.mpr ?_
  refine s328_142.mpr ?_
  rw [fAdd_id (by omega) (by omega)]
  refine (s328_143F hF2 (by omega) (by omega)).mpr ?_
  rw [h1b]
  refine s328_144.mpr ?_
  refine s328_145.mpr ?_
  refine s328_146.mpr ?_
  refine s328_147.mpr ?_
  rw [fAdd_id (by omega) (by omega)]
  refine (s328_148F hF2 (by omega) (by omega)).mpr ?_
  rw [h1b]
  refine s328_149.mpr ?_
  refine s328_150.mpr ?_
  refine s328_151.mpr ?_
  refine s328_152.mpr ?_
  rw [fAdd_id (by omega) (by omega)]
  refine (s328_153F hF2 (by omega) (by omega)).mpr ?_
  rw [h1b]
  refine s328_154.mpr ?_
  refine s328_155.mpr ?_
  refine s328_156.mpr ?_
  refine s328_157.mpr ?_
  rw [fAdd_id (by omega) (by omega)]
  refine (s328_158F hF2 (by omega) (by omega)).mpr ?_
  rw [h1b]
  refine (s328_159 (by omega) k49).mpr ?_
  refine ev_mono hE (fun r al2 hi2 hr2 z => ?_)
  obtain ⟨rfl, z⟩ := z
  simp only [kon, knt_some, knt_none, Option.toList_some, Option.toList_none, List.cons_append, List.nil_append]
  refine s328_162.mpr ?_
  rw [if_pos rfl]
  exact NX al2 hi2 hr2 z
theorem l_1 (H : LW g (21, L) b1 b2 k al hi hr) (hd : 80 ≤ d) (hk : k ≤ 64) (i0 : 0 ≤ i) (i1 : i + 6 ≤ L) (hL : L ≤ 384) (hg : ∀ i, g i ≤ 2147483647) (NX : ∀ al' hi' hr', LW g (21, L) b1 b2 (k + 1) al' hi' hr' → Wp d 328 596 [vR (some 1), vR (some 2), vR (some 49), vI i] [] al' hi' hr' Q) : Wp d 328 167 [vR (some 1), vR (some 2), vR (some 49), vI i] [] al hi hr Q := by
  obtain ⟨h1, h2, hF, hl, hA⟩ := H.tp
  have k2 : isK al 2 12 := hA.k (by decide) (by decide) rfl
  refine s328_167.mpr ?_
  refine s328_168.mpr ?_
  refine s328_169.mpr ?_
  refine s328_170.mpr ?_
  refine s328_171.mpr ?_
  rw [fAdd_id (by omega) (by omega)]
  refine (s328_172F hF (by omega) (by omega)).mpr ?_
  rw [h1]
  refine (s328_173 (by omega) k2).mpr ?_
  refine c_load H (by omega) (fun v al' hi' hr' hA' h1b h2b hE => ?_)
  simp only [kon, knt_some, knt_none, Option.toList_some, Option.toList_none, List.cons_append, List.nil_append]
  have k49 : isK al' 49 13 := hA'.k (by decide) (by decide) rfl
  have hF2 : isF al' 1 = true := by unfold isF; rw [h2b]; rfl
  have hl2 : aln al' 1 = L := by unfold aln; rw [h2b]
  refine s328_176.mpr ?_
  refine s328_177.mpr ?_
  refine s328_178.mpr ?_
  refine s328_179.mpr ?_
  refine s328_180.mpr ?_
  rw [fAdd_id (by omega) (by omega)]
  refine (s328_181F hF2 (by omega) (by omega)).mpr ?_
  rw [h1b]
  refine (s328_182 (by omega) k49).mpr ?_
  refine ev_mono hE (fun r al2 hi2 hr2 z => ?_)
  obtain ⟨rfl, z⟩ := z
  simp only [kon, knt_some, knt_none, Option.toList_some, Option.toList_none, List.cons_append, List.nil_append]
  refine s328_185.mpr ?_
  rw [if_pos rfl]
  exact NX al2 hi2 hr2 z
theorem l_2 (H : LW g (21, L) b1 b2 k al hi hr) (hd : 80 ≤ d) (hk : k ≤ 64) (i0 : 0 ≤ i) (i1 : i + 6 ≤ L) (hL : L ≤ 384) (hg : ∀ i, g i ≤ 2147483647) (NX : ∀ al' hi' hr', LW g (21, L) b1 b2 (k + 1) al' hi' hr' → Wp d 328 596 [vR (some 1), vR (some 2), vR (some 49), vI i] [] al' hi' hr' Q) : Wp d 328 190 [vR (some 1), vR (some 2), vR (some 49), vI i] [] al hi hr Q := by
  obtain ⟨h1, h2, hF, hl, hA⟩ := H.tp
  have k2 : isK al 2 12 := hA.k (by decide) (by decide) rfl
  refine s328_190.mpr ?_
  refine s328_191.mpr ?_
  refine s328_192.mpr ?_
  refine s328_193.mpr ?_
  refine s328_194.mpr ?_
  rw [fAdd_id (by omega) (by omega)]
  refine (s328_195F hF (by omega) (by omega)).mpr ?_
  rw [h1]
  refine (s328_196 (by omega) k2).mpr ?_
  refine c_fault H (fun v al' hi' hr' hA' h1b h2b hE => ?_)
  simp only [kon, knt_some, knt_none, Option.toList_some, Option.toList_none, List.cons_append, List.nil_append]
  have k49 : isK al' 49 13 := hA'.k (by decide) (by decide) rfl
  have hF2 : isF al' 1 = true := by unfold isF; rw [h2b]; rfl
  have hl2 : aln al' 1 = L := by unfold aln; rw [h2b]
  refine s328_199.mpr ?_
  refine s328_200.mpr ?_
  refine s328_201.mpr ?_
  refine s328_202.mpr ?_
  refine s328_203.mpr ?_
  rw [fAdd_id (by omega) (by omega)]
  refine (s328_204F hF2 (by omega) (by omega)).mpr ?_
  rw [h1b]
  refine (s328_205 (by omega) k49).mpr ?_
  refine ev_mono hE (fun r al2 hi2 hr2 z => ?_)
  obtain ⟨rfl, z⟩ := z
  simp only [kon, knt_some, knt_none, Option.toList_some, Option.toList_none, List.cons_append, List.nil_append]
  refine s328_208.mpr ?_
  rw [if_pos rfl]
  exact NX al2 hi2 hr2 z
theorem l_3 (H : LW g (21, L) b1 b2 k al hi hr) (hd : 80 ≤ d) (hk : k ≤ 64) (i0 : 0 ≤ i) (i1 : i + 6 ≤ L) (hL : L ≤ 384) (hg : ∀ i, g i ≤ 2147483647) (NX : ∀ al' hi' hr', LW g (21, L) b1 b2 (k + 1) al' hi' hr' → Wp d 328 596 [vR (some 1), vR (some 2), vR (some 49), vI i] [] al' hi' hr' Q) : Wp d 328 213 [vR (some 1), vR (some 2), vR (some 49), vI i] [] al hi hr Q := by
  obtain ⟨h1, h2, hF, hl, hA⟩ := H.tp
  have k2 : isK al 2 12 := hA.k (by decide) (by decide) rfl
  refine s328_213.mpr ?_
  refine s328_214.mpr ?_
  refine s328_215.mpr ?_
  refine s328_216.mpr ?_
  refine s328_217.mpr ?_
  rw [fAdd_id (by omega) (by omega)]
  refine (s328_218F hF (by omega) (by omega)).mpr ?_
  rw [h1]
  refine (s328_219 (by omega) k2).mpr ?_
  refine c_discard H (by omega) (fun v al' hi' hr' hA' h1b h2b hE => ?_)
  simp only [kon, knt_some, knt_none, Option.toList_some, Option.toList_none, List.cons_append, List.nil_append]
  have k49 : isK al' 49 13 := hA'.k (by decide) (by decide) rfl
  have hF2 : isF al' 1 = true := by unfold isF; rw [h2b]; rfl
  have hl2 : aln al' 1 = L := by unfold aln; rw [h2b]
  refine s328_222.mpr ?_
  refine s328_223.mpr ?_
  refine s328_224.mpr ?_
  refine s328_225.mpr ?_
  refine s328_226.mpr ?_
  rw [fAdd_id (by omega) (by omega)]
  refine (s328_227F hF2 (by omega) (by omega)).mpr ?_
  rw [h1b]
  refine (s328_228 (by omega) k49).mpr ?_
  refine ev_mono hE (fun r al2 hi2 hr2 z => ?_)
  obtain ⟨rfl, z⟩ := z
  simp only [kon, knt_some, knt_none, Option.toList_some, Option.toList_none, List.cons_append, List.nil_append]
  refine s328_231.mpr ?_
  rw [if_pos rfl]
  exact NX al2 hi2 hr2 z
theorem l_4 (H : LW g (21, L) b1 b2 k al hi hr) (hd : 80 ≤ d) (hk : k ≤ 64) (i0 : 0 ≤ i) (i1 : i + 6 ≤ L) (hL : L ≤ 384) (hg : ∀ i, g i ≤ 2147483647) (NX : ∀ al' hi' hr', LW g (21, L) b1 b2 (k + 1) al' hi' hr' → Wp d 328 596 [vR (some 1), vR (some 2), vR (some 49), vI i] [] al' hi' hr' Q) : Wp d 328 236 [vR (some 1), vR (some 2), vR (some 49), vI i] [] al hi hr Q := by
  obtain ⟨h1, h2, hF, hl, hA⟩ := H.tp
  have k2 : isK al 2 12 := hA.k (by decide) (by decide) rfl
  refine s328_236.mpr ?_
  refine s328_237.mpr ?_
  refine s328_238.mpr ?_
  refine s328_239.mpr ?_
  refine s328_240.mpr ?_
  rw [fAdd_id (by omega) (by omega)]
  refine (s328_241F hF (by omega) (by omega)).mpr ?_
  rw [h1]
  refine s328_242.mpr ?_
  refine s328_243.mpr ?_
  refine s328_244.mpr ?_
  refine s328_245.mpr ?_
  rw [fAdd_id (by omega) (by omega)]
  refine (s328_246F hF (by omega) (by omega)).mpr ?_
  rw [h1]
  refine s328_247.mpr ?_
  refine s328_248.mpr ?_
  refine s328_249.mpr ?_
  refine s328_250.mpr ?_
  rw [fAdd_id (by omega) (by omega)]
  refine (s328_251F hF (by omega) (by omega)).mpr ?_
  rw [h1]
  refine (s328_252 (by omega) k2).mpr ?_
  refine c_module H (by omega) (fun v al' hi' hr' hA' h1b h2b hE => ?_)
  simp only [kon, knt_some, knt_none, Option.toList_some, Option.toList_none, List.cons_append, List.nil_append]
  have k49 : isK al' 49 13 := hA'.k (by decide) (by decide) rfl
  have hF2 : isF al' 1 = true := by unfold isF; rw [h2b]; rfl
  have hl2 : aln al' 1 = L := by unfold aln; rw [h2b]
  refine s328_255.mpr ?_
  refine s328_256.mpr ?_
  refine s328_257.mpr ?_
  refine s328_258.mpr ?_
  refine s328_259.mpr ?_
  rw [fAdd_id (by omega) (by omega)]
  refine (s328_260F hF2 (by omega) (by omega)).mpr ?_
  rw [h1b]
  refine s328_261.mpr ?_
  refine s328_262.mpr ?_
  refine s328_263.mpr ?_
  refine s328_264.mpr ?_
  rw [fAdd_id (by omega) (by omega)]
  refine (s328_265F hF2 (by omega) (by omega)).mpr ?_
  rw [h1b]
  refine s328_266.mpr ?_
  refine s328_267.mpr ?_
  refine s328_268.mpr ?_
  refine s328_269.mpr ?_
  rw [fAdd_id (by omega) (by omega)]
  refine (s328_270F hF2 (by omega) (by omega)).mpr ?_
  rw [h1b]
  refine (s328_271 (by omega) k49).mpr ?_
  refine ev_mono hE (fun r al2 hi2 hr2 z => ?_)
  obtain ⟨rfl, z⟩ := z
  simp only [kon, knt_some, knt_none, Option.toList_some, Option.toList_none, List.cons_append, List.nil_append]
  refine s328_274.mpr ?_
  rw [if_pos rfl]
  exact NX al2 hi2 hr2 z
theorem l_5 (H : LW g (21, L) b1 b2 k al hi hr) (hd : 80 ≤ d) (hk : k ≤ 64) (i0 : 0 ≤ i) (i1 : i + 6 ≤ L) (hL : L ≤ 384) (hg : ∀ i, g i ≤ 2147483647) (NX : ∀ al' hi' hr', LW g (21, L) b1 b2 (k + 1) al' hi' hr' → Wp d 328 596 [vR (some 1), vR (some 2), vR (some 49), vI i] [] al' hi' hr' Q) : Wp d 328 279 [vR (some 1), vR (some 2), vR (some 49), vI i] [] al hi hr Q := by
  obtain ⟨h1, h2, hF, hl, hA⟩ := H.tp
  have k2 : isK al 2 12 := hA.k (by decide) (by decide) rfl
  refine s328_279.mpr ?_
  refine s328_280.mpr ?_
  refine s328_281.mpr ?_
  refine s328_282.mpr ?_
  refine s328_283.mpr ?_
  rw [fAdd_id (by omega) (by omega)]
  refine (s328_284F hF (by omega) (by omega)).mpr ?_
  rw [h1]
  refine s328_285.mpr ?_
  refine s328_286.mpr ?_
  refine s328_287.mpr ?_
  refine s328_288.mpr ?_
  rw [fAdd_id (by omega) (by omega)]
  refine (s328_289F hF (by omega) (by omega)).mpr ?_
  rw [h1]
  refine s328_290.mpr ?_
  refine s328_291.mpr ?_
  refine s328_292.mpr ?_
  refine s328_293.mpr ?_
  rw [fAdd_id (by omega) (by omega)]
  refine (s328_294F hF (by omega) (by omega)).mpr ?_
  rw [h1]
  refine s328_295.mpr ?_
  refine s328_296.mpr ?_
  refine s328_297.mpr ?_
  refine s328_298.mpr ?_
  rw [fAdd_id (by omega) (by omega)]
  refine (s328_299F hF (by omega) (by omega)).mpr ?_
  rw [h1]
  refine s328_300.mpr ?_
  refine s328_301.mpr ?_
  refine s328_302.mpr ?_
  refine s328_303.mpr ?_
  rw [fAdd_id (by omega) (by omega)]
  refine (s328_304F hF (by omega) (by omega)).mpr ?_
  rw [h1]
  refine (s328_305 (by omega) k2).mpr ?_
  refine c_typeAt H (by omega) (fun v al' hi' hr' hA' h1b h2b hE => ?_)
  simp only [kon, knt_some, knt_none, Option.toList_some, Option.toList_none, List.cons_append, List.nil_append]
  have k49 : isK al' 49 13 := hA'.k (by decide) (by decide) rfl
  have hF2 : isF al' 1 = true := by unfold isF; rw [h2b]; rfl
  have hl2 : aln al' 1 = L := by unfold aln; rw [h2b]
  refine s328_308.mpr ?_
  refine s328_309.mpr ?_
  refine s328_310.mpr ?_
  refine s328_311.mpr ?_
  refine s328_312.mpr ?_
  rw [fAdd_id (by omega) (by omega)]
  refine (s328_313F hF2 (by omega) (by omega)).mpr ?_
  rw [h1b]
  refine s328_314.mpr ?_
  refine s328_315.mpr ?_
  refine s328_316.mpr ?_
  refine s328_317.mpr ?_
  rw [fAdd_id (by omega) (by omega)]
  refine (s328_318F hF2 (by omega) (by omega)).mpr ?_
  rw [h1b]
  refine s328_319.mpr ?_
  refine s328_320.mpr ?_
  refine s328_321.mpr ?_
  refine s328_322.mpr ?_
  rw [fAdd_id (by omega) (by omega)]
  refine (s328_323F hF2 (by omega) (by omega)).mpr ?_
  rw [h1b]
  refine s328_324.mpr ?_
  refine s328_325.mpr ?_
  refine s328_326.mpr ?_
  refine s328_327.mpr ?_
  rw [fAdd_id (by omega) (by omega)]
  refine (s328_328F hF2 (by omega) (by omega)).mpr ?_
  rw [h1b]
  refine s328_329.mpr ?_
  refine s328_330.mpr ?_
  refine s328_331.mpr ?_
  refine s328_332.mpr ?_
  rw [fAdd_id (by omega) (by omega)]
  refine (s328_333F hF2 (by omega) (by omega)).mpr ?_
  rw [h1b]
  refine (s328_334 (by omega) k49).mpr ?_
  refine ev_mono hE (fun r al2 hi2 hr2 z => ?_)
  obtain ⟨rfl, z⟩ := z
  simp only [kon, knt_some, knt_none, Option.toList_some, Option.toList_none, List.cons_append, List.nil_append]
  refine s328_337.mpr ?_
  rw [if_pos rfl]
  exact NX al2 hi2 hr2 z
theorem l_6 (H : LW g (21, L) b1 b2 k al hi hr) (hd : 80 ≤ d) (hk : k ≤ 64) (i0 : 0 ≤ i) (i1 : i + 6 ≤ L) (hL : L ≤ 384) (hg : ∀ i, g i ≤ 2147483647) (NX : ∀ al' hi' hr', LW g (21, L) b1 b2 (k + 1) al' hi' hr' → Wp d 328 596 [vR (some 1), vR (some 2), vR (some 49), vI i] [] al' hi' hr' Q) : Wp d 328 342 [vR (some 1), vR (some 2), vR (some 49), vI i] [] al hi hr Q := by
  obtain ⟨h1, h2, hF, hl, hA⟩ := H.tp
  have k2 : isK al 2 12 := hA.k (by decide) (by decide) rfl
  refine s328_342.mpr ?_
  refine s328_343.mpr ?_
  refine s328_344.mpr ?_
  refine s328_345.mpr ?_
  refine s328_346.mpr ?_
  rw [fAdd_id (by omega) (by omega)]
  refine (s328_347F hF (by omega) (by omega)).mpr ?_
  rw [h1]
  refine (s328_348 (by omega) k2).mpr ?_
  refine c_boot H (by omega) (fun v al' hi' hr' hA' h1b h2b hE => ?_)
  simp only [kon, knt_some, knt_none, Option.toList_some, Option.toList_none, List.cons_append, List.nil_append]
  have k49 : isK al' 49 13 := hA'.k (by decide) (by decide) rfl
  have hF2 : isF al' 1 = true := by unfold isF; rw [h2b]; rfl
  have hl2 : aln al' 1 = L := by unfold aln; rw [h2b]
  refine s328_351.mpr ?_
  refine s328_352.mpr ?_
  refine s328_353.mpr ?_
  refine s328_354.mpr ?_
  refine s328_355.mpr ?_
  rw [fAdd_id (by omega) (by omega)]
  refine (s328_356F hF2 (by omega) (by omega)).mpr ?_
  rw [h1b]
  refine (s328_357 (by omega) k49).mpr ?_
  refine ev_mono hE (fun r al2 hi2 hr2 z => ?_)
  obtain ⟨rfl, z⟩ := z
  simp only [kon, knt_some, knt_none, Option.toList_some, Option.toList_none, List.cons_append, List.nil_append]
  refine s328_360.mpr ?_
  rw [if_pos rfl]
  exact NX al2 hi2 hr2 z
theorem l_7 (H : LW g (21, L) b1 b2 k al hi hr) (hd : 80 ≤ d) (hk : k ≤ 64) (i0 : 0 ≤ i) (i1 : i + 6 ≤ L) (hL : L ≤ 384) (hg : ∀ i, g i ≤ 2147483647) (NX : ∀ al' hi' hr', LW g (21, L) b1 b2 (k + 1) al' hi' hr' → Wp d 328 596 [vR (some 1), vR (some 2), vR (some 49), vI i] [] al' hi' hr' Q) : Wp d 328 365 [vR (some 1), vR (some 2), vR (some 49), vI i] [] al hi hr Q := by
  obtain ⟨h1, h2, hF, hl, hA⟩ := H.tp
  have k2 : isK al 2 12 := hA.k (by decide) (by decide) rfl
  refine s328_365.mpr ?_
  refine s328_366.mpr ?_
  refine s328_367.mpr ?_
  refine s328_368.mpr ?_
  refine s328_369.mpr ?_
  rw [fAdd_id (by omega) (by omega)]
  refine (s328_370F hF (by omega) (by omega)).mpr ?_
  rw [h1]
  refine (s328_371 (by omega) k2).mpr ?_
  refine c_run H (by omega) hk (fun v al' hi' hr' hA' h1b h2b hE => ?_)
  simp only [kon, knt_some, knt_none, Option.toList_some, Option.toList_none, List.cons_append, List.nil_append]
  have k49 : isK al' 49 13 := hA'.k (by decide) (by decide) rfl
  have hF2 : isF al' 1 = true := by unfold isF; rw [h2b]; rfl
  have hl2 : aln al' 1 = L := by unfold aln; rw [h2b]
  refine s328_374.mpr ?_
  refine s328_375.mpr ?_
  refine s328_376.mpr ?_
  refine s328_377.mpr ?_
  refine s328_378.mpr ?_
  rw [fAdd_id (by omega) (by omega)]
  refine (s328_379F hF2 (by omega) (by omega)).mpr ?_
  rw [h1b]
  refine (s328_380 (by omega) k49).mpr ?_
  refine ev_mono hE (fun r al2 hi2 hr2 z => ?_)
  obtain ⟨rfl, z⟩ := z
  simp only [kon, knt_some, knt_none, Option.toList_some, Option.toList_none, List.cons_append, List.nil_append]
  refine s328_383.mpr ?_
  rw [if_pos rfl]
  exact NX al2 hi2 hr2 z
theorem l_8 (H : LW g (21, L) b1 b2 k al hi hr) (hd : 80 ≤ d) (hk : k ≤ 64) (i0 : 0 ≤ i) (i1 : i + 6 ≤ L) (hL : L ≤ 384) (hg : ∀ i, g i ≤ 2147483647) (NX : ∀ al' hi' hr', LW g (21, L) b1 b2 (k + 1) al' hi' hr' → Wp d 328 596 [vR (some 1), vR (some 2), vR (some 49), vI i] [] al' hi' hr' Q) : Wp d 328 388 [vR (some 1), vR (some 2), vR (some 49), vI i] [] al hi hr Q := by
  obtain ⟨h1, h2, hF, hl, hA⟩ := H.tp
  have k2 : isK al 2 12 := hA.k (by decide) (by decide) rfl
  refine s328_388.mpr ?_
  refine s328_389.mpr ?_
  refine s328_390.mpr ?_
  refine s328_391.mpr ?_
  refine s328_392.mpr ?_
  rw [fAdd_id (by omega) (by omega)]
  refine (s328_393F hF (by omega) (by omega)).mpr ?_
  rw [h1]
  refine (s328_394 (by omega) k2).mpr ?_
  refine c_about H (by omega) (fun v al' hi' hr' hA' h1b h2b hE => ?_)
  simp only [kon, knt_some, knt_none, Option.toList_some, Option.toList_none, List.cons_append, List.nil_append]
  have k49 : isK al' 49 13 := hA'.k (by decide) (by decide) rfl
  have hF2 : isF al' 1 = true := by unfold isF; rw [h2b]; rfl
  have hl2 : aln al' 1 = L := by unfold aln; rw [h2b]
  refine s328_397.mpr ?_
  refine s328_398.mpr ?_
  refine s328_399.mpr ?_
  refine s328_400.mpr ?_
  refine s328_401.mpr ?_
  rw [fAdd_id (by omega) (by omega)]
  refine (s328_402F hF2 (by omega) (by omega)).mpr ?_
  rw [h1b]
  refine (s328_403 (by omega) k49).mpr ?_
  refine ev_mono hE (fun r al2 hi2 hr2 z => ?_)
  obtain ⟨rfl, z⟩ := z
  simp only [kon, knt_some, knt_none, Option.toList_some, Option.toList_none, List.cons_append, List.nil_append]
  refine s328_406.mpr ?_
  rw [if_pos rfl]
  exact NX al2 hi2 hr2 z
theorem l_9 (H : LW g (21, L) b1 b2 k al hi hr) (hd : 80 ≤ d) (hk : k ≤ 64) (i0 : 0 ≤ i) (i1 : i + 6 ≤ L) (hL : L ≤ 384) (hg : ∀ i, g i ≤ 2147483647) (NX : ∀ al' hi' hr', LW g (21, L) b1 b2 (k + 1) al' hi' hr' → Wp d 328 596 [vR (some 1), vR (some 2), vR (some 49), vI i] [] al' hi' hr' Q) : Wp d 328 411 [vR (some 1), vR (some 2), vR (some 49), vI i] [] al hi hr Q := by
  obtain ⟨h1, h2, hF, hl, hA⟩ := H.tp
  have k2 : isK al 2 12 := hA.k (by decide) (by decide) rfl
  refine s328_411.mpr ?_
  refine s328_412.mpr ?_
  refine s328_413.mpr ?_
  refine s328_414.mpr ?_
  refine s328_415.mpr ?_
  rw [fAdd_id (by omega) (by omega)]
  refine (s328_416F hF (by omega) (by omega)).mpr ?_
  rw [h1]
  refine s328_417.mpr ?_
  refine s328_418.mpr ?_
  refine s328_419.mpr ?_
  refine s328_420.mpr ?_
  rw [fAdd_id (by omega) (by omega)]
  refine (s328_421F hF (by omega) (by omega)).mpr ?_
  rw [h1]
  refine (s328_422 (by omega) k2).mpr ?_
  refine c_process H (by omega) (fun v al' hi' hr' hA' h1b h2b hE => ?_)
  simp only [kon, knt_some, knt_none, Option.toList_some, Option.toList_none, List.cons_append, List.nil_append]
  have k49 : isK al' 49 13 := hA'.k (by decide) (by decide) rfl
  have hF2 : isF al' 1 = true := by unfold isF; rw [h2b]; rfl
  have hl2 : aln al' 1 = L := by unfold aln; rw [h2b]
  refine s328_425.mpr ?_
  refine s328_426.mpr ?_
  refine s328_427.mpr ?_
  refine s328_428.mpr ?_
  refine s328_429.mpr ?_
  rw [fAdd_id (by omega) (by omega)]
  refine (s328_430F hF2 (by omega) (by omega)).mpr ?_
  rw [h1b]
  refine s328_431.mpr ?_
  refine s328_432.mpr ?_
  refine s328_433.mpr ?_
  refine s328_434.mpr ?_
  rw [fAdd_id (by omega) (by omega)]
  refine (s328_435F hF2 (by omega) (by omega)).mpr ?_
  rw [h1b]
  refine (s328_436 (by omega) k49).mpr ?_
  refine ev_mono hE (fun r al2 hi2 hr2 z => ?_)
  obtain ⟨rfl, z⟩ := z
  simp only [kon, knt_some, knt_none, Option.toList_some, Option.toList_none, List.cons_append, List.nil_append]
  refine s328_439.mpr ?_
  rw [if_pos rfl]
  exact NX al2 hi2 hr2 z
theorem l_10 (H : LW g (21, L) b1 b2 k al hi hr) (hd : 80 ≤ d) (hk : k ≤ 64) (i0 : 0 ≤ i) (i1 : i + 6 ≤ L) (hL : L ≤ 384) (hg : ∀ i, g i ≤ 2147483647) (NX : ∀ al' hi' hr', LW g (21, L) b1 b2 (k + 1) al' hi' hr' → Wp d 328 596 [vR (some 1), vR (some 2), vR (some 49), vI i] [] al' hi' hr' Q) : Wp d 328 444 [vR (some 1), vR (some 2), vR (some 49), vI i] [] al hi hr Q := by
  obtain ⟨h1, h2, hF, hl, hA⟩ := H.tp
  have k2 : isK al 2 12 := hA.k (by decide) (by decide) rfl
  refine s328_444.mpr ?_
  refine s328_445.mpr ?_
  refine s328_446.mpr ?_
  refine s328_447.mpr ?_
  refine s328_448.mpr ?_
  rw [fAdd_id (by omega) (by omega)]
  refine (s328_449F hF (by omega) (by omega)).mpr ?_
  rw [h1]
  refine s328_450.mpr ?_
  refine s328_451.mpr ?_
  refine s328_452.mpr ?_
  refine s328_453.mpr ?_
  rw [fAdd_id (by omega) (by omega)]
  refine (s328_454F hF (by omega) (by omega)).mpr ?_
  rw [h1]
  refine s328_455.mpr ?_
  refine s328_456.mpr ?_
  refine s328_457.mpr ?_
  refine s328_458.mpr ?_
  rw [fAdd_id (by omega) (by omega)]
  refine (s328_459F hF (by omega) (by omega)).mpr ?_
  rw [h1]
  refine (s328_460 (by omega) k2).mpr ?_
  refine c_value H (by omega) (fun v al' hi' hr' hA' h1b h2b hE => ?_)
  simp only [kon, knt_some, knt_none, Option.toList_some, Option.toList_none, List.cons_append, List.nil_append]
  have k49 : isK al' 49 13 := hA'.k (by decide) (by decide) rfl
  have hF2 : isF al' 1 = true := by unfold isF; rw [h2b]; rfl
  have hl2 : aln al' 1 = L := by unfold aln; rw [h2b]
  refine s328_463.mpr ?_
  refine s328_464.mpr ?_
  refine s328_465.mpr ?_
  refine s328_466.mpr ?_
  refine s328_467.mpr ?_
  rw [fAdd_id (by omega) (by omega)]
  refine (s328_468F hF2 (by omega) (by omega)).mpr ?_
  rw [h1b]
  refine s328_469.mpr ?_
  refine s328_470.mpr ?_
  refine s328_471.mpr ?_
  refine s328_472.mpr ?_
  rw [fAdd_id (by omega) (by omega)]
  refine (s328_473F hF2 (by omega) (by omega)).mpr ?_
  rw [h1b]
  refine s328_474.mpr ?_
  refine s328_475.mpr ?_
  refine s328_476.mpr ?_
  refine s328_477.mpr ?_
  rw [fAdd_id (by omega) (by omega)]
  refine (s328_478F hF2 (by omega) (by omega)).mpr ?_
  rw [h1b]
  refine (s328_479 (by omega) k49).mpr ?_
  refine ev_mono hE (fun r al2 hi2 hr2 z => ?_)
  obtain ⟨rfl, z⟩ := z
  simp only [kon, knt_some, knt_none, Option.toList_some, Option.toList_none, List.cons_append, List.nil_append]
  refine s328_482.mpr ?_
  rw [if_pos rfl]
  exact NX al2 hi2 hr2 z
theorem l_11 (H : LW g (21, L) b1 b2 k al hi hr) (hd : 80 ≤ d) (hk : k ≤ 64) (i0 : 0 ≤ i) (i1 : i + 6 ≤ L) (hL : L ≤ 384) (hg : ∀ i, g i ≤ 2147483647) (NX : ∀ al' hi' hr', LW g (21, L) b1 b2 (k + 1) al' hi' hr' → Wp d 328 596 [vR (some 1), vR (some 2), vR (some 49), vI i] [] al' hi' hr' Q) : Wp d 328 487 [vR (some 1), vR (some 2), vR (some 49), vI i] [] al hi hr Q := by
  obtain ⟨h1, h2, hF, hl, hA⟩ := H.tp
  have k2 : isK al 2 12 := hA.k (by decide) (by decide) rfl
  refine s328_487.mpr ?_
  refine s328_488.mpr ?_
  refine s328_489.mpr ?_
  refine s328_490.mpr ?_
  refine s328_491.mpr ?_
  rw [fAdd_id (by omega) (by omega)]
  refine (s328_492F hF (by omega) (by omega)).mpr ?_
  rw [h1]
  refine s328_493.mpr ?_
  refine s328_494.mpr ?_
  refine s328_495.mpr ?_
  refine s328_496.mpr ?_
  rw [fAdd_id (by omega) (by omega)]
  refine (s328_497F hF (by omega) (by omega)).mpr ?_
  rw [h1]
  refine (s328_498 (by omega) k2).mpr ?_
  refine c_block H (by omega) (hg _) (fun v al' hi' hr' hA' h1b h2b hE => ?_)
  simp only [kon, knt_some, knt_none, Option.toList_some, Option.toList_none, List.cons_append, List.nil_append]
  have k49 : isK al' 49 13 := hA'.k (by decide) (by decide) rfl
  have hF2 : isF al' 1 = true := by unfold isF; rw [h2b]; rfl
  have hl2 : aln al' 1 = L := by unfold aln; rw [h2b]
  refine s328_501.mpr ?_
  refine s328_502.mpr ?_
  refine s328_503.mpr ?_
  refine s328_504.mpr ?_
  refine s328_505.mpr ?_
  rw [fAdd_id (by omega) (by omega)]
  refine (s328_506F hF2 (by omega) (by omega)).mpr ?_
  rw [h1b]
  refine s328_507.mpr ?_
  refine s328_508.mpr ?_
  refine s328_509.mpr ?_
  refine s328_510.mpr ?_
  rw [fAdd_id (by omega) (by omega)]
  refine (s328_511F hF2 (by omega) (by omega)).mpr ?_
  rw [h1b]
  refine (s328_512 (by omega) k49).mpr ?_
  refine ev_mono hE (fun r al2 hi2 hr2 z => ?_)
  obtain ⟨rfl, z⟩ := z
  simp only [kon, knt_some, knt_none, Option.toList_some, Option.toList_none, List.cons_append, List.nil_append]
  refine s328_515.mpr ?_
  rw [if_pos rfl]
  exact NX al2 hi2 hr2 z
theorem l_12 (H : LW g (21, L) b1 b2 k al hi hr) (hd : 80 ≤ d) (hk : k ≤ 64) (i0 : 0 ≤ i) (i1 : i + 6 ≤ L) (hL : L ≤ 384) (hg : ∀ i, g i ≤ 2147483647) (NX : ∀ al' hi' hr', LW g (21, L) b1 b2 (k + 1) al' hi' hr' → Wp d 328 596 [vR (some 1), vR (some 2), vR (some 49), vI i] [] al' hi' hr' Q) : Wp d 328 520 [vR (some 1), vR (some 2), vR (some 49), vI i] [] al hi hr Q := by
  obtain ⟨h1, h2, hF, hl, hA⟩ := H.tp
  have k2 : isK al 2 12 := hA.k (by decide) (by decide) rfl
  refine s328_520.mpr ?_
  refine s328_521.mpr ?_
  refine s328_522.mpr ?_
  refine s328_523.mpr ?_
  refine s328_524.mpr ?_
  rw [fAdd_id (by omega) (by omega)]
  refine (s328_525F hF (by omega) (by omega)).mpr ?_
  rw [h1]
  refine s328_526.mpr ?_
  refine s328_527.mpr ?_
  refine s328_528.mpr ?_
  refine s328_529.mpr ?_
  rw [fAdd_id (by omega) (by omega)]
  refine (s328_530F hF (by omega) (by omega)).mpr ?_
  rw [h1]
  refine s328_531.mpr ?_
  refine s328_532.mpr ?_
  refine s328_533.mpr ?_
  refine s328_534.mpr ?_
  rw [fAdd_id (by omega) (by omega)]
  refine (s328_535F hF (by omega) (by omega)).mpr ?_
  rw [h1]
  refine (s328_536 (by omega) k2).mpr ?_
  refine c_channel H (by omega) (fun v al' hi' hr' hA' h1b h2b hE => ?_)
  simp only [kon, knt_some, knt_none, Option.toList_some, Option.toList_none, List.cons_append, List.nil_append]
  have k49 : isK al' 49 13 := hA'.k (by decide) (by decide) rfl
  have hF2 : isF al' 1 = true := by unfold isF; rw [h2b]; rfl
  have hl2 : aln al' 1 = L := by unfold aln; rw [h2b]
  refine s328_539.mpr ?_
  refine s328_540.mpr ?_
  refine s328_541.mpr ?_
  refine s328_542.mpr ?_
  refine s328_543.mpr ?_
  rw [fAdd_id (by omega) (by omega)]
  refine (s328_544F hF2 (by omega) (by omega)).mpr ?_
  rw [h1b]
  refine s328_545.mpr ?_
  refine s328_546.mpr ?_
  refine s328_547.mpr ?_
  refine s328_548.mpr ?_
  rw [fAdd_id (by omega) (by omega)]
  refine (s328_549F hF2 (by omega) (by omega)).mpr ?_
  rw [h1b]
  refine s328_550.mpr ?_
  refine s328_551.mpr ?_
  refine s328_552.mpr ?_
  refine s328_553.mpr ?_
  rw [fAdd_id (by omega) (by omega)]
  refine (s328_554F hF2 (by omega) (by omega)).mpr ?_
  rw [h1b]
  refine (s328_555 (by omega) k49).mpr ?_
  refine ev_mono hE (fun r al2 hi2 hr2 z => ?_)
  obtain ⟨rfl, z⟩ := z
  simp only [kon, knt_some, knt_none, Option.toList_some, Option.toList_none, List.cons_append, List.nil_append]
  refine s328_558.mpr ?_
  rw [if_pos rfl]
  exact NX al2 hi2 hr2 z
theorem l_13 (H : LW g (21, L) b1 b2 k al hi hr) (hd : 80 ≤ d) (hk : k ≤ 64) (i0 : 0 ≤ i) (i1 : i + 6 ≤ L) (hL : L ≤ 384) (hg : ∀ i, g i ≤ 2147483647) (NX : ∀ al' hi' hr', LW g (21, L) b1 b2 (k + 1) al' hi' hr' → Wp d 328 596 [vR (some 1), vR (some 2), vR (some 49), vI i] [] al' hi' hr' Q) : Wp d 328 563 [vR (some 1), vR (some 2), vR (some 49), vI i] [] al hi hr Q := by
  obtain ⟨h1, h2, hF, hl, hA⟩ := H.tp
  have k2 : isK al 2 12 := hA.k (by decide) (by decide) rfl
  refine s328_563.mpr ?_
  refine s328_564.mpr ?_
  refine s328_565.mpr ?_
  refine s328_566.mpr ?_
  refine s328_567.mpr ?_
  rw [fAdd_id (by omega) (by omega)]
  refine (s328_568F hF (by omega) (by omega)).mpr ?_
  rw [h1]
  refine s328_569.mpr ?_
  refine s328_570.mpr ?_
  refine s328_571.mpr ?_
  refine s328_572.mpr ?_
  rw [fAdd_id (by omega) (by omega)]
  refine (s328_573F hF (by omega) (by omega)).mpr ?_
  rw [h1]
  refine (s328_574 (by omega) k2).mpr ?_
  refine c_output H (by omega) (fun v al' hi' hr' hA' h1b h2b hE => ?_)
  simp only [kon, knt_some, knt_none, Option.toList_some, Option.toList_none, List.cons_append, List.nil_append]
  have k49 : isK al' 49 13 := hA'.k (by decide) (by decide) rfl
  have hF2 : isF al' 1 = true := by unfold isF; rw [h2b]; rfl
  have hl2 : aln al' 1 = L := by unfold aln; rw [h2b]
  refine s328_577.mpr ?_
  refine s328_578.mpr ?_
  refine s328_579.mpr ?_
  refine s328_580.mpr ?_
  refine s328_581.mpr ?_
  rw [fAdd_id (by omega) (by omega)]
  refine (s328_582F hF2 (by omega) (by omega)).mpr ?_
  rw [h1b]
  refine s328_583.mpr ?_
  refine s328_584.mpr ?_
  refine s328_585.mpr ?_
  refine s328_586.mpr ?_
  rw [fAdd_id (by omega) (by omega)]
  refine (s328_587F hF2 (by omega) (by omega)).mpr ?_
  rw [h1b]
  refine (s328_588 (by omega) k49).mpr ?_
  refine ev_mono hE (fun r al2 hi2 hr2 z => ?_)
  obtain ⟨rfl, z⟩ := z
  simp only [kon, knt_some, knt_none, Option.toList_some, Option.toList_none, List.cons_append, List.nil_append]
  refine s328_591.mpr ?_
  rw [if_pos rfl]
  exact NX al2 hi2 hr2 z
end LJ0
