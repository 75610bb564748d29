/-! every step of every method is right -/
theorem okg0 : ∀ k pc, Mnp (cg0 k pc) ∧ (20 * 0 ≤ k → k < 20 * 0 + 20 → Okp (yy k).cls (bb k) (mxl k) (rr k) (yy k).name (lgk k) pc (cg0 k pc)) := by
  intro k pc
  unfold cg0
  split
  · exact ⟨(oc0 pc).1, fun _ _ => (oc0 pc).2⟩
  · exact ⟨(oc1 pc).1, fun _ _ => (oc1 pc).2⟩
  · exact ⟨(oc2 pc).1, fun _ _ => (oc2 pc).2⟩
  · exact ⟨(oc3 pc).1, fun _ _ => (oc3 pc).2⟩
  · exact ⟨(oc4 pc).1, fun _ _ => (oc4 pc).2⟩
  · exact ⟨(oc5 pc).1, fun _ _ => (oc5 pc).2⟩
  · exact ⟨(oc6 pc).1, fun _ _ => (oc6 pc).2⟩
  · exact ⟨(oc7 pc).1, fun _ _ => (oc7 pc).2⟩
  · exact ⟨(oc8 pc).1, fun _ _ => (oc8 pc).2⟩
  · exact ⟨(oc9 pc).1, fun _ _ => (oc9 pc).2⟩
  · exact ⟨(oc10 pc).1, fun _ _ => (oc10 pc).2⟩
  · exact ⟨(oc11 pc).1, fun _ _ => (oc11 pc).2⟩
  · exact ⟨(oc12 pc).1, fun _ _ => (oc12 pc).2⟩
  · exact ⟨(oc13 pc).1, fun _ _ => (oc13 pc).2⟩
  · exact ⟨(oc14 pc).1, fun _ _ => (oc14 pc).2⟩
  · exact ⟨(oc15 pc).1, fun _ _ => (oc15 pc).2⟩
  · exact ⟨(oc16 pc).1, fun _ _ => (oc16 pc).2⟩
  · exact ⟨(oc17 pc).1, fun _ _ => (oc17 pc).2⟩
  · exact ⟨(oc18 pc).1, fun _ _ => (oc18 pc).2⟩
  · exact ⟨(oc19 pc).1, fun _ _ => (oc19 pc).2⟩
  · exact ⟨mn_sX, fun _ _ => ok_X⟩
theorem okg1 : ∀ k pc, Mnp (cg1 k pc) ∧ (20 * 1 ≤ k → k < 20 * 1 + 20 → Okp (yy k).cls (bb k) (mxl k) (rr k) (yy k).name (lgk k) pc (cg1 k pc)) := by
  intro k pc
  unfold cg1
  split
  · exact ⟨(oc20 pc).1, fun _ _ => (oc20 pc).2⟩
  · exact ⟨(oc21 pc).1, fun _ _ => (oc21 pc).2⟩
  · exact ⟨(oc22 pc).1, fun _ _ => (oc22 pc).2⟩
  · exact ⟨(oc23 pc).1, fun _ _ => (oc23 pc).2⟩
  · exact ⟨(oc24 pc).1, fun _ _ => (oc24 pc).2⟩
  · exact ⟨(oc25 pc).1, fun _ _ => (oc25 pc).2⟩
  · exact ⟨(oc26 pc).1, fun _ _ => (oc26 pc).2⟩
  · exact ⟨(oc27 pc).1, fun _ _ => (oc27 pc).2⟩
  · exact ⟨(oc28 pc).1, fun _ _ => (oc28 pc).2⟩
  · exact ⟨(oc29 pc).1, fun _ _ => (oc29 pc).2⟩
  · exact ⟨(oc30 pc).1, fun _ _ => (oc30 pc).2⟩
  · exact ⟨(oc31 pc).1, fun _ _ => (oc31 pc).2⟩
  · exact ⟨(oc32 pc).1, fun _ _ => (oc32 pc).2⟩
  · exact ⟨(oc33 pc).1, fun _ _ => (oc33 pc).2⟩
  · exact ⟨(oc34 pc).1, fun _ _ => (oc34 pc).2⟩
  · exact ⟨(oc35 pc).1, fun _ _ => (oc35 pc).2⟩
  · exact ⟨(oc36 pc).1, fun _ _ => (oc36 pc).2⟩
  · exact ⟨(oc37 pc).1, fun _ _ => (oc37 pc).2⟩
  · exact ⟨(oc38 pc).1, fun _ _ => (oc38 pc).2⟩
  · exact ⟨(oc39 pc).1, fun _ _ => (oc39 pc).2⟩
  · exact ⟨mn_sX, fun _ _ => ok_X⟩
theorem okg2 : ∀ k pc, Mnp (cg2 k pc) ∧ (20 * 2 ≤ k → k < 20 * 2 + 20 → Okp (yy k).cls (bb k) (mxl k) (rr k) (yy k).name (lgk k) pc (cg2 k pc)) := by
  intro k pc
  unfold cg2
  split
  · exact ⟨(oc40 pc).1, fun _ _ => (oc40 pc).2⟩
  · exact ⟨(oc41 pc).1, fun _ _ => (oc41 pc).2⟩
  · exact ⟨(oc42 pc).1, fun _ _ => (oc42 pc).2⟩
  · exact ⟨(oc43 pc).1, fun _ _ => (oc43 pc).2⟩
  · exact ⟨(oc44 pc).1, fun _ _ => (oc44 pc).2⟩
  · exact ⟨(oc45 pc).1, fun _ _ => (oc45 pc).2⟩
  · exact ⟨(oc46 pc).1, fun _ _ => (oc46 pc).2⟩
  · exact ⟨(oc47 pc).1, fun _ _ => (oc47 pc).2⟩
  · exact ⟨(oc48 pc).1, fun _ _ => (oc48 pc).2⟩
  · exact ⟨(oc49 pc).1, fun _ _ => (oc49 pc).2⟩
  · exact ⟨(oc50 pc).1, fun _ _ => (oc50 pc).2⟩
  · exact ⟨(oc51 pc).1, fun _ _ => (oc51 pc).2⟩
  · exact ⟨(oc52 pc).1, fun _ _ => (oc52 pc).2⟩
  · exact ⟨(oc53 pc).1, fun _ _ => (oc53 pc).2⟩
  · exact ⟨(oc54 pc).1, fun _ _ => (oc54 pc).2⟩
  · exact ⟨(oc55 pc).1, fun _ _ => (oc55 pc).2⟩
  · exact ⟨(oc56 pc).1, fun _ _ => (oc56 pc).2⟩
  · exact ⟨(oc57 pc).1, fun _ _ => (oc57 pc).2⟩
  · exact ⟨(oc58 pc).1, fun _ _ => (oc58 pc).2⟩
  · exact ⟨(oc59 pc).1, fun _ _ => (oc59 pc).2⟩
  · exact ⟨mn_sX, fun _ _ => ok_X⟩
theorem okg3 : ∀ k pc, Mnp (cg3 k pc) ∧ (20 * 3 ≤ k → k < 20 * 3 + 20 → Okp (yy k).cls (bb k) (mxl k) (rr k) (yy k).name (lgk k) pc (cg3 k pc)) := by
  intro k pc
  unfold cg3
  split
  · exact ⟨(oc60 pc).1, fun _ _ => (oc60 pc).2⟩
  · exact ⟨(oc61 pc).1, fun _ _ => (oc61 pc).2⟩
  · exact ⟨(oc62 pc).1, fun _ _ => (oc62 pc).2⟩
  · exact ⟨(oc63 pc).1, fun _ _ => (oc63 pc).2⟩
  · exact ⟨(oc64 pc).1, fun _ _ => (oc64 pc).2⟩
  · exact ⟨(oc65 pc).1, fun _ _ => (oc65 pc).2⟩
  · exact ⟨(oc66 pc).1, fun _ _ => (oc66 pc).2⟩
  · exact ⟨(oc67 pc).1, fun _ _ => (oc67 pc).2⟩
  · exact ⟨(oc68 pc).1, fun _ _ => (oc68 pc).2⟩
  · exact ⟨(oc69 pc).1, fun _ _ => (oc69 pc).2⟩
  · exact ⟨(oc70 pc).1, fun _ _ => (oc70 pc).2⟩
  · exact ⟨(oc71 pc).1, fun _ _ => (oc71 pc).2⟩
  · exact ⟨(oc72 pc).1, fun _ _ => (oc72 pc).2⟩
  · exact ⟨(oc73 pc).1, fun _ _ => (oc73 pc).2⟩
  · exact ⟨(oc74 pc).1, fun _ _ => (oc74 pc).2⟩
  · exact ⟨(oc75 pc).1, fun _ _ => (oc75 pc).2⟩
  · exact ⟨(oc76 pc).1, fun _ _ => (oc76 pc).2⟩
  · exact ⟨(oc77 pc).1, fun _ _ => (oc77 pc).2⟩
  · exact ⟨(oc78 pc).1, fun _ _ => (oc78 pc).2⟩
  · exact ⟨(oc79 pc).1, fun _ _ => (oc79 pc).2⟩
  · exact ⟨mn_sX, fun _ _ => ok_X⟩
theorem okg4 : ∀ k pc, Mnp (cg4 k pc) ∧ (20 * 4 ≤ k → k < 20 * 4 + 20 → Okp (yy k).cls (bb k) (mxl k) (rr k) (yy k).name (lgk k) pc (cg4 k pc)) := by
  intro k pc
  unfold cg4
  split
  · exact ⟨(oc80 pc).1, fun _ _ => (oc80 pc).2⟩
  · exact ⟨(oc81 pc).1, fun _ _ => (oc81 pc).2⟩
  · exact ⟨(oc82 pc).1, fun _ _ => (oc82 pc).2⟩
  · exact ⟨(oc83 pc).1, fun _ _ => (oc83 pc).2⟩
  · exact ⟨(oc84 pc).1, fun _ _ => (oc84 pc).2⟩
  · exact ⟨(oc85 pc).1, fun _ _ => (oc85 pc).2⟩
  · exact ⟨(oc86 pc).1, fun _ _ => (oc86 pc).2⟩
  · exact ⟨(oc87 pc).1, fun _ _ => (oc87 pc).2⟩
  · exact ⟨(oc88 pc).1, fun _ _ => (oc88 pc).2⟩
  · exact ⟨(oc89 pc).1, fun _ _ => (oc89 pc).2⟩
  · exact ⟨(oc90 pc).1, fun _ _ => (oc90 pc).2⟩
  · exact ⟨(oc91 pc).1, fun _ _ => (oc91 pc).2⟩
  · exact ⟨(oc92 pc).1, fun _ _ => (oc92 pc).2⟩
  · exact ⟨(oc93 pc).1, fun _ _ => (oc93 pc).2⟩
  · exact ⟨(oc94 pc).1, fun _ _ => (oc94 pc).2⟩
  · exact ⟨(oc95 pc).1, fun _ _ => (oc95 pc).2⟩
  · exact ⟨(oc96 pc).1, fun _ _ => (oc96 pc).2⟩
  · exact ⟨(oc97 pc).1, fun _ _ => (oc97 pc).2⟩
  · exact ⟨(oc98 pc).1, fun _ _ => (oc98 pc).2⟩
  · exact ⟨(oc99 pc).1, fun _ _ => (oc99 pc).2⟩
  · exact ⟨mn_sX, fun _ _ => ok_X⟩
theorem okg5 : ∀ k pc, Mnp (cg5 k pc) ∧ (20 * 5 ≤ k → k < 20 * 5 + 20 → Okp (yy k).cls (bb k) (mxl k) (rr k) (yy k).name (lgk k) pc (cg5 k pc)) := by
  intro k pc
  unfold cg5
  split
  · exact ⟨(oc100 pc).1, fun _ _ => (oc100 pc).2⟩
  · exact ⟨(oc101 pc).1, fun _ _ => (oc101 pc).2⟩
  · exact ⟨(oc102 pc).1, fun _ _ => (oc102 pc).2⟩
  · exact ⟨(oc103 pc).1, fun _ _ => (oc103 pc).2⟩
  · exact ⟨(oc104 pc).1, fun _ _ => (oc104 pc).2⟩
  · exact ⟨(oc105 pc).1, fun _ _ => (oc105 pc).2⟩
  · exact ⟨(oc106 pc).1, fun _ _ => (oc106 pc).2⟩
  · exact ⟨(oc107 pc).1, fun _ _ => (oc107 pc).2⟩
  · exact ⟨(oc108 pc).1, fun _ _ => (oc108 pc).2⟩
  · exact ⟨(oc109 pc).1, fun _ _ => (oc109 pc).2⟩
  · exact ⟨(oc110 pc).1, fun _ _ => (oc110 pc).2⟩
  · exact ⟨(oc111 pc).1, fun _ _ => (oc111 pc).2⟩
  · exact ⟨(oc112 pc).1, fun _ _ => (oc112 pc).2⟩
  · exact ⟨(oc113 pc).1, fun _ _ => (oc113 pc).2⟩
  · exact ⟨(oc114 pc).1, fun _ _ => (oc114 pc).2⟩
  · exact ⟨(oc115 pc).1, fun _ _ => (oc115 pc).2⟩
  · exact ⟨(oc116 pc).1, fun _ _ => (oc116 pc).2⟩
  · exact ⟨(oc117 pc).1, fun _ _ => (oc117 pc).2⟩
  · exact ⟨(oc118 pc).1, fun _ _ => (oc118 pc).2⟩
  · exact ⟨(oc119 pc).1, fun _ _ => (oc119 pc).2⟩
  · exact ⟨mn_sX, fun _ _ => ok_X⟩
theorem okg6 : ∀ k pc, Mnp (cg6 k pc) ∧ (20 * 6 ≤ k → k < 20 * 6 + 20 → Okp (yy k).cls (bb k) (mxl k) (rr k) (yy k).name (lgk k) pc (cg6 k pc)) := by
  intro k pc
  unfold cg6
  split
  · exact ⟨(oc120 pc).1, fun _ _ => (oc120 pc).2⟩
  · exact ⟨(oc121 pc).1, fun _ _ => (oc121 pc).2⟩
  · exact ⟨(oc122 pc).1, fun _ _ => (oc122 pc).2⟩
  · exact ⟨(oc123 pc).1, fun _ _ => (oc123 pc).2⟩
  · exact ⟨(oc124 pc).1, fun _ _ => (oc124 pc).2⟩
  · exact ⟨(oc125 pc).1, fun _ _ => (oc125 pc).2⟩
  · exact ⟨(oc126 pc).1, fun _ _ => (oc126 pc).2⟩
  · exact ⟨(oc127 pc).1, fun _ _ => (oc127 pc).2⟩
  · exact ⟨(oc128 pc).1, fun _ _ => (oc128 pc).2⟩
  · exact ⟨(oc129 pc).1, fun _ _ => (oc129 pc).2⟩
  · exact ⟨(oc130 pc).1, fun _ _ => (oc130 pc).2⟩
  · exact ⟨(oc131 pc).1, fun _ _ => (oc131 pc).2⟩
  · exact ⟨(oc132 pc).1, fun _ _ => (oc132 pc).2⟩
  · exact ⟨(oc133 pc).1, fun _ _ => (oc133 pc).2⟩
  · exact ⟨(oc134 pc).1, fun _ _ => (oc134 pc).2⟩
  · exact ⟨(oc135 pc).1, fun _ _ => (oc135 pc).2⟩
  · exact ⟨(oc136 pc).1, fun _ _ => (oc136 pc).2⟩
  · exact ⟨(oc137 pc).1, fun _ _ => (oc137 pc).2⟩
  · exact ⟨(oc138 pc).1, fun _ _ => (oc138 pc).2⟩
  · exact ⟨(oc139 pc).1, fun _ _ => (oc139 pc).2⟩
  · exact ⟨mn_sX, fun _ _ => ok_X⟩
theorem okg7 : ∀ k pc, Mnp (cg7 k pc) ∧ (20 * 7 ≤ k → k < 20 * 7 + 20 → Okp (yy k).cls (bb k) (mxl k) (rr k) (yy k).name (lgk k) pc (cg7 k pc)) := by
  intro k pc
  unfold cg7
  split
  · exact ⟨(oc140 pc).1, fun _ _ => (oc140 pc).2⟩
  · exact ⟨(oc141 pc).1, fun _ _ => (oc141 pc).2⟩
  · exact ⟨(oc142 pc).1, fun _ _ => (oc142 pc).2⟩
  · exact ⟨(oc143 pc).1, fun _ _ => (oc143 pc).2⟩
  · exact ⟨(oc144 pc).1, fun _ _ => (oc144 pc).2⟩
  · exact ⟨(oc145 pc).1, fun _ _ => (oc145 pc).2⟩
  · exact ⟨(oc146 pc).1, fun _ _ => (oc146 pc).2⟩
  · exact ⟨(oc147 pc).1, fun _ _ => (oc147 pc).2⟩
  · exact ⟨(oc148 pc).1, fun _ _ => (oc148 pc).2⟩
  · exact ⟨(oc149 pc).1, fun _ _ => (oc149 pc).2⟩
  · exact ⟨(oc150 pc).1, fun _ _ => (oc150 pc).2⟩
  · exact ⟨(oc151 pc).1, fun _ _ => (oc151 pc).2⟩
  · exact ⟨(oc152 pc).1, fun _ _ => (oc152 pc).2⟩
  · exact ⟨(oc153 pc).1, fun _ _ => (oc153 pc).2⟩
  · exact ⟨(oc154 pc).1, fun _ _ => (oc154 pc).2⟩
  · exact ⟨(oc155 pc).1, fun _ _ => (oc155 pc).2⟩
  · exact ⟨(oc156 pc).1, fun _ _ => (oc156 pc).2⟩
  · exact ⟨(oc157 pc).1, fun _ _ => (oc157 pc).2⟩
  · exact ⟨(oc158 pc).1, fun _ _ => (oc158 pc).2⟩
  · exact ⟨(oc159 pc).1, fun _ _ => (oc159 pc).2⟩
  · exact ⟨mn_sX, fun _ _ => ok_X⟩
theorem okg8 : ∀ k pc, Mnp (cg8 k pc) ∧ (20 * 8 ≤ k → k < 20 * 8 + 20 → Okp (yy k).cls (bb k) (mxl k) (rr k) (yy k).name (lgk k) pc (cg8 k pc)) := by
  intro k pc
  unfold cg8
  split
  · exact ⟨(oc160 pc).1, fun _ _ => (oc160 pc).2⟩
  · exact ⟨(oc161 pc).1, fun _ _ => (oc161 pc).2⟩
  · exact ⟨(oc162 pc).1, fun _ _ => (oc162 pc).2⟩
  · exact ⟨(oc163 pc).1, fun _ _ => (oc163 pc).2⟩
  · exact ⟨(oc164 pc).1, fun _ _ => (oc164 pc).2⟩
  · exact ⟨(oc165 pc).1, fun _ _ => (oc165 pc).2⟩
  · exact ⟨(oc166 pc).1, fun _ _ => (oc166 pc).2⟩
  · exact ⟨(oc167 pc).1, fun _ _ => (oc167 pc).2⟩
  · exact ⟨(oc168 pc).1, fun _ _ => (oc168 pc).2⟩
  · exact ⟨(oc169 pc).1, fun _ _ => (oc169 pc).2⟩
  · exact ⟨(oc170 pc).1, fun _ _ => (oc170 pc).2⟩
  · exact ⟨(oc171 pc).1, fun _ _ => (oc171 pc).2⟩
  · exact ⟨(oc172 pc).1, fun _ _ => (oc172 pc).2⟩
  · exact ⟨(oc173 pc).1, fun _ _ => (oc173 pc).2⟩
  · exact ⟨(oc174 pc).1, fun _ _ => (oc174 pc).2⟩
  · exact ⟨(oc175 pc).1, fun _ _ => (oc175 pc).2⟩
  · exact ⟨(oc176 pc).1, fun _ _ => (oc176 pc).2⟩
  · exact ⟨(oc177 pc).1, fun _ _ => (oc177 pc).2⟩
  · exact ⟨(oc178 pc).1, fun _ _ => (oc178 pc).2⟩
  · exact ⟨(oc179 pc).1, fun _ _ => (oc179 pc).2⟩
  · exact ⟨mn_sX, fun _ _ => ok_X⟩
theorem okg9 : ∀ k pc, Mnp (cg9 k pc) ∧ (20 * 9 ≤ k → k < 20 * 9 + 20 → Okp (yy k).cls (bb k) (mxl k) (rr k) (yy k).name (lgk k) pc (cg9 k pc)) := by
  intro k pc
  unfold cg9
  split
  · exact ⟨(oc180 pc).1, fun _ _ => (oc180 pc).2⟩
  · exact ⟨(oc181 pc).1, fun _ _ => (oc181 pc).2⟩
  · exact ⟨(oc182 pc).1, fun _ _ => (oc182 pc).2⟩
  · exact ⟨(oc183 pc).1, fun _ _ => (oc183 pc).2⟩
  · exact ⟨(oc184 pc).1, fun _ _ => (oc184 pc).2⟩
  · exact ⟨(oc185 pc).1, fun _ _ => (oc185 pc).2⟩
  · exact ⟨(oc186 pc).1, fun _ _ => (oc186 pc).2⟩
  · exact ⟨(oc187 pc).1, fun _ _ => (oc187 pc).2⟩
  · exact ⟨(oc188 pc).1, fun _ _ => (oc188 pc).2⟩
  · exact ⟨(oc189 pc).1, fun _ _ => (oc189 pc).2⟩
  · exact ⟨(oc190 pc).1, fun _ _ => (oc190 pc).2⟩
  · exact ⟨(oc191 pc).1, fun _ _ => (oc191 pc).2⟩
  · exact ⟨(oc192 pc).1, fun _ _ => (oc192 pc).2⟩
  · exact ⟨(oc193 pc).1, fun _ _ => (oc193 pc).2⟩
  · exact ⟨(oc194 pc).1, fun _ _ => (oc194 pc).2⟩
  · exact ⟨(oc195 pc).1, fun _ _ => (oc195 pc).2⟩
  · exact ⟨(oc196 pc).1, fun _ _ => (oc196 pc).2⟩
  · exact ⟨(oc197 pc).1, fun _ _ => (oc197 pc).2⟩
  · exact ⟨(oc198 pc).1, fun _ _ => (oc198 pc).2⟩
  · exact ⟨(oc199 pc).1, fun _ _ => (oc199 pc).2⟩
  · exact ⟨mn_sX, fun _ _ => ok_X⟩
theorem okg10 : ∀ k pc, Mnp (cg10 k pc) ∧ (20 * 10 ≤ k → k < 20 * 10 + 20 → Okp (yy k).cls (bb k) (mxl k) (rr k) (yy k).name (lgk k) pc (cg10 k pc)) := by
  intro k pc
  unfold cg10
  split
  · exact ⟨(oc200 pc).1, fun _ _ => (oc200 pc).2⟩
  · exact ⟨(oc201 pc).1, fun _ _ => (oc201 pc).2⟩
  · exact ⟨(oc202 pc).1, fun _ _ => (oc202 pc).2⟩
  · exact ⟨(oc203 pc).1, fun _ _ => (oc203 pc).2⟩
  · exact ⟨(oc204 pc).1, fun _ _ => (oc204 pc).2⟩
  · exact ⟨(oc205 pc).1, fun _ _ => (oc205 pc).2⟩
  · exact ⟨(oc206 pc).1, fun _ _ => (oc206 pc).2⟩
  · exact ⟨(oc207 pc).1, fun _ _ => (oc207 pc).2⟩
  · exact ⟨(oc208 pc).1, fun _ _ => (oc208 pc).2⟩
  · exact ⟨(oc209 pc).1, fun _ _ => (oc209 pc).2⟩
  · exact ⟨(oc210 pc).1, fun _ _ => (oc210 pc).2⟩
  · exact ⟨(oc211 pc).1, fun _ _ => (oc211 pc).2⟩
  · exact ⟨(oc212 pc).1, fun _ _ => (oc212 pc).2⟩
  · exact ⟨(oc213 pc).1, fun _ _ => (oc213 pc).2⟩
  · exact ⟨(oc214 pc).1, fun _ _ => (oc214 pc).2⟩
  · exact ⟨(oc215 pc).1, fun _ _ => (oc215 pc).2⟩
  · exact ⟨(oc216 pc).1, fun _ _ => (oc216 pc).2⟩
  · exact ⟨(oc217 pc).1, fun _ _ => (oc217 pc).2⟩
  · exact ⟨(oc218 pc).1, fun _ _ => (oc218 pc).2⟩
  · exact ⟨(oc219 pc).1, fun _ _ => (oc219 pc).2⟩
  · exact ⟨mn_sX, fun _ _ => ok_X⟩
theorem okg11 : ∀ k pc, Mnp (cg11 k pc) ∧ (20 * 11 ≤ k → k < 20 * 11 + 20 → Okp (yy k).cls (bb k) (mxl k) (rr k) (yy k).name (lgk k) pc (cg11 k pc)) := by
  intro k pc
  unfold cg11
  split
  · exact ⟨(oc220 pc).1, fun _ _ => (oc220 pc).2⟩
  · exact ⟨(oc221 pc).1, fun _ _ => (oc221 pc).2⟩
  · exact ⟨(oc222 pc).1, fun _ _ => (oc222 pc).2⟩
  · exact ⟨(oc223 pc).1, fun _ _ => (oc223 pc).2⟩
  · exact ⟨(oc224 pc).1, fun _ _ => (oc224 pc).2⟩
  · exact ⟨(oc225 pc).1, fun _ _ => (oc225 pc).2⟩
  · exact ⟨(oc226 pc).1, fun _ _ => (oc226 pc).2⟩
  · exact ⟨(oc227 pc).1, fun _ _ => (oc227 pc).2⟩
  · exact ⟨(oc228 pc).1, fun _ _ => (oc228 pc).2⟩
  · exact ⟨(oc229 pc).1, fun _ _ => (oc229 pc).2⟩
  · exact ⟨(oc230 pc).1, fun _ _ => (oc230 pc).2⟩
  · exact ⟨(oc231 pc).1, fun _ _ => (oc231 pc).2⟩
  · exact ⟨(oc232 pc).1, fun _ _ => (oc232 pc).2⟩
  · exact ⟨(oc233 pc).1, fun _ _ => (oc233 pc).2⟩
  · exact ⟨(oc234 pc).1, fun _ _ => (oc234 pc).2⟩
  · exact ⟨(oc235 pc).1, fun _ _ => (oc235 pc).2⟩
  · exact ⟨(oc236 pc).1, fun _ _ => (oc236 pc).2⟩
  · exact ⟨(oc237 pc).1, fun _ _ => (oc237 pc).2⟩
  · exact ⟨(oc238 pc).1, fun _ _ => (oc238 pc).2⟩
  · exact ⟨(oc239 pc).1, fun _ _ => (oc239 pc).2⟩
  · exact ⟨mn_sX, fun _ _ => ok_X⟩
theorem okg12 : ∀ k pc, Mnp (cg12 k pc) ∧ (20 * 12 ≤ k → k < 20 * 12 + 20 → Okp (yy k).cls (bb k) (mxl k) (rr k) (yy k).name (lgk k) pc (cg12 k pc)) := by
  intro k pc
  unfold cg12
  split
  · exact ⟨(oc240 pc).1, fun _ _ => (oc240 pc).2⟩
  · exact ⟨(oc241 pc).1, fun _ _ => (oc241 pc).2⟩
  · exact ⟨(oc242 pc).1, fun _ _ => (oc242 pc).2⟩
  · exact ⟨(oc243 pc).1, fun _ _ => (oc243 pc).2⟩
  · exact ⟨(oc244 pc).1, fun _ _ => (oc244 pc).2⟩
  · exact ⟨(oc245 pc).1, fun _ _ => (oc245 pc).2⟩
  · exact ⟨(oc246 pc).1, fun _ _ => (oc246 pc).2⟩
  · exact ⟨(oc247 pc).1, fun _ _ => (oc247 pc).2⟩
  · exact ⟨(oc248 pc).1, fun _ _ => (oc248 pc).2⟩
  · exact ⟨(oc249 pc).1, fun _ _ => (oc249 pc).2⟩
  · exact ⟨(oc250 pc).1, fun _ _ => (oc250 pc).2⟩
  · exact ⟨(oc251 pc).1, fun _ _ => (oc251 pc).2⟩
  · exact ⟨(oc252 pc).1, fun _ _ => (oc252 pc).2⟩
  · exact ⟨(oc253 pc).1, fun _ _ => (oc253 pc).2⟩
  · exact ⟨(oc254 pc).1, fun _ _ => (oc254 pc).2⟩
  · exact ⟨(oc255 pc).1, fun _ _ => (oc255 pc).2⟩
  · exact ⟨(oc256 pc).1, fun _ _ => (oc256 pc).2⟩
  · exact ⟨(oc257 pc).1, fun _ _ => (oc257 pc).2⟩
  · exact ⟨(oc258 pc).1, fun _ _ => (oc258 pc).2⟩
  · exact ⟨(oc259 pc).1, fun _ _ => (oc259 pc).2⟩
  · exact ⟨mn_sX, fun _ _ => ok_X⟩
theorem okg13 : ∀ k pc, Mnp (cg13 k pc) ∧ (20 * 13 ≤ k → k < 20 * 13 + 20 → Okp (yy k).cls (bb k) (mxl k) (rr k) (yy k).name (lgk k) pc (cg13 k pc)) := by
  intro k pc
  unfold cg13
  split
  · exact ⟨(oc260 pc).1, fun _ _ => (oc260 pc).2⟩
  · exact ⟨(oc261 pc).1, fun _ _ => (oc261 pc).2⟩
  · exact ⟨(oc262 pc).1, fun _ _ => (oc262 pc).2⟩
  · exact ⟨(oc263 pc).1, fun _ _ => (oc263 pc).2⟩
  · exact ⟨(oc264 pc).1, fun _ _ => (oc264 pc).2⟩
  · exact ⟨(oc265 pc).1, fun _ _ => (oc265 pc).2⟩
  · exact ⟨(oc266 pc).1, fun _ _ => (oc266 pc).2⟩
  · exact ⟨(oc267 pc).1, fun _ _ => (oc267 pc).2⟩
  · exact ⟨(oc268 pc).1, fun _ _ => (oc268 pc).2⟩
  · exact ⟨(oc269 pc).1, fun _ _ => (oc269 pc).2⟩
  · exact ⟨(oc270 pc).1, fun _ _ => (oc270 pc).2⟩
  · exact ⟨(oc271 pc).1, fun _ _ => (oc271 pc).2⟩
  · exact ⟨(oc272 pc).1, fun _ _ => (oc272 pc).2⟩
  · exact ⟨(oc273 pc).1, fun _ _ => (oc273 pc).2⟩
  · exact ⟨(oc274 pc).1, fun _ _ => (oc274 pc).2⟩
  · exact ⟨(oc275 pc).1, fun _ _ => (oc275 pc).2⟩
  · exact ⟨(oc276 pc).1, fun _ _ => (oc276 pc).2⟩
  · exact ⟨(oc277 pc).1, fun _ _ => (oc277 pc).2⟩
  · exact ⟨(oc278 pc).1, fun _ _ => (oc278 pc).2⟩
  · exact ⟨(oc279 pc).1, fun _ _ => (oc279 pc).2⟩
  · exact ⟨mn_sX, fun _ _ => ok_X⟩
theorem okg14 : ∀ k pc, Mnp (cg14 k pc) ∧ (20 * 14 ≤ k → k < 20 * 14 + 20 → Okp (yy k).cls (bb k) (mxl k) (rr k) (yy k).name (lgk k) pc (cg14 k pc)) := by
  intro k pc
  unfold cg14
  split
  · exact ⟨(oc280 pc).1, fun _ _ => (oc280 pc).2⟩
  · exact ⟨(oc281 pc).1, fun _ _ => (oc281 pc).2⟩
  · exact ⟨(oc282 pc).1, fun _ _ => (oc282 pc).2⟩
  · exact ⟨(oc283 pc).1, fun _ _ => (oc283 pc).2⟩
  · exact ⟨(oc284 pc).1, fun _ _ => (oc284 pc).2⟩
  · exact ⟨(oc285 pc).1, fun _ _ => (oc285 pc).2⟩
  · exact ⟨(oc286 pc).1, fun _ _ => (oc286 pc).2⟩
  · exact ⟨(oc287 pc).1, fun _ _ => (oc287 pc).2⟩
  · exact ⟨(oc288 pc).1, fun _ _ => (oc288 pc).2⟩
  · exact ⟨(oc289 pc).1, fun _ _ => (oc289 pc).2⟩
  · exact ⟨(oc290 pc).1, fun _ _ => (oc290 pc).2⟩
  · exact ⟨(oc291 pc).1, fun _ _ => (oc291 pc).2⟩
  · exact ⟨(oc292 pc).1, fun _ _ => (oc292 pc).2⟩
  · exact ⟨(oc293 pc).1, fun _ _ => (oc293 pc).2⟩
  · exact ⟨(oc294 pc).1, fun _ _ => (oc294 pc).2⟩
  · exact ⟨(oc295 pc).1, fun _ _ => (oc295 pc).2⟩
  · exact ⟨(oc296 pc).1, fun _ _ => (oc296 pc).2⟩
  · exact ⟨(oc297 pc).1, fun _ _ => (oc297 pc).2⟩
  · exact ⟨(oc298 pc).1, fun _ _ => (oc298 pc).2⟩
  · exact ⟨(oc299 pc).1, fun _ _ => (oc299 pc).2⟩
  · exact ⟨mn_sX, fun _ _ => ok_X⟩
theorem okg15 : ∀ k pc, Mnp (cg15 k pc) ∧ (20 * 15 ≤ k → k < 20 * 15 + 20 → Okp (yy k).cls (bb k) (mxl k) (rr k) (yy k).name (lgk k) pc (cg15 k pc)) := by
  intro k pc
  unfold cg15
  split
  · exact ⟨(oc300 pc).1, fun _ _ => (oc300 pc).2⟩
  · exact ⟨(oc301 pc).1, fun _ _ => (oc301 pc).2⟩
  · exact ⟨(oc302 pc).1, fun _ _ => (oc302 pc).2⟩
  · exact ⟨(oc303 pc).1, fun _ _ => (oc303 pc).2⟩
  · exact ⟨(oc304 pc).1, fun _ _ => (oc304 pc).2⟩
  · exact ⟨(oc305 pc).1, fun _ _ => (oc305 pc).2⟩
  · exact ⟨(oc306 pc).1, fun _ _ => (oc306 pc).2⟩
  · exact ⟨(oc307 pc).1, fun _ _ => (oc307 pc).2⟩
  · exact ⟨(oc308 pc).1, fun _ _ => (oc308 pc).2⟩
  · exact ⟨(oc309 pc).1, fun _ _ => (oc309 pc).2⟩
  · exact ⟨(oc310 pc).1, fun _ _ => (oc310 pc).2⟩
  · exact ⟨(oc311 pc).1, fun _ _ => (oc311 pc).2⟩
  · exact ⟨(oc312 pc).1, fun _ _ => (oc312 pc).2⟩
  · exact ⟨(oc313 pc).1, fun _ _ => (oc313 pc).2⟩
  · exact ⟨(oc314 pc).1, fun _ _ => (oc314 pc).2⟩
  · exact ⟨(oc315 pc).1, fun _ _ => (oc315 pc).2⟩
  · exact ⟨(oc316 pc).1, fun _ _ => (oc316 pc).2⟩
  · exact ⟨(oc317 pc).1, fun _ _ => (oc317 pc).2⟩
  · exact ⟨(oc318 pc).1, fun _ _ => (oc318 pc).2⟩
  · exact ⟨(oc319 pc).1, fun _ _ => (oc319 pc).2⟩
  · exact ⟨mn_sX, fun _ _ => ok_X⟩
theorem okg16 : ∀ k pc, Mnp (cg16 k pc) ∧ (20 * 16 ≤ k → k < 20 * 16 + 20 → Okp (yy k).cls (bb k) (mxl k) (rr k) (yy k).name (lgk k) pc (cg16 k pc)) := by
  intro k pc
  unfold cg16
  split
  · exact ⟨(oc320 pc).1, fun _ _ => (oc320 pc).2⟩
  · exact ⟨(oc321 pc).1, fun _ _ => (oc321 pc).2⟩
  · exact ⟨(oc322 pc).1, fun _ _ => (oc322 pc).2⟩
  · exact ⟨(oc323 pc).1, fun _ _ => (oc323 pc).2⟩
  · exact ⟨(oc324 pc).1, fun _ _ => (oc324 pc).2⟩
  · exact ⟨(oc325 pc).1, fun _ _ => (oc325 pc).2⟩
  · exact ⟨(oc326 pc).1, fun _ _ => (oc326 pc).2⟩
  · exact ⟨(oc327 pc).1, fun _ _ => (oc327 pc).2⟩
  · exact ⟨(oc328 pc).1, fun _ _ => (oc328 pc).2⟩
  · exact ⟨mn_sX, fun _ _ => ok_X⟩
theorem ok_all : ∀ k, okm k := by
  intro k pc
  have hk : ∀ g, k / 20 = g → 20 * g ≤ k ∧ k < 20 * g + 20 := fun g h => by omega
  unfold cd
  generalize hq : k / 20 = q
  match q, hq with
  | 0, h => exact ⟨(okg0 k pc).1, (okg0 k pc).2 (hk _ h).1 (hk _ h).2⟩
  | 1, h => exact ⟨(okg1 k pc).1, (okg1 k pc).2 (hk _ h).1 (hk _ h).2⟩
  | 2, h => exact ⟨(okg2 k pc).1, (okg2 k pc).2 (hk _ h).1 (hk _ h).2⟩
  | 3, h => exact ⟨(okg3 k pc).1, (okg3 k pc).2 (hk _ h).1 (hk _ h).2⟩
  | 4, h => exact ⟨(okg4 k pc).1, (okg4 k pc).2 (hk _ h).1 (hk _ h).2⟩
  | 5, h => exact ⟨(okg5 k pc).1, (okg5 k pc).2 (hk _ h).1 (hk _ h).2⟩
  | 6, h => exact ⟨(okg6 k pc).1, (okg6 k pc).2 (hk _ h).1 (hk _ h).2⟩
  | 7, h => exact ⟨(okg7 k pc).1, (okg7 k pc).2 (hk _ h).1 (hk _ h).2⟩
  | 8, h => exact ⟨(okg8 k pc).1, (okg8 k pc).2 (hk _ h).1 (hk _ h).2⟩
  | 9, h => exact ⟨(okg9 k pc).1, (okg9 k pc).2 (hk _ h).1 (hk _ h).2⟩
  | 10, h => exact ⟨(okg10 k pc).1, (okg10 k pc).2 (hk _ h).1 (hk _ h).2⟩
  | 11, h => exact ⟨(okg11 k pc).1, (okg11 k pc).2 (hk _ h).1 (hk _ h).2⟩
  | 12, h => exact ⟨(okg12 k pc).1, (okg12 k pc).2 (hk _ h).1 (hk _ h).2⟩
  | 13, h => exact ⟨(okg13 k pc).1, (okg13 k pc).2 (hk _ h).1 (hk _ h).2⟩
  | 14, h => exact ⟨(okg14 k pc).1, (okg14 k pc).2 (hk _ h).1 (hk _ h).2⟩
  | 15, h => exact ⟨(okg15 k pc).1, (okg15 k pc).2 (hk _ h).1 (hk _ h).2⟩
  | 16, h => exact ⟨(okg16 k pc).1, (okg16 k pc).2 (hk _ h).1 (hk _ h).2⟩
  | n + 17, _ => exact ⟨mn_sX, ok_X⟩
