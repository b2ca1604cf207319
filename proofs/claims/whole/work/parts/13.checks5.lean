theorem mjk_134 : mj_chk 134 mjc_134 18 = true := by decide +kernel
theorem mjk_135 : mj_chk 135 mjc_135 10 = true := by decide +kernel
theorem mjk_136 : mj_chk 136 mjc_136 25 = true := by decide +kernel
theorem mjk_137 : mj_chk 137 mjc_137 52 = true := by decide +kernel
theorem mjk_138 : mj_chk 138 mjc_138 32 = true := by decide +kernel
theorem mjk_139 : mj_chk 139 mjc_139 54 = true := by decide +kernel
theorem mjk_140 : mj_chk 140 mjc_140 134 = true := by decide +kernel
theorem mjk_141 : mj_chk 141 mjc_141 91 = true := by decide +kernel
theorem mjk_142 : mj_chk 142 mjc_142 46 = true := by decide +kernel
theorem mjk_143 : mj_chk 143 mjc_143 55 = true := by decide +kernel
theorem mjk_144 : mj_chk 144 mjc_144 119 = true := by decide +kernel
theorem mjk_145 : mj_chk 145 mjc_145 39 = true := by decide +kernel
theorem mjk_146 : mj_chk 146 mjc_146 57 = true := by decide +kernel
theorem mjk_147 : mj_chk 147 mjc_147 43 = true := by decide +kernel
theorem mjk_148 : mj_chk 148 mjc_148 18 = true := by decide +kernel
theorem mjk_149 : mj_chk 149 mjc_149 50 = true := by decide +kernel
theorem mjk_150 : mj_chk 150 mjc_150 16 = true := by decide +kernel
theorem mjk_151 : mj_chk 151 mjc_151 25 = true := by decide +kernel
theorem mjk_152 : mj_chk 152 mjc_152 25 = true := by decide +kernel
theorem mjk_153 : mj_chk 153 mjc_153 54 = true := by decide +kernel
theorem mjk_154 : mj_chk 154 mjc_154 64 = true := by decide +kernel
theorem mjk_155 : mj_chk 155 mjc_155 45 = true := by decide +kernel
theorem mjk_156 : mj_chk 156 mjc_156 43 = true := by decide +kernel
theorem mjk_157 : mj_chk 157 mjc_157 273 = true := by decide +kernel
theorem mjk_158 : mj_chk 158 mjc_158 87 = true := by decide +kernel
theorem mjk_159 : mj_chk 159 mjc_159 121 = true := by decide +kernel
theorem mj_moks5 : (List.range 26).all (fun z => mj_mok (134 + z)) = true := by decide +kernel
theorem mj_mokz5 : ∀ z, 134 ≤ z → z < 160 → mj_mok z = true := fun z h1 h2 => by have := List.all_eq_true.mp mj_moks5 (z - 134) (List.mem_range.mpr (by omega)); rwa [show 134 + (z - 134) = z by omega] at this
