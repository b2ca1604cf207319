theorem mjk_187 : mj_chk 187 mjc_187 213 = true := by decide +kernel
theorem mjk_188 : mj_chk 188 mjc_188 76 = true := by decide +kernel
theorem mjk_189 : mj_chk 189 mjc_189 148 = true := by decide +kernel
theorem mjk_190 : mj_chk 190 mjc_190 171 = true := by decide +kernel
theorem mjk_191 : mj_chk 191 mjc_191 84 = true := by decide +kernel
theorem mjk_192 : mj_chk 192 mjc_192 99 = true := by decide +kernel
theorem mjk_193 : mj_chk 193 mjc_193 164 = true := by decide +kernel
theorem mjk_194 : mj_chk 194 mjc_194 57 = true := by decide +kernel
theorem mjk_195 : mj_chk 195 mjc_195 148 = true := by decide +kernel
theorem mjk_196 : mj_chk 196 mjc_196 62 = true := by decide +kernel
theorem mjk_197 : mj_chk 197 mjc_197 135 = true := by decide +kernel
theorem mjk_198 : mj_chk 198 mjc_198 120 = true := by decide +kernel
theorem mjk_199 : mj_chk 199 mjc_199 38 = true := by decide +kernel
theorem mjk_200 : mj_chk 200 mjc_200 43 = true := by decide +kernel
theorem mjk_201 : mj_chk 201 mjc_201 10 = true := by decide +kernel
theorem mjk_202 : mj_chk 202 mjc_202 36 = true := by decide +kernel
theorem mjk_203 : mj_chk 203 mjc_203 36 = true := by decide +kernel
theorem mjk_204 : mj_chk 204 mjc_204 47 = true := by decide +kernel
theorem mjk_205 : mj_chk 205 mjc_205 83 = true := by decide +kernel
theorem mjk_206 : mj_chk 206 mjc_206 138 = true := by decide +kernel
theorem mjk_207 : mj_chk 207 mjc_207 130 = true := by decide +kernel
theorem mjk_208 : mj_chk 208 mjc_208 118 = true := by decide +kernel
theorem mjk_209 : mj_chk 209 mjc_209 79 = true := by decide +kernel
theorem mjk_210 : mj_chk 210 mjc_210 36 = true := by decide +kernel
theorem mjk_211 : mj_chk 211 mjc_211 60 = true := by decide +kernel
theorem mjk_212 : mj_chk 212 mjc_212 159 = true := by decide +kernel
theorem mj_moks7 : (List.range 26).all (fun z => mj_mok (187 + z)) = true := by decide +kernel
theorem mj_mokz7 : ∀ z, 187 ≤ z → z < 213 → mj_mok z = true := fun z h1 h2 => by have := List.all_eq_true.mp mj_moks7 (z - 187) (List.mem_range.mpr (by omega)); rwa [show 187 + (z - 187) = z by omega] at this
theorem mj_moks : ∀ z, z < mj_N → mj_mok z = true := by
  intro z hz
  have hz : z < 213 := hz
  by_cases h0 : z < 27
  · exact mj_mokz0 z (by omega) h0
  by_cases h1 : z < 54
  · exact mj_mokz1 z (by omega) h1
  by_cases h2 : z < 80
  · exact mj_mokz2 z (by omega) h2
  by_cases h3 : z < 107
  · exact mj_mokz3 z (by omega) h3
  by_cases h4 : z < 134
  · exact mj_mokz4 z (by omega) h4
  by_cases h5 : z < 160
  · exact mj_mokz5 z (by omega) h5
  by_cases h6 : z < 187
  · exact mj_mokz6 z (by omega) h6
  exact mj_mokz7 z (by omega) hz
