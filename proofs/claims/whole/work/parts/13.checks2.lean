theorem mjk_54 : mj_chk 54 mjc_54 62 = true := by decide +kernel
theorem mjk_55 : mj_chk 55 mjc_55 29 = true := by decide +kernel
theorem mjk_56 : mj_chk 56 mjc_56 12 = true := by decide +kernel
theorem mjk_57 : mj_chk 57 mjc_57 9 = true := by decide +kernel
theorem mjk_58 : mj_chk 58 mjc_58 34 = true := by decide +kernel
theorem mjk_59 : mj_chk 59 mjc_59 26 = true := by decide +kernel
theorem mjk_60 : mj_chk 60 mjc_60 57 = true := by decide +kernel
theorem mjk_61 : mj_chk 61 mjc_61 50 = true := by decide +kernel
theorem mjk_62 : mj_chk 62 mjc_62 41 = true := by decide +kernel
theorem mjk_63 : mj_chk 63 mjc_63 26 = true := by decide +kernel
theorem mjk_64 : mj_chk 64 mjc_64 44 = true := by decide +kernel
theorem mjk_65 : mj_chk 65 mjc_65 71 = true := by decide +kernel
theorem mjk_66 : mj_chk 66 mjc_66 30 = true := by decide +kernel
theorem mjk_67 : mj_chk 67 mjc_67 25 = true := by decide +kernel
theorem mjk_68 : mj_chk 68 mjc_68 29 = true := by decide +kernel
theorem mjk_69 : mj_chk 69 mjc_69 21 = true := by decide +kernel
theorem mjk_70 : mj_chk 70 mjc_70 44 = true := by decide +kernel
theorem mjk_71 : mj_chk 71 mjc_71 104 = true := by decide +kernel
theorem mjk_72 : mj_chk 72 mjc_72 92 = true := by decide +kernel
theorem mjk_73 : mj_chk 73 mjc_73 130 = true := by decide +kernel
theorem mjk_74 : mj_chk 74 mjc_74 33 = true := by decide +kernel
theorem mjk_75 : mj_chk 75 mjc_75 40 = true := by decide +kernel
theorem mjk_76 : mj_chk 76 mjc_76 30 = true := by decide +kernel
theorem mjk_77 : mj_chk 77 mjc_77 56 = true := by decide +kernel
theorem mjk_78 : mj_chk 78 mjc_78 30 = true := by decide +kernel
theorem mjk_79 : mj_chk 79 mjc_79 30 = true := by decide +kernel
theorem mj_moks2 : (List.range 26).all (fun z => mj_mok (54 + z)) = true := by decide +kernel
theorem mj_mokz2 : ∀ z, 54 ≤ z → z < 80 → mj_mok z = true := fun z h1 h2 => by have := List.all_eq_true.mp mj_moks2 (z - 54) (List.mem_range.mpr (by omega)); rwa [show 54 + (z - 54) = z by omega] at this
