/-! ===== the small machine runs; its runs are runs of the real machine ===== -/
theorem mk_all0 : ∀ k ∈ [0, 1, 2, 3, 4, 5, 6, 7, 8, 9, 10, 11, 12, 13, 14, 15, 16, 17, 18, 19, 20, 21, 22, 23, 24, 25, 26, 27, 28, 29, 30, 31], (mm_cd k).all (mRow (mm_by k) k) = true := List.forall_mem_cons.mpr ⟨mk_0, List.forall_mem_cons.mpr ⟨mk_1, List.forall_mem_cons.mpr ⟨mk_2, List.forall_mem_cons.mpr ⟨mk_3, List.forall_mem_cons.mpr ⟨mk_4, List.forall_mem_cons.mpr ⟨mk_5, List.forall_mem_cons.mpr ⟨mk_6, List.forall_mem_cons.mpr ⟨mk_7, List.forall_mem_cons.mpr ⟨mk_8, List.forall_mem_cons.mpr ⟨mk_9, List.forall_mem_cons.mpr ⟨mk_10, List.forall_mem_cons.mpr ⟨mk_11, List.forall_mem_cons.mpr ⟨mk_12, List.forall_mem_cons.mpr ⟨mk_13, List.forall_mem_cons.mpr ⟨mk_14, List.forall_mem_cons.mpr ⟨mk_15, List.forall_mem_cons.mpr ⟨mk_16, List.forall_mem_cons.mpr ⟨mk_17, List.forall_mem_cons.mpr ⟨mk_18, List.forall_mem_cons.mpr ⟨mk_19, List.forall_mem_cons.mpr ⟨mk_20, List.forall_mem_cons.mpr ⟨mk_21, List.forall_mem_cons.mpr ⟨mk_22, List.forall_mem_cons.mpr ⟨mk_23, List.forall_mem_cons.mpr ⟨mk_24, List.forall_mem_cons.mpr ⟨mk_25, List.forall_mem_cons.mpr ⟨mk_26, List.forall_mem_cons.mpr ⟨mk_27, List.forall_mem_cons.mpr ⟨mk_28, List.forall_mem_cons.mpr ⟨mk_29, List.forall_mem_cons.mpr ⟨mk_30, List.forall_mem_cons.mpr ⟨mk_31, fun _ h => absurd h List.not_mem_nil⟩⟩⟩⟩⟩⟩⟩⟩⟩⟩⟩⟩⟩⟩⟩⟩⟩⟩⟩⟩⟩⟩⟩⟩⟩⟩⟩⟩⟩⟩⟩⟩
theorem mk_all1 : ∀ k ∈ [32, 33, 34, 35, 36, 37, 38, 39, 40, 41, 42, 43, 44, 45, 46, 47, 48, 49, 50, 51, 52, 53, 54, 55, 56, 57, 58, 59, 60, 61, 62, 63], (mm_cd k).all (mRow (mm_by k) k) = true := List.forall_mem_cons.mpr ⟨mk_32, List.forall_mem_cons.mpr ⟨mk_33, List.forall_mem_cons.mpr ⟨mk_34, List.forall_mem_cons.mpr ⟨mk_35, List.forall_mem_cons.mpr ⟨mk_36, List.forall_mem_cons.mpr ⟨mk_37, List.forall_mem_cons.mpr ⟨mk_38, List.forall_mem_cons.mpr ⟨mk_39, List.forall_mem_cons.mpr ⟨mk_40, List.forall_mem_cons.mpr ⟨mk_41, List.forall_mem_cons.mpr ⟨mk_42, List.forall_mem_cons.mpr ⟨mk_43, List.forall_mem_cons.mpr ⟨mk_44, List.forall_mem_cons.mpr ⟨mk_45, List.forall_mem_cons.mpr ⟨mk_46, List.forall_mem_cons.mpr ⟨mk_47, List.forall_mem_cons.mpr ⟨mk_48, List.forall_mem_cons.mpr ⟨mk_49, List.forall_mem_cons.mpr ⟨mk_50, List.forall_mem_cons.mpr ⟨mk_51, List.forall_mem_cons.mpr ⟨mk_52, List.forall_mem_cons.mpr ⟨mk_53, List.forall_mem_cons.mpr ⟨mk_54, List.forall_mem_cons.mpr ⟨mk_55, List.forall_mem_cons.mpr ⟨mk_56, List.forall_mem_cons.mpr ⟨mk_57, List.forall_mem_cons.mpr ⟨mk_58, List.forall_mem_cons.mpr ⟨mk_59, List.forall_mem_cons.mpr ⟨mk_60, List.forall_mem_cons.mpr ⟨mk_61, List.forall_mem_cons.mpr ⟨mk_62, List.forall_mem_cons.mpr ⟨mk_63, fun _ h => absurd h List.not_mem_nil⟩⟩⟩⟩⟩⟩⟩⟩⟩⟩⟩⟩⟩⟩⟩⟩⟩⟩⟩⟩⟩⟩⟩⟩⟩⟩⟩⟩⟩⟩⟩⟩
theorem mk_all2 : ∀ k ∈ [64, 65, 66, 67, 68, 69, 70, 71, 72, 73, 74, 75, 76, 77, 78, 79, 80, 81, 82, 83, 84, 85, 86, 87, 88, 89, 90, 91, 92, 93, 94, 95], (mm_cd k).all (mRow (mm_by k) k) = true := List.forall_mem_cons.mpr ⟨mk_64, List.forall_mem_cons.mpr ⟨mk_65, List.forall_mem_cons.mpr ⟨mk_66, List.forall_mem_cons.mpr ⟨mk_67, List.forall_mem_cons.mpr ⟨mk_68, List.forall_mem_cons.mpr ⟨mk_69, List.forall_mem_cons.mpr ⟨mk_70, List.forall_mem_cons.mpr ⟨mk_71, List.forall_mem_cons.mpr ⟨mk_72, List.forall_mem_cons.mpr ⟨mk_73, List.forall_mem_cons.mpr ⟨mk_74, List.forall_mem_cons.mpr ⟨mk_75, List.forall_mem_cons.mpr ⟨mk_76, List.forall_mem_cons.mpr ⟨mk_77, List.forall_mem_cons.mpr ⟨mk_78, List.forall_mem_cons.mpr ⟨mk_79, List.forall_mem_cons.mpr ⟨mk_80, List.forall_mem_cons.mpr ⟨mk_81, List.forall_mem_cons.mpr ⟨mk_82, List.forall_mem_cons.mpr ⟨mk_83, List.forall_mem_cons.mpr ⟨mk_84, List.forall_mem_cons.mpr ⟨mk_85, List.forall_mem_cons.mpr ⟨mk_86, List.forall_mem_cons.mpr ⟨mk_87, List.forall_mem_cons.mpr ⟨mk_88, List.forall_mem_cons.mpr ⟨mk_89, List.forall_mem_cons.mpr ⟨mk_90, List.forall_mem_cons.mpr ⟨mk_91, List.forall_mem_cons.mpr ⟨mk_92, List.forall_mem_cons.mpr ⟨mk_93, List.forall_mem_cons.mpr ⟨mk_94, List.forall_mem_cons.mpr ⟨mk_95, fun _ h => absurd h List.not_mem_nil⟩⟩⟩⟩⟩⟩⟩⟩⟩⟩⟩⟩⟩⟩⟩⟩⟩⟩⟩⟩⟩⟩⟩⟩⟩⟩⟩⟩⟩⟩⟩⟩
theorem mk_all3 : ∀ k ∈ [96, 97, 98, 99, 100, 101, 102, 103, 104, 105, 106, 107, 108, 109, 110, 111, 112, 113, 114, 115, 116, 117, 118, 119, 120, 121, 122, 123, 124, 125, 126, 127], (mm_cd k).all (mRow (mm_by k) k) = true := List.forall_mem_cons.mpr ⟨mk_96, List.forall_mem_cons.mpr ⟨mk_97, List.forall_mem_cons.mpr ⟨mk_98, List.forall_mem_cons.mpr ⟨mk_99, List.forall_mem_cons.mpr ⟨mk_100, List.forall_mem_cons.mpr ⟨mk_101, List.forall_mem_cons.mpr ⟨mk_102, List.forall_mem_cons.mpr ⟨mk_103, List.forall_mem_cons.mpr ⟨mk_104, List.forall_mem_cons.mpr ⟨mk_105, List.forall_mem_cons.mpr ⟨mk_106, List.forall_mem_cons.mpr ⟨mk_107, List.forall_mem_cons.mpr ⟨mk_108, List.forall_mem_cons.mpr ⟨mk_109, List.forall_mem_cons.mpr ⟨mk_110, List.forall_mem_cons.mpr ⟨mk_111, List.forall_mem_cons.mpr ⟨mk_112, List.forall_mem_cons.mpr ⟨mk_113, List.forall_mem_cons.mpr ⟨mk_114, List.forall_mem_cons.mpr ⟨mk_115, List.forall_mem_cons.mpr ⟨mk_116, List.forall_mem_cons.mpr ⟨mk_117, List.forall_mem_cons.mpr ⟨mk_118, List.forall_mem_cons.mpr ⟨mk_119, List.forall_mem_cons.mpr ⟨mk_120, List.forall_mem_cons.mpr ⟨mk_121, List.forall_mem_cons.mpr ⟨mk_122, List.forall_mem_cons.mpr ⟨mk_123, List.forall_mem_cons.mpr ⟨mk_124, List.forall_mem_cons.mpr ⟨mk_125, List.forall_mem_cons.mpr ⟨mk_126, List.forall_mem_cons.mpr ⟨mk_127, fun _ h => absurd h List.not_mem_nil⟩⟩⟩⟩⟩⟩⟩⟩⟩⟩⟩⟩⟩⟩⟩⟩⟩⟩⟩⟩⟩⟩⟩⟩⟩⟩⟩⟩⟩⟩⟩⟩
theorem mk_all4 : ∀ k ∈ [128, 129, 130, 131, 132, 133, 134, 135, 136, 137, 138, 139, 140, 141, 142, 143, 144, 145, 146, 147, 148, 149, 150, 151, 152, 153, 154, 155, 156, 157, 158, 159], (mm_cd k).all (mRow (mm_by k) k) = true := List.forall_mem_cons.mpr ⟨mk_128, List.forall_mem_cons.mpr ⟨mk_129, List.forall_mem_cons.mpr ⟨mk_130, List.forall_mem_cons.mpr ⟨mk_131, List.forall_mem_cons.mpr ⟨mk_132, List.forall_mem_cons.mpr ⟨mk_133, List.forall_mem_cons.mpr ⟨mk_134, List.forall_mem_cons.mpr ⟨mk_135, List.forall_mem_cons.mpr ⟨mk_136, List.forall_mem_cons.mpr ⟨mk_137, List.forall_mem_cons.mpr ⟨mk_138, List.forall_mem_cons.mpr ⟨mk_139, List.forall_mem_cons.mpr ⟨mk_140, List.forall_mem_cons.mpr ⟨mk_141, List.forall_mem_cons.mpr ⟨mk_142, List.forall_mem_cons.mpr ⟨mk_143, List.forall_mem_cons.mpr ⟨mk_144, List.forall_mem_cons.mpr ⟨mk_145, List.forall_mem_cons.mpr ⟨mk_146, List.forall_mem_cons.mpr ⟨mk_147, List.forall_mem_cons.mpr ⟨mk_148, List.forall_mem_cons.mpr ⟨mk_149, List.forall_mem_cons.mpr ⟨mk_150, List.forall_mem_cons.mpr ⟨mk_151, List.forall_mem_cons.mpr ⟨mk_152, List.forall_mem_cons.mpr ⟨mk_153, List.forall_mem_cons.mpr ⟨mk_154, List.forall_mem_cons.mpr ⟨mk_155, List.forall_mem_cons.mpr ⟨mk_156, List.forall_mem_cons.mpr ⟨mk_157, List.forall_mem_cons.mpr ⟨mk_158, List.forall_mem_cons.mpr ⟨mk_159, fun _ h => absurd h List.not_mem_nil⟩⟩⟩⟩⟩⟩⟩⟩⟩⟩⟩⟩⟩⟩⟩⟩⟩⟩⟩⟩⟩⟩⟩⟩⟩⟩⟩⟩⟩⟩⟩⟩
theorem mk_all5 : ∀ k ∈ [160, 161, 162, 163, 164, 165, 166, 167, 168, 169, 170, 171, 172, 173, 174, 175, 176, 177, 178, 179, 180, 181, 182, 183, 184, 185, 186, 187, 188, 189, 190, 191], (mm_cd k).all (mRow (mm_by k) k) = true := List.forall_mem_cons.mpr ⟨mk_160, List.forall_mem_cons.mpr ⟨mk_161, List.forall_mem_cons.mpr ⟨mk_162, List.forall_mem_cons.mpr ⟨mk_163, List.forall_mem_cons.mpr ⟨mk_164, List.forall_mem_cons.mpr ⟨mk_165, List.forall_mem_cons.mpr ⟨mk_166, List.forall_mem_cons.mpr ⟨mk_167, List.forall_mem_cons.mpr ⟨mk_168, List.forall_mem_cons.mpr ⟨mk_169, List.forall_mem_cons.mpr ⟨mk_170, List.forall_mem_cons.mpr ⟨mk_171, List.forall_mem_cons.mpr ⟨mk_172, List.forall_mem_cons.mpr ⟨mk_173, List.forall_mem_cons.mpr ⟨mk_174, List.forall_mem_cons.mpr ⟨mk_175, List.forall_mem_cons.mpr ⟨mk_176, List.forall_mem_cons.mpr ⟨mk_177, List.forall_mem_cons.mpr ⟨mk_178, List.forall_mem_cons.mpr ⟨mk_179, List.forall_mem_cons.mpr ⟨mk_180, List.forall_mem_cons.mpr ⟨mk_181, List.forall_mem_cons.mpr ⟨mk_182, List.forall_mem_cons.mpr ⟨mk_183, List.forall_mem_cons.mpr ⟨mk_184, List.forall_mem_cons.mpr ⟨mk_185, List.forall_mem_cons.mpr ⟨mk_186, List.forall_mem_cons.mpr ⟨mk_187, List.forall_mem_cons.mpr ⟨mk_188, List.forall_mem_cons.mpr ⟨mk_189, List.forall_mem_cons.mpr ⟨mk_190, List.forall_mem_cons.mpr ⟨mk_191, fun _ h => absurd h List.not_mem_nil⟩⟩⟩⟩⟩⟩⟩⟩⟩⟩⟩⟩⟩⟩⟩⟩⟩⟩⟩⟩⟩⟩⟩⟩⟩⟩⟩⟩⟩⟩⟩⟩
theorem mk_all6 : ∀ k ∈ [192, 193, 194, 195, 196, 197, 198, 199, 200, 201, 202, 203, 204, 205, 206, 207, 208, 209, 210, 211, 212, 213, 214, 215, 216, 217, 218, 219, 220, 221, 222, 223], (mm_cd k).all (mRow (mm_by k) k) = true := List.forall_mem_cons.mpr ⟨mk_192, List.forall_mem_cons.mpr ⟨mk_193, List.forall_mem_cons.mpr ⟨mk_194, List.forall_mem_cons.mpr ⟨mk_195, List.forall_mem_cons.mpr ⟨mk_196, List.forall_mem_cons.mpr ⟨mk_197, List.forall_mem_cons.mpr ⟨mk_198, List.forall_mem_cons.mpr ⟨mk_199, List.forall_mem_cons.mpr ⟨mk_200, List.forall_mem_cons.mpr ⟨mk_201, List.forall_mem_cons.mpr ⟨mk_202, List.forall_mem_cons.mpr ⟨mk_203, List.forall_mem_cons.mpr ⟨mk_204, List.forall_mem_cons.mpr ⟨mk_205, List.forall_mem_cons.mpr ⟨mk_206, List.forall_mem_cons.mpr ⟨mk_207, List.forall_mem_cons.mpr ⟨mk_208, List.forall_mem_cons.mpr ⟨mk_209, List.forall_mem_cons.mpr ⟨mk_210, List.forall_mem_cons.mpr ⟨mk_211, List.forall_mem_cons.mpr ⟨mk_212, List.forall_mem_cons.mpr ⟨mk_213, List.forall_mem_cons.mpr ⟨mk_214, List.forall_mem_cons.mpr ⟨mk_215, List.forall_mem_cons.mpr ⟨mk_216, List.forall_mem_cons.mpr ⟨mk_217, List.forall_mem_cons.mpr ⟨mk_218, List.forall_mem_cons.mpr ⟨mk_219, List.forall_mem_cons.mpr ⟨mk_220, List.forall_mem_cons.mpr ⟨mk_221, List.forall_mem_cons.mpr ⟨mk_222, List.forall_mem_cons.mpr ⟨mk_223, fun _ h => absurd h List.not_mem_nil⟩⟩⟩⟩⟩⟩⟩⟩⟩⟩⟩⟩⟩⟩⟩⟩⟩⟩⟩⟩⟩⟩⟩⟩⟩⟩⟩⟩⟩⟩⟩⟩
theorem mk_all7 : ∀ k ∈ [224, 225, 226, 227, 228, 229, 230, 231, 232, 233, 234, 235, 236, 237, 238, 239, 240, 241, 242, 243, 244, 245, 246, 247], (mm_cd k).all (mRow (mm_by k) k) = true := List.forall_mem_cons.mpr ⟨mk_224, List.forall_mem_cons.mpr ⟨mk_225, List.forall_mem_cons.mpr ⟨mk_226, List.forall_mem_cons.mpr ⟨mk_227, List.forall_mem_cons.mpr ⟨mk_228, List.forall_mem_cons.mpr ⟨mk_229, List.forall_mem_cons.mpr ⟨mk_230, List.forall_mem_cons.mpr ⟨mk_231, List.forall_mem_cons.mpr ⟨mk_232, List.forall_mem_cons.mpr ⟨mk_233, List.forall_mem_cons.mpr ⟨mk_234, List.forall_mem_cons.mpr ⟨mk_235, List.forall_mem_cons.mpr ⟨mk_236, List.forall_mem_cons.mpr ⟨mk_237, List.forall_mem_cons.mpr ⟨mk_238, List.forall_mem_cons.mpr ⟨mk_239, List.forall_mem_cons.mpr ⟨mk_240, List.forall_mem_cons.mpr ⟨mk_241, List.forall_mem_cons.mpr ⟨mk_242, List.forall_mem_cons.mpr ⟨mk_243, List.forall_mem_cons.mpr ⟨mk_244, List.forall_mem_cons.mpr ⟨mk_245, List.forall_mem_cons.mpr ⟨mk_246, List.forall_mem_cons.mpr ⟨mk_247, fun _ h => absurd h List.not_mem_nil⟩⟩⟩⟩⟩⟩⟩⟩⟩⟩⟩⟩⟩⟩⟩⟩⟩⟩⟩⟩⟩⟩⟩⟩
theorem mk_all {k : Nat} (hk : k < 248) : (mm_cd k).all (mRow (mm_by k) k) = true := by
  have h : k ∈ ([0, 1, 2, 3, 4, 5, 6, 7, 8, 9, 10, 11, 12, 13, 14, 15, 16, 17, 18, 19, 20, 21, 22, 23, 24, 25, 26, 27, 28, 29, 30, 31] : List Nat) ++ (([32, 33, 34, 35, 36, 37, 38, 39, 40, 41, 42, 43, 44, 45, 46, 47, 48, 49, 50, 51, 52, 53, 54, 55, 56, 57, 58, 59, 60, 61, 62, 63] : List Nat) ++ (([64, 65, 66, 67, 68, 69, 70, 71, 72, 73, 74, 75, 76, 77, 78, 79, 80, 81, 82, 83, 84, 85, 86, 87, 88, 89, 90, 91, 92, 93, 94, 95] : List Nat) ++ (([96, 97, 98, 99, 100, 101, 102, 103, 104, 105, 106, 107, 108, 109, 110, 111, 112, 113, 114, 115, 116, 117, 118, 119, 120, 121, 122, 123, 124, 125, 126, 127] : List Nat) ++ (([128, 129, 130, 131, 132, 133, 134, 135, 136, 137, 138, 139, 140, 141, 142, 143, 144, 145, 146, 147, 148, 149, 150, 151, 152, 153, 154, 155, 156, 157, 158, 159] : List Nat) ++ (([160, 161, 162, 163, 164, 165, 166, 167, 168, 169, 170, 171, 172, 173, 174, 175, 176, 177, 178, 179, 180, 181, 182, 183, 184, 185, 186, 187, 188, 189, 190, 191] : List Nat) ++ (([192, 193, 194, 195, 196, 197, 198, 199, 200, 201, 202, 203, 204, 205, 206, 207, 208, 209, 210, 211, 212, 213, 214, 215, 216, 217, 218, 219, 220, 221, 222, 223] : List Nat) ++ (([224, 225, 226, 227, 228, 229, 230, 231, 232, 233, 234, 235, 236, 237, 238, 239, 240, 241, 242, 243, 244, 245, 246, 247] : List Nat)))))))) := by
    have h1 : k ∈ List.range 248 := List.mem_range.mpr hk
    rw [show List.range 248 = ([0, 1, 2, 3, 4, 5, 6, 7, 8, 9, 10, 11, 12, 13, 14, 15, 16, 17, 18, 19, 20, 21, 22, 23, 24, 25, 26, 27, 28, 29, 30, 31] : List Nat) ++ (([32, 33, 34, 35, 36, 37, 38, 39, 40, 41, 42, 43, 44, 45, 46, 47, 48, 49, 50, 51, 52, 53, 54, 55, 56, 57, 58, 59, 60, 61, 62, 63] : List Nat) ++ (([64, 65, 66, 67, 68, 69, 70, 71, 72, 73, 74, 75, 76, 77, 78, 79, 80, 81, 82, 83, 84, 85, 86, 87, 88, 89, 90, 91, 92, 93, 94, 95] : List Nat) ++ (([96, 97, 98, 99, 100, 101, 102, 103, 104, 105, 106, 107, 108, 109, 110, 111, 112, 113, 114, 115, 116, 117, 118, 119, 120, 121, 122, 123, 124, 125, 126, 127] : List Nat) ++ (([128, 129, 130, 131, 132, 133, 134, 135, 136, 137, 138, 139, 140, 141, 142, 143, 144, 145, 146, 147, 148, 149, 150, 151, 152, 153, 154, 155, 156, 157, 158, 159] : List Nat) ++ (([160, 161, 162, 163, 164, 165, 166, 167, 168, 169, 170, 171, 172, 173, 174, 175, 176, 177, 178, 179, 180, 181, 182, 183, 184, 185, 186, 187, 188, 189, 190, 191] : List Nat) ++ (([192, 193, 194, 195, 196, 197, 198, 199, 200, 201, 202, 203, 204, 205, 206, 207, 208, 209, 210, 211, 212, 213, 214, 215, 216, 217, 218, 219, 220, 221, 222, 223] : List Nat) ++ (([224, 225, 226, 227, 228, 229, 230, 231, 232, 233, 234, 235, 236, 237, 238, 239, 240, 241, 242, 243, 244, 245, 246, 247] : List Nat)))))))) by decide +kernel] at h1
    exact h1
  rcases List.mem_append.mp h with h | h
  · exact mk_all0 k h
  rcases List.mem_append.mp h with h | h
  · exact mk_all1 k h
  rcases List.mem_append.mp h with h | h
  · exact mk_all2 k h
  rcases List.mem_append.mp h with h | h
  · exact mk_all3 k h
  rcases List.mem_append.mp h with h | h
  · exact mk_all4 k h
  rcases List.mem_append.mp h with h | h
  · exact mk_all5 k h
  rcases List.mem_append.mp h with h | h
  · exact mk_all6 k h
  exact mk_all7 k h
theorem mm_ml41 {j : Nat} (hj : j < 250) : mm_ml j ≤ 41 := by
  have h : (List.range 250).all (fun j => decide (mm_ml j ≤ 41)) = true := by decide +kernel
  exact of_decide_eq_true (List.all_eq_true.mp h j (List.mem_range.mpr hj))
theorem snd_ca0 {i : Instr} {nx a j : Nat} {as : List Value} {f f1 : mF} (h : mCa i nx a f = some (j, as, f1)) : f1.2.1 = f.2.1 ∧ f1.2.2.2 = f.2.2.2 := by
  cases i <;> simp only [mCa] at h <;> first | (cases h; done) | skip
  all_goals (repeat' (first | (cases h; done) | (cases h; exact ⟨rfl, rfl⟩) | split at h))
abbrev mX : Type := Nat × (Nat → Int32)
abbrev mRet : Type := Option Value × mM
/-- a method's run, n instructions at most, over what its callees do -/
def mrun (X : mX) (E : Nat → List Value → mM → Option mRet) (k : Nat) : Nat → mF → Option mRet
  | 0, _ => none
  | n + 1, f => match mfind (mm_cd k) f.1 with
    | none => none
    | some q => match mRe k q.1 f with
      | some r => some r
      | none => match mCa q.1 q.2.1 q.2.2 f with
        | some c => match E c.1 c.2.1 f.2.2.2 with
          | none => none
          | some r => mrun X E k n (c.2.2.1, c.2.2.2.1, r.1.toList ++ c.2.2.2.2.1, r.2)
        | none => match mAl q.1 q.2.1 q.2.2 f with
          | some f' => mrun X E k n f'
          | none => match mCo X q.1 f.1 q.2.1 q.2.2 f with
            | some f' => mrun X E k n f'
            | none => none
/-- the two String methods -/
def mprim (j : Nat) (as : List Value) : Option Int32 := match j, as with
  | 248, [.ref b] => if mstr ≤ b ∧ b < mstr + 8 then some (Int32.ofNat (mm_sl.getD (b - mstr) 0)) else none
  | 249, [.ref b, .int x] => if mstr ≤ b ∧ b < mstr + 8 ∧ mxin x (mm_sl.getD (b - mstr) 0) = true then some (mm_ch (b - mstr) x) else none
  | _, _ => none
/-- a call, d frames deep at most, every run N instructions at most -/
def mex (X : mX) (N : Nat) : Nat → Nat → List Value → mM → Option mRet
  | 0, _, _, _ => none
  | d + 1, j, as, M => if 248 ≤ j then (if d < 3 then none else (mprim j as).map (fun v => (some (.int v), M)))
    else if (lg_sl as).length ≤ mm_ml j then mrun X (mex X N d) j N (0, lv_args 0 as, [], M) else none
theorem mprim_of {j : Nat} {as : List Value} {v : Int32} (h : mprim j as = some v) : (∃ b, j = 248 ∧ as = [.ref b] ∧ mstr ≤ b ∧ b < mstr + 8 ∧ v = Int32.ofNat (mm_sl.getD (b - mstr) 0)) ∨ (∃ b x, j = 249 ∧ as = [.ref b, .int x] ∧ mstr ≤ b ∧ b < mstr + 8 ∧ mxin x (mm_sl.getD (b - mstr) 0) = true ∧ v = mm_ch (b - mstr) x) := by
  unfold mprim at h
  split at h
  · split at h
    · rename_i hc
      exact Or.inl ⟨_, rfl, rfl, hc.1, hc.2, (Option.some.inj h).symm⟩
    · cases h
  · split at h
    · rename_i hc
      exact Or.inr ⟨_, _, rfl, rfl, hc.1, hc.2.1, hc.2.2, (Option.some.inj h).symm⟩
    · cases h
  · cases h
set_option maxHeartbeats 4000000 in
theorem mCo_shape {X : mX} {i : Instr} {pc nx a : Nat} {f f' : mF} (h : mCo X i pc nx a f = some f') : f'.2.2.2.1 = f.2.2.2.1 := by
  cases i <;> simp only [mCo] at h <;> first
    | (cases h; done)
    | (cases h; rfl)
    | (obtain ⟨_, _, _, rfl⟩ := mq_ld_of h; rfl)
    | (obtain ⟨_, _, _, _, rfl⟩ := mq_st_of h; rfl)
    | (obtain ⟨_, _, _, _, rfl⟩ := mq_b_of h; rfl)
    | (obtain ⟨_, _, _, _, _, rfl⟩ := mq_bz_of h; rfl)
    | (obtain ⟨_, _, _, _, rfl⟩ := mq_l_of h; rfl)
    | (obtain ⟨_, _, _, _, _, rfl⟩ := mq_lz_of h; rfl)
    | (obtain ⟨_, _, _, _, _, _, rfl⟩ := mq_get_of h; rfl)
    | (obtain ⟨_, _, _, _, _, _, _, _, hp, rfl⟩ := mq_put_of h; exact (mq_putv_of id hp).1)
    | (rcases mq_iald_of h with ⟨_, _, _, _, rfl⟩ | ⟨_, _, _, _, _, _, _, _, rfl⟩ <;> rfl)
    | (obtain ⟨_, _, _, _, _, _, _, _, rfl⟩ := mq_bald_of h; rfl)
    | (obtain ⟨_, _, _, _, _, _, _, _, rfl⟩ := mq_lald_of h; rfl)
    | (obtain ⟨_, _, _, _, _, _, _, _, rfl⟩ := mq_aald_of h; rfl)
    | (obtain ⟨_, _, _, _, _, _, _, _, _, rfl⟩ := mq_iast_of h; rfl)
    | (obtain ⟨_, _, _, _, _, _, _, _, ⟨_, rfl⟩ | ⟨_, rfl⟩⟩ := mq_bast_of h <;> rfl)
    | (obtain ⟨_, _, _, _, _, _, _, _, _, rfl⟩ := mq_last_of h; rfl)
    | (obtain ⟨_, _, _, _, _, _, _, _, _, _, _, _, rfl⟩ := mq_aast_of h; rfl)
    | (rcases mq_alen_of h with ⟨_, _, rfl⟩ | ⟨_, _, _, _, _, _, rfl⟩ <;> rfl)
    | (simp only [mq_lcmp, mq_lshl, mq_i2l, mq_l2i, mq_i2b, mq_iinc, mq_if, mq_icmp, mq_null, mq_dup, mq_dup2, mq_pop, mq_ts, mq_ls, mq_oi] at h; repeat' (first | (cases h; done) | (cases h; rfl) | split at h))
    | (split at h <;> first | (cases h; done) | (obtain ⟨_, _, _, _, _, _, _, _, _, _, _, _, rfl⟩ := mq_ac_of h; rfl) | (obtain ⟨_, _, _, _, _, rfl⟩ := mq_m2_of h; rfl) | (obtain ⟨_, _, _, _, _, rfl⟩ := mq_m2l_of h; rfl))
    | (split at h <;> first | (cases h; done) | (cases h; rfl))
theorem mAl_shape {i : Instr} {nx a : Nat} {f f' : mF} (h : mAl i nx a f = some f') : f'.2.2.2.1.length = f.2.2.2.1.length + 1 ∧ mSz f.2.2.2 ≤ mSz f'.2.2.2 := by
  have key : ∀ t n, (mnew f.2.2.2 t n).1.length = f.2.2.2.1.length + 1 ∧ mSz f.2.2.2 ≤ mSz (mnew f.2.2.2 t n) := fun t n => ⟨by simp [mnew], by rw [mSz_new]; omega⟩
  cases i <;> simp only [mAl] at h <;> first | (cases h; done) | skip
  · split at h
    · split at h
      · cases h; exact key _ _
      · cases h
    · cases h
  · split at h
    · cases h; exact key _ _
    · cases h
  · split at h
    · split at h
      · cases h; exact key _ _
      · cases h
    · cases h
theorem mRe_shape {k : Nat} {i : Instr} {f : mF} {r : mRet} (h : mRe k i f = some r) : r.2 = f.2.2.2 := by
  cases i <;> simp only [mRe] at h <;> first | (cases h; done) | skip
  all_goals (repeat' (first | (cases h; done) | (cases h; rfl) | split at h))
theorem mSz_of {M M' : mM} (h : M'.1 = M.1) : mSz M' = mSz M := by simp [mSz, h]
theorem mrun_mono {X : mX} {E : Nat → List Value → mM → Option mRet} (hE : ∀ j as M r, E j as M = some r → M.1.length ≤ r.2.1.length ∧ mSz M ≤ mSz r.2) {k : Nat} : ∀ (n : Nat) (f : mF) (r : mRet), mrun X E k n f = some r → f.2.2.2.1.length ≤ r.2.1.length ∧ mSz f.2.2.2 ≤ mSz r.2
  | 0, _, _, h => by cases h
  | n + 1, f, r, h => by
    rw [mrun] at h
    split at h
    · cases h
    · rename_i q hq
      split at h
      · rename_i r' hr
        cases h
        rw [mRe_shape hr]
        exact ⟨Nat.le_refl _, Nat.le_refl _⟩
      · split at h
        · rename_i c hc
          split at h
          · cases h
          · rename_i r' hr
            have h1 := mrun_mono hE n _ r h
            have h2 := hE _ _ _ _ hr
            exact ⟨Nat.le_trans h2.1 h1.1, Nat.le_trans h2.2 h1.2⟩
        · split at h
          · rename_i f' hf
            have h1 := mrun_mono hE n _ r h
            have h2 := mAl_shape hf
            exact ⟨by omega, by omega⟩
          · split at h
            · rename_i f' hf
              have h1 := mrun_mono hE n _ r h
              have h2 := mCo_shape hf
              rw [mSz_of h2, h2] at h1
              exact h1
            · cases h
theorem mex_mono {X : mX} {N : Nat} : ∀ (d j : Nat) (as : List Value) (M : mM) (r : mRet), mex X N d j as M = some r → M.1.length ≤ r.2.1.length ∧ mSz M ≤ mSz r.2
  | 0, _, _, _, _, h => by cases h
  | d + 1, j, as, M, r, h => by
    rw [mex] at h
    split at h
    · split at h
      · cases h
      · obtain ⟨v, hv, rfl⟩ := Option.map_eq_some_iff.mp h
        exact ⟨Nat.le_refl _, Nat.le_refl _⟩
    · split at h
      · exact mrun_mono (fun j as M r hr => mex_mono d j as M r hr) N _ r h
      · cases h
theorem lg_sl_tv (ad : Nat → Nat) : ∀ as : List Value, (lg_sl (as.map (tv ad))).length = (lg_sl as).length
  | [] => rfl
  | v :: as => by
    have h := lg_sl_tv ad as
    simp only [lg_sl, List.map_cons, List.flatMap_cons, List.length_append] at h ⊢
    rw [h, tv_cat]
    by_cases hv : v.category = 2 <;> simp [hv]
theorem lv_args_tv (ad : Nat → Nat) : ∀ (i : Nat) (as : List Value), lv_args i (as.map (tv ad)) = mls ad (lv_args i as)
  | _, [] => rfl
  | i, v :: as => by
    simp only [List.map_cons, lv_args, mls, tv_cat]
    rw [lv_args_tv ad _ as]
    rfl
section MSND
variable {p : Program} {l : Launch} {e : Env} {s : State} {m : MethodId} {args : Array Value} {below : List Frame} {meth : Method} {c : Code}
/-- what the callees owe -/
def mOwe (l : Launch) (G : mG) (d : Nat) (E : Nat → List Value → mM → Option mRet) : Prop := ∀ j as M v M', E j as M = some (v, M') → j < 250 ∧ Met l (mm_y j) (mws j) (mrm d (M'.1.length - M.1.length) (mSz M' - mSz M)) (mPc G as M) (mQc G v M') (M'.1.length - M.1.length) (mSz M' - mSz M) (gP G) ∧ M.1.length ≤ M'.1.length ∧ mSz M ≤ mSz M'
set_option maxHeartbeats 2000000 in
theorem snd_run {G : mG} {d k mc ms : Nat} {R : Room} {Q : State → Prop} {E : Nat → List Value → mM → Option mRet} (hE : mOwe l G d E) {cc : ByteArray} (hk : (mm_cd k).all (mRow cc k) = true) 
    (hd1 : d + 1 ≤ R.frames) (hd2 : 60 * d + 60 ≤ R.locals) (hmc : mc ≤ R.cells) (hms : ms ≤ R.slots) (v : Option Value) (M' : mM)
    (hend : ∀ (pc nx : Nat) (i : Instr) (ls : List (Nat × Value)) (st : List Value) (M : mM) (H : Heap) (locs : List Loc) (lsA : Array Slot), mAt G k p R s m args meth c cc mc ms → mHas G k s H locs lsA (pc, ls, st, M) → decode cc pc = .ok (i, mln i (nx - pc)) → mRe k i (pc, ls, st, M) = some (v, M') → W p l e R s m args below meth c H locs mc ms Q (F0 m pc lsA (st.map (tv (gA G))))) : ∀ (n : Nat) (f : mF) (H : Heap) (locs : List Loc) (lsA : Array Slot) (cells slots : Nat), mrun (gX G) E k n f = some (v, M') →
    mAt G k p R s m args meth c cc cells slots → mHas G k s H locs lsA f → s.heap.size + cells = G.1 + f.2.2.2.1.length → cells + (M'.1.length - f.2.2.2.1.length) = mc → slots + (mSz M' - mSz f.2.2.2) = ms →
    W p l e R s m args below meth c H locs cells slots Q (F0 m f.1 lsA (f.2.2.1.map (tv (gA G))))
  | 0, _, _, _, _, _, _, h => by cases h
  | n + 1, (pc, ls, st, M), H, locs, lsA, cells, slots, h => by
    intro hat hh hcnt hmc1 hms1
    have hEm : ∀ j as M r, E j as M = some r → M.1.length ≤ r.2.1.length ∧ mSz M ≤ mSz r.2 := fun j as M r hr => (hE j as M r.1 r.2 hr).2.2
    rw [mrun] at h
    split at h
    · cases h
    · rename_i q hq
      have hrow := List.all_eq_true.mp hk _ (mfind_mem hq)
      simp only [mRow, Bool.and_eq_true, decide_eq_true_eq] at hrow
      obtain ⟨hdg, hnx, hlk⟩ := hrow
      obtain ⟨i, nx, a⟩ := q
      dsimp only at hdg hnx hlk h hmc1 hms1 hcnt
      split at h
      · rename_i r' hr'
        cases h
        have e1 : M' = M := mRe_shape hr'
        subst e1
        have h5 : cells = mc := by simpa using hmc1
        have h6 : slots = ms := by simpa using hms1
        subst h5
        subst h6
        exact hend pc nx i ls st M' H locs lsA hat hh hdg hr'
      · split at h
        · rename_i cal hc
          obtain ⟨j, as, f1⟩ := cal
          split at h
          · cases h
          · rename_i r' hr'
            obtain ⟨v1, M1⟩ := r'
            obtain ⟨hj, hM, hm1, hm2⟩ := hE _ _ _ _ _ hr'
            have h2 := mrun_mono hEm n _ _ h
            dsimp only at h h2 hm1 hm2 hM
            obtain ⟨e1, e2, hW⟩ := snd_ca (d := d) (Q := Q) hat hh hdg hnx hlk hc hM (mm_ml41 hj) hcnt hd1 hd2 (by omega) (by omega) (fun H' locs' g1 g2 => by
              refine snd_run hE hk hd1 hd2 hmc hms v M' hend n (f1.1, f1.2.1, v1.toList ++ f1.2.2.1, M1) H' locs' lsA _ _ h ?_ ⟨g1, g2, ?_⟩ ?_ ?_ ?_
              · obtain ⟨a1, a2, a3, a4, a5, a6, a7, a8, a9, a10, a11⟩ := hat
                exact ⟨a1, a2, a3, a4, a5, a6, a7, a8, a9, by omega, by omega⟩
              · obtain ⟨z1, -, -⟩ := snd_ca0 hc
                show lv_has lsA (mm_ml k) (mls (gA G) f1.2.1)
                rw [z1]
                exact hh.2.2
              · show _ = G.1 + M1.1.length; omega
              · show _ + (M'.1.length - M1.1.length) = _; omega
              · show _ + (mSz M' - mSz M1) = _; omega)
            exact hW
        · split at h
          · rename_i f' hf
            have h1 := mrun_mono hEm n _ _ h
            have h2 := mAl_shape hf
            dsimp only at h1 h2
            refine snd_al hat hh hdg hnx hlk hf hcnt (by omega) (by omega) (fun H' locs' lsB g1 g2 g3 => ?_)
            refine snd_run hE hk hd1 hd2 hmc hms v M' hend n f' H' locs' lsB _ _ h ?_ g3 (by omega) (by omega) (by omega)
            obtain ⟨a1, a2, a3, a4, a5, a6, a7, a8, a9, a10, a11⟩ := hat
            exact ⟨a1, a2, a3, a4, a5, a6, a7, a8, a9, by omega, by omega⟩
          · split at h
            · rename_i f' hf
              have h2 := mCo_shape hf
              dsimp only at h2
              refine snd_co hat hh hdg hnx hlk hf (fun H' locs' lsB g3 => ?_)
              exact snd_run hE hk hd1 hd2 hmc hms v M' hend n f' H' locs' lsB _ _ h hat g3 (by rw [h2]; exact hcnt) (by rw [h2]; exact hmc1) (by rw [mSz_of h2]; exact hms1)
            · cases h
end MSND
set_option maxHeartbeats 2000000 in
/-- THE SMALL MACHINE IS SOUND: what it says of a call, the real machine does -/
theorem snd (l : Launch) (G : mG) (N : Nat) : ∀ d : Nat, mOwe l G d (mex (gX G) N d)
  | 0 => fun j as M v M' h => by cases h
  | d + 1 => fun j as M v M' h => by
    have hmono := mex_mono _ _ _ _ _ h
    rw [mex] at h
    split at h
    · rename_i hj
      split at h
      · cases h
      · rename_i hd
        obtain ⟨w, hw, hw2⟩ := Option.map_eq_some_iff.mp h
        cases hw2
        rw [Nat.sub_self, Nat.sub_self]
        rcases mprim_of hw with ⟨b, rfl, rfl, hb1, hb2, rfl⟩ | ⟨b, x, rfl, rfl, hb1, hb2, hb3, rfl⟩
        · have hi : b - mstr < 8 := Nat.sub_lt_left_of_lt_add hb1 hb2
          have h1 := cs_len l G d hi M
          rw [show mstr + (b - mstr) = b from Nat.add_sub_cancel' hb1] at h1
          exact ⟨by decide, h1, Nat.le_refl _, Nat.le_refl _⟩
        · have hi : b - mstr < 8 := Nat.sub_lt_left_of_lt_add hb1 hb2
          obtain ⟨d', rfl⟩ : ∃ d', d = d' + 2 := ⟨d - 2, by omega⟩
          have h1 := cs_cha l G d' hi (mxin_of hb3) M
          rw [show mstr + (b - mstr) = b from Nat.add_sub_cancel' hb1] at h1
          exact ⟨by decide, h1, Nat.le_refl _, Nat.le_refl _⟩
    · rename_i hj
      split at h
      · rename_i hlen
        refine ⟨by omega, ?_, hmono.1, hmono.2⟩
        obtain ⟨n1, n2, n3, n4, n5, n6, n7⟩ := mm_m_ok (show j < 250 by omega)
        refine Met.ofW (cc := mm_by j) (maxL := mm_ml j) (ret := mm_rt j) n5.2 rfl ?_
        intro p e s m args below meth c s₁ B hml hv
        obtain ⟨rfl, hsz, hWd, E⟩ := hv
        have hts := atoms_spec (ws := mws j) B.pre
        have hgw : ∀ w ∈ mm_gw, w.before _ s = true := fun w hw => hts w (List.mem_cons_of_mem _ hw)
        have hl := lv_entry (as.map (tv (gA G))) (n := mm_ml j) (by rw [lg_sl_tv]; exact hlen)
        rw [lv_args_tv] at hl
        rw [lg_entry_eq]
        generalize (lg_sl (as.map (tv (gA G))) ++ List.replicate (mm_ml j - (lg_sl (as.map (tv (gA G)))).length) Slot.unset).toArray = ls at hl ⊢
        have hown : s.vm.findClass (mm_R (mm_ow j)) = some m.cls := by rw [← n7]; exact findClass_of_methodNamed B.named
        refine snd_run (R := (headSpec (mws j) (mrm (d + 1) (M'.1.length - M.1.length) (mSz M' - mSz M))).room) (snd l G N d) (mk_all (by omega)) (Nat.le_refl _) (by show 60 * d + 60 ≤ 60 * (d + 1); omega) (Nat.le_refl _) (Nat.le_refl _) v M' (fun pc nx i ls st M H locs lsA g1 g2 g3 g4 => (snd_re g1 g2 B.returns B.notSynchronized g3 g4).2) N (0, lv_args 0 as, [], M) s.heap [] ls 0 0 h ?_ ⟨hWd, va_S.rf, hl⟩ (by omega) (Nat.zero_add _) (Nat.zero_add _)
        refine ⟨B.exec, B.bytes, hml, hown, hgw, E, fun h2 => ?_, by show 1 ≤ d + 1; omega, by show 60 ≤ 60 * (d + 1); omega, Nat.zero_le _, Nat.zero_le _⟩
        have h3 := (name_of_methodNamed B.named B.method).1
        rcases n4 with n4 | ⟨-, n4⟩ | ⟨n4, -⟩
        · omega
        · rw [h3]; exact n4
        · omega
      · cases h

