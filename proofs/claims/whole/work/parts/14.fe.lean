def chkL : Nat → List (List (Nat × aEnt)) → Prop
  | _, [] => True
  | k, p :: t => p.all (chk k) = true ∧ chkL (k + 1) t
theorem chkL_get : ∀ {t : List (List (Nat × aEnt))} {k i : Nat} {p : List (Nat × aEnt)}, chkL k t → t[i]? = some p → p.all (chk (k + i)) = true
  | [], _, _, _, _, h => by simp at h
  | p' :: t, k, 0, p, hc, h => by simp at h; subst h; exact hc.1
  | p' :: t, k, i + 1, p, hc, h => by
    have := chkL_get (k := k + 1) (i := i) hc.2 (by simpa using h)
    rw [show k + (i + 1) = k + 1 + i by omega]
    exact this
def mokL : Nat → Nat → Prop
  | _, 0 => True
  | k, n + 1 => mokM Mt k ∧ mokL (k + 1) n
theorem mokL_get : ∀ {n k i : Nat}, mokL k n → i < n → mokM Mt (k + i)
  | 0, _, _, _, h => by omega
  | n + 1, k, 0, hm, _ => hm.1
  | n + 1, k, i + 1, hm, h => by
    have := mokL_get (k := k + 1) (i := i) hm.2 (by omega)
    rw [show k + (i + 1) = k + 1 + i by omega]
    exact this
set_option maxRecDepth 100000 in
theorem ckAll : chkL 0 prgs := ⟨ck_0, ck_1, ck_2, ck_3, ck_4, ck_5, ck_6, ck_7, ck_8, ck_9, ck_10, ck_11, ck_12, ck_13, ck_14, ck_15, ck_16, ck_17, ck_18, ck_19, ck_20, ck_21, ck_22, ck_23, ck_24, ck_25, ck_26, ck_27, ck_28, ck_29, ck_30, ck_31, ck_32, ck_33, ck_34, ck_35, ck_36, ck_37, ck_38, ck_39, ck_40, ck_41, ck_42, ck_43, ck_44, ck_45, ck_46, ck_47, ck_48, ck_49, ck_50, ck_51, ck_52, ck_53, ck_54, ck_55, ck_56, ck_57, ck_58, ck_59, ck_60, ck_61, ck_62, ck_63, ck_64, ck_65, ck_66, ck_67, ck_68, ck_69, ck_70, ck_71, ck_72, ck_73, ck_74, ck_75, ck_76, ck_77, ck_78, ck_79, ck_80, ck_81, ck_82, ck_83, ck_84, ck_85, ck_86, ck_87, ck_88, ck_89, ck_90, ck_91, ck_92, ck_93, ck_94, ck_95, ck_96, ck_97, ck_98, ck_99, ck_100, ck_101, ck_102, ck_103, ck_104, ck_105, ck_106, ck_107, ck_108, ck_109, ck_110, ck_111, ck_112, ck_113, ck_114, ck_115, ck_116, ck_117, ck_118, ck_119, ck_120, ck_121, ck_122, ck_123, ck_124, ck_125, ck_126, ck_127, ck_128, ck_129, ck_130, ck_131, ck_132, ck_133, ck_134, ck_135, ck_136, ck_137, ck_138, ck_139, ck_140, ck_141, ck_142, ck_143, ck_144, ck_145, ck_146, ck_147, ck_148, ck_149, ck_150, ck_151, ck_152, ck_153, ck_154, ck_155, ck_156, ck_157, ck_158, ck_159, ck_160, ck_161, ck_162, ck_163, ck_164, ck_165, ck_166, ck_167, ck_168, ck_169, ck_170, ck_171, ck_172, ck_173, ck_174, ck_175, ck_176, ck_177, ck_178, ck_179, ck_180, ck_181, ck_182, ck_183, ck_184, ck_185, ck_186, ck_187, ck_188, ck_189, ck_190, ck_191, ck_192, ck_193, ck_194, ck_195, ck_196, ck_197, ck_198, ck_199, ck_200, ck_201, ck_202, ck_203, ck_204, ck_205, ck_206, ck_207, ck_208, ck_209, ck_210, ck_211, ck_212, ck_213, ck_214, ck_215, ck_216, ck_217, ck_218, ck_219, ck_220, ck_221, ck_222, ck_223, ck_224, ck_225, ck_226, ck_227, ck_228, ck_229, ck_230, ck_231, ck_232, ck_233, ck_234, ck_235, ck_236, ck_237, ck_238, ck_239, ck_240, ck_241, ck_242, ck_243, ck_244, ck_245, ck_246, trivial⟩
set_option maxRecDepth 100000 in
theorem moAll : mokL 0 246 := ⟨mo_0, mo_1, mo_2, mo_3, mo_4, mo_5, mo_6, mo_7, mo_8, mo_9, mo_10, mo_11, mo_12, mo_13, mo_14, mo_15, mo_16, mo_17, mo_18, mo_19, mo_20, mo_21, mo_22, mo_23, mo_24, mo_25, mo_26, mo_27, mo_28, mo_29, mo_30, mo_31, mo_32, mo_33, mo_34, mo_35, mo_36, mo_37, mo_38, mo_39, mo_40, mo_41, mo_42, mo_43, mo_44, mo_45, mo_46, mo_47, mo_48, mo_49, mo_50, mo_51, mo_52, mo_53, mo_54, mo_55, mo_56, mo_57, mo_58, mo_59, mo_60, mo_61, mo_62, mo_63, mo_64, mo_65, mo_66, mo_67, mo_68, mo_69, mo_70, mo_71, mo_72, mo_73, mo_74, mo_75, mo_76, mo_77, mo_78, mo_79, mo_80, mo_81, mo_82, mo_83, mo_84, mo_85, mo_86, mo_87, mo_88, mo_89, mo_90, mo_91, mo_92, mo_93, mo_94, mo_95, mo_96, mo_97, mo_98, mo_99, mo_100, mo_101, mo_102, mo_103, mo_104, mo_105, mo_106, mo_107, mo_108, mo_109, mo_110, mo_111, mo_112, mo_113, mo_114, mo_115, mo_116, mo_117, mo_118, mo_119, mo_120, mo_121, mo_122, mo_123, mo_124, mo_125, mo_126, mo_127, mo_128, mo_129, mo_130, mo_131, mo_132, mo_133, mo_134, mo_135, mo_136, mo_137, mo_138, mo_139, mo_140, mo_141, mo_142, mo_143, mo_144, mo_145, mo_146, mo_147, mo_148, mo_149, mo_150, mo_151, mo_152, mo_153, mo_154, mo_155, mo_156, mo_157, mo_158, mo_159, mo_160, mo_161, mo_162, mo_163, mo_164, mo_165, mo_166, mo_167, mo_168, mo_169, mo_170, mo_171, mo_172, mo_173, mo_174, mo_175, mo_176, mo_177, mo_178, mo_179, mo_180, mo_181, mo_182, mo_183, mo_184, mo_185, mo_186, mo_187, mo_188, mo_189, mo_190, mo_191, mo_192, mo_193, mo_194, mo_195, mo_196, mo_197, mo_198, mo_199, mo_200, mo_201, mo_202, mo_203, mo_204, mo_205, mo_206, mo_207, mo_208, mo_209, mo_210, mo_211, mo_212, mo_213, mo_214, mo_215, mo_216, mo_217, mo_218, mo_219, mo_220, mo_221, mo_222, mo_223, mo_224, mo_225, mo_226, mo_227, mo_228, mo_229, mo_230, mo_231, mo_232, mo_233, mo_234, mo_235, mo_236, mo_237, mo_238, mo_239, mo_240, mo_241, mo_242, mo_243, mo_244, mo_245, trivial⟩
theorem hfe0 : ∀ y pc e, fe0 y pc = some e → decode (Mt y).2.1 pc = .ok (e.1, e.2.1) ∧ gdl Mt 246 y pc e = true := by
  intro y pc e h
  unfold fe0 at h
  have hm := lk_mem h
  cases hp : prgs[y]? with
  | none =>
    rw [List.getD_eq_getElem?_getD, hp] at hm
    simp at hm
  | some p =>
    rw [List.getD_eq_getElem?_getD, hp] at hm
    have hc := chkL_get ckAll hp
    rw [Nat.zero_add] at hc
    have := List.all_eq_true.mp hc _ hm
    unfold chk at this
    rw [Bool.and_eq_true, decide_eq_true_eq] at this
    exact this
theorem hmo0 : ∀ y, y < 246 → mokM Mt y := by
  intro y h
  have := mokL_get moAll h
  rw [Nat.zero_add] at this
  exact this
noncomputable def Rn (d y : Nat) (q : aCfg) : Option aRes := Run fe0 (fun y => (Mt y).2.2.1) d y q
theorem Rn_sound {G : gG} (l : Launch) {d y : Nat} {q : aCfg} {r : Option Value} {μ1 : aMem} (h : Rn d y q = some (r, μ1)) : RunOK l Mt G d y q r μ1 := by
  obtain ⟨f, hf⟩ := Run_some.mp h
  exact sound l hfe0 hmo0 f d y q r μ1 hf
