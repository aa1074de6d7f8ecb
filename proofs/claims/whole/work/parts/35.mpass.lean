section MPASS
variable {Q : Option Value → ZH → Prop} {n : Nat} {tg ln : Nat → Nat} {I : Nat → Int32 → Int32} {J : Nat → Int32 → Int64} {O : Nat → Int32 → Option Nat} {m r : Nat}
theorem stM_spec {f : Int32 → Int32} {b l : Int32} : stM f b l 0 = -1 ∨ (0 ≤ stM f b l 0 ∧ stM f b l 0 < f (b + 4 + l) ∧ ¬ (f (b + 6 + 12 * l + stM f b l 0) < 12 ∧ f (b + 30 + f (b + 6 + 12 * l + stM f b l 0)) = 3)) := by
  rcases @zfirst_spec (f (b + 4 + l)) (fun k => !(decide (f (b + 6 + 12 * l + k) < 12 ∧ f (b + 30 + f (b + 6 + 12 * l + k)) = 3))) 0 with h | ⟨h1, h2, h3⟩
  · exact Or.inl h
  · refine Or.inr ⟨h1, h2, ?_⟩
    have h4 : (!(decide (f (b + 6 + 12 * l + stM f b l 0) < 12 ∧ f (b + 30 + f (b + 6 + 12 * l + stM f b l 0)) = 3))) = true := h3
    rw [Bool.not_eq_true'] at h4
    exact of_decide_eq_false h4
theorem ixne {b c x l : Int32} (hb : 0 ≤ b ∧ b ≤ 1080) (hc : 30 ≤ c ∧ c ≤ 78) (hx : 0 ≤ x ∧ x < 12) (hl : l = 0 ∨ l = 1) : b + 4 + l ≠ b + c + x := by grind
set_option maxHeartbeats 2000000 in
theorem c_M_moves {b l : Int32} (h : MSh tg ln O m r) (hb : 0 ≤ b ∧ b ≤ 1080) (hn : MNum (I r) b) (hl : l = 0 ∨ l = 1) : Runs 161 0 [some (.ref m), some (.int b), some (.int l), none, none, none] [] (n, tg, ln, I, J, O) Q ↔ Q (some (.int (mwR (I r) b l))) (n, tg, ln, zrow I r (mwM (I r) b l), J, O) := by
  obtain ⟨t0, o0, t1, l1⟩ := id h
  obtain ⟨hd0, hd1, hd2, hd3⟩ := ixd hb hl
  have il := ixl hb hl
  have hs := (hn l hl).1
  have hc := (hn l hl).2
  have rq0 := @ixq _ 0 ⟨hd0, hd1⟩ ⟨by decide, by decide⟩
  have hw := fun (Q : Option Value → ZH → Prop) (I2 : Nat → Int32 → Int32) q rq => @c_M_whatAt Q n tg ln I2 J O m r b l q h rq
  have hw0 := fun Q => hw Q I 0 rq0
  unfold mwM mwR
  by_cases h1 : I r (b + 4 + l) = 0
  · simp only [if_pos h1, zrow_self]
    simp only [s161_0, s161_0q, s161_1, s161_4, s161_5, s161_6, s161_7, s161_8, s161_9, s161_10, s161_11, s161_12, s161_15, s161_17, s161_18, s161_18q, s161_19, s161_20, s161_21, s161_22, s161_25, s161_27, s161_30, s161_30q, s161_31, s161_32, s161_33, s161_34, s161_37, s161_39, s161_40, s161_41, s161_45, s161_46, s161_49, s161_49q, s161_50, s161_51, s161_52, s161_54, s161_57, s161_59, s161_62, s161_62q, s161_63, s161_66, s161_67, s161_69, s161_70, s161_70q, s161_71, s161_72, s161_73, s161_75, s161_78, s161_79, s161_80, s161_81, s161_84, s161_87, s161_90, s161_92, s161_93, s161_96, s161_96q, s161_97, s161_98, s161_99, s161_101, s161_104, s161_106, s161_109, s161_111, s161_112, s161_112q, s161_113, s161_114, s161_115, s161_117, s161_120, s161_122, s161_122q, s161_123, s161_126, s161_127, s161_129, s161_130, s161_132, s161_133, s161_134, s161_135, s161_136, s161_137, s161_138, s161_138q, s161_139, s161_142, s161_143, s161_145, s161_146, s161_148, s161_149, s161_150, s161_150q, s161_151, s161_154, s161_155, s161_157, s161_158, s161_160, s161_161, s161_162, s161_165, s161_168, s161_170, s161_171, s161_171q, s161_172, s161_175, s161_176, s161_178, s161_179, s161_181, s161_182, s161_183, s161_184, s161_184q, s161_185, s161_186, s161_187, s161_189, s161_192, s161_194, t0, o0, t1, l1, zs0, tl_some, zrf_some, zdrop_i, zdrop_r, zdrop_n, i32_1170, il, true_and, h1, not_true, if_false]
  · simp only [if_neg h1]
    by_cases h2 : 11 < I r (b + 6 + 12 * l + 0)
    · have ht := fun (Q : Option Value → ZH → Prop) => @c_M_takeOut Q n tg ln I J O m r b l 0 h hb hl hs.2 ⟨by decide, by clear hn hc; grind⟩
      simp only [if_pos h2]
      simp only [s161_0, s161_0q, s161_1, s161_4, s161_5, s161_6, s161_7, s161_8, s161_9, s161_10, s161_11, s161_12, s161_15, s161_17, s161_18, s161_18q, s161_19, s161_20, s161_21, s161_22, s161_25, s161_27, s161_30, s161_30q, s161_31, s161_32, s161_33, s161_34, s161_37, s161_39, s161_40, s161_41, s161_45, s161_46, s161_49, s161_49q, s161_50, s161_51, s161_52, s161_54, s161_57, s161_59, s161_62, s161_62q, s161_63, s161_66, s161_67, s161_69, s161_70, s161_70q, s161_71, s161_72, s161_73, s161_75, s161_78, s161_79, s161_80, s161_81, s161_84, s161_87, s161_90, s161_92, s161_93, s161_96, s161_96q, s161_97, s161_98, s161_99, s161_101, s161_104, s161_106, s161_109, s161_111, s161_112, s161_112q, s161_113, s161_114, s161_115, s161_117, s161_120, s161_122, s161_122q, s161_123, s161_126, s161_127, s161_129, s161_130, s161_132, s161_133, s161_134, s161_135, s161_136, s161_137, s161_138, s161_138q, s161_139, s161_142, s161_143, s161_145, s161_146, s161_148, s161_149, s161_150, s161_150q, s161_151, s161_154, s161_155, s161_157, s161_158, s161_160, s161_161, s161_162, s161_165, s161_168, s161_170, s161_171, s161_171q, s161_172, s161_175, s161_176, s161_178, s161_179, s161_181, s161_182, s161_183, s161_184, s161_184q, s161_185, s161_186, s161_187, s161_189, s161_192, s161_194, t0, o0, t1, l1, zs0, tl_some, tl_none, zrf_some, zdrop_i, zdrop_r, zdrop_n, i32_1170, il, true_and, h1, not_false_iff, if_true, hw0, if_neg (Int32.not_le.mpr h2), ht]
    · simp only [if_neg h2]
      have hlp := fun (Q : Option Value → ZH → Prop) y => @c_M_moves_in Q n tg ln I J O m r b l (I r (b + 4 + l)) y h hb hn hl rfl 0 (by decide) hs.1
      rcases @stM_spec (I r) b l with h3 | ⟨s0, s1, s2⟩
      · simp only [if_pos h3, zrow_self] at hlp ⊢
        simp only [s161_0, s161_0q, s161_1, s161_4, s161_5, s161_6, s161_7, s161_8, s161_9, s161_10, s161_11, s161_12, s161_15, s161_17, s161_18, s161_18q, s161_19, s161_20, s161_21, s161_22, s161_25, s161_27, s161_30, s161_30q, s161_31, s161_32, s161_33, s161_34, s161_37, s161_39, s161_40, s161_41, s161_45, s161_46, s161_49, s161_49q, s161_50, s161_51, s161_52, s161_54, s161_57, s161_59, s161_62, s161_62q, s161_63, s161_66, s161_67, s161_69, s161_70, s161_70q, s161_71, s161_72, s161_73, s161_75, s161_78, s161_79, s161_80, s161_81, s161_84, s161_87, s161_92, s161_93, s161_96, s161_96q, s161_97, s161_98, s161_99, s161_101, s161_104, s161_106, s161_109, s161_111, s161_112, s161_112q, s161_113, s161_114, s161_115, s161_117, s161_120, s161_122, s161_122q, s161_123, s161_126, s161_127, s161_129, s161_130, s161_132, s161_133, s161_134, s161_135, s161_136, s161_137, s161_138, s161_138q, s161_139, s161_142, s161_143, s161_145, s161_146, s161_148, s161_149, s161_150, s161_150q, s161_151, s161_154, s161_155, s161_157, s161_158, s161_160, s161_161, s161_162, s161_165, s161_168, s161_170, s161_171, s161_171q, s161_172, s161_175, s161_176, s161_178, s161_179, s161_181, s161_182, s161_183, s161_184, s161_184q, s161_185, s161_186, s161_187, s161_189, s161_192, s161_194, t0, o0, t1, l1, zs0, tl_some, tl_none, zrf_some, zdrop_i, zdrop_r, zdrop_n, i32_1170, il, true_and, h1, not_false_iff, if_true, hw0, if_pos (Int32.not_lt.mp h2), hlp]
        rw [s161_90]
        simp only [s161_0, s161_0q, s161_1, s161_4, s161_5, s161_6, s161_7, s161_8, s161_9, s161_10, s161_11, s161_12, s161_15, s161_17, s161_18, s161_18q, s161_19, s161_20, s161_21, s161_22, s161_25, s161_27, s161_30, s161_30q, s161_31, s161_32, s161_33, s161_34, s161_37, s161_39, s161_40, s161_41, s161_45, s161_46, s161_49, s161_49q, s161_50, s161_51, s161_52, s161_54, s161_57, s161_59, s161_62, s161_62q, s161_63, s161_66, s161_67, s161_69, s161_70, s161_70q, s161_71, s161_72, s161_73, s161_75, s161_78, s161_79, s161_80, s161_81, s161_84, s161_87, s161_92, s161_93, s161_96, s161_96q, s161_97, s161_98, s161_99, s161_101, s161_104, s161_106, s161_109, s161_111, s161_112, s161_112q, s161_113, s161_114, s161_115, s161_117, s161_120, s161_122, s161_122q, s161_123, s161_126, s161_127, s161_129, s161_130, s161_132, s161_133, s161_134, s161_135, s161_136, s161_137, s161_138, s161_138q, s161_139, s161_142, s161_143, s161_145, s161_146, s161_148, s161_149, s161_150, s161_150q, s161_151, s161_154, s161_155, s161_157, s161_158, s161_160, s161_161, s161_162, s161_165, s161_168, s161_170, s161_171, s161_171q, s161_172, s161_175, s161_176, s161_178, s161_179, s161_181, s161_182, s161_183, s161_184, s161_184q, s161_185, s161_186, s161_187, s161_189, s161_192, s161_194, zdrop_i, zdrop_r, zdrop_n, if_true]
      · have h3 : ¬ stM (I r) b l 0 = -1 := by clear hn hc hlp; grind
        simp only [if_neg h3] at hlp ⊢
        generalize stM (I r) b l 0 = q at *
        have q12 : q < 12 := by clear hn hc hlp; grind
        have rq := ixq ⟨hd0, hd1⟩ ⟨s0, q12⟩
        have g0 := hc q s0 s1
        have hqz : ¬ q = I r (b + 4 + l) := by clear hn hc hlp; grind
        have hwq := fun Q => hw Q I q rq
        by_cases h4 : 11 < I r (b + 6 + 12 * l + q)
        · simp only [if_pos h4, zrow_self]
          simp only [s161_0, s161_0q, s161_1, s161_4, s161_5, s161_6, s161_7, s161_8, s161_9, s161_10, s161_11, s161_12, s161_15, s161_17, s161_18, s161_18q, s161_19, s161_20, s161_21, s161_22, s161_25, s161_27, s161_30, s161_30q, s161_31, s161_32, s161_33, s161_34, s161_37, s161_39, s161_40, s161_41, s161_45, s161_46, s161_49, s161_49q, s161_50, s161_51, s161_52, s161_54, s161_57, s161_59, s161_62, s161_62q, s161_63, s161_66, s161_67, s161_69, s161_70, s161_70q, s161_71, s161_72, s161_73, s161_75, s161_78, s161_79, s161_80, s161_81, s161_84, s161_87, s161_92, s161_93, s161_96, s161_96q, s161_97, s161_98, s161_99, s161_101, s161_104, s161_106, s161_109, s161_111, s161_112, s161_112q, s161_113, s161_114, s161_115, s161_117, s161_120, s161_122, s161_122q, s161_123, s161_126, s161_127, s161_129, s161_130, s161_132, s161_133, s161_134, s161_135, s161_136, s161_137, s161_138, s161_138q, s161_139, s161_142, s161_143, s161_145, s161_146, s161_148, s161_149, s161_150, s161_150q, s161_151, s161_154, s161_155, s161_157, s161_158, s161_160, s161_161, s161_162, s161_165, s161_168, s161_170, s161_171, s161_171q, s161_172, s161_175, s161_176, s161_178, s161_179, s161_181, s161_182, s161_183, s161_184, s161_184q, s161_185, s161_186, s161_187, s161_189, s161_192, s161_194, t0, o0, t1, l1, zs0, tl_some, tl_none, zrf_some, zdrop_i, zdrop_r, zdrop_n, i32_1170, il, true_and, h1, not_false_iff, if_true, hw0, if_pos (Int32.not_lt.mp h2), hlp]
          rw [s161_90]
          simp only [s161_0, s161_0q, s161_1, s161_4, s161_5, s161_6, s161_7, s161_8, s161_9, s161_10, s161_11, s161_12, s161_15, s161_17, s161_18, s161_18q, s161_19, s161_20, s161_21, s161_22, s161_25, s161_27, s161_30, s161_30q, s161_31, s161_32, s161_33, s161_34, s161_37, s161_39, s161_40, s161_41, s161_45, s161_46, s161_49, s161_49q, s161_50, s161_51, s161_52, s161_54, s161_57, s161_59, s161_62, s161_62q, s161_63, s161_66, s161_67, s161_69, s161_70, s161_70q, s161_71, s161_72, s161_73, s161_75, s161_78, s161_79, s161_80, s161_81, s161_84, s161_87, s161_92, s161_93, s161_96, s161_96q, s161_97, s161_98, s161_99, s161_101, s161_104, s161_106, s161_109, s161_111, s161_112, s161_112q, s161_113, s161_114, s161_115, s161_117, s161_120, s161_122, s161_122q, s161_123, s161_126, s161_127, s161_129, s161_130, s161_132, s161_133, s161_134, s161_135, s161_136, s161_137, s161_138, s161_138q, s161_139, s161_142, s161_143, s161_145, s161_146, s161_148, s161_149, s161_150, s161_150q, s161_151, s161_154, s161_155, s161_157, s161_158, s161_160, s161_161, s161_162, s161_165, s161_168, s161_170, s161_171, s161_171q, s161_172, s161_175, s161_176, s161_178, s161_179, s161_181, s161_182, s161_183, s161_184, s161_184q, s161_185, s161_186, s161_187, s161_189, s161_192, s161_194, t0, zs0, tl_some, zrf_some, zdrop_i, zdrop_r, zdrop_n, hqz, if_false, hwq, if_neg (Int32.not_le.mpr h4)]
        · simp only [if_neg h4]
          generalize htt : I r (b + 6 + 12 * l + q) = t at *
          have tr : 0 ≤ t ∧ t < 12 := ⟨g0, by clear hn hc hlp; grind⟩
          have x1 := @ix3 b 66 t hb (by decide) tr
          have x2 := @ix3 b 30 t hb (by decide) tr
          have x3 := @ix3 b 54 t hb (by decide) tr
          have n1 : b + 30 + t ≠ b + 66 + t := by clear hn hc hlp; grind
          have n2 := @ixne b 66 t l hb (by decide) tr hl
          have n3 := @ixne b 54 t l hb (by decide) tr hl
          generalize hF : zset (zset (I r) (b + 66 + t) (I r (b + 66 + t) + 1)) (b + 54 + t) 1 = F
          have eF : F (b + 4 + l) = I r (b + 4 + l) := by rw [← hF, zset_ne n3, zset_ne n2]
          have ht := fun (Q : Option Value → ZH → Prop) => @c_M_takeOut Q n tg ln (zrow I r F) J O m r b l q h hb hl (by rw [zrow_at, eF]; exact hs.2) (by rw [zrow_at, eF]; exact ⟨s0, s1⟩)
          have hnd := fun (Q : Option Value → ZH → Prop) (x : Int32) (hh : ZH) => @c_M_needs Q x hh
          simp only [s161_0, s161_0q, s161_1, s161_4, s161_5, s161_6, s161_7, s161_8, s161_9, s161_10, s161_11, s161_12, s161_15, s161_17, s161_18, s161_18q, s161_19, s161_20, s161_21, s161_22, s161_25, s161_27, s161_30, s161_30q, s161_31, s161_32, s161_33, s161_34, s161_37, s161_39, s161_40, s161_41, s161_45, s161_46, s161_49, s161_49q, s161_50, s161_51, s161_52, s161_54, s161_57, s161_59, s161_62, s161_62q, s161_63, s161_66, s161_67, s161_69, s161_70, s161_70q, s161_71, s161_72, s161_73, s161_75, s161_78, s161_79, s161_80, s161_81, s161_84, s161_87, s161_92, s161_93, s161_96, s161_96q, s161_97, s161_98, s161_99, s161_101, s161_104, s161_106, s161_109, s161_111, s161_112, s161_112q, s161_113, s161_114, s161_115, s161_117, s161_120, s161_122, s161_122q, s161_123, s161_126, s161_127, s161_129, s161_130, s161_132, s161_133, s161_134, s161_135, s161_136, s161_137, s161_138, s161_138q, s161_139, s161_142, s161_143, s161_145, s161_146, s161_148, s161_149, s161_150, s161_150q, s161_151, s161_154, s161_155, s161_157, s161_158, s161_160, s161_161, s161_162, s161_165, s161_168, s161_170, s161_171, s161_171q, s161_172, s161_175, s161_176, s161_178, s161_179, s161_181, s161_182, s161_183, s161_184, s161_184q, s161_185, s161_186, s161_187, s161_189, s161_192, s161_194, t0, o0, t1, l1, zs0, tl_some, tl_none, zrf_some, zdrop_i, zdrop_r, zdrop_n, i32_1170, il, true_and, h1, not_false_iff, if_true, hw0, if_pos (Int32.not_lt.mp h2), hlp]
          rw [s161_90]
          simp only [s161_0, s161_0q, s161_1, s161_4, s161_5, s161_6, s161_7, s161_8, s161_9, s161_10, s161_11, s161_12, s161_15, s161_17, s161_18, s161_18q, s161_19, s161_20, s161_21, s161_22, s161_25, s161_27, s161_30, s161_30q, s161_31, s161_32, s161_33, s161_34, s161_37, s161_39, s161_40, s161_41, s161_45, s161_46, s161_49, s161_49q, s161_50, s161_51, s161_52, s161_54, s161_57, s161_59, s161_62, s161_62q, s161_63, s161_66, s161_67, s161_69, s161_70, s161_70q, s161_71, s161_72, s161_73, s161_75, s161_78, s161_79, s161_80, s161_81, s161_84, s161_87, s161_92, s161_93, s161_96, s161_96q, s161_97, s161_98, s161_99, s161_101, s161_104, s161_106, s161_109, s161_111, s161_112, s161_112q, s161_113, s161_114, s161_115, s161_117, s161_120, s161_122, s161_122q, s161_123, s161_126, s161_127, s161_129, s161_130, s161_132, s161_133, s161_134, s161_135, s161_136, s161_137, s161_138, s161_138q, s161_139, s161_142, s161_143, s161_145, s161_146, s161_148, s161_149, s161_150, s161_150q, s161_151, s161_154, s161_155, s161_157, s161_158, s161_160, s161_161, s161_162, s161_165, s161_168, s161_170, s161_171, s161_171q, s161_172, s161_175, s161_176, s161_178, s161_179, s161_181, s161_182, s161_183, s161_184, s161_184q, s161_185, s161_186, s161_187, s161_189, s161_192, s161_194, t0, o0, t1, l1, zs0, zs1, tl_some, tl_none, zrf_some, zdrop_i, zdrop_r, zdrop_n, i32_1170, true_and, hqz, if_false, hwq, if_pos (Int32.not_lt.mp h4), x1, x2, x3, zu_row0, zrow_at, zrow_zrow, zset_at, zset_ne n1, hnd, hF, ht]
          unfold needM
          by_cases h5 : I r (b + 66 + t) + 1 < (if I r (b + 30 + t) = 3 then 0 else if I r (b + 30 + t) = 4 then 3 else if I r (b + 30 + t) = 2 then 2 else 1)
          · simp only [if_neg (Int32.not_le.mpr h5), if_pos h5]
          · simp only [if_pos (Int32.not_lt.mp h5), if_neg h5]
theorem pushA_all {P : Int32 → Prop} {hi : Int32} {sw : Int32 → Int32 → Bool} {f : Int32 → Int32} (hf : ∀ k, 0 ≤ k → k < hi → P (f k)) : ∀ k, 0 ≤ k → k < hi → P (pushA hi sw f k) := by
  have key : ∀ q, 1 ≤ q → ∀ g : Int32 → Int32, (∀ k, 0 ≤ k → k < hi → P (g k)) → ∀ k, 0 ≤ k → k < hi → P (zfor hi (fun q f => if sw (f q) (f (q - 1)) then zswap f q else f) q g k) := by
    refine zup_ind hi (fun q hq _ g hg => ?_) (fun q hq ih h1 g hg => ?_)
    · rw [zfor_end hq]; exact hg
    · rw [zfor_go hq]
      refine ih (by clear ih hf hg; grind) _ ?_
      split
      · intro k k0 k1
        unfold zswap
        split
        · exact hg q (by clear ih hf hg; grind) hq
        split
        · exact hg (q - 1) (by clear ih hf hg; grind) (by clear ih hf hg; grind)
        · exact hg k k0 k1
      · exact hg
  exact key 1 (by decide) f hf
/-- nights of the row -/
def puM (f : Int32 → Int32) (b l : Int32) : Int32 → Int32 := zsl f (b + 6 + 12 * l) 12 (pushA (f (b + 4 + l)) (swM f b) (fun k => f (b + 6 + 12 * l + k)))
theorem puM_o {f : Int32 → Int32} {b l k : Int32} (h : k < b + 6 + 12 * l ∨ b + 6 + 12 * l + 12 ≤ k) : puM f b l k = f k := zsl_out h
theorem MNum.push {f : Int32 → Int32} {b l : Int32} (hb : 0 ≤ b ∧ b ≤ 1080) (hl : l = 0 ∨ l = 1) (hn : MNum f b) : MNum (puM f b l) b := by
  intro l2 hl2
  obtain ⟨a0, a1, a2, a3⟩ := ixd hb hl
  obtain ⟨b0, b1, b2, b3⟩ := ixd hb hl2
  have e1 : puM f b l (b + 4 + l2) = f (b + 4 + l2) := puM_o (Or.inl (by
    rcases hl with rfl | rfl <;> rcases hl2 with rfl | rfl <;> simp only [show (12 : Int32) * 0 = 0 from rfl, show (12 : Int32) * 1 = 12 from rfl] <;> clear hn a0 a1 a2 a3 b0 b1 b2 b3 <;> grind))
  rw [e1]
  refine ⟨(hn l2 hl2).1, fun k k0 k1 => ?_⟩
  have hs2 := (hn l2 hl2).1
  have k12 : k < 12 := by clear hn; grind
  by_cases he : l2 = l
  · subst he
    unfold puM
    rw [zsl_in ⟨a0, by clear hn; grind⟩ (by decide) k0 k12]
    exact pushA_all (P := fun x => 0 ≤ x) (hn l2 hl2).2 k k0 k1
  · rw [puM_o (by
      rcases hl with rfl | rfl <;> rcases hl2 with rfl | rfl <;> simp only [show (12 : Int32) * 0 = 0 from rfl, show (12 : Int32) * 1 = 12 from rfl] at * <;> clear hn <;> grind)]
    exact (hn l2 hl2).2 k k0 k1
def ppM (f : Int32 → Int32) (b : Int32) : Int32 → Int32 := puM (puM f b 0) b 1
def pgM (f : Int32 → Int32) (b : Int32) : Int32 → Int32 := if wayM (ppM f b) b = -1 then ppM f b else mwM (ppM f b) b (wayM (ppM f b) b)
def phM (f : Int32 → Int32) (b : Int32) : Int32 → Int32 := if pgM f b (b + 1) = 0 ∧ ¬ wayM (ppM f b) b = -1 then zset (pgM f b) (b + 3) (1 - wayM (ppM f b) b) else pgM f b
def paM (f : Int32 → Int32) (b : Int32) : Int32 → Int32 := zset (phM f b) (b + 2) (phM f b (b + 2) + 1)
def paR (f : Int32 → Int32) (b : Int32) : Int32 := if wayM (ppM f b) b = -1 then 99 else mwR (ppM f b) b (wayM (ppM f b) b)
theorem wayM_or {f : Int32 → Int32} {b : Int32} (ht : f (b + 3) = 0 ∨ f (b + 3) = 1) : wayM f b = -1 ∨ wayM f b = 0 ∨ wayM f b = 1 := by
  unfold wayM
  generalize f (b + 4 + f (b + 3)) = z1
  generalize f (b + 3) = z2 at *
  generalize f (b + 4 + 1) = z3
  generalize f (b + 4) = z4
  generalize f (b + 1) = z5
  generalize frM f b 0 = z6
  generalize frM f b 1 = z7
  grind
set_option maxHeartbeats 2000000 in
theorem c_M_passes {b : Int32} (h : MSh tg ln O m r) (hb : 0 ≤ b ∧ b ≤ 1080) (hn : MNum (I r) b) (ht : I r (b + 3) = 0 ∨ I r (b + 3) = 1) : Runs 162 0 [some (.ref m), some (.int b), none, none] [] (n, tg, ln, I, J, O) Q ↔ Q (some (.int (paR (I r) b))) (n, tg, ln, zrow I r (paM (I r) b), J, O) := by
  obtain ⟨t0, o0, t1, l1⟩ := id h
  have n1 := MNum.push hb (Or.inl rfl) hn
  have n2 := MNum.push hb (Or.inr rfl) n1
  have e3 : ppM (I r) b (b + 3) = I r (b + 3) := by
    unfold ppM
    rw [puM_o (Or.inl (by rw [show (12 : Int32) * 1 = 12 from rfl]; clear hn n1 n2; grind)), puM_o (Or.inl (by rw [show (12 : Int32) * 0 = 0 from rfl]; clear hn n1 n2; grind))]
  have p0 : ∀ (Q : Option Value → ZH → Prop), (Runs 157 0 [some (.ref m), some (.int b), some (.int 0), none, none, none, none] [] (n, tg, ln, I, J, O) Q ↔ Q none (n, tg, ln, zrow I r (puM (I r) b 0), J, O)) := fun Q => @c_M_pushIn Q n tg ln I J O m r b 0 h hb (Or.inl rfl) (hn 0 (Or.inl rfl)).1 (hn 0 (Or.inl rfl)).2
  have p1 : ∀ (Q : Option Value → ZH → Prop), (Runs 157 0 [some (.ref m), some (.int b), some (.int 1), none, none, none, none] [] (n, tg, ln, zrow I r (puM (I r) b 0), J, O) Q ↔ Q none (n, tg, ln, zrow I r (ppM (I r) b), J, O)) := fun Q => by
    have := @c_M_pushIn Q n tg ln (zrow I r (puM (I r) b 0)) J O m r b 1 h hb (Or.inr rfl) (by rw [zrow_at]; exact (n1 1 (Or.inr rfl)).1) (by rw [zrow_at]; exact (n1 1 (Or.inr rfl)).2)
    rw [zrow_at, zrow_zrow] at this
    exact this
  have hwy : ∀ (Q : Option Value → ZH → Prop), (Runs 159 0 [some (.ref m), some (.int b), none, none, none] [] (n, tg, ln, zrow I r (ppM (I r) b), J, O) Q ↔ Q (some (.int (wayM (ppM (I r) b) b))) (n, tg, ln, zrow I r (ppM (I r) b), J, O)) := fun Q => by
    have := @c_M_wayOf Q n tg ln (zrow I r (ppM (I r) b)) J O m r b h hb (by rw [zrow_at]; exact n2) (by rw [zrow_at, e3]; exact ht)
    rw [zrow_at] at this
    exact this
  have hor := @wayM_or (ppM (I r) b) b (by rw [e3]; exact ht)
  have i1 : 0 ≤ b + 1 ∧ b + 1 < 1170 := by clear hn n1 n2; grind
  have i2 : 0 ≤ b + 2 ∧ b + 2 < 1170 := by clear hn n1 n2; grind
  have i3 : 0 ≤ b + 3 ∧ b + 3 < 1170 := by clear hn n1 n2; grind
  unfold paM paR phM pgM
  by_cases hw : wayM (ppM (I r) b) b = -1
  · simp only [hw, not_true, and_false, if_false, if_true]
    simp only [s162_0, s162_0q, s162_1, s162_2, s162_3, s162_6, s162_6q, s162_7, s162_8, s162_9, s162_12, s162_12q, s162_13, s162_14, s162_17, s162_18, s162_19, s162_20, s162_23, s162_25, s162_28, s162_28q, s162_29, s162_30, s162_31, s162_34, s162_35, s162_35q, s162_36, s162_39, s162_40, s162_41, s162_42, s162_43, s162_46, s162_47, s162_48, s162_51, s162_51q, s162_52, s162_55, s162_56, s162_57, s162_58, s162_59, s162_60, s162_61, s162_62, s162_62q, s162_63, s162_66, s162_67, s162_68, s162_69, s162_70, s162_71, s162_72, s162_73, s162_74, s162_75, t0, o0, t1, l1, zs0, tl_some, tl_none, zrf_some, zdrop_i, zdrop_r, zdrop_n, i32_1170, true_and, p0, p1, hwy, hw, not_true, if_false, if_true, i1, i2, i3, zrow_at, zu_zrow, ite_self]
  · have hm : ∀ (Q : Option Value → ZH → Prop), (Runs 161 0 [some (.ref m), some (.int b), some (.int (wayM (ppM (I r) b) b)), none, none, none] [] (n, tg, ln, zrow I r (ppM (I r) b), J, O) Q ↔ Q (some (.int (mwR (ppM (I r) b) b (wayM (ppM (I r) b) b)))) (n, tg, ln, zrow I r (mwM (ppM (I r) b) b (wayM (ppM (I r) b) b)), J, O)) := fun Q => by
      have := @c_M_moves Q n tg ln (zrow I r (ppM (I r) b)) J O m r b (wayM (ppM (I r) b) b) h hb (by rw [zrow_at]; exact n2) (hor.resolve_left hw)
      rw [zrow_at, zrow_zrow] at this
      exact this
    simp only [hw, not_false_iff, and_true, if_false, if_true]
    by_cases hg : mwM (ppM (I r) b) b (wayM (ppM (I r) b) b) (b + 1) = 0
    · simp only [s162_0, s162_0q, s162_1, s162_2, s162_3, s162_6, s162_6q, s162_7, s162_8, s162_9, s162_12, s162_12q, s162_13, s162_14, s162_17, s162_18, s162_19, s162_20, s162_23, s162_25, s162_28, s162_28q, s162_29, s162_30, s162_31, s162_34, s162_35, s162_35q, s162_36, s162_39, s162_40, s162_41, s162_42, s162_43, s162_46, s162_47, s162_48, s162_51, s162_51q, s162_52, s162_55, s162_56, s162_57, s162_58, s162_59, s162_60, s162_61, s162_62, s162_62q, s162_63, s162_66, s162_67, s162_68, s162_69, s162_70, s162_71, s162_72, s162_73, s162_74, s162_75, t0, o0, t1, l1, zs0, tl_some, tl_none, zrf_some, zdrop_i, zdrop_r, zdrop_n, i32_1170, true_and, p0, p1, hwy, hw, hm, hg, not_true, not_false_iff, if_false, if_true, i1, i2, i3, zrow_at, zu_zrow]
    · simp only [s162_0, s162_0q, s162_1, s162_2, s162_3, s162_6, s162_6q, s162_7, s162_8, s162_9, s162_12, s162_12q, s162_13, s162_14, s162_17, s162_18, s162_19, s162_20, s162_23, s162_25, s162_28, s162_28q, s162_29, s162_30, s162_31, s162_34, s162_35, s162_35q, s162_36, s162_39, s162_40, s162_41, s162_42, s162_43, s162_46, s162_47, s162_48, s162_51, s162_51q, s162_52, s162_55, s162_56, s162_57, s162_58, s162_59, s162_60, s162_61, s162_62, s162_62q, s162_63, s162_66, s162_67, s162_68, s162_69, s162_70, s162_71, s162_72, s162_73, s162_74, s162_75, t0, o0, t1, l1, zs0, tl_some, tl_none, zrf_some, zdrop_i, zdrop_r, zdrop_n, i32_1170, true_and, p0, p1, hwy, hw, hm, hg, not_true, not_false_iff, if_false, if_true, i1, i2, i3, zrow_at, zu_zrow]
end MPASS
