section MPASS
variable {Q : Option Value → ZH → Prop} {n : Nat} {tg ln : Nat → Nat} {I : Nat → Int32 → Int32} {J : Nat → Int32 → Int64} {O : Nat → Int32 → Option Nat} {m r : Nat}
theorem stM_spec {f : Int32 → Int32} {b l : Int32} : stM f b l 0 = -1 ∨ (0 ≤ stM f b l 0 ∧ stM f b l 0 < f (b + 4 + l) ∧ ¬ (f (b + 6 + 12 * l + stM f b l 0) < 12 ∧ f (b + 30 + f (b + 6 + 12 * l + stM f b l 0)) = 3)) := by
  rcases @zfirst_spec (f (b + 4 + l)) (fun k => !(decide (f (b + 6 + 12 * l + k) < 12 ∧ f (b + 30 + f (b + 6 + 12 * l + k)) = 3))) 0 with h | ⟨h1, h2, h3⟩
  · exact Or.inl h
  · refine Or.inr ⟨h1, h2, ?_⟩
    have h4 : (!(decide (f (b + 6 + 12 * l + stM f b l 0) < 12 ∧ f (b + 30 + f (b + 6 + 12 * l + stM f b l 0)) = 3))) = true := h3
    rw [Bool.not_eq_true'] at h4
    exact of_decide_eq_false h4
theorem ixne {b c x l : Int32} (hb : 0 ≤ b ∧ b ≤ 1080) (hc : 30 ≤ c ∧ c ≤ 78) (hx : 0 ≤ x ∧ x < 12) (hl : l = 0 ∨ l = 1) : b + 4 + l ≠ b + c + x := by grind
set_option maxHeartbeats 2000000 in
theorem c_M_moves {b l : Int32} (h : MSh tg ln O m r) (hb : 0 ≤ b ∧ b ≤ 1080) (hn : MNum (I r) b) (hl : l = 0 ∨ l = 1) : Runs 162 0 [some (.ref m), some (.int b), some (.int l), none, none, none] [] (n, tg, ln, I, J, O) Q ↔ Q (some (.int (mwR (I r) b l))) (n, tg, ln, zrow I r (mwM (I r) b l), J, O) := by
  obtain ⟨t0, o0, t1, l1⟩ := id h
  obtain ⟨hd0, hd1, hd2, hd3⟩ := ixd hb hl
  have il := ixl hb hl
  have hs := (hn l hl).1
  have hc := (hn l hl).2
  have rq0 := @ixq _ 0 ⟨hd0, hd1⟩ ⟨by decide, by decide⟩
  have hw := fun (Q : Option Value → ZH → Prop) (I2 : Nat → Int32 → Int32) q rq => @c_M_whatAt Q n tg ln I2 J O m r b l q h rq
  have hw0 := fun Q => hw Q I 0 rq0
  unfold mwM mwR
  by_cases h1 : I r (b + 4 + l) = 0
  · simp only [if_pos h1, zrow_self]
    simp only [s162_0, s162_0q, s162_1, s162_4, s162_5, s162_6, s162_7, s162_8, s162_9, s162_10, s162_11, s162_12, s162_15, s162_17, s162_18, s162_18q, s162_19, s162_20, s162_21, s162_22, s162_25, s162_27, s162_30, s162_30q, s162_31, s162_32, s162_33, s162_34, s162_37, s162_39, s162_40, s162_41, s162_45, s162_46, s162_49, s162_49q, s162_50, s162_51, s162_52, s162_54, s162_57, s162_59, s162_62, s162_62q, s162_63, s162_66, s162_67, s162_69, s162_70, s162_70q, s162_71, s162_72, s162_73, s162_75, s162_78, s162_79, s162_80, s162_81, s162_84, s162_87, s162_90, s162_92, s162_93, s162_96, s162_96q, s162_97, s162_98, s162_99, s162_101, s162_104, s162_106, s162_109, s162_111, s162_112, s162_112q, s162_113, s162_114, s162_115, s162_117, s162_120, s162_122, s162_122q, s162_123, s162_126, s162_127, s162_129, s162_130, s162_132, s162_133, s162_134, s162_135, s162_136, s162_137, s162_138, s162_138q, s162_139, s162_142, s162_143, s162_145, s162_146, s162_148, s162_149, s162_150, s162_150q, s162_151, s162_154, s162_155, s162_157, s162_158, s162_160, s162_161, s162_162, s162_165, s162_168, s162_170, s162_171, s162_171q, s162_172, s162_175, s162_176, s162_178, s162_179, s162_181, s162_182, s162_183, s162_184, s162_184q, s162_185, s162_186, s162_187, s162_189, s162_192, s162_194, t0, o0, t1, l1, zs0, tl_some, zrf_some, zdrop_i, zdrop_r, zdrop_n, i32_1170, il, true_and, h1, not_true, if_false]
  · simp only [if_neg h1]
    by_cases h2 : 11 < I r (b + 6 + 12 * l + 0)
    · have ht := fun (Q : Option Value → ZH → Prop) => @c_M_takeOut Q n tg ln I J O m r b l 0 h hb hl hs.2 ⟨by decide, by clear hn hc; grind⟩
      simp only [if_pos h2]
      simp only [s162_0, s162_0q, s162_1, s162_4, s162_5, s162_6, s162_7, s162_8, s162_9, s162_10, s162_11, s162_12, s162_15, s162_17, s162_18, s162_18q, s162_19, s162_20, s162_21, s162_22, s162_25, s162_27, s162_30, s162_30q, s162_31, s162_32, s162_33, s162_34, s162_37, s162_39, s162_40, s162_41, s162_45, s162_46, s162_49, s162_49q, s162_50, s162_51, s162_52, s162_54, s162_57, s162_59, s162_62, s162_62q, s162_63, s162_66, s162_67, s162_69, s162_70, s162_70q, s162_71, s162_72, s162_73, s162_75, s162_78, s162_79, s162_80, s162_81, s162_84, s162_87, s162_90, s162_92, s162_93, s162_96, s162_96q, s162_97, s162_98, s162_99, s162_101, s162_104, s162_106, s162_109, s162_111, s162_112, s162_112q, s162_113, s162_114, s162_115, s162_117, s162_120, s162_122, s162_122q, s162_123, s162_126, s162_127, s162_129, s162_130, s162_132, s162_133, s162_134, s162_135, s162_136, s162_137, s162_138, s162_138q, s162_139, s162_142, s162_143, s162_145, s162_146, s162_148, s162_149, s162_150, s162_150q, s162_151, s162_154, s162_155, s162_157, s162_158, s162_160, s162_161, s162_162, s162_165, s162_168, s162_170, s162_171, s162_171q, s162_172, s162_175, s162_176, s162_178, s162_179, s162_181, s162_182, s162_183, s162_184, s162_184q, s162_185, s162_186, s162_187, s162_189, s162_192, s162_194, t0, o0, t1, l1, zs0, tl_some, tl_none, zrf_some, zdrop_i, zdrop_r, zdrop_n, i32_1170, il, true_and, h1, not_false_iff, if_true, hw0, if_neg (Int32.not_le.mpr h2), ht]
    · simp only [if_neg h2]
      have hlp := fun (Q : Option Value → ZH → Prop) y => @c_M_moves_in Q n tg ln I J O m r b l (I r (b + 4 + l)) y h hb hn hl rfl 0 (by decide) hs.1
      rcases @stM_spec (I r) b l with h3 | ⟨s0, s1, s2⟩
      · simp only [if_pos h3, zrow_self] at hlp ⊢
        simp only [s162_0, s162_0q, s162_1, s162_4, s162_5, s162_6, s162_7, s162_8, s162_9, s162_10, s162_11, s162_12, s162_15, s162_17, s162_18, s162_18q, s162_19, s162_20, s162_21, s162_22, s162_25, s162_27, s162_30, s162_30q, s162_31, s162_32, s162_33, s162_34, s162_37, s162_39, s162_40, s162_41, s162_45, s162_46, s162_49, s162_49q, s162_50, s162_51, s162_52, s162_54, s162_57, s162_59, s162_62, s162_62q, s162_63, s162_66, s162_67, s162_69, s162_70, s162_70q, s162_71, s162_72, s162_73, s162_75, s162_78, s162_79, s162_80, s162_81, s162_84, s162_87, s162_92, s162_93, s162_96, s162_96q, s162_97, s162_98, s162_99, s162_101, s162_104, s162_106, s162_109, s162_111, s162_112, s162_112q, s162_113, s162_114, s162_115, s162_117, s162_120, s162_122, s162_122q, s162_123, s162_126, s162_127, s162_129, s162_130, s162_132, s162_133, s162_134, s162_135, s162_136, s162_137, s162_138, s162_138q, s162_139, s162_142, s162_143, s162_145, s162_146, s162_148, s162_149, s162_150, s162_150q, s162_151, s162_154, s162_155, s162_157, s162_158, s162_160, s162_161, s162_162, s162_165, s162_168, s162_170, s162_171, s162_171q, s162_172, s162_175, s162_176, s162_178, s162_179, s162_181, s162_182, s162_183, s162_184, s162_184q, s162_185, s162_186, s162_187, s162_189, s162_192, s162_194, t0, o0, t1, l1, zs0, tl_some, tl_none, zrf_some, zdrop_i, zdrop_r, zdrop_n, i32_1170, il, true_and, h1, not_false_iff, if_true, hw0, if_pos (Int32.not_lt.mp h2), hlp]
        rw [s162_90]
        simp only [s162_0, s162_0q, s162_1, s162_4, s162_5, s162_6, s162_7, s162_8, s162_9, s162_10, s162_11, s162_12, s162_15, s162_17, s162_18, s162_18q, s162_19, s162_20, s162_21, s162_22, s162_25, s162_27, s162_30, s162_30q, s162_31, s162_32, s162_33, s162_34, s162_37, s162_39, s162_40, s162_41, s162_45, s162_46, s162_49, s162_49q, s162_50, s162_51, s162_52, s162_54, s162_57, s162_59, s162_62, s162_62q, s162_63, s162_66, s162_67, s162_69, s162_70, s162_70q, s162_71, s162_72, s162_73, s162_75, s162_78, s162_79, s162_80, s162_81, s162_84, s162_87, s162_92, s162_93, s162_96, s162_96q, s162_97, s162_98, s162_99, s162_101, s162_104, s162_106, s162_109, s162_111, s162_112, s162_112q, s162_113, s162_114, s162_115, s162_117, s162_120, s162_122, s162_122q, s162_123, s162_126, s162_127, s162_129, s162_130, s162_132, s162_133, s162_134, s162_135, s162_136, s162_137, s162_138, s162_138q, s162_139, s162_142, s162_143, s162_145, s162_146, s162_148, s162_149, s162_150, s162_150q, s162_151, s162_154, s162_155, s162_157, s162_158, s162_160, s162_161, s162_162, s162_165, s162_168, s162_170, s162_171, s162_171q, s162_172, s162_175, s162_176, s162_178, s162_179, s162_181, s162_182, s162_183, s162_184, s162_184q, s162_185, s162_186, s162_187, s162_189, s162_192, s162_194, zdrop_i, zdrop_r, zdrop_n, if_true]
      · have h3 : ¬ stM (I r) b l 0 = -1 := by clear hn hc hlp; grind
        simp only [if_neg h3] at hlp ⊢
        generalize stM (I r) b l 0 = q at *
        have q12 : q < 12 := by clear hn hc hlp; grind
        have rq := ixq ⟨hd0, hd1⟩ ⟨s0, q12⟩
        have g0 := hc q s0 s1
        have hqz : ¬ q = I r (b + 4 + l) := by clear hn hc hlp; grind
        have hwq := fun Q => hw Q I q rq
        by_cases h4 : 11 < I r (b + 6 + 12 * l + q)
        · simp only [if_pos h4, zrow_self]
          simp only [s162_0, s162_0q, s162_1, s162_4, s162_5, s162_6, s162_7, s162_8, s162_9, s162_10, s162_11, s162_12, s162_15, s162_17, s162_18, s162_18q, s162_19, s162_20, s162_21, s162_22, s162_25, s162_27, s162_30, s162_30q, s162_31, s162_32, s162_33, s162_34, s162_37, s162_39, s162_40, s162_41, s162_45, s162_46, s162_49, s162_49q, s162_50, s162_51, s162_52, s162_54, s162_57, s162_59, s162_62, s162_62q, s162_63, s162_66, s162_67, s162_69, s162_70, s162_70q, s162_71, s162_72, s162_73, s162_75, s162_78, s162_79, s162_80, s162_81, s162_84, s162_87, s162_92, s162_93, s162_96, s162_96q, s162_97, s162_98, s162_99, s162_101, s162_104, s162_106, s162_109, s162_111, s162_112, s162_112q, s162_113, s162_114, s162_115, s162_117, s162_120, s162_122, s162_122q, s162_123, s162_126, s162_127, s162_129, s162_130, s162_132, s162_133, s162_134, s162_135, s162_136, s162_137, s162_138, s162_138q, s162_139, s162_142, s162_143, s162_145, s162_146, s162_148, s162_149, s162_150, s162_150q, s162_151, s162_154, s162_155, s162_157, s162_158, s162_160, s162_161, s162_162, s162_165, s162_168, s162_170, s162_171, s162_171q, s162_172, s162_175, s162_176, s162_178, s162_179, s162_181, s162_182, s162_183, s162_184, s162_184q, s162_185, s162_186, s162_187, s162_189, s162_192, s162_194, t0, o0, t1, l1, zs0, tl_some, tl_none, zrf_some, zdrop_i, zdrop_r, zdrop_n, i32_1170, il, true_and, h1, not_false_iff, if_true, hw0, if_pos (Int32.not_lt.mp h2), hlp]
          rw [s162_90]
          simp only [s162_0, s162_0q, s162_1, s162_4, s162_5, s162_6, s162_7, s162_8, s162_9, s162_10, s162_11, s162_12, s162_15, s162_17, s162_18, s162_18q, s162_19, s162_20, s162_21, s162_22, s162_25, s162_27, s162_30, s162_30q, s162_31, s162_32, s162_33, s162_34, s162_37, s162_39, s162_40, s162_41, s162_45, s162_46, s162_49, s162_49q, s162_50, s162_51, s162_52, s162_54, s162_57, s162_59, s162_62, s162_62q, s162_63, s162_66, s162_67, s162_69, s162_70, s162_70q, s162_71, s162_72, s162_73, s162_75, s162_78, s162_79, s162_80, s162_81, s162_84, s162_87, s162_92, s162_93, s162_96, s162_96q, s162_97, s162_98, s162_99, s162_101, s162_104, s162_106, s162_109, s162_111, s162_112, s162_112q, s162_113, s162_114, s162_115, s162_117, s162_120, s162_122, s162_122q, s162_123, s162_126, s162_127, s162_129, s162_130, s162_132, s162_133, s162_134, s162_135, s162_136, s162_137, s162_138, s162_138q, s162_139, s162_142, s162_143, s162_145, s162_146, s162_148, s162_149, s162_150, s162_150q, s162_151, s162_154, s162_155, s162_157, s162_158, s162_160, s162_161, s162_162, s162_165, s162_168, s162_170, s162_171, s162_171q, s162_172, s162_175, s162_176, s162_178, s162_179, s162_181, s162_182, s162_183, s162_184, s162_184q, s162_185, s162_186, s162_187, s162_189, s162_192, s162_194, t0, zs0, tl_some, zrf_some, zdrop_i, zdrop_r, zdrop_n, hqz, if_false, hwq, if_neg (Int32.not_le.mpr h4)]
        · simp only [if_neg h4]
          generalize htt : I r (b + 6 + 12 * l + q) = t at *
          have tr : 0 ≤ t ∧ t < 12 := ⟨g0, by clear hn hc hlp; grind⟩
          have x1 := @ix3 b 66 t hb (by decide) tr
          have x2 := @ix3 b 30 t hb (by decide) tr
          have x3 := @ix3 b 54 t hb (by decide) tr
          have n1 : b + 30 + t ≠ b + 66 + t := by clear hn hc hlp; grind
          have n2 := @ixne b 66 t l hb (by decide) tr hl
          have n3 := @ixne b 54 t l hb (by decide) tr hl
          generalize hF : zset (zset (I r) (b + 66 + t) (I r (b + 66 + t) + 1)) (b + 54 + t) 1 = F
          have eF : F (b + 4 + l) = I r (b + 4 + l) := by rw [← hF, zset_ne n3, zset_ne n2]
          have ht := fun (Q : Option Value → ZH → Prop) => @c_M_takeOut Q n tg ln (zrow I r F) J O m r b l q h hb hl (by rw [zrow_at, eF]; exact hs.2) (by rw [zrow_at, eF]; exact ⟨s0, s1⟩)
          have hnd := fun (Q : Option Value → ZH → Prop) (x : Int32) (hh : ZH) => @c_M_needs Q x hh
          simp only [s162_0, s162_0q, s162_1, s162_4, s162_5, s162_6, s162_7, s162_8, s162_9, s162_10, s162_11, s162_12, s162_15, s162_17, s162_18, s162_18q, s162_19, s162_20, s162_21, s162_22, s162_25, s162_27, s162_30, s162_30q, s162_31, s162_32, s162_33, s162_34, s162_37, s162_39, s162_40, s162_41, s162_45, s162_46, s162_49, s162_49q, s162_50, s162_51, s162_52, s162_54, s162_57, s162_59, s162_62, s162_62q, s162_63, s162_66, s162_67, s162_69, s162_70, s162_70q, s162_71, s162_72, s162_73, s162_75, s162_78, s162_79, s162_80, s162_81, s162_84, s162_87, s162_92, s162_93, s162_96, s162_96q, s162_97, s162_98, s162_99, s162_101, s162_104, s162_106, s162_109, s162_111, s162_112, s162_112q, s162_113, s162_114, s162_115, s162_117, s162_120, s162_122, s162_122q, s162_123, s162_126, s162_127, s162_129, s162_130, s162_132, s162_133, s162_134, s162_135, s162_136, s162_137, s162_138, s162_138q, s162_139, s162_142, s162_143, s162_145, s162_146, s162_148, s162_149, s162_150, s162_150q, s162_151, s162_154, s162_155, s162_157, s162_158, s162_160, s162_161, s162_162, s162_165, s162_168, s162_170, s162_171, s162_171q, s162_172, s162_175, s162_176, s162_178, s162_179, s162_181, s162_182, s162_183, s162_184, s162_184q, s162_185, s162_186, s162_187, s162_189, s162_192, s162_194, t0, o0, t1, l1, zs0, tl_some, tl_none, zrf_some, zdrop_i, zdrop_r, zdrop_n, i32_1170, il, true_and, h1, not_false_iff, if_true, hw0, if_pos (Int32.not_lt.mp h2), hlp]
          rw [s162_90]
          simp only [s162_0, s162_0q, s162_1, s162_4, s162_5, s162_6, s162_7, s162_8, s162_9, s162_10, s162_11, s162_12, s162_15, s162_17, s162_18, s162_18q, s162_19, s162_20, s162_21, s162_22, s162_25, s162_27, s162_30, s162_30q, s162_31, s162_32, s162_33, s162_34, s162_37, s162_39, s162_40, s162_41, s162_45, s162_46, s162_49, s162_49q, s162_50, s162_51, s162_52, s162_54, s162_57, s162_59, s162_62, s162_62q, s162_63, s162_66, s162_67, s162_69, s162_70, s162_70q, s162_71, s162_72, s162_73, s162_75, s162_78, s162_79, s162_80, s162_81, s162_84, s162_87, s162_92, s162_93, s162_96, s162_96q, s162_97, s162_98, s162_99, s162_101, s162_104, s162_106, s162_109, s162_111, s162_112, s162_112q, s162_113, s162_114, s162_115, s162_117, s162_120, s162_122, s162_122q, s162_123, s162_126, s162_127, s162_129, s162_130, s162_132, s162_133, s162_134, s162_135, s162_136, s162_137, s162_138, s162_138q, s162_139, s162_142, s162_143, s162_145, s162_146, s162_148, s162_149, s162_150, s162_150q, s162_151, s162_154, s162_155, s162_157, s162_158, s162_160, s162_161, s162_162, s162_165, s162_168, s162_170, s162_171, s162_171q, s162_172, s162_175, s162_176, s162_178, s162_179, s162_181, s162_182, s162_183, s162_184, s162_184q, s162_185, s162_186, s162_187, s162_189, s162_192, s162_194, t0, o0, t1, l1, zs0, zs1, tl_some, tl_none, zrf_some, zdrop_i, zdrop_r, zdrop_n, i32_1170, true_and, hqz, if_false, hwq, if_pos (Int32.not_lt.mp h4), x1, x2, x3, zu_row0, zrow_at, zrow_zrow, zset_at, zset_ne n1, hnd, hF, ht]
          unfold needM
          by_cases h5 : I r (b + 66 + t) + 1 < (if I r (b + 30 + t) = 3 then 0 else if I r (b + 30 + t) = 4 then 3 else if I r (b + 30 + t) = 2 then 2 else 1)
          · simp only [if_neg (Int32.not_le.mpr h5), if_pos h5]
          · simp only [if_pos (Int32.not_lt.mp h5), if_neg h5]
theorem pushA_all {P : Int32 → Prop} {hi : Int32} {sw : Int32 → Int32 → Bool} {f : Int32 → Int32} (hf : ∀ k, 0 ≤ k → k < hi → P (f k)) : ∀ k, 0 ≤ k → k < hi → P (pushA hi sw f k) := by
  have key : ∀ q, 1 ≤ q → ∀ g : Int32 → Int32, (∀ k, 0 ≤ k → k < hi → P (g k)) → ∀ k, 0 ≤ k → k < hi → P (zfor hi (fun q f => if sw (f q) (f (q - 1)) then zswap f q else f) q g k) := by
    refine zup_ind hi (fun q hq _ g hg => ?_) (fun q hq ih h1 g hg => ?_)
    · rw [zfor_end hq]; exact hg
    · rw [zfor_go hq]
      refine ih (by clear ih hf hg; grind) _ ?_
      split
      · intro k k0 k1
        unfold zswap
        split
        · exact hg q (by clear ih hf hg; grind) hq
        split
        · exact hg (q - 1) (by clear ih hf hg; grind) (by clear ih hf hg; grind)
        · exact hg k k0 k1
      · exact hg
  exact key 1 (by decide) f hf
/-- nights of the row -/
def puM (f : Int32 → Int32) (b l : Int32) : Int32 → Int32 := zsl f (b + 6 + 12 * l) 12 (pushA (f (b + 4 + l)) (swM f b) (fun k => f (b + 6 + 12 * l + k)))
theorem puM_o {f : Int32 → Int32} {b l k : Int32} (h : k < b + 6 + 12 * l ∨ b + 6 + 12 * l + 12 ≤ k) : puM f b l k = f k := zsl_out h
theorem MNum.push {f : Int32 → Int32} {b l : Int32} (hb : 0 ≤ b ∧ b ≤ 1080) (hl : l = 0 ∨ l = 1) (hn : MNum f b) : MNum (puM f b l) b := by
  intro l2 hl2
  obtain ⟨a0, a1, a2, a3⟩ := ixd hb hl
  obtain ⟨b0, b1, b2, b3⟩ := ixd hb hl2
  have e1 : puM f b l (b + 4 + l2) = f (b + 4 + l2) := puM_o (Or.inl (by
    rcases hl with rfl | rfl <;> rcases hl2 with rfl | rfl <;> simp only [show (12 : Int32) * 0 = 0 from rfl, show (12 : Int32) * 1 = 12 from rfl] <;> clear hn a0 a1 a2 a3 b0 b1 b2 b3 <;> grind))
  rw [e1]
  refine ⟨(hn l2 hl2).1, fun k k0 k1 => ?_⟩
  have hs2 := (hn l2 hl2).1
  have k12 : k < 12 := by clear hn; grind
  by_cases he : l2 = l
  · subst he
    unfold puM
    rw [zsl_in ⟨a0, by clear hn; grind⟩ (by decide) k0 k12]
    exact pushA_all (P := fun x => 0 ≤ x) (hn l2 hl2).2 k k0 k1
  · rw [puM_o (by
      rcases hl with rfl | rfl <;> rcases hl2 with rfl | rfl <;> simp only [show (12 : Int32) * 0 = 0 from rfl, show (12 : Int32) * 1 = 12 from rfl] at * <;> clear hn <;> grind)]
    exact (hn l2 hl2).2 k k0 k1
def ppM (f : Int32 → Int32) (b : Int32) : Int32 → Int32 := puM (puM f b 0) b 1
def pgM (f : Int32 → Int32) (b : Int32) : Int32 → Int32 := if wayM (ppM f b) b = -1 then ppM f b else mwM (ppM f b) b (wayM (ppM f b) b)
def phM (f : Int32 → Int32) (b : Int32) : Int32 → Int32 := if pgM f b (b + 1) = 0 ∧ ¬ wayM (ppM f b) b = -1 then zset (pgM f b) (b + 3) (1 - wayM (ppM f b) b) else pgM f b
def paM (f : Int32 → Int32) (b : Int32) : Int32 → Int32 := zset (phM f b) (b + 2) (phM f b (b + 2) + 1)
def paR (f : Int32 → Int32) (b : Int32) : Int32 := if wayM (ppM f b) b = -1 then 99 else mwR (ppM f b) b (wayM (ppM f b) b)
theorem wayM_or {f : Int32 → Int32} {b : Int32} (ht : f (b + 3) = 0 ∨ f (b + 3) = 1) : wayM f b = -1 ∨ wayM f b = 0 ∨ wayM f b = 1 := by
  unfold wayM
  generalize f (b + 4 + f (b + 3)) = z1
  generalize f (b + 3) = z2 at *
  generalize f (b + 4 + 1) = z3
  generalize f (b + 4) = z4
  generalize f (b + 1) = z5
  generalize frM f b 0 = z6
  generalize frM f b 1 = z7
  grind
set_option maxHeartbeats 2000000 in
theorem c_M_passes {b : Int32} (h : MSh tg ln O m r) (hb : 0 ≤ b ∧ b ≤ 1080) (hn : MNum (I r) b) (ht : I r (b + 3) = 0 ∨ I r (b + 3) = 1) : Runs 163 0 [some (.ref m), some (.int b), none, none] [] (n, tg, ln, I, J, O) Q ↔ Q (some (.int (paR (I r) b))) (n, tg, ln, zrow I r (paM (I r) b), J, O) := by
  obtain ⟨t0, o0, t1, l1⟩ := id h
  have n1 := MNum.push hb (Or.inl rfl) hn
  have n2 := MNum.push hb (Or.inr rfl) n1
  have e3 : ppM (I r) b (b + 3) = I r (b + 3) := by
    unfold ppM
    rw [puM_o (Or.inl (by rw [show (12 : Int32) * 1 = 12 from rfl]; clear hn n1 n2; grind)), puM_o (Or.inl (by rw [show (12 : Int32) * 0 = 0 from rfl]; clear hn n1 n2; grind))]
  have p0 : ∀ (Q : Option Value → ZH → Prop), (Runs 158 0 [some (.ref m), some (.int b), some (.int 0), none, none, none, none] [] (n, tg, ln, I, J, O) Q ↔ Q none (n, tg, ln, zrow I r (puM (I r) b 0), J, O)) := fun Q => @c_M_pushIn Q n tg ln I J O m r b 0 h hb (Or.inl rfl) (hn 0 (Or.inl rfl)).1 (hn 0 (Or.inl rfl)).2
  have p1 : ∀ (Q : Option Value → ZH → Prop), (Runs 158 0 [some (.ref m), some (.int b), some (.int 1), none, none, none, none] [] (n, tg, ln, zrow I r (puM (I r) b 0), J, O) Q ↔ Q none (n, tg, ln, zrow I r (ppM (I r) b), J, O)) := fun Q => by
    have := @c_M_pushIn Q n tg ln (zrow I r (puM (I r) b 0)) J O m r b 1 h hb (Or.inr rfl) (by rw [zrow_at]; exact (n1 1 (Or.inr rfl)).1) (by rw [zrow_at]; exact (n1 1 (Or.inr rfl)).2)
    rw [zrow_at, zrow_zrow] at this
    exact this
  have hwy : ∀ (Q : Option Value → ZH → Prop), (Runs 160 0 [some (.ref m), some (.int b), none, none, none] [] (n, tg, ln, zrow I r (ppM (I r) b), J, O) Q ↔ Q (some (.int (wayM (ppM (I r) b) b))) (n, tg, ln, zrow I r (ppM (I r) b), J, O)) := fun Q => by
    have := @c_M_wayOf Q n tg ln (zrow I r (ppM (I r) b)) J O m r b h hb (by rw [zrow_at]; exact n2) (by rw [zrow_at, e3]; exact ht)
    rw [zrow_at] at this
    exact this
  have hor := @wayM_or (ppM (I r) b) b (by rw [e3]; exact ht)
  have i1 : 0 ≤ b + 1 ∧ b + 1 < 1170 := by clear hn n1 n2; grind
  have i2 : 0 ≤ b + 2 ∧ b + 2 < 1170 := by clear hn n1 n2; grind
  have i3 : 0 ≤ b + 3 ∧ b + 3 < 1170 := by clear hn n1 n2; grind
  unfold paM paR phM pgM
  by_cases hw : wayM (ppM (I r) b) b = -1
  · simp only [hw, not_true, and_false, if_false, if_true]
    simp only [s163_0, s163_0q, s163_1, s163_2, s163_3, s163_6, s163_6q, s163_7, s163_8, s163_9, s163_12, s163_12q, s163_13, s163_14, s163_17, s163_18, s163_19, s163_20, s163_23, s163_25, s163_28, s163_28q, s163_29, s163_30, s163_31, s163_34, s163_35, s163_35q, s163_36, s163_39, s163_40, s163_41, s163_42, s163_43, s163_46, s163_47, s163_48, s163_51, s163_51q, s163_52, s163_55, s163_56, s163_57, s163_58, s163_59, s163_60, s163_61, s163_62, s163_62q, s163_63, s163_66, s163_67, s163_68, s163_69, s163_70, s163_71, s163_72, s163_73, s163_74, s163_75, t0, o0, t1, l1, zs0, tl_some, tl_none, zrf_some, zdrop_i, zdrop_r, zdrop_n, i32_1170, true_and, p0, p1, hwy, hw, not_true, if_false, if_true, i1, i2, i3, zrow_at, zu_zrow, ite_self]
  · have hm : ∀ (Q : Option Value → ZH → Prop), (Runs 162 0 [some (.ref m), some (.int b), some (.int (wayM (ppM (I r) b) b)), none, none, none] [] (n, tg, ln, zrow I r (ppM (I r) b), J, O) Q ↔ Q (some (.int (mwR (ppM (I r) b) b (wayM (ppM (I r) b) b)))) (n, tg, ln, zrow I r (mwM (ppM (I r) b) b (wayM (ppM (I r) b) b)), J, O)) := fun Q => by
      have := @c_M_moves Q n tg ln (zrow I r (ppM (I r) b)) J O m r b (wayM (ppM (I r) b) b) h hb (by rw [zrow_at]; exact n2) (hor.resolve_left hw)
      rw [zrow_at, zrow_zrow] at this
      exact this
    simp only [hw, not_false_iff, and_true, if_false, if_true]
    by_cases hg : mwM (ppM (I r) b) b (wayM (ppM (I r) b) b) (b + 1) = 0
    · simp only [s163_0, s163_0q, s163_1, s163_2, s163_3, s163_6, s163_6q, s163_7, s163_8, s163_9, s163_12, s163_12q, s163_13, s163_14, s163_17, s163_18, s163_19, s163_20, s163_23, s163_25, s163_28, s163_28q, s163_29, s163_30, s163_31, s163_34, s163_35, s163_35q, s163_36, s163_39, s163_40, s163_41, s163_42, s163_43, s163_46, s163_47, s163_48, s163_51, s163_51q, s163_52, s163_55, s163_56, s163_57, s163_58, s163_59, s163_60, s163_61, s163_62, s163_62q, s163_63, s163_66, s163_67, s163_68, s163_69, s163_70, s163_71, s163_72, s163_73, s163_74, s163_75, t0, o0, t1, l1, zs0, tl_some, tl_none, zrf_some, zdrop_i, zdrop_r, zdrop_n, i32_1170, true_and, p0, p1, hwy, hw, hm, hg, not_true, not_false_iff, if_false, if_true, i1, i2, i3, zrow_at, zu_zrow]
    · simp only [s163_0, s163_0q, s163_1, s163_2, s163_3, s163_6, s163_6q, s163_7, s163_8, s163_9, s163_12, s163_12q, s163_13, s163_14, s163_17, s163_18, s163_19, s163_20, s163_23, s163_25, s163_28, s163_28q, s163_29, s163_30, s163_31, s163_34, s163_35, s163_35q, s163_36, s163_39, s163_40, s163_41, s163_42, s163_43, s163_46, s163_47, s163_48, s163_51, s163_51q, s163_52, s163_55, s163_56, s163_57, s163_58, s163_59, s163_60, s163_61, s163_62, s163_62q, s163_63, s163_66, s163_67, s163_68, s163_69, s163_70, s163_71, s163_72, s163_73, s163_74, s163_75, t0, o0, t1, l1, zs0, tl_some, tl_none, zrf_some, zdrop_i, zdrop_r, zdrop_n, i32_1170, true_and, p0, p1, hwy, hw, hm, hg, not_true, not_false_iff, if_false, if_true, i1, i2, i3, zrow_at, zu_zrow]
end MPASS
