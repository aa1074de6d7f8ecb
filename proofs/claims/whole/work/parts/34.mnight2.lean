/-- the first of a line that is no stump -/
def stM (f : Int32 → Int32) (b l q : Int32) : Int32 := zfirst (f (b + 4 + l)) (fun k => !(decide (f (b + 6 + 12 * l + k) < 12 ∧ f (b + 30 + f (b + 6 + 12 * l + k)) = 3))) q
/-- a line of the row moves: what is written, who is called -/
def mwM (f : Int32 → Int32) (b l : Int32) : Int32 → Int32 :=
  if f (b + 4 + l) = 0 then f else if 11 < f (b + 6 + 12 * l + 0) then toM f b l 0 else if stM f b l 0 = -1 then f else
  if 11 < f (b + 6 + 12 * l + stM f b l 0) then f else
  if f (b + 66 + f (b + 6 + 12 * l + stM f b l 0)) + 1 < needM (f (b + 30 + f (b + 6 + 12 * l + stM f b l 0))) then zset f (b + 66 + f (b + 6 + 12 * l + stM f b l 0)) (f (b + 66 + f (b + 6 + 12 * l + stM f b l 0)) + 1) else
  toM (zset (zset f (b + 66 + f (b + 6 + 12 * l + stM f b l 0)) (f (b + 66 + f (b + 6 + 12 * l + stM f b l 0)) + 1)) (b + 54 + f (b + 6 + 12 * l + stM f b l 0)) 1) b l (stM f b l 0)
def mwR (f : Int32 → Int32) (b l : Int32) : Int32 :=
  if f (b + 4 + l) = 0 then 99 else if 11 < f (b + 6 + 12 * l + 0) then 99 else if stM f b l 0 = -1 then 99 else
  if 11 < f (b + 6 + 12 * l + stM f b l 0) then 99 else
  if f (b + 66 + f (b + 6 + 12 * l + stM f b l 0)) + 1 < needM (f (b + 30 + f (b + 6 + 12 * l + stM f b l 0))) then 99 else f (b + 6 + 12 * l + stM f b l 0)
theorem zset_ne {f : Int32 → Int32} {q v k : Int32} (h : k ≠ q) : zset f q v k = f k := if_neg h
theorem zset_at {f : Int32 → Int32} {q v : Int32} : zset f q v q = v := if_pos rfl
theorem zs6 (x : Nat) (y z : Int32) : zsumc [.int y, .ref x] ≤ 8 := by simp [zsumc, Value.category]
section MNIGHTB
variable {Q : Option Value → ZH → Prop} {n : Nat} {tg ln : Nat → Nat} {I : Nat → Int32 → Int32} {J : Nat → Int32 → Int64} {O : Nat → Int32 → Option Nat} {m r : Nat}
theorem c_M_moves_in {b l sz : Int32} {y : Option Value} (h : MSh tg ln O m r) (hb : 0 ≤ b ∧ b ≤ 1080) (hn : MNum (I r) b) (hl : l = 0 ∨ l = 1) (hsz : I r (b + 4 + l) = sz) : ∀ q, 0 ≤ q → q ≤ sz → (Runs 161 43 [some (.ref m), some (.int b), some (.int l), some (.int sz), some (.int q), y] [] (n, tg, ln, I, J, O) Q ↔ Runs 161 90 [some (.ref m), some (.int b), some (.int l), some (.int sz), some (.int (if stM (I r) b l q = -1 then sz else stM (I r) b l q)), y] [] (n, tg, ln, I, J, O) Q) := by
  obtain ⟨t0, o0, t1, l1⟩ := id h
  obtain ⟨hd0, hd1, hd2, hd3⟩ := ixd hb hl
  have il := ixl hb hl
  have hs := (hn l hl).1
  have hc := (hn l hl).2
  unfold stM
  rw [hsz] at hs hc ⊢
  clear hn
  refine zup_ind sz (fun q hq h1 h2 => ?_) (fun q hq ih h1 h2 => ?_)
  · obtain rfl : q = sz := by clear hc; grind
    rw [s161_43]
    simp only [s161_0, s161_0q, s161_1, s161_4, s161_5, s161_6, s161_7, s161_8, s161_9, s161_10, s161_11, s161_12, s161_15, s161_17, s161_18, s161_18q, s161_19, s161_20, s161_21, s161_22, s161_25, s161_27, s161_30, s161_30q, s161_31, s161_32, s161_33, s161_34, s161_37, s161_39, s161_40, s161_41, s161_45, s161_46, s161_49, s161_49q, s161_50, s161_51, s161_52, s161_54, s161_57, s161_59, s161_62, s161_62q, s161_63, s161_66, s161_67, s161_69, s161_70, s161_70q, s161_71, s161_72, s161_73, s161_75, s161_78, s161_79, s161_80, s161_81, s161_84, s161_87, s161_92, s161_93, s161_96, s161_96q, s161_97, s161_98, s161_99, s161_101, s161_104, s161_106, s161_109, s161_111, s161_112, s161_112q, s161_113, s161_114, s161_115, s161_117, s161_120, s161_122, s161_122q, s161_123, s161_126, s161_127, s161_129, s161_130, s161_132, s161_133, s161_134, s161_135, s161_136, s161_137, s161_138, s161_138q, s161_139, s161_142, s161_143, s161_145, s161_146, s161_148, s161_149, s161_150, s161_150q, s161_151, s161_154, s161_155, s161_157, s161_158, s161_160, s161_161, s161_162, s161_165, s161_168, s161_170, s161_171, s161_171q, s161_172, s161_175, s161_176, s161_178, s161_179, s161_181, s161_182, s161_183, s161_184, s161_184q, s161_185, s161_186, s161_187, s161_189, s161_192, s161_194, zdrop_i, zdrop_r, zdrop_n, Int32.le_refl, if_true, zfirst_end hq]
  · rw [s161_43]
    have hq2 : ¬ sz ≤ q := Int32.not_le.mpr hq
    have q12 : q < 12 := by clear ih hc; grind
    have rq := ixq ⟨hd0, hd1⟩ ⟨h1, q12⟩
    have i1 := ih (by clear ih hc; grind) (by clear ih hc; grind)
    have g0 := hc q h1 hq
    have hw := fun (Q : Option Value → ZH → Prop) => @c_M_whatAt Q n tg ln I J O m r b l q h rq
    simp only [s161_0, s161_0q, s161_1, s161_4, s161_5, s161_6, s161_7, s161_8, s161_9, s161_10, s161_11, s161_12, s161_15, s161_17, s161_18, s161_18q, s161_19, s161_20, s161_21, s161_22, s161_25, s161_27, s161_30, s161_30q, s161_31, s161_32, s161_33, s161_34, s161_37, s161_39, s161_40, s161_41, s161_45, s161_46, s161_49, s161_49q, s161_50, s161_51, s161_52, s161_54, s161_57, s161_59, s161_62, s161_62q, s161_63, s161_66, s161_67, s161_69, s161_70, s161_70q, s161_71, s161_72, s161_73, s161_75, s161_78, s161_79, s161_80, s161_81, s161_84, s161_87, s161_92, s161_93, s161_96, s161_96q, s161_97, s161_98, s161_99, s161_101, s161_104, s161_106, s161_109, s161_111, s161_112, s161_112q, s161_113, s161_114, s161_115, s161_117, s161_120, s161_122, s161_122q, s161_123, s161_126, s161_127, s161_129, s161_130, s161_132, s161_133, s161_134, s161_135, s161_136, s161_137, s161_138, s161_138q, s161_139, s161_142, s161_143, s161_145, s161_146, s161_148, s161_149, s161_150, s161_150q, s161_151, s161_154, s161_155, s161_157, s161_158, s161_160, s161_161, s161_162, s161_165, s161_168, s161_170, s161_171, s161_171q, s161_172, s161_175, s161_176, s161_178, s161_179, s161_181, s161_182, s161_183, s161_184, s161_184q, s161_185, s161_186, s161_187, s161_189, s161_192, s161_194, t0, o0, t1, l1, zs0, zs3, tl_some, zrf_some, zdrop_i, zdrop_r, zdrop_n, i32_1170, true_and, if_neg hq2, hw, i1, zfirst_go hq]
    have hqn : ¬ q = -1 := by clear ih i1 hc; grind
    by_cases c1 : I r (b + 6 + 12 * l + q) < 12
    · have x1 := @ix3 b 30 (I r (b + 6 + 12 * l + q)) hb (by decide) ⟨g0, c1⟩
      by_cases c2 : I r (b + 30 + I r (b + 6 + 12 * l + q)) = 3
      · simp only [if_neg (Int32.not_le.mpr c1), x1, true_and, c1, c2, not_true, if_false, decide_true, Bool.not_true, Bool.false_eq_true, and_self]
      · simp only [if_neg (Int32.not_le.mpr c1), x1, true_and, c1, c2, not_false_iff, if_true, decide_false, Bool.not_false, and_false, if_neg hqn]
    · simp only [if_pos (Int32.not_lt.mp c1), c1, false_and, decide_false, Bool.not_false, if_true, if_neg hqn]
end MNIGHTB
