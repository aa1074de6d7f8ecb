/-- the first of a line that is no stump -/
def stM (f : Int32 → Int32) (b l q : Int32) : Int32 := zfirst (f (b + 4 + l)) (fun k => !(decide (f (b + 6 + 12 * l + k) < 12 ∧ f (b + 30 + f (b + 6 + 12 * l + k)) = 3))) q
/-- a line of the row moves: what is written, who is called -/
def mwM (f : Int32 → Int32) (b l : Int32) : Int32 → Int32 :=
  if f (b + 4 + l) = 0 then f else if 11 < f (b + 6 + 12 * l + 0) then toM f b l 0 else if stM f b l 0 = -1 then f else
  if 11 < f (b + 6 + 12 * l + stM f b l 0) then f else
  if f (b + 66 + f (b + 6 + 12 * l + stM f b l 0)) + 1 < needM (f (b + 30 + f (b + 6 + 12 * l + stM f b l 0))) then zset f (b + 66 + f (b + 6 + 12 * l + stM f b l 0)) (f (b + 66 + f (b + 6 + 12 * l + stM f b l 0)) + 1) else
  toM (zset (zset f (b + 66 + f (b + 6 + 12 * l + stM f b l 0)) (f (b + 66 + f (b + 6 + 12 * l + stM f b l 0)) + 1)) (b + 54 + f (b + 6 + 12 * l + stM f b l 0)) 1) b l (stM f b l 0)
def mwR (f : Int32 → Int32) (b l : Int32) : Int32 :=
  if f (b + 4 + l) = 0 then 99 else if 11 < f (b + 6 + 12 * l + 0) then 99 else if stM f b l 0 = -1 then 99 else
  if 11 < f (b + 6 + 12 * l + stM f b l 0) then 99 else
  if f (b + 66 + f (b + 6 + 12 * l + stM f b l 0)) + 1 < needM (f (b + 30 + f (b + 6 + 12 * l + stM f b l 0))) then 99 else f (b + 6 + 12 * l + stM f b l 0)
theorem zset_ne {f : Int32 → Int32} {q v k : Int32} (h : k ≠ q) : zset f q v k = f k := if_neg h
theorem zset_at {f : Int32 → Int32} {q v : Int32} : zset f q v q = v := if_pos rfl
theorem zs6 (x : Nat) (y z : Int32) : zsumc [.int y, .ref x] ≤ 8 := by simp [zsumc, Value.category]
section MNIGHTB
variable {Q : Option Value → ZH → Prop} {n : Nat} {tg ln : Nat → Nat} {I : Nat → Int32 → Int32} {J : Nat → Int32 → Int64} {O : Nat → Int32 → Option Nat} {m r : Nat}
theorem c_M_moves_in {b l sz : Int32} {y : Option Value} (h : MSh tg ln O m r) (hb : 0 ≤ b ∧ b ≤ 1080) (hn : MNum (I r) b) (hl : l = 0 ∨ l = 1) (hsz : I r (b + 4 + l) = sz) : ∀ q, 0 ≤ q → q ≤ sz → (Runs 162 43 [some (.ref m), some (.int b), some (.int l), some (.int sz), some (.int q), y] [] (n, tg, ln, I, J, O) Q ↔ Runs 162 90 [some (.ref m), some (.int b), some (.int l), some (.int sz), some (.int (if stM (I r) b l q = -1 then sz else stM (I r) b l q)), y] [] (n, tg, ln, I, J, O) Q) := by
  obtain ⟨t0, o0, t1, l1⟩ := id h
  obtain ⟨hd0, hd1, hd2, hd3⟩ := ixd hb hl
  have il := ixl hb hl
  have hs := (hn l hl).1
  have hc := (hn l hl).2
  unfold stM
  rw [hsz] at hs hc ⊢
  clear hn
  refine zup_ind sz (fun q hq h1 h2 => ?_) (fun q hq ih h1 h2 => ?_)
  · obtain rfl : q = sz := by clear hc; grind
    rw [s162_43]
    simp only [s162_0, s162_0q, s162_1, s162_4, s162_5, s162_6, s162_7, s162_8, s162_9, s162_10, s162_11, s162_12, s162_15, s162_17, s162_18, s162_18q, s162_19, s162_20, s162_21, s162_22, s162_25, s162_27, s162_30, s162_30q, s162_31, s162_32, s162_33, s162_34, s162_37, s162_39, s162_40, s162_41, s162_45, s162_46, s162_49, s162_49q, s162_50, s162_51, s162_52, s162_54, s162_57, s162_59, s162_62, s162_62q, s162_63, s162_66, s162_67, s162_69, s162_70, s162_70q, s162_71, s162_72, s162_73, s162_75, s162_78, s162_79, s162_80, s162_81, s162_84, s162_87, s162_92, s162_93, s162_96, s162_96q, s162_97, s162_98, s162_99, s162_101, s162_104, s162_106, s162_109, s162_111, s162_112, s162_112q, s162_113, s162_114, s162_115, s162_117, s162_120, s162_122, s162_122q, s162_123, s162_126, s162_127, s162_129, s162_130, s162_132, s162_133, s162_134, s162_135, s162_136, s162_137, s162_138, s162_138q, s162_139, s162_142, s162_143, s162_145, s162_146, s162_148, s162_149, s162_150, s162_150q, s162_151, s162_154, s162_155, s162_157, s162_158, s162_160, s162_161, s162_162, s162_165, s162_168, s162_170, s162_171, s162_171q, s162_172, s162_175, s162_176, s162_178, s162_179, s162_181, s162_182, s162_183, s162_184, s162_184q, s162_185, s162_186, s162_187, s162_189, s162_192, s162_194, zdrop_i, zdrop_r, zdrop_n, Int32.le_refl, if_true, zfirst_end hq]
  · rw [s162_43]
    have hq2 : ¬ sz ≤ q := Int32.not_le.mpr hq
    have q12 : q < 12 := by clear ih hc; grind
    have rq := ixq ⟨hd0, hd1⟩ ⟨h1, q12⟩
    have i1 := ih (by clear ih hc; grind) (by clear ih hc; grind)
    have g0 := hc q h1 hq
    have hw := fun (Q : Option Value → ZH → Prop) => @c_M_whatAt Q n tg ln I J O m r b l q h rq
    simp only [s162_0, s162_0q, s162_1, s162_4, s162_5, s162_6, s162_7, s162_8, s162_9, s162_10, s162_11, s162_12, s162_15, s162_17, s162_18, s162_18q, s162_19, s162_20, s162_21, s162_22, s162_25, s162_27, s162_30, s162_30q, s162_31, s162_32, s162_33, s162_34, s162_37, s162_39, s162_40, s162_41, s162_45, s162_46, s162_49, s162_49q, s162_50, s162_51, s162_52, s162_54, s162_57, s162_59, s162_62, s162_62q, s162_63, s162_66, s162_67, s162_69, s162_70, s162_70q, s162_71, s162_72, s162_73, s162_75, s162_78, s162_79, s162_80, s162_81, s162_84, s162_87, s162_92, s162_93, s162_96, s162_96q, s162_97, s162_98, s162_99, s162_101, s162_104, s162_106, s162_109, s162_111, s162_112, s162_112q, s162_113, s162_114, s162_115, s162_117, s162_120, s162_122, s162_122q, s162_123, s162_126, s162_127, s162_129, s162_130, s162_132, s162_133, s162_134, s162_135, s162_136, s162_137, s162_138, s162_138q, s162_139, s162_142, s162_143, s162_145, s162_146, s162_148, s162_149, s162_150, s162_150q, s162_151, s162_154, s162_155, s162_157, s162_158, s162_160, s162_161, s162_162, s162_165, s162_168, s162_170, s162_171, s162_171q, s162_172, s162_175, s162_176, s162_178, s162_179, s162_181, s162_182, s162_183, s162_184, s162_184q, s162_185, s162_186, s162_187, s162_189, s162_192, s162_194, t0, o0, t1, l1, zs0, zs3, tl_some, zrf_some, zdrop_i, zdrop_r, zdrop_n, i32_1170, true_and, if_neg hq2, hw, i1, zfirst_go hq]
    have hqn : ¬ q = -1 := by clear ih i1 hc; grind
    by_cases c1 : I r (b + 6 + 12 * l + q) < 12
    · have x1 := @ix3 b 30 (I r (b + 6 + 12 * l + q)) hb (by decide) ⟨g0, c1⟩
      by_cases c2 : I r (b + 30 + I r (b + 6 + 12 * l + q)) = 3
      · simp only [if_neg (Int32.not_le.mpr c1), x1, true_and, c1, c2, not_true, if_false, decide_true, Bool.not_true, Bool.false_eq_true, and_self]
      · simp only [if_neg (Int32.not_le.mpr c1), x1, true_and, c1, c2, not_false_iff, if_true, decide_false, Bool.not_false, and_false, if_neg hqn]
    · simp only [if_pos (Int32.not_lt.mp c1), c1, false_and, decide_false, Bool.not_false, if_true, if_neg hqn]
end MNIGHTB
