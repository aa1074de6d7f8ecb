/-- the first place of x in a line of the row -/
def flM (f : Int32 → Int32) (b l x q : Int32) : Int32 := zfirst (f (b + 4 + l)) (fun k => decide (f (b + 6 + 12 * l + k) = x)) q
def findM (f : Int32 → Int32) (b x : Int32) : Int32 := if flM f b 0 x 0 = -1 then (if flM f b 1 x 0 = -1 then -1 else 100 * 1 + flM f b 1 x 0) else 100 * 0 + flM f b 0 x 0
def needM (k : Int32) : Int32 := if k = 3 then 0 else if k = 4 then 3 else if k = 2 then 2 else 1
def frM (f : Int32 → Int32) (b l : Int32) : Int32 := if f (b + 4 + l) = 0 then -1 else if 11 < f (b + 6 + 12 * l + 0) then -1 else f (b + 42 + f (b + 6 + 12 * l + 0))
section MFIND
variable {Q : Option Value → ZH → Prop} {n : Nat} {tg ln : Nat → Nat} {I : Nat → Int32 → Int32} {J : Nat → Int32 → Int64} {O : Nat → Int32 → Option Nat} {m r : Nat}
/-- the row's numbers: sizes within their bounds, cells not below 0 -/
def MNum (f : Int32 → Int32) (b : Int32) : Prop := ∀ l, l = 0 ∨ l = 1 → (0 ≤ f (b + 4 + l) ∧ f (b + 4 + l) ≤ 12) ∧ ∀ k, 0 ≤ k → k < f (b + 4 + l) → 0 ≤ f (b + 6 + 12 * l + k)
theorem c_M_findAt_in {b x l : Int32} (h : MSh tg ln O m r) (hb : 0 ≤ b ∧ b ≤ 1080) (hn : MNum (I r) b) (hl : l = 0 ∨ l = 1) : ∀ q, 0 ≤ q → (Runs 153 10 [some (.ref m), some (.int b), some (.int x), some (.int l), some (.int q)] [] (n, tg, ln, I, J, O) Q ↔ if flM (I r) b l x q = -1 then Runs 153 51 [some (.ref m), some (.int b), some (.int x), some (.int l), some (.int (I r (b + 4 + l)))] [] (n, tg, ln, I, J, O) Q else Q (some (.int (100 * l + flM (I r) b l x q))) (n, tg, ln, I, J, O)) ∨ I r (b + 4 + l) < q := by
  obtain ⟨t0, o0, t1, l1⟩ := id h
  obtain ⟨hd0, hd1, hd2, hd3⟩ := ixd hb hl
  have il := ixl hb hl
  have hs := (hn l hl).1
  refine zup_ind (I r (b + 4 + l)) (fun q hq h1 => ?_) (fun q hq ih h1 => ?_)
  · by_cases hq2 : q = I r (b + 4 + l)
    · left
      subst hq2
      rw [s153_10]
      unfold flM
      simp only [s153_0, s153_1, s153_2, s153_3, s153_4, s153_7, s153_8, s153_12, s153_12q, s153_13, s153_16, s153_17, s153_18, s153_19, s153_20, s153_21, s153_22, s153_25, s153_25q, s153_26, s153_27, s153_28, s153_30, s153_33, s153_34, s153_37, s153_39, s153_40, s153_41, s153_43, s153_44, s153_45, s153_48, s153_54, s153_57, s153_58, t0, o0, t1, l1, zs0, tl_some, zrf_some, zdrop_i, zdrop_r, zdrop_n, i32_1170, il, true_and, zfirst_end hq, Int32.le_refl, if_true]
    · right
      grind
  · left
    rw [s153_10]
    have hq2 : ¬ I r (b + 4 + l) ≤ q := Int32.not_le.mpr hq
    have q12 : q < 12 := by clear ih hn; grind
    have rq := ixq ⟨hd0, hd1⟩ ⟨h1, q12⟩
    have i1 := (ih (by clear ih hn; grind)).resolve_right (by clear ih hn; grind)
    have hw := fun (Q : Option Value → ZH → Prop) => @c_M_whatAt Q n tg ln I J O m r b l q h rq
    unfold flM at i1 ⊢
    simp only [s153_0, s153_1, s153_2, s153_3, s153_4, s153_7, s153_8, s153_12, s153_12q, s153_13, s153_16, s153_17, s153_18, s153_19, s153_20, s153_21, s153_22, s153_25, s153_25q, s153_26, s153_27, s153_28, s153_30, s153_33, s153_34, s153_37, s153_39, s153_40, s153_41, s153_43, s153_44, s153_45, s153_48, s153_54, s153_57, s153_58, t0, o0, t1, l1, zs0, tl_some, zrf_some, zdrop_i, zdrop_r, zdrop_n, i32_1170, il, true_and, if_neg hq2, hw, zfirst_go hq, i1, decide_eq_true_eq]
    by_cases hx : I r (b + 6 + 12 * l + q) = x
    · have hqn : ¬ q = -1 := by clear ih i1 hn; grind
      simp only [hx, not_true, if_false, if_true, if_neg hqn]
    · simp only [hx, not_false_iff, if_true, if_false]
theorem c_M_findAt {b x : Int32} (h : MSh tg ln O m r) (hb : 0 ≤ b ∧ b ≤ 1080) (hn : MNum (I r) b) : Runs 153 0 [some (.ref m), some (.int b), some (.int x), none, none] [] (n, tg, ln, I, J, O) Q ↔ Q (some (.int (findM (I r) b x))) (n, tg, ln, I, J, O) := by
  have f0 := (@c_M_findAt_in Q n tg ln I J O m r b x 0 h hb hn (Or.inl rfl) 0 (by decide)).resolve_right (Int32.not_lt.mpr (hn 0 (Or.inl rfl)).1.1)
  have f1 := (@c_M_findAt_in Q n tg ln I J O m r b x 1 h hb hn (Or.inr rfl) 0 (by decide)).resolve_right (Int32.not_lt.mpr (hn 1 (Or.inr rfl)).1.1)
  unfold findM
  simp only [s153_0, s153_1, s153_2, s153_3, s153_4, s153_7, s153_8, s153_12, s153_12q, s153_13, s153_16, s153_17, s153_18, s153_19, s153_20, s153_21, s153_22, s153_25, s153_25q, s153_26, s153_27, s153_28, s153_30, s153_33, s153_34, s153_37, s153_39, s153_40, s153_41, s153_43, s153_44, s153_45, s153_48, s153_51, s153_54, s153_57, s153_58, zdrop_i, zdrop_r, zdrop_n, show ¬ (2 : Int32) ≤ 0 by decide, show ¬ (2 : Int32) ≤ 1 by decide, show (2 : Int32) ≤ 1 + 1 by decide, show (0 : Int32) + 1 = 1 by decide, if_false, if_true, f0, f1]
  grind
theorem c_M_firstRoot {b l : Int32} (h : MSh tg ln O m r) (hb : 0 ≤ b ∧ b ≤ 1080) (hn : MNum (I r) b) (hl : l = 0 ∨ l = 1) : Runs 159 0 [some (.ref m), some (.int b), some (.int l)] [] (n, tg, ln, I, J, O) Q ↔ Q (some (.int (frM (I r) b l))) (n, tg, ln, I, J, O) := by
  obtain ⟨t0, o0, t1, l1⟩ := id h
  obtain ⟨hd0, hd1, hd2, hd3⟩ := ixd hb hl
  have il := ixl hb hl
  have hs := (hn l hl).1
  have rq := @ixq _ 0 ⟨hd0, hd1⟩ ⟨by decide, by decide⟩
  have hw := fun (Q : Option Value → ZH → Prop) => @c_M_whatAt Q n tg ln I J O m r b l 0 h rq
  unfold frM
  by_cases h1 : I r (b + 4 + l) = 0
  · simp only [s159_0, s159_0q, s159_1, s159_4, s159_5, s159_6, s159_7, s159_8, s159_9, s159_10, s159_13, s159_13q, s159_14, s159_15, s159_16, s159_17, s159_20, s159_22, s159_25, s159_26, s159_29, s159_29q, s159_30, s159_33, s159_34, s159_36, s159_37, s159_37q, s159_38, s159_39, s159_40, s159_41, s159_44, s159_45, s159_46, t0, o0, t1, l1, zs0, tl_some, zrf_some, zdrop_i, zdrop_r, zdrop_n, i32_1170, il, true_and, h1, if_true]
  · by_cases h2 : 11 < I r (b + 6 + 12 * l + 0)
    · simp only [s159_0, s159_0q, s159_1, s159_4, s159_5, s159_6, s159_7, s159_8, s159_9, s159_10, s159_13, s159_13q, s159_14, s159_15, s159_16, s159_17, s159_20, s159_22, s159_25, s159_26, s159_29, s159_29q, s159_30, s159_33, s159_34, s159_36, s159_37, s159_37q, s159_38, s159_39, s159_40, s159_41, s159_44, s159_45, s159_46, t0, o0, t1, l1, zs0, tl_some, zrf_some, zdrop_i, zdrop_r, zdrop_n, i32_1170, il, true_and, h1, if_false, hw, if_neg (Int32.not_le.mpr h2), if_pos h2]
    · have hc := (hn l hl).2 0 (by decide) (by clear hn; grind)
      have x3 := @ix3 b 42 (I r (b + 6 + 12 * l + 0)) hb (by decide) ⟨hc, by clear hn; grind⟩
      simp only [s159_0, s159_0q, s159_1, s159_4, s159_5, s159_6, s159_7, s159_8, s159_9, s159_10, s159_13, s159_13q, s159_14, s159_15, s159_16, s159_17, s159_20, s159_22, s159_25, s159_26, s159_29, s159_29q, s159_30, s159_33, s159_34, s159_36, s159_37, s159_37q, s159_38, s159_39, s159_40, s159_41, s159_44, s159_45, s159_46, t0, o0, t1, l1, zs0, zs3, tl_some, zrf_some, zdrop_i, zdrop_r, zdrop_n, i32_1170, il, true_and, h1, if_false, hw, if_pos (Int32.not_lt.mp h2), if_neg h2, x3]
/-- the line that has its way -/
def wayM (f : Int32 → Int32) (b : Int32) : Int32 := if f (b + 4) + f (b + 4 + 1) = 0 then -1 else if f (b + 1) = 0 then (if 0 < f (b + 4 + f (b + 3)) then f (b + 3) else 1 - f (b + 3)) else if f (b + 1) = 1 then (if f (b + 4) < f (b + 4 + 1) then 1 else 0) else (if frM f b 0 < frM f b 1 then 1 else 0)
theorem c_M_wayOf {b : Int32} (h : MSh tg ln O m r) (hb : 0 ≤ b ∧ b ≤ 1080) (hn : MNum (I r) b) (ht : I r (b + 3) = 0 ∨ I r (b + 3) = 1) : Runs 160 0 [some (.ref m), some (.int b), none, none, none] [] (n, tg, ln, I, J, O) Q ↔ Q (some (.int (wayM (I r) b))) (n, tg, ln, I, J, O) := by
  obtain ⟨t0, o0, t1, l1⟩ := id h
  have f0 := fun (Q : Option Value → ZH → Prop) => @c_M_firstRoot Q n tg ln I J O m r b 0 h hb hn (Or.inl rfl)
  have f1 := fun (Q : Option Value → ZH → Prop) => @c_M_firstRoot Q n tg ln I J O m r b 1 h hb hn (Or.inr rfl)
  have i0 : 0 ≤ b + 4 ∧ b + 4 < 1170 := by clear hn; grind
  have i1 : 0 ≤ b + 4 + 1 ∧ b + 4 + 1 < 1170 := by clear hn; grind
  have i2 : 0 ≤ b + 1 ∧ b + 1 < 1170 := by clear hn; grind
  have i3 : 0 ≤ b + 3 ∧ b + 3 < 1170 := by clear hn; grind
  have i4 := ixl hb ht
  unfold wayM
  simp only [s160_0, s160_0q, s160_1, s160_4, s160_5, s160_6, s160_7, s160_8, s160_9, s160_9q, s160_10, s160_13, s160_14, s160_15, s160_16, s160_17, s160_18, s160_19, s160_20, s160_21, s160_22, s160_23, s160_26, s160_27, s160_28, s160_28q, s160_29, s160_32, s160_33, s160_34, s160_35, s160_36, s160_39, s160_39q, s160_40, s160_43, s160_44, s160_45, s160_46, s160_47, s160_49, s160_49q, s160_50, s160_53, s160_54, s160_55, s160_56, s160_58, s160_59, s160_60, s160_63, s160_65, s160_68, s160_69, s160_71, s160_72, s160_73, s160_73q, s160_74, s160_77, s160_78, s160_79, s160_80, s160_81, s160_82, s160_85, s160_86, s160_87, s160_90, s160_91, s160_94, s160_95, s160_98, s160_98q, s160_99, s160_100, s160_101, s160_104, s160_104q, s160_105, s160_106, s160_107, s160_110, s160_113, s160_114, s160_117, s160_118, s160_120, s160_122, s160_125, s160_126, s160_129, s160_130, t0, o0, t1, l1, zs0, zs1, tl_some, zrf_some, zdrop_i, zdrop_r, zdrop_n, i32_1170, i0, i1, i2, i3, i4, true_and, f0, f1]
  clear hn f0 f1 i0 i1 i2 i4
  generalize I r (b + 4 + I r (b + 3)) = z1
  generalize I r (b + 3) = z2 at *
  generalize I r (b + 4 + 1) = z3
  generalize I r (b + 4) = z4
  generalize I r (b + 1) = z5
  generalize frM (I r) b 0 = z6
  generalize frM (I r) b 1 = z7
  clear i3
  grind
end MFIND
