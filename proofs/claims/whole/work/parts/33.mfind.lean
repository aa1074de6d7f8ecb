/-- the first place of x in a line of the row -/
def flM (f : Int32 → Int32) (b l x q : Int32) : Int32 := zfirst (f (b + 4 + l)) (fun k => decide (f (b + 6 + 12 * l + k) = x)) q
def findM (f : Int32 → Int32) (b x : Int32) : Int32 := if flM f b 0 x 0 = -1 then (if flM f b 1 x 0 = -1 then -1 else 100 * 1 + flM f b 1 x 0) else 100 * 0 + flM f b 0 x 0
def needM (k : Int32) : Int32 := if k = 3 then 0 else if k = 4 then 3 else if k = 2 then 2 else 1
def frM (f : Int32 → Int32) (b l : Int32) : Int32 := if f (b + 4 + l) = 0 then -1 else if 11 < f (b + 6 + 12 * l + 0) then -1 else f (b + 42 + f (b + 6 + 12 * l + 0))
section MFIND
variable {Q : Option Value → ZH → Prop} {n : Nat} {tg ln : Nat → Nat} {I : Nat → Int32 → Int32} {J : Nat → Int32 → Int64} {O : Nat → Int32 → Option Nat} {m r : Nat}
/-- the row's numbers: sizes within their bounds, cells not below 0 -/
def MNum (f : Int32 → Int32) (b : Int32) : Prop := ∀ l, l = 0 ∨ l = 1 → (0 ≤ f (b + 4 + l) ∧ f (b + 4 + l) ≤ 12) ∧ ∀ k, 0 ≤ k → k < f (b + 4 + l) → 0 ≤ f (b + 6 + 12 * l + k)
theorem c_M_findAt_in {b x l : Int32} (h : MSh tg ln O m r) (hb : 0 ≤ b ∧ b ≤ 1080) (hn : MNum (I r) b) (hl : l = 0 ∨ l = 1) : ∀ q, 0 ≤ q → (Runs 152 10 [some (.ref m), some (.int b), some (.int x), some (.int l), some (.int q)] [] (n, tg, ln, I, J, O) Q ↔ if flM (I r) b l x q = -1 then Runs 152 51 [some (.ref m), some (.int b), some (.int x), some (.int l), some (.int (I r (b + 4 + l)))] [] (n, tg, ln, I, J, O) Q else Q (some (.int (100 * l + flM (I r) b l x q))) (n, tg, ln, I, J, O)) ∨ I r (b + 4 + l) < q := by
  obtain ⟨t0, o0, t1, l1⟩ := id h
  obtain ⟨hd0, hd1, hd2, hd3⟩ := ixd hb hl
  have il := ixl hb hl
  have hs := (hn l hl).1
  refine zup_ind (I r (b + 4 + l)) (fun q hq h1 => ?_) (fun q hq ih h1 => ?_)
  · by_cases hq2 : q = I r (b + 4 + l)
    · left
      subst hq2
      rw [s152_10]
      unfold flM
      simp only [s152_0, s152_1, s152_2, s152_3, s152_4, s152_7, s152_8, s152_12, s152_12q, s152_13, s152_16, s152_17, s152_18, s152_19, s152_20, s152_21, s152_22, s152_25, s152_25q, s152_26, s152_27, s152_28, s152_30, s152_33, s152_34, s152_37, s152_39, s152_40, s152_41, s152_43, s152_44, s152_45, s152_48, s152_54, s152_57, s152_58, t0, o0, t1, l1, zs0, tl_some, zrf_some, zdrop_i, zdrop_r, zdrop_n, i32_1170, il, true_and, zfirst_end hq, Int32.le_refl, if_true]
    · right
      grind
  · left
    rw [s152_10]
    have hq2 : ¬ I r (b + 4 + l) ≤ q := Int32.not_le.mpr hq
    have q12 : q < 12 := by clear ih hn; grind
    have rq := ixq ⟨hd0, hd1⟩ ⟨h1, q12⟩
    have i1 := (ih (by clear ih hn; grind)).resolve_right (by clear ih hn; grind)
    have hw := fun (Q : Option Value → ZH → Prop) => @c_M_whatAt Q n tg ln I J O m r b l q h rq
    unfold flM at i1 ⊢
    simp only [s152_0, s152_1, s152_2, s152_3, s152_4, s152_7, s152_8, s152_12, s152_12q, s152_13, s152_16, s152_17, s152_18, s152_19, s152_20, s152_21, s152_22, s152_25, s152_25q, s152_26, s152_27, s152_28, s152_30, s152_33, s152_34, s152_37, s152_39, s152_40, s152_41, s152_43, s152_44, s152_45, s152_48, s152_54, s152_57, s152_58, t0, o0, t1, l1, zs0, tl_some, zrf_some, zdrop_i, zdrop_r, zdrop_n, i32_1170, il, true_and, if_neg hq2, hw, zfirst_go hq, i1, decide_eq_true_eq]
    by_cases hx : I r (b + 6 + 12 * l + q) = x
    · have hqn : ¬ q = -1 := by clear ih i1 hn; grind
      simp only [hx, not_true, if_false, if_true, if_neg hqn]
    · simp only [hx, not_false_iff, if_true, if_false]
theorem c_M_findAt {b x : Int32} (h : MSh tg ln O m r) (hb : 0 ≤ b ∧ b ≤ 1080) (hn : MNum (I r) b) : Runs 152 0 [some (.ref m), some (.int b), some (.int x), none, none] [] (n, tg, ln, I, J, O) Q ↔ Q (some (.int (findM (I r) b x))) (n, tg, ln, I, J, O) := by
  have f0 := (@c_M_findAt_in Q n tg ln I J O m r b x 0 h hb hn (Or.inl rfl) 0 (by decide)).resolve_right (Int32.not_lt.mpr (hn 0 (Or.inl rfl)).1.1)
  have f1 := (@c_M_findAt_in Q n tg ln I J O m r b x 1 h hb hn (Or.inr rfl) 0 (by decide)).resolve_right (Int32.not_lt.mpr (hn 1 (Or.inr rfl)).1.1)
  unfold findM
  simp only [s152_0, s152_1, s152_2, s152_3, s152_4, s152_7, s152_8, s152_12, s152_12q, s152_13, s152_16, s152_17, s152_18, s152_19, s152_20, s152_21, s152_22, s152_25, s152_25q, s152_26, s152_27, s152_28, s152_30, s152_33, s152_34, s152_37, s152_39, s152_40, s152_41, s152_43, s152_44, s152_45, s152_48, s152_51, s152_54, s152_57, s152_58, zdrop_i, zdrop_r, zdrop_n, show ¬ (2 : Int32) ≤ 0 by decide, show ¬ (2 : Int32) ≤ 1 by decide, show (2 : Int32) ≤ 1 + 1 by decide, show (0 : Int32) + 1 = 1 by decide, if_false, if_true, f0, f1]
  grind
theorem c_M_firstRoot {b l : Int32} (h : MSh tg ln O m r) (hb : 0 ≤ b ∧ b ≤ 1080) (hn : MNum (I r) b) (hl : l = 0 ∨ l = 1) : Runs 158 0 [some (.ref m), some (.int b), some (.int l)] [] (n, tg, ln, I, J, O) Q ↔ Q (some (.int (frM (I r) b l))) (n, tg, ln, I, J, O) := by
  obtain ⟨t0, o0, t1, l1⟩ := id h
  obtain ⟨hd0, hd1, hd2, hd3⟩ := ixd hb hl
  have il := ixl hb hl
  have hs := (hn l hl).1
  have rq := @ixq _ 0 ⟨hd0, hd1⟩ ⟨by decide, by decide⟩
  have hw := fun (Q : Option Value → ZH → Prop) => @c_M_whatAt Q n tg ln I J O m r b l 0 h rq
  unfold frM
  by_cases h1 : I r (b + 4 + l) = 0
  · simp only [s158_0, s158_0q, s158_1, s158_4, s158_5, s158_6, s158_7, s158_8, s158_9, s158_10, s158_13, s158_13q, s158_14, s158_15, s158_16, s158_17, s158_20, s158_22, s158_25, s158_26, s158_29, s158_29q, s158_30, s158_33, s158_34, s158_36, s158_37, s158_37q, s158_38, s158_39, s158_40, s158_41, s158_44, s158_45, s158_46, t0, o0, t1, l1, zs0, tl_some, zrf_some, zdrop_i, zdrop_r, zdrop_n, i32_1170, il, true_and, h1, if_true]
  · by_cases h2 : 11 < I r (b + 6 + 12 * l + 0)
    · simp only [s158_0, s158_0q, s158_1, s158_4, s158_5, s158_6, s158_7, s158_8, s158_9, s158_10, s158_13, s158_13q, s158_14, s158_15, s158_16, s158_17, s158_20, s158_22, s158_25, s158_26, s158_29, s158_29q, s158_30, s158_33, s158_34, s158_36, s158_37, s158_37q, s158_38, s158_39, s158_40, s158_41, s158_44, s158_45, s158_46, t0, o0, t1, l1, zs0, tl_some, zrf_some, zdrop_i, zdrop_r, zdrop_n, i32_1170, il, true_and, h1, if_false, hw, if_neg (Int32.not_le.mpr h2), if_pos h2]
    · have hc := (hn l hl).2 0 (by decide) (by clear hn; grind)
      have x3 := @ix3 b 42 (I r (b + 6 + 12 * l + 0)) hb (by decide) ⟨hc, by clear hn; grind⟩
      simp only [s158_0, s158_0q, s158_1, s158_4, s158_5, s158_6, s158_7, s158_8, s158_9, s158_10, s158_13, s158_13q, s158_14, s158_15, s158_16, s158_17, s158_20, s158_22, s158_25, s158_26, s158_29, s158_29q, s158_30, s158_33, s158_34, s158_36, s158_37, s158_37q, s158_38, s158_39, s158_40, s158_41, s158_44, s158_45, s158_46, t0, o0, t1, l1, zs0, zs3, tl_some, zrf_some, zdrop_i, zdrop_r, zdrop_n, i32_1170, il, true_and, h1, if_false, hw, if_pos (Int32.not_lt.mp h2), if_neg h2, x3]
/-- the line that has its way -/
def wayM (f : Int32 → Int32) (b : Int32) : Int32 := if f (b + 4) + f (b + 4 + 1) = 0 then -1 else if f (b + 1) = 0 then (if 0 < f (b + 4 + f (b + 3)) then f (b + 3) else 1 - f (b + 3)) else if f (b + 1) = 1 then (if f (b + 4) < f (b + 4 + 1) then 1 else 0) else (if frM f b 0 < frM f b 1 then 1 else 0)
theorem c_M_wayOf {b : Int32} (h : MSh tg ln O m r) (hb : 0 ≤ b ∧ b ≤ 1080) (hn : MNum (I r) b) (ht : I r (b + 3) = 0 ∨ I r (b + 3) = 1) : Runs 159 0 [some (.ref m), some (.int b), none, none, none] [] (n, tg, ln, I, J, O) Q ↔ Q (some (.int (wayM (I r) b))) (n, tg, ln, I, J, O) := by
  obtain ⟨t0, o0, t1, l1⟩ := id h
  have f0 := fun (Q : Option Value → ZH → Prop) => @c_M_firstRoot Q n tg ln I J O m r b 0 h hb hn (Or.inl rfl)
  have f1 := fun (Q : Option Value → ZH → Prop) => @c_M_firstRoot Q n tg ln I J O m r b 1 h hb hn (Or.inr rfl)
  have i0 : 0 ≤ b + 4 ∧ b + 4 < 1170 := by clear hn; grind
  have i1 : 0 ≤ b + 4 + 1 ∧ b + 4 + 1 < 1170 := by clear hn; grind
  have i2 : 0 ≤ b + 1 ∧ b + 1 < 1170 := by clear hn; grind
  have i3 : 0 ≤ b + 3 ∧ b + 3 < 1170 := by clear hn; grind
  have i4 := ixl hb ht
  unfold wayM
  simp only [s159_0, s159_0q, s159_1, s159_4, s159_5, s159_6, s159_7, s159_8, s159_9, s159_9q, s159_10, s159_13, s159_14, s159_15, s159_16, s159_17, s159_18, s159_19, s159_20, s159_21, s159_22, s159_23, s159_26, s159_27, s159_28, s159_28q, s159_29, s159_32, s159_33, s159_34, s159_35, s159_36, s159_39, s159_39q, s159_40, s159_43, s159_44, s159_45, s159_46, s159_47, s159_49, s159_49q, s159_50, s159_53, s159_54, s159_55, s159_56, s159_58, s159_59, s159_60, s159_63, s159_65, s159_68, s159_69, s159_71, s159_72, s159_73, s159_73q, s159_74, s159_77, s159_78, s159_79, s159_80, s159_81, s159_82, s159_85, s159_86, s159_87, s159_90, s159_91, s159_94, s159_95, s159_98, s159_98q, s159_99, s159_100, s159_101, s159_104, s159_104q, s159_105, s159_106, s159_107, s159_110, s159_113, s159_114, s159_117, s159_118, s159_120, s159_122, s159_125, s159_126, s159_129, s159_130, t0, o0, t1, l1, zs0, zs1, tl_some, zrf_some, zdrop_i, zdrop_r, zdrop_n, i32_1170, i0, i1, i2, i3, i4, true_and, f0, f1]
  clear hn f0 f1 i0 i1 i2 i4
  generalize I r (b + 4 + I r (b + 3)) = z1
  generalize I r (b + 3) = z2 at *
  generalize I r (b + 4 + 1) = z3
  generalize I r (b + 4) = z4
  generalize I r (b + 1) = z5
  generalize frM (I r) b 0 = z6
  generalize frM (I r) b 1 = z7
  clear i3
  grind
end MFIND
