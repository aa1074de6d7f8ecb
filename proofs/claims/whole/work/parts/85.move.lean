/-! BAGS: move -/
def rwP (s i m : Int32) : Prop := (0 ≤ i ∧ 0 ≤ m) ∧ i ≤ s ∧ m ≤ s - i
theorem i32_nn {x : Int32} : 0 ≤ x ↔ 0 ≤ x.toInt := by rw [Int32.le_iff_toInt_le, show (0 : Int32).toInt = 0 by decide]
theorem i32_12le {x : Int32} : x ≤ 12 ↔ x.toInt ≤ 12 := by rw [Int32.le_iff_toInt_le, show (12 : Int32).toInt = 12 by decide]
theorem i32_12lt {x : Int32} : x < 12 ↔ x.toInt < 12 := by rw [Int32.lt_iff_toInt_lt, show (12 : Int32).toInt = 12 by decide]
theorem i32_add {x y : Int32} (h : -1000 ≤ x.toInt + y.toInt ∧ x.toInt + y.toInt ≤ 1000) : (x + y).toInt = x.toInt + y.toInt := by
  rw [Int32.toInt_add]
  exact Int.bmod_eq_of_le (by simp; omega) (by simp; omega)
theorem i32_sub {x y : Int32} (h : -1000 ≤ x.toInt - y.toInt ∧ x.toInt - y.toInt ≤ 1000) : (x - y).toInt = x.toInt - y.toInt := by
  rw [Int32.toInt_sub]
  exact Int.bmod_eq_of_le (by simp; omega) (by simp; omega)
theorem rw_int {s i m : Int32} (hs : s ≤ 12) (h : rwP s i m) : 0 ≤ i.toInt ∧ 0 ≤ m.toInt ∧ i.toInt + m.toInt ≤ s.toInt ∧ s.toInt ≤ 12 := by
  obtain ⟨⟨a, b⟩, c, d⟩ := h
  rw [i32_nn] at a b
  rw [i32_12le] at hs
  rw [Int32.le_iff_toInt_le] at c d
  rw [i32_sub (by omega)] at d
  omega
theorem rw_in {s i m q : Int32} (hs : s ≤ 12) (h : rwP s i m) (h0 : 0 ≤ q) (hq : q < m) : (0 ≤ i + q ∧ i + q < 12) ∧ 0 ≤ q + 1 ∧ q + 1 ≤ m := by
  obtain ⟨a, b, c, d⟩ := rw_int hs h
  rw [i32_nn] at h0
  rw [Int32.lt_iff_toInt_lt] at hq
  have o : (1 : Int32).toInt = 1 := by decide
  rw [i32_nn, i32_12lt, i32_nn, Int32.le_iff_toInt_le, i32_add (x := i) (by omega), i32_add (x := q) (by rw [o]; omega), o]
  omega
theorem rw_m {s i m : Int32} (hs : s ≤ 12) (h : rwP s i m) : 0 ≤ m ∧ m ≤ 12 ∧ 0 ≤ i ∧ i ≤ 12 := by
  obtain ⟨a, b, c, d⟩ := rw_int hs h
  rw [i32_nn, i32_nn, i32_12le, i32_12le]
  omega
theorem span64 {s i m : Int32} (hs : 0 ≤ s ∧ s ≤ 12) (hi : 0 ≤ i) (hm : 0 ≤ m) : s.toInt64 < i.toInt64 + m.toInt64 ↔ ¬ (i ≤ s ∧ m ≤ s - i) := by
  have s0 := Int32.le_iff_toInt_le.mp hs.1
  have s1 := Int32.le_iff_toInt_le.mp hs.2
  have i0 := Int32.le_iff_toInt_le.mp hi
  have m0 := Int32.le_iff_toInt_le.mp hm
  have i1 := Int32.toInt_lt i
  have m1 := Int32.toInt_lt m
  rw [show (0 : Int32).toInt = 0 by decide] at s0 i0 m0
  rw [show (12 : Int32).toInt = 12 by decide] at s1
  rw [Int64.lt_iff_toInt_lt, Int32.toInt_toInt64, Int64.toInt_add, Int32.toInt_toInt64, Int32.toInt_toInt64]
  rw [Int.bmod_eq_of_le (by simp at *; omega) (by simp at *; omega)]
  rw [Int32.le_iff_toInt_le, Int32.le_iff_toInt_le]
  by_cases h : i.toInt ≤ s.toInt
  · have e : (s - i).toInt = s.toInt - i.toInt := by
      rw [Int32.toInt_sub]
      exact Int.bmod_eq_of_le (by simp at *; omega) (by simp at *; omega)
    rw [e]
    omega
  · constructor
    · exact fun _ z => h z.1
    · intro _
      omega
/-- a stretch of a row, taken over -/
def MVd {α : Type} (f f' g : Int32 → α) (d s lo hi : Int32) : Prop := (∀ q, lo ≤ q → q < hi → f' (d + q) = g (s + q)) ∧ ∀ y, (∀ q, lo ≤ q → q < hi → y ≠ d + q) → f' y = f y
theorem MVd.nil {α : Type} {f g : Int32 → α} {d s lo hi : Int32} (h : ¬ lo < hi) : MVd f f g d s lo hi := ⟨fun q h1 h2 => absurd (Int32.lt_of_le_of_lt h1 h2) h, fun _ _ => rfl⟩
theorem mv_ne {d q p : Int32} (h : q ≠ p) : d + q ≠ d + p := by grind
theorem MVd.up {α : Type} {f f' f'' g : Int32 → α} {d s p : Int32} (h0 : 0 ≤ p) (h1 : p ≤ 100) (h : MVd f f' g d s 0 p) (ha : f'' (d + p) = g (s + p)) (ho : ∀ y, y ≠ d + p → f'' y = f' y) : MVd f f'' g d s 0 (p + 1) := by
  refine ⟨fun q q0 q1 => ?_, fun y hy => ?_⟩
  · by_cases hqp : q = p
    · rw [hqp]; exact ha
    · rw [ho _ (mv_ne hqp)]
      exact h.1 q q0 (by clear h ha ho; grind)
  · rw [ho y (hy p h0 (by clear h ha ho hy; grind))]
    exact h.2 y (fun q q0 q1 => hy q q0 (by clear h ha ho hy; grind))
theorem MVd.down {α : Type} {f f' f'' g : Int32 → α} {d s p m : Int32} (h0 : 0 ≤ p) (h1 : p < m) (hm : m ≤ 100) (h : MVd f f' g d s (p + 1) m) (ha : f'' (d + p) = g (s + p)) (ho : ∀ y, y ≠ d + p → f'' y = f' y) : MVd f f'' g d s (p + (-1) + 1) m := by
  have e : p + (-1) + 1 = p := by grind
  rw [e]
  refine ⟨fun q q0 q1 => ?_, fun y hy => ?_⟩
  · by_cases hqp : q = p
    · rw [hqp]; exact ha
    · rw [ho _ (mv_ne hqp)]
      exact h.1 q (by clear h ha ho; grind) q1
  · rw [ho y (hy p (Int32.le_refl _) h1)]
    exact h.2 y (fun q q0 q1 => hy q (by clear h ha ho hy; grind) q1)
theorem p_dn {p : Int32} {k : Nat} (e : p.toInt + 1 = (k + 1 : Nat)) (hk : k ≤ 100) : (p + (-1)).toInt + 1 = (k : Nat) ∧ ¬ p < 0 ∧ 0 ≤ p := by
  have p0 : 0 ≤ p := Int32.le_iff_toInt_le.mpr (by rw [show (0 : Int32).toInt = 0 by decide]; omega)
  have p1 : p ≤ 100 := Int32.le_iff_toInt_le.mpr (by rw [show (100 : Int32).toInt = 100 by decide]; omega)
  have h0 : p + (-1) + 1 = p := by grind
  have hl : p + (-1) < p := by clear h0 e; grind
  have := zi1 hl
  rw [h0] at this
  exact ⟨by omega, Int32.not_lt.mpr p0, p0⟩
section MOVE
variable {Q : Option Value → ZH → Prop} {n : Nat} {tg ln : Nat → Nat} {I I1 I2 : Nat → Int32 → Int32} {J J1 J2 : Nat → Int32 → Int64} {O O1 O2 : Nat → Int32 → Option Nat} {a c a2 c2 : Nat}
theorem c_hasRow {i m : Int32} (ht : tg a = 1) (hd : Decidable (rwP (I a 1) i m)) : Runs 7 0 [some (.ref a), some (.int i), some (.int m)] [] (n, tg, ln, I, J, O) Q ↔ Q (some (.int (if rwP (I a 1) i m then 1 else 0))) (n, tg, ln, I, J, O) := by
  by_cases h0 : 0 ≤ i
  · by_cases h1 : 0 ≤ m
    · by_cases h2 : i ≤ I a 1
      · by_cases h3 : m ≤ I a 1 - i
        · rw [if_pos ⟨⟨h0, h1⟩, h2, h3⟩]
          simp (decide := true) only [s7_0, s7_1, s7_4, s7_5, s7_8, s7_9, s7_9q, s7_10, s7_13, s7_16, s7_17, s7_17q, s7_18, s7_21, s7_22, s7_23, s7_26, s7_27, s7_30, s7_31, ht, Int32.not_lt.mpr h0, Int32.not_lt.mpr h1, Int32.not_lt.mpr h2, Int32.not_lt.mpr h3, zs_of, List.length_cons, List.length_nil, tl_some, tl_none, zrf_some, zdrop_i, zdrop_r, zdrop_q, zdrop_n, zdrop_l, i32_12, i32_1170, i32_2, i32_3, i32_5, i32_6, i32_8, i32_36, i32_200, Int32.reduceLE, Int32.reduceLT, Int32.reduceAdd, Int32.reduceSub, Int32.reduceMul, true_and, and_true, eq_self, true_or, or_true, not_true, not_false_iff, ↓reduceIte, zuo, zuA, zu_nk, zrow_at, zrow_ne]
        · rw [if_neg (fun z => h3 z.2.2)]
          simp (decide := true) only [s7_0, s7_1, s7_4, s7_5, s7_8, s7_9, s7_9q, s7_10, s7_13, s7_16, s7_17, s7_17q, s7_18, s7_21, s7_22, s7_23, s7_26, s7_27, s7_30, s7_31, ht, Int32.not_lt.mpr h0, Int32.not_lt.mpr h1, Int32.not_lt.mpr h2, Int32.not_le.mp h3, zs_of, List.length_cons, List.length_nil, tl_some, tl_none, zrf_some, zdrop_i, zdrop_r, zdrop_q, zdrop_n, zdrop_l, i32_12, i32_1170, i32_2, i32_3, i32_5, i32_6, i32_8, i32_36, i32_200, Int32.reduceLE, Int32.reduceLT, Int32.reduceAdd, Int32.reduceSub, Int32.reduceMul, true_and, and_true, eq_self, true_or, or_true, not_true, not_false_iff, ↓reduceIte, zuo, zuA, zu_nk, zrow_at, zrow_ne]
      · rw [if_neg (fun z => h2 z.2.1)]
        simp (decide := true) only [s7_0, s7_1, s7_4, s7_5, s7_8, s7_9, s7_9q, s7_10, s7_13, s7_16, s7_17, s7_17q, s7_18, s7_21, s7_22, s7_23, s7_26, s7_27, s7_30, s7_31, ht, Int32.not_lt.mpr h0, Int32.not_lt.mpr h1, Int32.not_le.mp h2, zs_of, List.length_cons, List.length_nil, tl_some, tl_none, zrf_some, zdrop_i, zdrop_r, zdrop_q, zdrop_n, zdrop_l, i32_12, i32_1170, i32_2, i32_3, i32_5, i32_6, i32_8, i32_36, i32_200, Int32.reduceLE, Int32.reduceLT, Int32.reduceAdd, Int32.reduceSub, Int32.reduceMul, true_and, and_true, eq_self, true_or, or_true, not_true, not_false_iff, ↓reduceIte, zuo, zuA, zu_nk, zrow_at, zrow_ne]
    · rw [if_neg (fun z => h1 z.1.2)]
      simp (decide := true) only [s7_0, s7_1, s7_4, s7_5, s7_8, s7_9, s7_9q, s7_10, s7_13, s7_16, s7_17, s7_17q, s7_18, s7_21, s7_22, s7_23, s7_26, s7_27, s7_30, s7_31, ht, Int32.not_lt.mpr h0, Int32.not_le.mp h1, zs_of, List.length_cons, List.length_nil, tl_some, tl_none, zrf_some, zdrop_i, zdrop_r, zdrop_q, zdrop_n, zdrop_l, i32_12, i32_1170, i32_2, i32_3, i32_5, i32_6, i32_8, i32_36, i32_200, Int32.reduceLE, Int32.reduceLT, Int32.reduceAdd, Int32.reduceSub, Int32.reduceMul, true_and, and_true, eq_self, true_or, or_true, not_true, not_false_iff, ↓reduceIte, zuo, zuA, zu_nk, zrow_at, zrow_ne]
  · rw [if_neg (fun z => h0 z.1.1)]
    simp (decide := true) only [s7_0, s7_1, s7_4, s7_5, s7_8, s7_9, s7_9q, s7_10, s7_13, s7_16, s7_17, s7_17q, s7_18, s7_21, s7_22, s7_23, s7_26, s7_27, s7_30, s7_31, ht, Int32.not_le.mp h0, zs_of, List.length_cons, List.length_nil, tl_some, tl_none, zrf_some, zdrop_i, zdrop_r, zdrop_q, zdrop_n, zdrop_l, i32_12, i32_1170, i32_2, i32_3, i32_5, i32_6, i32_8, i32_36, i32_200, Int32.reduceLE, Int32.reduceLT, Int32.reduceAdd, Int32.reduceSub, Int32.reduceMul, true_and, and_true, eq_self, true_or, or_true, not_true, not_false_iff, ↓reduceIte, zuo, zuA, zu_nk, zrow_at, zrow_ne]
theorem c_isSpan {b i m : Int32} (S : SH tg ln O) (hb : 0 ≤ b ∧ b < 3) (hs : 0 ≤ I 172 b ∧ I 172 b ≤ 12) (hd : Decidable (rwP (I 172 b) i m)) : Runs 199 0 [some (.ref 166), some (.int b), some (.int i), some (.int m)] [] (n, tg, ln, I, J, O) Q ↔ Q (some (.int (if rwP (I 172 b) i m then 1 else 0))) (n, tg, ln, I, J, O) := by
  by_cases h0 : 0 ≤ i
  · by_cases h1 : 0 ≤ m
    · have hx := @span64 (I 172 b) i m hs h0 h1
      by_cases h2 : i ≤ I 172 b ∧ m ≤ I 172 b - i
      · have h3 : ¬ 0 < lg_cmp (i.toInt64 + m.toInt64) (I 172 b).toInt64 := fun z => hx.mp ((lg_cmp_gt _ _).mp z) h2
        rw [if_pos ⟨⟨h0, h1⟩, h2⟩]
        simp (decide := true) only [s199_0, s199_1, s199_4, s199_5, s199_8, s199_9, s199_10, s199_11, s199_12, s199_13, s199_13q, s199_14, s199_17, s199_18, s199_19, s199_20, s199_21, s199_24, s199_25, s199_28, s199_29, hb, h3, Int32.not_lt.mpr h0, Int32.not_lt.mpr h1, S.t8, S.t29, S.t30, S.t31, S.t52, S.t53, S.t134, S.t155, S.t156, S.t157, S.t158, S.t159, S.t160, S.t161, S.t162, S.t163, S.t164, S.t165, S.t166, S.t167, S.t168, S.t169, S.t170, S.t171, S.t172, S.t173, S.t174, S.t175, S.t176, S.t177, S.t178, S.t179, S.t180, S.t181, S.t182, S.t183, S.t184, S.t185, S.t186, S.t187, S.l31, S.l53, S.l134, S.l155, S.l157, S.l158, S.l159, S.l161, S.l163, S.l165, S.l167, S.l168, S.l169, S.l170, S.l171, S.l172, S.l173, S.l174, S.l175, S.l176, S.l177, S.l178, S.l179, S.l180, S.l181, S.l182, S.l183, S.l184, S.l185, S.l186, S.l187, S.o8_0, S.o8_1, S.o8_2, S.o8_3, S.o8_4, S.o8_5, S.o8_6, S.o8_7, S.o29_0, S.o29_1, S.o29_2, S.o30_0, S.o52_0, S.o53_0, S.o53_1, S.o53_2, S.o53_3, S.o53_4, S.o53_5, S.o53_6, S.o53_7, S.o134_0, S.o134_1, S.o156_0, S.o156_1, S.o159_0, S.o159_1, S.o159_2, S.o160_0, S.o162_0, S.o164_0, S.o166_0, S.o166_2, S.o166_3, S.o166_6, S.o166_7, S.o166_8, S.o166_9, S.o166_10, S.o166_11, S.o166_15, S.o166_18, S.o166_19, S.o166_20, S.o166_21, S.o166_22, S.o166_23, S.o166_24, S.o166_25, S.o166_26, S.o166_27, S.o166_28, S.t9, S.t19, S.t32, S.t42, S.t54, S.t64, S.t74, S.t84, S.t94, S.t104, S.t114, S.t124, S.t135, S.t145, S.t10, S.t11, S.t12, S.t13, S.t14, S.t15, S.t16, S.t17, S.t18, S.l10, S.l11, S.l12, S.l13, S.l14, S.l16, S.l18, S.o9_0, S.o9_1, S.o9_2, S.o9_3, S.o9_4, S.o9_9, S.o9_10, S.o15_0, S.o17_0, S.t20, S.t21, S.t22, S.t23, S.t24, S.t25, S.t26, S.t27, S.t28, S.l20, S.l21, S.l22, S.l23, S.l24, S.l26, S.l28, S.o19_0, S.o19_1, S.o19_2, S.o19_3, S.o19_4, S.o19_9, S.o19_10, S.o25_0, S.o27_0, S.t33, S.t34, S.t35, S.t36, S.t37, S.t38, S.t39, S.t40, S.t41, S.l33, S.l34, S.l35, S.l36, S.l37, S.l39, S.l41, S.o32_0, S.o32_1, S.o32_2, S.o32_3, S.o32_4, S.o32_9, S.o32_10, S.o38_0, S.o40_0, S.t43, S.t44, S.t45, S.t46, S.t47, S.t48, S.t49, S.t50, S.t51, S.l43, S.l44, S.l45, S.l46, S.l47, S.l49, S.l51, S.o42_0, S.o42_1, S.o42_2, S.o42_3, S.o42_4, S.o42_9, S.o42_10, S.o48_0, S.o50_0, zs_of, List.length_cons, List.length_nil, tl_some, tl_none, zrf_some, zdrop_i, zdrop_r, zdrop_q, zdrop_n, zdrop_l, i32_12, i32_1170, i32_2, i32_3, i32_5, i32_6, i32_8, i32_36, i32_200, Int32.reduceLE, Int32.reduceLT, Int32.reduceAdd, Int32.reduceSub, Int32.reduceMul, true_and, and_true, eq_self, true_or, or_true, not_true, not_false_iff, ↓reduceIte, zuo, zuA, zu_nk, zrow_at, zrow_ne]
      · have h3 : 0 < lg_cmp (i.toInt64 + m.toInt64) (I 172 b).toInt64 := (lg_cmp_gt _ _).mpr (hx.mpr h2)
        rw [if_neg (fun z => h2 z.2)]
        simp (decide := true) only [s199_0, s199_1, s199_4, s199_5, s199_8, s199_9, s199_10, s199_11, s199_12, s199_13, s199_13q, s199_14, s199_17, s199_18, s199_19, s199_20, s199_21, s199_24, s199_25, s199_28, s199_29, hb, h3, Int32.not_lt.mpr h0, Int32.not_lt.mpr h1, S.t8, S.t29, S.t30, S.t31, S.t52, S.t53, S.t134, S.t155, S.t156, S.t157, S.t158, S.t159, S.t160, S.t161, S.t162, S.t163, S.t164, S.t165, S.t166, S.t167, S.t168, S.t169, S.t170, S.t171, S.t172, S.t173, S.t174, S.t175, S.t176, S.t177, S.t178, S.t179, S.t180, S.t181, S.t182, S.t183, S.t184, S.t185, S.t186, S.t187, S.l31, S.l53, S.l134, S.l155, S.l157, S.l158, S.l159, S.l161, S.l163, S.l165, S.l167, S.l168, S.l169, S.l170, S.l171, S.l172, S.l173, S.l174, S.l175, S.l176, S.l177, S.l178, S.l179, S.l180, S.l181, S.l182, S.l183, S.l184, S.l185, S.l186, S.l187, S.o8_0, S.o8_1, S.o8_2, S.o8_3, S.o8_4, S.o8_5, S.o8_6, S.o8_7, S.o29_0, S.o29_1, S.o29_2, S.o30_0, S.o52_0, S.o53_0, S.o53_1, S.o53_2, S.o53_3, S.o53_4, S.o53_5, S.o53_6, S.o53_7, S.o134_0, S.o134_1, S.o156_0, S.o156_1, S.o159_0, S.o159_1, S.o159_2, S.o160_0, S.o162_0, S.o164_0, S.o166_0, S.o166_2, S.o166_3, S.o166_6, S.o166_7, S.o166_8, S.o166_9, S.o166_10, S.o166_11, S.o166_15, S.o166_18, S.o166_19, S.o166_20, S.o166_21, S.o166_22, S.o166_23, S.o166_24, S.o166_25, S.o166_26, S.o166_27, S.o166_28, S.t9, S.t19, S.t32, S.t42, S.t54, S.t64, S.t74, S.t84, S.t94, S.t104, S.t114, S.t124, S.t135, S.t145, S.t10, S.t11, S.t12, S.t13, S.t14, S.t15, S.t16, S.t17, S.t18, S.l10, S.l11, S.l12, S.l13, S.l14, S.l16, S.l18, S.o9_0, S.o9_1, S.o9_2, S.o9_3, S.o9_4, S.o9_9, S.o9_10, S.o15_0, S.o17_0, S.t20, S.t21, S.t22, S.t23, S.t24, S.t25, S.t26, S.t27, S.t28, S.l20, S.l21, S.l22, S.l23, S.l24, S.l26, S.l28, S.o19_0, S.o19_1, S.o19_2, S.o19_3, S.o19_4, S.o19_9, S.o19_10, S.o25_0, S.o27_0, S.t33, S.t34, S.t35, S.t36, S.t37, S.t38, S.t39, S.t40, S.t41, S.l33, S.l34, S.l35, S.l36, S.l37, S.l39, S.l41, S.o32_0, S.o32_1, S.o32_2, S.o32_3, S.o32_4, S.o32_9, S.o32_10, S.o38_0, S.o40_0, S.t43, S.t44, S.t45, S.t46, S.t47, S.t48, S.t49, S.t50, S.t51, S.l43, S.l44, S.l45, S.l46, S.l47, S.l49, S.l51, S.o42_0, S.o42_1, S.o42_2, S.o42_3, S.o42_4, S.o42_9, S.o42_10, S.o48_0, S.o50_0, zs_of, List.length_cons, List.length_nil, tl_some, tl_none, zrf_some, zdrop_i, zdrop_r, zdrop_q, zdrop_n, zdrop_l, i32_12, i32_1170, i32_2, i32_3, i32_5, i32_6, i32_8, i32_36, i32_200, Int32.reduceLE, Int32.reduceLT, Int32.reduceAdd, Int32.reduceSub, Int32.reduceMul, true_and, and_true, eq_self, true_or, or_true, not_true, not_false_iff, ↓reduceIte, zuo, zuA, zu_nk, zrow_at, zrow_ne]
    · rw [if_neg (fun z => h1 z.1.2)]
      simp (decide := true) only [s199_0, s199_1, s199_4, s199_5, s199_8, s199_9, s199_10, s199_11, s199_12, s199_13, s199_13q, s199_14, s199_17, s199_18, s199_19, s199_20, s199_21, s199_24, s199_25, s199_28, s199_29, Int32.not_lt.mpr h0, Int32.not_le.mp h1, S.t8, S.t29, S.t30, S.t31, S.t52, S.t53, S.t134, S.t155, S.t156, S.t157, S.t158, S.t159, S.t160, S.t161, S.t162, S.t163, S.t164, S.t165, S.t166, S.t167, S.t168, S.t169, S.t170, S.t171, S.t172, S.t173, S.t174, S.t175, S.t176, S.t177, S.t178, S.t179, S.t180, S.t181, S.t182, S.t183, S.t184, S.t185, S.t186, S.t187, S.l31, S.l53, S.l134, S.l155, S.l157, S.l158, S.l159, S.l161, S.l163, S.l165, S.l167, S.l168, S.l169, S.l170, S.l171, S.l172, S.l173, S.l174, S.l175, S.l176, S.l177, S.l178, S.l179, S.l180, S.l181, S.l182, S.l183, S.l184, S.l185, S.l186, S.l187, S.o8_0, S.o8_1, S.o8_2, S.o8_3, S.o8_4, S.o8_5, S.o8_6, S.o8_7, S.o29_0, S.o29_1, S.o29_2, S.o30_0, S.o52_0, S.o53_0, S.o53_1, S.o53_2, S.o53_3, S.o53_4, S.o53_5, S.o53_6, S.o53_7, S.o134_0, S.o134_1, S.o156_0, S.o156_1, S.o159_0, S.o159_1, S.o159_2, S.o160_0, S.o162_0, S.o164_0, S.o166_0, S.o166_2, S.o166_3, S.o166_6, S.o166_7, S.o166_8, S.o166_9, S.o166_10, S.o166_11, S.o166_15, S.o166_18, S.o166_19, S.o166_20, S.o166_21, S.o166_22, S.o166_23, S.o166_24, S.o166_25, S.o166_26, S.o166_27, S.o166_28, S.t9, S.t19, S.t32, S.t42, S.t54, S.t64, S.t74, S.t84, S.t94, S.t104, S.t114, S.t124, S.t135, S.t145, S.t10, S.t11, S.t12, S.t13, S.t14, S.t15, S.t16, S.t17, S.t18, S.l10, S.l11, S.l12, S.l13, S.l14, S.l16, S.l18, S.o9_0, S.o9_1, S.o9_2, S.o9_3, S.o9_4, S.o9_9, S.o9_10, S.o15_0, S.o17_0, S.t20, S.t21, S.t22, S.t23, S.t24, S.t25, S.t26, S.t27, S.t28, S.l20, S.l21, S.l22, S.l23, S.l24, S.l26, S.l28, S.o19_0, S.o19_1, S.o19_2, S.o19_3, S.o19_4, S.o19_9, S.o19_10, S.o25_0, S.o27_0, S.t33, S.t34, S.t35, S.t36, S.t37, S.t38, S.t39, S.t40, S.t41, S.l33, S.l34, S.l35, S.l36, S.l37, S.l39, S.l41, S.o32_0, S.o32_1, S.o32_2, S.o32_3, S.o32_4, S.o32_9, S.o32_10, S.o38_0, S.o40_0, S.t43, S.t44, S.t45, S.t46, S.t47, S.t48, S.t49, S.t50, S.t51, S.l43, S.l44, S.l45, S.l46, S.l47, S.l49, S.l51, S.o42_0, S.o42_1, S.o42_2, S.o42_3, S.o42_4, S.o42_9, S.o42_10, S.o48_0, S.o50_0, zs_of, List.length_cons, List.length_nil, tl_some, tl_none, zrf_some, zdrop_i, zdrop_r, zdrop_q, zdrop_n, zdrop_l, i32_12, i32_1170, i32_2, i32_3, i32_5, i32_6, i32_8, i32_36, i32_200, Int32.reduceLE, Int32.reduceLT, Int32.reduceAdd, Int32.reduceSub, Int32.reduceMul, true_and, and_true, eq_self, true_or, or_true, not_true, not_false_iff, ↓reduceIte, zuo, zuA, zu_nk, zrow_at, zrow_ne]
  · rw [if_neg (fun z => h0 z.1.1)]
    simp (decide := true) only [s199_0, s199_1, s199_4, s199_5, s199_8, s199_9, s199_10, s199_11, s199_12, s199_13, s199_13q, s199_14, s199_17, s199_18, s199_19, s199_20, s199_21, s199_24, s199_25, s199_28, s199_29, Int32.not_le.mp h0, S.t8, S.t29, S.t30, S.t31, S.t52, S.t53, S.t134, S.t155, S.t156, S.t157, S.t158, S.t159, S.t160, S.t161, S.t162, S.t163, S.t164, S.t165, S.t166, S.t167, S.t168, S.t169, S.t170, S.t171, S.t172, S.t173, S.t174, S.t175, S.t176, S.t177, S.t178, S.t179, S.t180, S.t181, S.t182, S.t183, S.t184, S.t185, S.t186, S.t187, S.l31, S.l53, S.l134, S.l155, S.l157, S.l158, S.l159, S.l161, S.l163, S.l165, S.l167, S.l168, S.l169, S.l170, S.l171, S.l172, S.l173, S.l174, S.l175, S.l176, S.l177, S.l178, S.l179, S.l180, S.l181, S.l182, S.l183, S.l184, S.l185, S.l186, S.l187, S.o8_0, S.o8_1, S.o8_2, S.o8_3, S.o8_4, S.o8_5, S.o8_6, S.o8_7, S.o29_0, S.o29_1, S.o29_2, S.o30_0, S.o52_0, S.o53_0, S.o53_1, S.o53_2, S.o53_3, S.o53_4, S.o53_5, S.o53_6, S.o53_7, S.o134_0, S.o134_1, S.o156_0, S.o156_1, S.o159_0, S.o159_1, S.o159_2, S.o160_0, S.o162_0, S.o164_0, S.o166_0, S.o166_2, S.o166_3, S.o166_6, S.o166_7, S.o166_8, S.o166_9, S.o166_10, S.o166_11, S.o166_15, S.o166_18, S.o166_19, S.o166_20, S.o166_21, S.o166_22, S.o166_23, S.o166_24, S.o166_25, S.o166_26, S.o166_27, S.o166_28, S.t9, S.t19, S.t32, S.t42, S.t54, S.t64, S.t74, S.t84, S.t94, S.t104, S.t114, S.t124, S.t135, S.t145, S.t10, S.t11, S.t12, S.t13, S.t14, S.t15, S.t16, S.t17, S.t18, S.l10, S.l11, S.l12, S.l13, S.l14, S.l16, S.l18, S.o9_0, S.o9_1, S.o9_2, S.o9_3, S.o9_4, S.o9_9, S.o9_10, S.o15_0, S.o17_0, S.t20, S.t21, S.t22, S.t23, S.t24, S.t25, S.t26, S.t27, S.t28, S.l20, S.l21, S.l22, S.l23, S.l24, S.l26, S.l28, S.o19_0, S.o19_1, S.o19_2, S.o19_3, S.o19_4, S.o19_9, S.o19_10, S.o25_0, S.o27_0, S.t33, S.t34, S.t35, S.t36, S.t37, S.t38, S.t39, S.t40, S.t41, S.l33, S.l34, S.l35, S.l36, S.l37, S.l39, S.l41, S.o32_0, S.o32_1, S.o32_2, S.o32_3, S.o32_4, S.o32_9, S.o32_10, S.o38_0, S.o40_0, S.t43, S.t44, S.t45, S.t46, S.t47, S.t48, S.t49, S.t50, S.t51, S.l43, S.l44, S.l45, S.l46, S.l47, S.l49, S.l51, S.o42_0, S.o42_1, S.o42_2, S.o42_3, S.o42_4, S.o42_9, S.o42_10, S.o48_0, S.o50_0, zs_of, List.length_cons, List.length_nil, tl_some, tl_none, zrf_some, zdrop_i, zdrop_r, zdrop_q, zdrop_n, zdrop_l, i32_12, i32_1170, i32_2, i32_3, i32_5, i32_6, i32_8, i32_36, i32_200, Int32.reduceLE, Int32.reduceLT, Int32.reduceAdd, Int32.reduceSub, Int32.reduceMul, true_and, and_true, eq_self, true_or, or_true, not_true, not_false_iff, ↓reduceIte, zuo, zuA, zu_nk, zrow_at, zrow_ne]
theorem up_read {i j p q : Int32} (h : j ≤ i) (h0 : 0 ≤ i ∧ i ≤ 12) (j0 : 0 ≤ j) (hq : 0 ≤ q) (hp : q < p) (hp2 : p ≤ 12) : i + p ≠ j + q := by grind
theorem dn_read {i j p q m : Int32} (h : i < j) (h0 : 0 ≤ i) (j0 : j ≤ 12) (hp0 : 0 ≤ p) (hq : p + 1 ≤ q) (hp : q < m) (hp2 : m ≤ 12) : i + p ≠ j + q := by grind
theorem q_up {j i m : Int32} (t1 : tg a = 1) (o1 : O a 0 = some c) (t2 : tg c = 25) (l2 : ln c = 12) (t3 : tg a2 = 1) (o3 : O a2 0 = some c2) (t4 : tg c2 = 25) (l4 : ln c2 = 12) (hne : a ≠ c ∧ a2 ≠ c) (hty : ∀ k, 0 ≤ k → k < 12 → ∀ q, O c2 k = some q → tg q = 3) (h1 : rwP (I a 1) j m) (h2 : rwP (I a2 1) i m) (s1 : I a 1 ≤ 12) (s2 : I a2 1 ≤ 12) (hji : j ≤ i) : ∀ (k : Nat) (p : Int32) (O1 : Nat → Int32 → Option Nat), p.toInt + k = m.toInt → 0 ≤ p → (∀ x, x ≠ c → O1 x = O x) → MVd (O c) (O1 c) (O c2) j i 0 p → (∀ O', (∀ x, x ≠ c → O' x = O x) → MVd (O c) (O' c) (O c2) j i 0 m → Q none (n, tg, ln, I, J, O')) → Runs 8 29 [some (.ref a), some (.int j), some (.ref a2), some (.int i), some (.int m), some (.int p)] [] (n, tg, ln, I, J, O1) Q := by
  intro k
  obtain ⟨m0, m1, j0, j1⟩ := rw_m s1 h1
  obtain ⟨-, -, i0, i1⟩ := rw_m s2 h2
  have hm : m.toInt ≤ 2000 := by have := Int32.le_iff_toInt_le.mp m1; rw [show (12 : Int32).toInt = 12 by decide] at this; omega
  induction k with
  | zero =>
    intro p O1 e p0 hx hv hq
    have cc := (ct0 hm e).1 rfl
    subst cc
    rw [s8_29]
    simp (decide := true) only [s8_0, s8_0q, s8_1, s8_2, s8_4, s8_7, s8_10, s8_10q, s8_11, s8_12, s8_14, s8_17, s8_20, s8_21, s8_22, s8_23, s8_26, s8_27, s8_31, s8_33, s8_36, s8_36q, s8_37, s8_40, s8_41, s8_43, s8_44, s8_44q, s8_45, s8_48, s8_49, s8_51, s8_52, s8_52q, s8_52p, s8_53, s8_54, s8_57, s8_60, s8_63, s8_65, s8_66, s8_67, s8_69, s8_71, s8_74, s8_74q, s8_75, s8_78, s8_79, s8_81, s8_82, s8_82q, s8_83, s8_86, s8_87, s8_89, s8_90, s8_90q, s8_90p, s8_91, s8_92, s8_95, s8_98, Int32.le_refl, zs_of, List.length_cons, List.length_nil, tl_some, tl_none, zrf_some, zdrop_i, zdrop_r, zdrop_q, zdrop_n, zdrop_l, i32_12, i32_1170, i32_2, i32_3, i32_5, i32_6, i32_8, i32_36, i32_200, Int32.reduceLE, Int32.reduceLT, Int32.reduceAdd, Int32.reduceSub, Int32.reduceMul, true_and, and_true, eq_self, true_or, or_true, not_true, not_false_iff, ↓reduceIte, zuo, zuA, zu_nk, zrow_at, zrow_ne]
    exact hq O1 hx hv
  | succ k ih =>
    intro p O1 e p0 hx hv hq
    obtain ⟨cc, cl, e'⟩ := (ct0 hm e).2 k rfl
    obtain ⟨x1, p1, -⟩ := rw_in s1 h1 p0 cl
    obtain ⟨x2, -, -⟩ := rw_in s2 h2 p0 cl
    have p12 : p ≤ 12 := Int32.le_trans (Int32.le_of_lt cl) m1
    have oa : O1 a 0 = some c := by rw [hx a hne.1]; exact o1
    have ob : O1 a2 0 = some c2 := by rw [hx a2 hne.2]; exact o3
    have er : O1 c2 (i + p) = O c2 (i + p) := by
      by_cases hc : c2 = c
      · rw [hc]
        exact hv.2 _ (fun q q0 q1 => up_read hji ⟨i0, i1⟩ j0 q0 q1 p12)
      · rw [hx c2 hc]
    have h53 := fun (Q : Option Value → ZH → Prop) ls st => @s8_53 ls st Q n tg ln I J O1 (j + p) c (O c2 (i + p)) t2 (hty _ x2.1 x2.2)
    rw [s8_29]
    simp (decide := true) only [s8_0, s8_0q, s8_1, s8_2, s8_4, s8_7, s8_10, s8_10q, s8_11, s8_12, s8_14, s8_17, s8_20, s8_21, s8_22, s8_23, s8_26, s8_27, s8_31, s8_33, s8_36, s8_36q, s8_37, s8_40, s8_41, s8_43, s8_44, s8_44q, s8_45, s8_48, s8_49, s8_51, s8_52, s8_52q, s8_52p, s8_54, s8_57, s8_60, s8_63, s8_65, s8_66, s8_67, s8_69, s8_71, s8_74, s8_74q, s8_75, s8_78, s8_79, s8_81, s8_82, s8_82q, s8_83, s8_86, s8_87, s8_89, s8_90, s8_90q, s8_90p, s8_91, s8_92, s8_95, s8_98, cc, t1, t2, l2, t3, t4, l4, oa, ob, x1, x2, er, h53, zs_of, List.length_cons, List.length_nil, tl_some, tl_none, zrf_some, zdrop_i, zdrop_r, zdrop_q, zdrop_n, zdrop_l, i32_12, i32_1170, i32_2, i32_3, i32_5, i32_6, i32_8, i32_36, i32_200, Int32.reduceLE, Int32.reduceLT, Int32.reduceAdd, Int32.reduceSub, Int32.reduceMul, true_and, and_true, eq_self, true_or, or_true, not_true, not_false_iff, ↓reduceIte, zuo, zuA, zu_nk, zrow_at, zrow_ne]
    exact ih (p + 1) _ e' p1 (fun x hxc => by rw [zo_ne hxc]; exact hx x hxc) (hv.up p0 (Int32.le_trans p12 (by decide)) zo_at (fun y hy => zo_nk hy)) hq
theorem q_down {j i m : Int32} (t1 : tg a = 1) (o1 : O a 0 = some c) (t2 : tg c = 25) (l2 : ln c = 12) (t3 : tg a2 = 1) (o3 : O a2 0 = some c2) (t4 : tg c2 = 25) (l4 : ln c2 = 12) (hne : a ≠ c ∧ a2 ≠ c) (hty : ∀ k, 0 ≤ k → k < 12 → ∀ q, O c2 k = some q → tg q = 3) (h1 : rwP (I a 1) j m) (h2 : rwP (I a2 1) i m) (s1 : I a 1 ≤ 12) (s2 : I a2 1 ≤ 12) (hji : i < j) : ∀ (k : Nat) (p : Int32) (O1 : Nat → Int32 → Option Nat), p.toInt + 1 = (k : Nat) → k ≤ 12 → p < m → (∀ x, x ≠ c → O1 x = O x) → MVd (O c) (O1 c) (O c2) j i (p + 1) m → (∀ O', (∀ x, x ≠ c → O' x = O x) → MVd (O c) (O' c) (O c2) j i 0 m → Q none (n, tg, ln, I, J, O')) → Runs 8 69 [some (.ref a), some (.int j), some (.ref a2), some (.int i), some (.int m), some (.int p)] [] (n, tg, ln, I, J, O1) Q := by
  intro k
  obtain ⟨m0, m1, j0, j1⟩ := rw_m s1 h1
  obtain ⟨-, -, i0, i1⟩ := rw_m s2 h2
  induction k with
  | zero =>
    intro p O1 e k12 pm hx hv hq
    have cc : p = -1 := Int32.toInt_inj.mp (by rw [show (-1 : Int32).toInt = -1 by decide]; omega)
    subst cc
    rw [s8_69]
    simp (decide := true) only [s8_0, s8_0q, s8_1, s8_2, s8_4, s8_7, s8_10, s8_10q, s8_11, s8_12, s8_14, s8_17, s8_20, s8_21, s8_22, s8_23, s8_26, s8_27, s8_29, s8_31, s8_33, s8_36, s8_36q, s8_37, s8_40, s8_41, s8_43, s8_44, s8_44q, s8_45, s8_48, s8_49, s8_51, s8_52, s8_52q, s8_52p, s8_53, s8_54, s8_57, s8_60, s8_63, s8_65, s8_66, s8_67, s8_71, s8_74, s8_74q, s8_75, s8_78, s8_79, s8_81, s8_82, s8_82q, s8_83, s8_86, s8_87, s8_89, s8_90, s8_90q, s8_90p, s8_91, s8_92, s8_95, s8_98, zs_of, List.length_cons, List.length_nil, tl_some, tl_none, zrf_some, zdrop_i, zdrop_r, zdrop_q, zdrop_n, zdrop_l, i32_12, i32_1170, i32_2, i32_3, i32_5, i32_6, i32_8, i32_36, i32_200, Int32.reduceLE, Int32.reduceLT, Int32.reduceAdd, Int32.reduceSub, Int32.reduceMul, true_and, and_true, eq_self, true_or, or_true, not_true, not_false_iff, ↓reduceIte, zuo, zuA, zu_nk, zrow_at, zrow_ne]
    exact hq O1 hx hv
  | succ k ih =>
    intro p O1 e k12 pm hx hv hq
    obtain ⟨e', cc, p0⟩ := p_dn e (by omega)
    obtain ⟨x1, p1, -⟩ := rw_in s1 h1 p0 pm
    obtain ⟨x2, -, -⟩ := rw_in s2 h2 p0 pm
    have oa : O1 a 0 = some c := by rw [hx a hne.1]; exact o1
    have ob : O1 a2 0 = some c2 := by rw [hx a2 hne.2]; exact o3
    have er : O1 c2 (i + p) = O c2 (i + p) := by
      by_cases hc : c2 = c
      · rw [hc]
        exact hv.2 _ (fun q q0 q1 => dn_read hji i0 j1 p0 q0 q1 m1)
      · rw [hx c2 hc]
    have h91 := fun (Q : Option Value → ZH → Prop) ls st => @s8_91 ls st Q n tg ln I J O1 (j + p) c (O c2 (i + p)) t2 (hty _ x2.1 x2.2)
    rw [s8_69]
    simp (decide := true) only [s8_0, s8_0q, s8_1, s8_2, s8_4, s8_7, s8_10, s8_10q, s8_11, s8_12, s8_14, s8_17, s8_20, s8_21, s8_22, s8_23, s8_26, s8_27, s8_29, s8_31, s8_33, s8_36, s8_36q, s8_37, s8_40, s8_41, s8_43, s8_44, s8_44q, s8_45, s8_48, s8_49, s8_51, s8_52, s8_52q, s8_52p, s8_53, s8_54, s8_57, s8_60, s8_63, s8_65, s8_66, s8_67, s8_71, s8_74, s8_74q, s8_75, s8_78, s8_79, s8_81, s8_82, s8_82q, s8_83, s8_86, s8_87, s8_89, s8_90, s8_90q, s8_90p, s8_92, s8_95, s8_98, cc, t1, t2, l2, t3, t4, l4, oa, ob, x1, x2, er, h91, zs_of, List.length_cons, List.length_nil, tl_some, tl_none, zrf_some, zdrop_i, zdrop_r, zdrop_q, zdrop_n, zdrop_l, i32_12, i32_1170, i32_2, i32_3, i32_5, i32_6, i32_8, i32_36, i32_200, Int32.reduceLE, Int32.reduceLT, Int32.reduceAdd, Int32.reduceSub, Int32.reduceMul, true_and, and_true, eq_self, true_or, or_true, not_true, not_false_iff, ↓reduceIte, zuo, zuA, zu_nk, zrow_at, zrow_ne]
    exact ih (p + (-1)) _ e' (by omega) (by clear ih hq hv hx er h91 hty; grind) (fun x hxc => by rw [zo_ne hxc]; exact hx x hxc) (hv.down p0 pm (Int32.le_trans m1 (by decide)) zo_at (fun y hy => zo_nk hy)) hq
theorem m_1 {m : Int32} (h0 : 0 ≤ m) (h : m ≤ 12) : m - 1 < m ∧ m - 1 + 1 = m ∧ ∃ k : Nat, (m - 1).toInt + 1 = (k : Nat) ∧ k ≤ 12 := by
  obtain ⟨a, rfl⟩ := finN (m := 13) (by omega) h0 (Int32.lt_of_le_of_lt h (by decide))
  have : ∀ a : Fin 13, Int32.ofNat a - 1 < Int32.ofNat a ∧ Int32.ofNat a - 1 + 1 = Int32.ofNat a ∧ (Int32.ofNat a - 1).toInt + 1 = (a.val : Nat) := by decide +kernel
  obtain ⟨h1, h2, h3⟩ := this a
  exact ⟨h1, h2, a.val, h3, by omega⟩
theorem q_take {j i m : Int32} (t1 : tg a = 1) (o1 : O a 0 = some c) (t2 : tg c = 25) (l2 : ln c = 12) (t3 : tg a2 = 1) (o3 : O a2 0 = some c2) (t4 : tg c2 = 25) (l4 : ln c2 = 12) (hne : a ≠ c ∧ a2 ≠ c) (hty : ∀ k, 0 ≤ k → k < 12 → ∀ q, O c2 k = some q → tg q = 3) (h1 : rwP (I a 1) j m) (h2 : rwP (I a2 1) i m) (s1 : I a 1 ≤ 12) (s2 : I a2 1 ≤ 12) (hq : ∀ O', (∀ x, x ≠ c → O' x = O x) → MVd (O c) (O' c) (O c2) j i 0 m → Q none (n, tg, ln, I, J, O')) : Runs 8 0 [some (.ref a), some (.int j), some (.ref a2), some (.int i), some (.int m), none] [] (n, tg, ln, I, J, O) Q := by
  obtain ⟨m0, m1, j0, j1⟩ := rw_m s1 h1
  have d1 : Decidable (rwP (I a 1) j m) := .isTrue h1
  have d2 : Decidable (rwP (I a2 1) i m) := .isTrue h2
  have r1 := fun (Q : Option Value → ZH → Prop) => @c_hasRow Q n tg ln I J O a j m t1 d1
  have r2 := fun (Q : Option Value → ZH → Prop) => @c_hasRow Q n tg ln I J O a2 i m t3 d2
  by_cases hji : j ≤ i
  · simp (decide := true) only [s8_0, s8_0q, s8_1, s8_2, s8_4, s8_7, s8_10, s8_10q, s8_11, s8_12, s8_14, s8_17, s8_20, s8_21, s8_22, s8_23, s8_26, s8_27, s8_31, s8_33, s8_36, s8_36q, s8_37, s8_40, s8_41, s8_43, s8_44, s8_44q, s8_45, s8_48, s8_49, s8_51, s8_52, s8_52q, s8_52p, s8_53, s8_54, s8_57, s8_60, s8_63, s8_65, s8_66, s8_67, s8_69, s8_71, s8_74, s8_74q, s8_75, s8_78, s8_79, s8_81, s8_82, s8_82q, s8_83, s8_86, s8_87, s8_89, s8_90, s8_90q, s8_90p, s8_91, s8_92, s8_95, s8_98, r1, r2, h1, h2, t1, t3, Int32.not_lt.mpr hji, zs_of, List.length_cons, List.length_nil, tl_some, tl_none, zrf_some, zdrop_i, zdrop_r, zdrop_q, zdrop_n, zdrop_l, i32_12, i32_1170, i32_2, i32_3, i32_5, i32_6, i32_8, i32_36, i32_200, Int32.reduceLE, Int32.reduceLT, Int32.reduceAdd, Int32.reduceSub, Int32.reduceMul, true_and, and_true, eq_self, true_or, or_true, not_true, not_false_iff, ↓reduceIte, zuo, zuA, zu_nk, zrow_at, zrow_ne]
    have e : (0 : Int32).toInt + (m.toInt.toNat : Nat) = m.toInt := by
      have := Int32.le_iff_toInt_le.mp m0
      rw [show (0 : Int32).toInt = 0 by decide] at this ⊢
      omega
    exact q_up t1 o1 t2 l2 t3 o3 t4 l4 hne hty h1 h2 s1 s2 hji _ 0 O e (by decide) (fun _ _ => rfl) (MVd.nil (by decide)) hq
  · simp (decide := true) only [s8_0, s8_0q, s8_1, s8_2, s8_4, s8_7, s8_10, s8_10q, s8_11, s8_12, s8_14, s8_17, s8_20, s8_21, s8_22, s8_23, s8_26, s8_27, s8_29, s8_31, s8_33, s8_36, s8_36q, s8_37, s8_40, s8_41, s8_43, s8_44, s8_44q, s8_45, s8_48, s8_49, s8_51, s8_52, s8_52q, s8_52p, s8_53, s8_54, s8_57, s8_60, s8_63, s8_65, s8_66, s8_67, s8_71, s8_74, s8_74q, s8_75, s8_78, s8_79, s8_81, s8_82, s8_82q, s8_83, s8_86, s8_87, s8_89, s8_90, s8_90q, s8_90p, s8_91, s8_92, s8_95, s8_98, r1, r2, h1, h2, t1, t3, Int32.not_le.mp hji, zs_of, List.length_cons, List.length_nil, tl_some, tl_none, zrf_some, zdrop_i, zdrop_r, zdrop_q, zdrop_n, zdrop_l, i32_12, i32_1170, i32_2, i32_3, i32_5, i32_6, i32_8, i32_36, i32_200, Int32.reduceLE, Int32.reduceLT, Int32.reduceAdd, Int32.reduceSub, Int32.reduceMul, true_and, and_true, eq_self, true_or, or_true, not_true, not_false_iff, ↓reduceIte, zuo, zuA, zu_nk, zrow_at, zrow_ne]
    obtain ⟨g1, g2, k, g3, g4⟩ := m_1 m0 m1
    exact q_down t1 o1 t2 l2 t3 o3 t4 l4 hne hty h1 h2 s1 s2 (Int32.not_le.mp hji) k (m - 1) O g3 g4 g1 (fun _ _ => rfl) (by rw [g2]; exact MVd.nil (fun z => absurd z (Int32.not_lt.mpr (Int32.le_refl _)))) hq
end MOVE
