theorem fin8 {k : Int32} (h : 0 ≤ k ∧ k < 8) : ∃ a : Fin 8, k = Int32.ofNat a := by
  rcases r8 h with rfl | rfl | rfl | rfl | rfl | rfl | rfl | rfl
  · exact ⟨0, rfl⟩
  · exact ⟨1, rfl⟩
  · exact ⟨2, rfl⟩
  · exact ⟨3, rfl⟩
  · exact ⟨4, rfl⟩
  · exact ⟨5, rfl⟩
  · exact ⟨6, rfl⟩
  · exact ⟨7, rfl⟩
def nx1 (k : Int32) : Int32 := if k + 1 < 8 then k + 1 else 0
theorem hn1 {i j : Int32} (h1 : 0 ≤ i) (h2 : i < 8) (hk : 0 ≤ j) (hk2 : j < 90) : 180 ≤ 180 + 90 * i + j ∧ 180 + 90 * i + j < 900 := by grind
theorem hn2 {i j : Int32} (h1 : 0 ≤ i) (h2 : i < 7) (hk : 0 ≤ j) (hk2 : j < 90) : 180 + 90 * i + j < 810 := by grind
theorem hn3 {i j : Int32} : 270 + (180 + 90 * i + j - 180) = 180 + 90 * (i + 1) + j := by grind
theorem hn4 {i j u : Int32} (h1 : 0 ≤ i) (h2 : i < u) (h3 : u < 8) (hk : 0 ≤ j) (hk2 : j < 90) : 180 + 90 * i + j < 180 + 90 * u := by grind
theorem hn5 {u : Int32} (h1 : 0 ≤ u) (h2 : u < 8) : 0 ≤ 180 + 90 * u ∧ 180 + 90 * u ≤ 1080 ∧ 90 ≤ 180 + 90 * u := by grind
theorem hn6 {a b k : Int32} (h1 : 0 ≤ a ∧ a ≤ 1080) (h2 : 0 ≤ b ∧ b ≤ 1080) (hd : a + 90 ≤ b) (hk : 0 ≤ k) (hk2 : k < 90) : a + k < b := by grind
theorem hn7 {a b k : Int32} (h1 : 0 ≤ a ∧ a ≤ 1080) (h2 : 0 ≤ b ∧ b ≤ 1080) (hd : b + 90 ≤ a) (hk : 0 ≤ k) (hk2 : k < 90) : b + k ≤ a + k := by grind
theorem hn8 {i : Int32} (h0 : 0 ≤ i) (h : i < 8) (h7 : i ≠ 7) : i < 7 ∧ 0 ≤ i + 1 ∧ i + 1 < 8 := by grind
theorem hn9 {u : Int32} (h0 : 0 ≤ u) (h : u ≤ 8) (h7 : ¬ u = 8) : u < 8 := by grind
theorem hn10 {i u : Int32} (h0 : 0 ≤ u) (h8 : u < 8) (h : i < u + 1) (h7 : ¬ i = u) : i < u := by grind
theorem hn11 {u i : Int32} (h0 : 0 ≤ u) (h8 : u < 8) (h : i < u + 1) : i < 8 := by grind
theorem hn12 {k : Int32} (h0 : 0 ≤ k) (h : k < 90) : 0 ≤ k + 1 ∧ k + 1 ≤ 90 ∧ k < 1000 := by grind
theorem hn13 {b k : Int32} (h1 : 0 ≤ b ∧ b ≤ 1080) (h0 : 0 ≤ k) (h : k < 90) : (0 ≤ b + k ∧ b + k < 1170) ∧ 0 ≤ b ∧ b ≤ 2000 := by grind
theorem hn14 {k : Int32} (h0 : 0 ≤ k) (h : k < 630) : (0 ≤ 270 + k ∧ 270 + k < 1170) ∧ (0 ≤ 180 + k ∧ 180 + k < 1170) ∧ 0 ≤ k + 1 ∧ k + 1 ≤ 630 ∧ k < 1000 ∧ 180 + k ≤ 270 + k := by grind
theorem hn15 {j : Int32} (h0 : 0 ≤ j) (h : j < 90) : 0 + j < 180 := by grind
theorem rg1 {a i : Int32} (ha : 0 ≤ a ∧ a < 8) (hi : 0 ≤ i ∧ i < 8) (h7 : i ≠ 7) : wr (nx1 a - 8 + i) = wr (a - 8 + (i + 1)) ∧ 0 ≤ wr (a - 8 + (i + 1)) ∧ wr (a - 8 + (i + 1)) < 8 ∧ wr (a - 8 + (i + 1)) ≠ a := by
  obtain ⟨x, rfl⟩ := fin8 ha
  obtain ⟨y, rfl⟩ := fin8 hi
  revert h7 hi ha
  revert x y
  decide +kernel
theorem rg2 {a : Int32} (ha : 0 ≤ a ∧ a < 8) : wr (nx1 a - 8 + 7) = a ∧ 0 ≤ nx1 a ∧ nx1 a < 8 := by
  obtain ⟨x, rfl⟩ := fin8 ha
  revert ha
  revert x
  decide +kernel
theorem rg3 {a u i : Int32} (ha : 0 ≤ a ∧ a < 8) (hu : 0 ≤ u ∧ u < 8) (hi : 0 ≤ i ∧ i < 8) : (i = u → wr (nx1 a - (u + 1) + i) = a) ∧ (i < u → wr (nx1 a - (u + 1) + i) = wr (a - u + i) ∧ 0 ≤ wr (a - u + i) ∧ wr (a - u + i) < 8 ∧ wr (a - u + i) ≠ a) := by
  obtain ⟨x, rfl⟩ := fin8 ha
  obtain ⟨y, rfl⟩ := fin8 hu
  obtain ⟨z, rfl⟩ := fin8 hi
  revert hi hu ha
  revert x y z
  decide +kernel
theorem rgU {u : Int32} (h0 : 0 ≤ u) (h : u ≤ 8) : ((if u < 8 then u + 1 else u) = if u = 8 then 8 else u + 1) ∧ 0 ≤ (if u = 8 then 8 else u + 1) ∧ (if u = 8 then 8 else u + 1) ≤ (8 : Int32) := by grind
theorem zsl_grow {f g : Int32 → Int32} {d w : Int32} (hd : 0 ≤ d ∧ d ≤ 2000) (hw : 0 ≤ w ∧ w < 1000) : zset (zsl f d w g) (d + w) (g w) = zsl f d (w + 1) g := by
  funext k
  unfold zset zsl
  by_cases hk : k = d + w
  · rw [if_pos hk, if_pos (by grind), show k - d = w by grind]
  · rw [if_neg hk]
    by_cases h2 : d ≤ k ∧ k < d + w
    · rw [if_pos h2, if_pos (by grind)]
    · rw [if_neg h2, if_neg (by grind)]
theorem zsl_0 {f g : Int32 → Int32} {d : Int32} (hd : 0 ≤ d ∧ d ≤ 2000) : zsl f d 0 g = f := by
  funext k
  unfold zsl
  rw [if_neg (by grind)]
theorem zu_zu {I : Nat → Int32 → Int32} {a : Nat} {k v w : Int32} : zu (zu I a k v) a k w = zu I a k w := by
  funext b j
  unfold zu
  grind
theorem zu_zrow_ne {I : Nat → Int32 → Int32} {a r : Nat} {k v : Int32} {F : Int32 → Int32} (h : a ≠ r) : zrow (zu I a k v) r F = zu (zrow I r F) a k v := by
  funext b j
  unfold zu zrow
  grind
section HIST
variable {Q : Option Value → ZH → Prop} {n : Nat} {tg ln : Nat → Nat} {I I2 : Nat → Int32 → Int32} {J : Nat → Int32 → Int64} {O : Nat → Int32 → Option Nat}
theorem c_M_copyPlain {m r : Nat} {bf bt : Int32} (h : MSh tg ln O m r) (h1 : 0 ≤ bf ∧ bf ≤ 1080) (h2 : 0 ≤ bt ∧ bt ≤ 1080) (hd : bf + 90 ≤ bt ∨ bt + 90 ≤ bf) : Runs 149 0 [some (.ref m), some (.int bf), some (.int bt), none] [] (n, tg, ln, I, J, O) Q ↔ Q none (n, tg, ln, zrow I r (cyM (I r) bf bt), J, O) := by
  obtain ⟨t0, o0, t1, l1⟩ := id h
  have loop : ∀ k, 0 ≤ k → k ≤ 90 → (Runs 149 2 [some (.ref m), some (.int bf), some (.int bt), some (.int k)] [] (n, tg, ln, zrow I r (zsl (I r) bt k (fun j => I r (bf + j))), J, O) Q ↔ Q none (n, tg, ln, zrow I r (cyM (I r) bf bt), J, O)) := by
    refine zup_ind 90 (fun k hk k0 k1 => ?_) (fun k hk ih k0 k1 => ?_)
    · obtain rfl : k = 90 := Int32.le_antisymm k1 (Int32.not_lt.mp hk)
      rw [s149_2]
      simp (decide := true) only [s149_0, s149_1, s149_3, s149_5, s149_8, s149_8q, s149_9, s149_12, s149_13, s149_14, s149_15, s149_15q, s149_16, s149_19, s149_20, s149_21, s149_22, s149_23, s149_24, s149_27, s149_30, t0, o0, t1, l1, zs_of, List.length_cons, List.length_nil, tl_some, tl_none, zrf_some, zdrop_i, zdrop_r, zdrop_q, zdrop_n, zdrop_l, i32_12, i32_1170, i32_2, i32_3, i32_5, i32_6, i32_8, i32_36, i32_200, Int32.reduceLE, Int32.reduceLT, Int32.reduceAdd, Int32.reduceSub, Int32.reduceMul, true_and, and_true, eq_self, true_or, or_true, not_true, not_false_iff, ↓reduceIte, zuo, zuA, zu_nk, zrow_at, zrow_ne]
      exact Iff.rfl
    · obtain ⟨k2, k3, k4⟩ := hn12 k0 hk
      have ih := ih k2 k3
      obtain ⟨r1, -⟩ := hn13 h1 k0 hk
      obtain ⟨r2, d2⟩ := hn13 h2 k0 hk
      have e1 : zsl (I r) bt k (fun j => I r (bf + j)) (bf + k) = I r (bf + k) := zsl_out (by
        rcases hd with hd | hd
        · exact Or.inl (hn6 h1 h2 hd k0 hk)
        · exact Or.inr (hn7 h1 h2 hd k0 hk))
      have e2 := @zsl_grow (I r) (fun j => I r (bf + j)) bt k d2 ⟨k0, k4⟩
      rw [s149_2]
      simp (decide := true) only [s149_0, s149_1, s149_3, s149_5, s149_8, s149_8q, s149_9, s149_12, s149_13, s149_14, s149_15, s149_15q, s149_16, s149_19, s149_20, s149_21, s149_22, s149_23, s149_24, s149_27, s149_30, t0, o0, t1, l1, r1, r2, e1, e2, zu_zrow, Int32.not_le.mpr hk, ih, zs_of, List.length_cons, List.length_nil, tl_some, tl_none, zrf_some, zdrop_i, zdrop_r, zdrop_q, zdrop_n, zdrop_l, i32_12, i32_1170, i32_2, i32_3, i32_5, i32_6, i32_8, i32_36, i32_200, Int32.reduceLE, Int32.reduceLT, Int32.reduceAdd, Int32.reduceSub, Int32.reduceMul, true_and, and_true, eq_self, true_or, or_true, not_true, not_false_iff, ↓reduceIte, zuo, zuA, zu_nk, zrow_at, zrow_ne]
  have l0 := loop 0 (by decide) (by decide)
  rw [zsl_0 (hn13 h2 (Int32.le_refl 0) (by decide)).2, zrow_self] at l0
  simp (decide := true) only [s149_0, s149_1, s149_3, s149_5, s149_8, s149_8q, s149_9, s149_12, s149_13, s149_14, s149_15, s149_15q, s149_16, s149_19, s149_20, s149_21, s149_22, s149_23, s149_24, s149_27, s149_30, zs_of, List.length_cons, List.length_nil, tl_some, tl_none, zrf_some, zdrop_i, zdrop_r, zdrop_q, zdrop_n, zdrop_l, i32_12, i32_1170, i32_2, i32_3, i32_5, i32_6, i32_8, i32_36, i32_200, Int32.reduceLE, Int32.reduceLT, Int32.reduceAdd, Int32.reduceSub, Int32.reduceMul, true_and, and_true, eq_self, true_or, or_true, not_true, not_false_iff, ↓reduceIte, zuo, zuA, zu_nk, zrow_at, zrow_ne, l0]
/-- the row of what came before -/
def shF (f : Int32 → Int32) : Int32 → Int32 := zsl f 180 630 (fun k => f (270 + k))
def kpF (f : Int32 → Int32) (u : Int32) : Int32 → Int32 := if u = 8 then cyM (shF f) 0 810 else cyM f 0 (180 + 90 * u)
def kpU (u : Int32) : Int32 := if u = 8 then 8 else u + 1
def kpI (I : Nat → Int32 → Int32) : Nat → Int32 → Int32 := zu (zrow I 167 (kpF (I 167) (I 166 1))) 166 1 (kpU (I 166 1))
theorem c_M_keepPast (S : SH tg ln O) (hu : 0 ≤ I 166 1 ∧ I 166 1 ≤ 8) : Runs 164 0 [some (.ref 166), none] [] (n, tg, ln, I, J, O) Q ↔ Q none (n, tg, ln, kpI I, J, O) := by
  have loop : ∀ k, 0 ≤ k → k ≤ 630 → (Runs 164 11 [some (.ref 166), some (.int k)] [] (n, tg, ln, zrow I 167 (zsl (I 167) 180 k (fun j => I 167 (270 + j))), J, O) Q ↔ Runs 164 44 [some (.ref 166), some (.int 630)] [] (n, tg, ln, zrow I 167 (shF (I 167)), J, O) Q) := by
    refine zup_ind 630 (fun k hk k0 k1 => ?_) (fun k hk ih k0 k1 => ?_)
    · obtain rfl : k = 630 := Int32.le_antisymm k1 (Int32.not_lt.mp hk)
      rw [s164_11]
      simp (decide := true) only [s164_0, s164_0q, s164_1, s164_4, s164_6, s164_9, s164_10, s164_12, s164_15, s164_18, s164_18q, s164_19, s164_22, s164_25, s164_26, s164_27, s164_27q, s164_28, s164_31, s164_34, s164_35, s164_36, s164_37, s164_38, s164_41, s164_45, s164_45q, s164_46, s164_49, s164_50, s164_51, s164_54, s164_54q, s164_55, s164_56, s164_59, s164_61, s164_61q, s164_62, s164_65, s164_66, s164_67, s164_70, s164_70q, s164_71, s164_71q, s164_72, s164_75, s164_76, s164_77, s164_80, zs_of, List.length_cons, List.length_nil, tl_some, tl_none, zrf_some, zdrop_i, zdrop_r, zdrop_q, zdrop_n, zdrop_l, i32_12, i32_1170, i32_2, i32_3, i32_5, i32_6, i32_8, i32_36, i32_200, Int32.reduceLE, Int32.reduceLT, Int32.reduceAdd, Int32.reduceSub, Int32.reduceMul, true_and, and_true, eq_self, true_or, or_true, not_true, not_false_iff, ↓reduceIte, zuo, zuA, zu_nk, zrow_at, zrow_ne]
      exact Iff.rfl
    · obtain ⟨r1, r2, r3, r4, r5, r6⟩ := hn14 k0 hk
      have ih := ih r3 r4
      have e1 : zsl (I 167) 180 k (fun j => I 167 (270 + j)) (270 + k) = I 167 (270 + k) := zsl_out (Or.inr r6)
      have e2 := @zsl_grow (I 167) (fun j => I 167 (270 + j)) 180 k (by decide) ⟨k0, r5⟩
      rw [s164_11]
      simp (decide := true) only [s164_0, s164_0q, s164_1, s164_4, s164_6, s164_9, s164_10, s164_12, s164_15, s164_18, s164_18q, s164_19, s164_22, s164_25, s164_26, s164_27, s164_27q, s164_28, s164_31, s164_34, s164_35, s164_36, s164_37, s164_38, s164_41, s164_45, s164_45q, s164_46, s164_49, s164_50, s164_51, s164_54, s164_54q, s164_55, s164_56, s164_59, s164_61, s164_61q, s164_62, s164_65, s164_66, s164_67, s164_70, s164_70q, s164_71, s164_71q, s164_72, s164_75, s164_76, s164_77, s164_80, S.t8, S.t29, S.t30, S.t31, S.t52, S.t53, S.t134, S.t155, S.t156, S.t157, S.t158, S.t159, S.t160, S.t161, S.t162, S.t163, S.t164, S.t165, S.t166, S.t167, S.t168, S.t169, S.t170, S.t171, S.t172, S.t173, S.t174, S.t175, S.t176, S.t177, S.t178, S.t179, S.t180, S.t181, S.t182, S.t183, S.t184, S.t185, S.t186, S.t187, S.l31, S.l53, S.l134, S.l155, S.l157, S.l158, S.l159, S.l161, S.l163, S.l165, S.l167, S.l168, S.l169, S.l170, S.l171, S.l172, S.l173, S.l174, S.l175, S.l176, S.l177, S.l178, S.l179, S.l180, S.l181, S.l182, S.l183, S.l184, S.l185, S.l186, S.l187, S.o8_0, S.o8_1, S.o8_2, S.o8_3, S.o8_4, S.o8_5, S.o8_6, S.o8_7, S.o29_0, S.o29_1, S.o29_2, S.o30_0, S.o52_0, S.o53_0, S.o53_1, S.o53_2, S.o53_3, S.o53_4, S.o53_5, S.o53_6, S.o53_7, S.o134_0, S.o134_1, S.o156_0, S.o156_1, S.o159_0, S.o159_1, S.o159_2, S.o160_0, S.o162_0, S.o164_0, S.o166_0, S.o166_2, S.o166_3, S.o166_6, S.o166_7, S.o166_8, S.o166_9, S.o166_10, S.o166_11, S.o166_15, S.o166_18, S.o166_19, S.o166_20, S.o166_21, S.o166_22, S.o166_23, S.o166_24, S.o166_25, S.o166_26, S.o166_27, S.o166_28, S.t9, S.t19, S.t32, S.t42, S.t54, S.t64, S.t74, S.t84, S.t94, S.t104, S.t114, S.t124, S.t135, S.t145, S.t10, S.t11, S.t12, S.t13, S.t14, S.t15, S.t16, S.t17, S.t18, S.l10, S.l11, S.l12, S.l13, S.l14, S.l16, S.l18, S.o9_0, S.o9_1, S.o9_2, S.o9_3, S.o9_4, S.o9_9, S.o9_10, S.o15_0, S.o17_0, S.t20, S.t21, S.t22, S.t23, S.t24, S.t25, S.t26, S.t27, S.t28, S.l20, S.l21, S.l22, S.l23, S.l24, S.l26, S.l28, S.o19_0, S.o19_1, S.o19_2, S.o19_3, S.o19_4, S.o19_9, S.o19_10, S.o25_0, S.o27_0, S.t33, S.t34, S.t35, S.t36, S.t37, S.t38, S.t39, S.t40, S.t41, S.l33, S.l34, S.l35, S.l36, S.l37, S.l39, S.l41, S.o32_0, S.o32_1, S.o32_2, S.o32_3, S.o32_4, S.o32_9, S.o32_10, S.o38_0, S.o40_0, S.t43, S.t44, S.t45, S.t46, S.t47, S.t48, S.t49, S.t50, S.t51, S.l43, S.l44, S.l45, S.l46, S.l47, S.l49, S.l51, S.o42_0, S.o42_1, S.o42_2, S.o42_3, S.o42_4, S.o42_9, S.o42_10, S.o48_0, S.o50_0, r1, r2, e1, e2, zu_zrow, Int32.not_le.mpr hk, ih, zs_of, List.length_cons, List.length_nil, tl_some, tl_none, zrf_some, zdrop_i, zdrop_r, zdrop_q, zdrop_n, zdrop_l, i32_12, i32_1170, i32_2, i32_3, i32_5, i32_6, i32_8, i32_36, i32_200, Int32.reduceLE, Int32.reduceLT, Int32.reduceAdd, Int32.reduceSub, Int32.reduceMul, true_and, and_true, eq_self, true_or, or_true, not_true, not_false_iff, ↓reduceIte, zuo, zuA, zu_nk, zrow_at, zrow_ne]
  have l0 := loop 0 (by decide) (by decide)
  rw [zsl_0 (by decide), zrow_self] at l0
  unfold kpI kpF kpU
  by_cases h8 : I 166 1 = 8
  · have hc := fun (Q : Option Value → ZH → Prop) (I : Nat → Int32 → Int32) => @c_M_copyPlain Q n tg ln I J O 166 167 0 810 S.mr (by decide) (by decide) (by decide)
    simp (decide := true) only [s164_0, s164_0q, s164_1, s164_4, s164_6, s164_9, s164_10, s164_12, s164_15, s164_18, s164_18q, s164_19, s164_22, s164_25, s164_26, s164_27, s164_27q, s164_28, s164_31, s164_34, s164_35, s164_36, s164_37, s164_38, s164_41, s164_45, s164_45q, s164_46, s164_49, s164_50, s164_51, s164_54, s164_54q, s164_55, s164_56, s164_59, s164_61, s164_61q, s164_62, s164_65, s164_66, s164_67, s164_70, s164_70q, s164_71, s164_71q, s164_72, s164_75, s164_76, s164_77, s164_80, S.t8, S.t29, S.t30, S.t31, S.t52, S.t53, S.t134, S.t155, S.t156, S.t157, S.t158, S.t159, S.t160, S.t161, S.t162, S.t163, S.t164, S.t165, S.t166, S.t167, S.t168, S.t169, S.t170, S.t171, S.t172, S.t173, S.t174, S.t175, S.t176, S.t177, S.t178, S.t179, S.t180, S.t181, S.t182, S.t183, S.t184, S.t185, S.t186, S.t187, S.l31, S.l53, S.l134, S.l155, S.l157, S.l158, S.l159, S.l161, S.l163, S.l165, S.l167, S.l168, S.l169, S.l170, S.l171, S.l172, S.l173, S.l174, S.l175, S.l176, S.l177, S.l178, S.l179, S.l180, S.l181, S.l182, S.l183, S.l184, S.l185, S.l186, S.l187, S.o8_0, S.o8_1, S.o8_2, S.o8_3, S.o8_4, S.o8_5, S.o8_6, S.o8_7, S.o29_0, S.o29_1, S.o29_2, S.o30_0, S.o52_0, S.o53_0, S.o53_1, S.o53_2, S.o53_3, S.o53_4, S.o53_5, S.o53_6, S.o53_7, S.o134_0, S.o134_1, S.o156_0, S.o156_1, S.o159_0, S.o159_1, S.o159_2, S.o160_0, S.o162_0, S.o164_0, S.o166_0, S.o166_2, S.o166_3, S.o166_6, S.o166_7, S.o166_8, S.o166_9, S.o166_10, S.o166_11, S.o166_15, S.o166_18, S.o166_19, S.o166_20, S.o166_21, S.o166_22, S.o166_23, S.o166_24, S.o166_25, S.o166_26, S.o166_27, S.o166_28, S.t9, S.t19, S.t32, S.t42, S.t54, S.t64, S.t74, S.t84, S.t94, S.t104, S.t114, S.t124, S.t135, S.t145, S.t10, S.t11, S.t12, S.t13, S.t14, S.t15, S.t16, S.t17, S.t18, S.l10, S.l11, S.l12, S.l13, S.l14, S.l16, S.l18, S.o9_0, S.o9_1, S.o9_2, S.o9_3, S.o9_4, S.o9_9, S.o9_10, S.o15_0, S.o17_0, S.t20, S.t21, S.t22, S.t23, S.t24, S.t25, S.t26, S.t27, S.t28, S.l20, S.l21, S.l22, S.l23, S.l24, S.l26, S.l28, S.o19_0, S.o19_1, S.o19_2, S.o19_3, S.o19_4, S.o19_9, S.o19_10, S.o25_0, S.o27_0, S.t33, S.t34, S.t35, S.t36, S.t37, S.t38, S.t39, S.t40, S.t41, S.l33, S.l34, S.l35, S.l36, S.l37, S.l39, S.l41, S.o32_0, S.o32_1, S.o32_2, S.o32_3, S.o32_4, S.o32_9, S.o32_10, S.o38_0, S.o40_0, S.t43, S.t44, S.t45, S.t46, S.t47, S.t48, S.t49, S.t50, S.t51, S.l43, S.l44, S.l45, S.l46, S.l47, S.l49, S.l51, S.o42_0, S.o42_1, S.o42_2, S.o42_3, S.o42_4, S.o42_9, S.o42_10, S.o48_0, S.o50_0, h8, l0, zs_of, List.length_cons, List.length_nil, tl_some, tl_none, zrf_some, zdrop_i, zdrop_r, zdrop_q, zdrop_n, zdrop_l, i32_12, i32_1170, i32_2, i32_3, i32_5, i32_6, i32_8, i32_36, i32_200, Int32.reduceLE, Int32.reduceLT, Int32.reduceAdd, Int32.reduceSub, Int32.reduceMul, true_and, and_true, eq_self, true_or, or_true, not_true, not_false_iff, ↓reduceIte, zuo, zuA, zu_nk, zrow_at, zrow_ne]
    simp (decide := true) only [s164_0, s164_0q, s164_1, s164_4, s164_6, s164_9, s164_10, s164_12, s164_15, s164_18, s164_18q, s164_19, s164_22, s164_25, s164_26, s164_27, s164_27q, s164_28, s164_31, s164_34, s164_35, s164_36, s164_37, s164_38, s164_41, s164_44, s164_44q, s164_45, s164_45q, s164_46, s164_49, s164_50, s164_51, s164_54, s164_54q, s164_55, s164_56, s164_59, s164_61, s164_61q, s164_62, s164_65, s164_66, s164_67, s164_70, s164_70q, s164_71, s164_71q, s164_72, s164_75, s164_76, s164_77, s164_80, S.t8, S.t29, S.t30, S.t31, S.t52, S.t53, S.t134, S.t155, S.t156, S.t157, S.t158, S.t159, S.t160, S.t161, S.t162, S.t163, S.t164, S.t165, S.t166, S.t167, S.t168, S.t169, S.t170, S.t171, S.t172, S.t173, S.t174, S.t175, S.t176, S.t177, S.t178, S.t179, S.t180, S.t181, S.t182, S.t183, S.t184, S.t185, S.t186, S.t187, S.l31, S.l53, S.l134, S.l155, S.l157, S.l158, S.l159, S.l161, S.l163, S.l165, S.l167, S.l168, S.l169, S.l170, S.l171, S.l172, S.l173, S.l174, S.l175, S.l176, S.l177, S.l178, S.l179, S.l180, S.l181, S.l182, S.l183, S.l184, S.l185, S.l186, S.l187, S.o8_0, S.o8_1, S.o8_2, S.o8_3, S.o8_4, S.o8_5, S.o8_6, S.o8_7, S.o29_0, S.o29_1, S.o29_2, S.o30_0, S.o52_0, S.o53_0, S.o53_1, S.o53_2, S.o53_3, S.o53_4, S.o53_5, S.o53_6, S.o53_7, S.o134_0, S.o134_1, S.o156_0, S.o156_1, S.o159_0, S.o159_1, S.o159_2, S.o160_0, S.o162_0, S.o164_0, S.o166_0, S.o166_2, S.o166_3, S.o166_6, S.o166_7, S.o166_8, S.o166_9, S.o166_10, S.o166_11, S.o166_15, S.o166_18, S.o166_19, S.o166_20, S.o166_21, S.o166_22, S.o166_23, S.o166_24, S.o166_25, S.o166_26, S.o166_27, S.o166_28, S.t9, S.t19, S.t32, S.t42, S.t54, S.t64, S.t74, S.t84, S.t94, S.t104, S.t114, S.t124, S.t135, S.t145, S.t10, S.t11, S.t12, S.t13, S.t14, S.t15, S.t16, S.t17, S.t18, S.l10, S.l11, S.l12, S.l13, S.l14, S.l16, S.l18, S.o9_0, S.o9_1, S.o9_2, S.o9_3, S.o9_4, S.o9_9, S.o9_10, S.o15_0, S.o17_0, S.t20, S.t21, S.t22, S.t23, S.t24, S.t25, S.t26, S.t27, S.t28, S.l20, S.l21, S.l22, S.l23, S.l24, S.l26, S.l28, S.o19_0, S.o19_1, S.o19_2, S.o19_3, S.o19_4, S.o19_9, S.o19_10, S.o25_0, S.o27_0, S.t33, S.t34, S.t35, S.t36, S.t37, S.t38, S.t39, S.t40, S.t41, S.l33, S.l34, S.l35, S.l36, S.l37, S.l39, S.l41, S.o32_0, S.o32_1, S.o32_2, S.o32_3, S.o32_4, S.o32_9, S.o32_10, S.o38_0, S.o40_0, S.t43, S.t44, S.t45, S.t46, S.t47, S.t48, S.t49, S.t50, S.t51, S.l43, S.l44, S.l45, S.l46, S.l47, S.l49, S.l51, S.o42_0, S.o42_1, S.o42_2, S.o42_3, S.o42_4, S.o42_9, S.o42_10, S.o48_0, S.o50_0, h8, hc, zu_zrow_ne, zrow_zrow, zu_zu, zs_of, List.length_cons, List.length_nil, tl_some, tl_none, zrf_some, zdrop_i, zdrop_r, zdrop_q, zdrop_n, zdrop_l, i32_12, i32_1170, i32_2, i32_3, i32_5, i32_6, i32_8, i32_36, i32_200, Int32.reduceLE, Int32.reduceLT, Int32.reduceAdd, Int32.reduceSub, Int32.reduceMul, true_and, and_true, eq_self, true_or, or_true, not_true, not_false_iff, ↓reduceIte, zuo, zuA, zu_nk, zrow_at, zrow_ne]
  · have hb := hn5 hu.1 (hn9 hu.1 hu.2 h8)
    have hc := fun (Q : Option Value → ZH → Prop) => @c_M_copyPlain Q n tg ln I J O 166 167 0 (180 + 90 * I 166 1) S.mr (by decide) ⟨hb.1, hb.2.1⟩ (Or.inl hb.2.2)
    simp (decide := true) only [s164_0, s164_0q, s164_1, s164_4, s164_6, s164_9, s164_10, s164_12, s164_15, s164_18, s164_18q, s164_19, s164_22, s164_25, s164_26, s164_27, s164_27q, s164_28, s164_31, s164_34, s164_35, s164_36, s164_37, s164_38, s164_41, s164_44, s164_44q, s164_45, s164_45q, s164_46, s164_49, s164_50, s164_51, s164_54, s164_54q, s164_55, s164_56, s164_59, s164_61, s164_61q, s164_62, s164_65, s164_66, s164_67, s164_70, s164_70q, s164_71, s164_71q, s164_72, s164_75, s164_76, s164_77, s164_80, S.t8, S.t29, S.t30, S.t31, S.t52, S.t53, S.t134, S.t155, S.t156, S.t157, S.t158, S.t159, S.t160, S.t161, S.t162, S.t163, S.t164, S.t165, S.t166, S.t167, S.t168, S.t169, S.t170, S.t171, S.t172, S.t173, S.t174, S.t175, S.t176, S.t177, S.t178, S.t179, S.t180, S.t181, S.t182, S.t183, S.t184, S.t185, S.t186, S.t187, S.l31, S.l53, S.l134, S.l155, S.l157, S.l158, S.l159, S.l161, S.l163, S.l165, S.l167, S.l168, S.l169, S.l170, S.l171, S.l172, S.l173, S.l174, S.l175, S.l176, S.l177, S.l178, S.l179, S.l180, S.l181, S.l182, S.l183, S.l184, S.l185, S.l186, S.l187, S.o8_0, S.o8_1, S.o8_2, S.o8_3, S.o8_4, S.o8_5, S.o8_6, S.o8_7, S.o29_0, S.o29_1, S.o29_2, S.o30_0, S.o52_0, S.o53_0, S.o53_1, S.o53_2, S.o53_3, S.o53_4, S.o53_5, S.o53_6, S.o53_7, S.o134_0, S.o134_1, S.o156_0, S.o156_1, S.o159_0, S.o159_1, S.o159_2, S.o160_0, S.o162_0, S.o164_0, S.o166_0, S.o166_2, S.o166_3, S.o166_6, S.o166_7, S.o166_8, S.o166_9, S.o166_10, S.o166_11, S.o166_15, S.o166_18, S.o166_19, S.o166_20, S.o166_21, S.o166_22, S.o166_23, S.o166_24, S.o166_25, S.o166_26, S.o166_27, S.o166_28, S.t9, S.t19, S.t32, S.t42, S.t54, S.t64, S.t74, S.t84, S.t94, S.t104, S.t114, S.t124, S.t135, S.t145, S.t10, S.t11, S.t12, S.t13, S.t14, S.t15, S.t16, S.t17, S.t18, S.l10, S.l11, S.l12, S.l13, S.l14, S.l16, S.l18, S.o9_0, S.o9_1, S.o9_2, S.o9_3, S.o9_4, S.o9_9, S.o9_10, S.o15_0, S.o17_0, S.t20, S.t21, S.t22, S.t23, S.t24, S.t25, S.t26, S.t27, S.t28, S.l20, S.l21, S.l22, S.l23, S.l24, S.l26, S.l28, S.o19_0, S.o19_1, S.o19_2, S.o19_3, S.o19_4, S.o19_9, S.o19_10, S.o25_0, S.o27_0, S.t33, S.t34, S.t35, S.t36, S.t37, S.t38, S.t39, S.t40, S.t41, S.l33, S.l34, S.l35, S.l36, S.l37, S.l39, S.l41, S.o32_0, S.o32_1, S.o32_2, S.o32_3, S.o32_4, S.o32_9, S.o32_10, S.o38_0, S.o40_0, S.t43, S.t44, S.t45, S.t46, S.t47, S.t48, S.t49, S.t50, S.t51, S.l43, S.l44, S.l45, S.l46, S.l47, S.l49, S.l51, S.o42_0, S.o42_1, S.o42_2, S.o42_3, S.o42_4, S.o42_9, S.o42_10, S.o48_0, S.o50_0, h8, hc, zs_of, List.length_cons, List.length_nil, tl_some, tl_none, zrf_some, zdrop_i, zdrop_r, zdrop_q, zdrop_n, zdrop_l, i32_12, i32_1170, i32_2, i32_3, i32_5, i32_6, i32_8, i32_36, i32_200, Int32.reduceLE, Int32.reduceLT, Int32.reduceAdd, Int32.reduceSub, Int32.reduceMul, true_and, and_true, eq_self, true_or, or_true, not_true, not_false_iff, ↓reduceIte, zuo, zuA, zu_nk, zrow_at, zrow_ne]
/-- what the class remembers -/
def remM (I : Nat → Int32 → Int32) : Nat → Int32 → Int32 := zu (zu (cpM I (rgA (I 52 1)) 9) 52 1 (nx1 (I 52 1))) 52 2 (if I 52 2 < 8 then I 52 2 + 1 else I 52 2)
theorem zu_id {a : Nat} {k : Int32} : zu I a k (I a k) = I := by
  funext b j
  unfold zu
  grind
theorem c_remember (S : SH tg ln O) (hn : 0 ≤ I 52 1 ∧ I 52 1 < 8) : Runs 12 0 [some (.ref 52), some (.ref 9)] [] (n, tg, ln, I, J, O) Q ↔ Q none (n, tg, ln, remM I, J, O) := by
  obtain ⟨hp, ho⟩ := S.rg hn
  have hf := rgA_far hn
  have hc := fun (Q : Option Value → ZH → Prop) => @c_Plain_copyFrom Q n tg ln I J O (rgA (I 52 1)) 9 hp S.p9 (by omega)
  have tp := hp.1.1
  have e42 : cpM I (rgA (I 52 1)) 9 52 = I 52 := cpM_fr 52 (by omega)
  unfold remM nx1
  by_cases h1 : I 52 1 + 1 < 8
  · by_cases h2 : I 52 2 < 8
    · simp (decide := true) only [s12_0, s12_0q, s12_1, s12_4, s12_4q, s12_5, s12_8, s12_8q, s12_8p, s12_9, s12_9q, s12_10, s12_10q, s12_13, s12_13q, s12_14, s12_14q, s12_15, s12_18, s12_19, s12_20, s12_22, s12_25, s12_25q, s12_26, s12_29, s12_30, s12_31, s12_34, s12_35, s12_38, s12_38q, s12_39, s12_42, s12_44, s12_47, s12_47q, s12_48, s12_48q, s12_49, s12_52, s12_53, s12_54, s12_57, S.t8, S.t29, S.t30, S.t31, S.t52, S.t53, S.t134, S.t155, S.t156, S.t157, S.t158, S.t159, S.t160, S.t161, S.t162, S.t163, S.t164, S.t165, S.t166, S.t167, S.t168, S.t169, S.t170, S.t171, S.t172, S.t173, S.t174, S.t175, S.t176, S.t177, S.t178, S.t179, S.t180, S.t181, S.t182, S.t183, S.t184, S.t185, S.t186, S.t187, S.l31, S.l53, S.l134, S.l155, S.l157, S.l158, S.l159, S.l161, S.l163, S.l165, S.l167, S.l168, S.l169, S.l170, S.l171, S.l172, S.l173, S.l174, S.l175, S.l176, S.l177, S.l178, S.l179, S.l180, S.l181, S.l182, S.l183, S.l184, S.l185, S.l186, S.l187, S.o8_0, S.o8_1, S.o8_2, S.o8_3, S.o8_4, S.o8_5, S.o8_6, S.o8_7, S.o29_0, S.o29_1, S.o29_2, S.o30_0, S.o52_0, S.o53_0, S.o53_1, S.o53_2, S.o53_3, S.o53_4, S.o53_5, S.o53_6, S.o53_7, S.o134_0, S.o134_1, S.o156_0, S.o156_1, S.o159_0, S.o159_1, S.o159_2, S.o160_0, S.o162_0, S.o164_0, S.o166_0, S.o166_2, S.o166_3, S.o166_6, S.o166_7, S.o166_8, S.o166_9, S.o166_10, S.o166_11, S.o166_15, S.o166_18, S.o166_19, S.o166_20, S.o166_21, S.o166_22, S.o166_23, S.o166_24, S.o166_25, S.o166_26, S.o166_27, S.o166_28, S.t9, S.t19, S.t32, S.t42, S.t54, S.t64, S.t74, S.t84, S.t94, S.t104, S.t114, S.t124, S.t135, S.t145, S.t10, S.t11, S.t12, S.t13, S.t14, S.t15, S.t16, S.t17, S.t18, S.l10, S.l11, S.l12, S.l13, S.l14, S.l16, S.l18, S.o9_0, S.o9_1, S.o9_2, S.o9_3, S.o9_4, S.o9_9, S.o9_10, S.o15_0, S.o17_0, S.t20, S.t21, S.t22, S.t23, S.t24, S.t25, S.t26, S.t27, S.t28, S.l20, S.l21, S.l22, S.l23, S.l24, S.l26, S.l28, S.o19_0, S.o19_1, S.o19_2, S.o19_3, S.o19_4, S.o19_9, S.o19_10, S.o25_0, S.o27_0, S.t33, S.t34, S.t35, S.t36, S.t37, S.t38, S.t39, S.t40, S.t41, S.l33, S.l34, S.l35, S.l36, S.l37, S.l39, S.l41, S.o32_0, S.o32_1, S.o32_2, S.o32_3, S.o32_4, S.o32_9, S.o32_10, S.o38_0, S.o40_0, S.t43, S.t44, S.t45, S.t46, S.t47, S.t48, S.t49, S.t50, S.t51, S.l43, S.l44, S.l45, S.l46, S.l47, S.l49, S.l51, S.o42_0, S.o42_1, S.o42_2, S.o42_3, S.o42_4, S.o42_9, S.o42_10, S.o48_0, S.o50_0, hn, ho, tp, hc, e42, Int32.not_le.mpr h1, Int32.not_le.mpr h2, h1, h2, zs_of, List.length_cons, List.length_nil, tl_some, tl_none, zrf_some, zdrop_i, zdrop_r, zdrop_q, zdrop_n, zdrop_l, i32_12, i32_1170, i32_2, i32_3, i32_5, i32_6, i32_8, i32_36, i32_200, Int32.reduceLE, Int32.reduceLT, Int32.reduceAdd, Int32.reduceSub, Int32.reduceMul, true_and, and_true, eq_self, true_or, or_true, not_true, not_false_iff, ↓reduceIte, zuo, zuA, zu_nk, zrow_at, zrow_ne]
    · have e2 : zu (zu (cpM I (rgA (I 52 1)) 9) 52 1 (I 52 1 + 1)) 52 2 (I 52 2) = zu (cpM I (rgA (I 52 1)) 9) 52 1 (I 52 1 + 1) := by
        have := @zu_id (zu (cpM I (rgA (I 52 1)) 9) 52 1 (I 52 1 + 1)) 52 2
        rwa [zu_nk (by decide), e42] at this
      simp (decide := true) only [s12_0, s12_0q, s12_1, s12_4, s12_4q, s12_5, s12_8, s12_8q, s12_8p, s12_9, s12_9q, s12_10, s12_10q, s12_13, s12_13q, s12_14, s12_14q, s12_15, s12_18, s12_19, s12_20, s12_22, s12_25, s12_25q, s12_26, s12_29, s12_30, s12_31, s12_34, s12_35, s12_38, s12_38q, s12_39, s12_42, s12_44, s12_47, s12_47q, s12_48, s12_48q, s12_49, s12_52, s12_53, s12_54, s12_57, S.t8, S.t29, S.t30, S.t31, S.t52, S.t53, S.t134, S.t155, S.t156, S.t157, S.t158, S.t159, S.t160, S.t161, S.t162, S.t163, S.t164, S.t165, S.t166, S.t167, S.t168, S.t169, S.t170, S.t171, S.t172, S.t173, S.t174, S.t175, S.t176, S.t177, S.t178, S.t179, S.t180, S.t181, S.t182, S.t183, S.t184, S.t185, S.t186, S.t187, S.l31, S.l53, S.l134, S.l155, S.l157, S.l158, S.l159, S.l161, S.l163, S.l165, S.l167, S.l168, S.l169, S.l170, S.l171, S.l172, S.l173, S.l174, S.l175, S.l176, S.l177, S.l178, S.l179, S.l180, S.l181, S.l182, S.l183, S.l184, S.l185, S.l186, S.l187, S.o8_0, S.o8_1, S.o8_2, S.o8_3, S.o8_4, S.o8_5, S.o8_6, S.o8_7, S.o29_0, S.o29_1, S.o29_2, S.o30_0, S.o52_0, S.o53_0, S.o53_1, S.o53_2, S.o53_3, S.o53_4, S.o53_5, S.o53_6, S.o53_7, S.o134_0, S.o134_1, S.o156_0, S.o156_1, S.o159_0, S.o159_1, S.o159_2, S.o160_0, S.o162_0, S.o164_0, S.o166_0, S.o166_2, S.o166_3, S.o166_6, S.o166_7, S.o166_8, S.o166_9, S.o166_10, S.o166_11, S.o166_15, S.o166_18, S.o166_19, S.o166_20, S.o166_21, S.o166_22, S.o166_23, S.o166_24, S.o166_25, S.o166_26, S.o166_27, S.o166_28, S.t9, S.t19, S.t32, S.t42, S.t54, S.t64, S.t74, S.t84, S.t94, S.t104, S.t114, S.t124, S.t135, S.t145, S.t10, S.t11, S.t12, S.t13, S.t14, S.t15, S.t16, S.t17, S.t18, S.l10, S.l11, S.l12, S.l13, S.l14, S.l16, S.l18, S.o9_0, S.o9_1, S.o9_2, S.o9_3, S.o9_4, S.o9_9, S.o9_10, S.o15_0, S.o17_0, S.t20, S.t21, S.t22, S.t23, S.t24, S.t25, S.t26, S.t27, S.t28, S.l20, S.l21, S.l22, S.l23, S.l24, S.l26, S.l28, S.o19_0, S.o19_1, S.o19_2, S.o19_3, S.o19_4, S.o19_9, S.o19_10, S.o25_0, S.o27_0, S.t33, S.t34, S.t35, S.t36, S.t37, S.t38, S.t39, S.t40, S.t41, S.l33, S.l34, S.l35, S.l36, S.l37, S.l39, S.l41, S.o32_0, S.o32_1, S.o32_2, S.o32_3, S.o32_4, S.o32_9, S.o32_10, S.o38_0, S.o40_0, S.t43, S.t44, S.t45, S.t46, S.t47, S.t48, S.t49, S.t50, S.t51, S.l43, S.l44, S.l45, S.l46, S.l47, S.l49, S.l51, S.o42_0, S.o42_1, S.o42_2, S.o42_3, S.o42_4, S.o42_9, S.o42_10, S.o48_0, S.o50_0, hn, ho, tp, hc, e42, Int32.not_le.mpr h1, Int32.not_lt.mp h2, h1, h2, e2, zs_of, List.length_cons, List.length_nil, tl_some, tl_none, zrf_some, zdrop_i, zdrop_r, zdrop_q, zdrop_n, zdrop_l, i32_12, i32_1170, i32_2, i32_3, i32_5, i32_6, i32_8, i32_36, i32_200, Int32.reduceLE, Int32.reduceLT, Int32.reduceAdd, Int32.reduceSub, Int32.reduceMul, true_and, and_true, eq_self, true_or, or_true, not_true, not_false_iff, ↓reduceIte, zuo, zuA, zu_nk, zrow_at, zrow_ne]
  · by_cases h2 : I 52 2 < 8
    · simp (decide := true) only [s12_0, s12_0q, s12_1, s12_4, s12_4q, s12_5, s12_8, s12_8q, s12_8p, s12_9, s12_9q, s12_10, s12_10q, s12_13, s12_13q, s12_14, s12_14q, s12_15, s12_18, s12_19, s12_20, s12_22, s12_25, s12_25q, s12_26, s12_29, s12_30, s12_31, s12_34, s12_35, s12_38, s12_38q, s12_39, s12_42, s12_44, s12_47, s12_47q, s12_48, s12_48q, s12_49, s12_52, s12_53, s12_54, s12_57, S.t8, S.t29, S.t30, S.t31, S.t52, S.t53, S.t134, S.t155, S.t156, S.t157, S.t158, S.t159, S.t160, S.t161, S.t162, S.t163, S.t164, S.t165, S.t166, S.t167, S.t168, S.t169, S.t170, S.t171, S.t172, S.t173, S.t174, S.t175, S.t176, S.t177, S.t178, S.t179, S.t180, S.t181, S.t182, S.t183, S.t184, S.t185, S.t186, S.t187, S.l31, S.l53, S.l134, S.l155, S.l157, S.l158, S.l159, S.l161, S.l163, S.l165, S.l167, S.l168, S.l169, S.l170, S.l171, S.l172, S.l173, S.l174, S.l175, S.l176, S.l177, S.l178, S.l179, S.l180, S.l181, S.l182, S.l183, S.l184, S.l185, S.l186, S.l187, S.o8_0, S.o8_1, S.o8_2, S.o8_3, S.o8_4, S.o8_5, S.o8_6, S.o8_7, S.o29_0, S.o29_1, S.o29_2, S.o30_0, S.o52_0, S.o53_0, S.o53_1, S.o53_2, S.o53_3, S.o53_4, S.o53_5, S.o53_6, S.o53_7, S.o134_0, S.o134_1, S.o156_0, S.o156_1, S.o159_0, S.o159_1, S.o159_2, S.o160_0, S.o162_0, S.o164_0, S.o166_0, S.o166_2, S.o166_3, S.o166_6, S.o166_7, S.o166_8, S.o166_9, S.o166_10, S.o166_11, S.o166_15, S.o166_18, S.o166_19, S.o166_20, S.o166_21, S.o166_22, S.o166_23, S.o166_24, S.o166_25, S.o166_26, S.o166_27, S.o166_28, S.t9, S.t19, S.t32, S.t42, S.t54, S.t64, S.t74, S.t84, S.t94, S.t104, S.t114, S.t124, S.t135, S.t145, S.t10, S.t11, S.t12, S.t13, S.t14, S.t15, S.t16, S.t17, S.t18, S.l10, S.l11, S.l12, S.l13, S.l14, S.l16, S.l18, S.o9_0, S.o9_1, S.o9_2, S.o9_3, S.o9_4, S.o9_9, S.o9_10, S.o15_0, S.o17_0, S.t20, S.t21, S.t22, S.t23, S.t24, S.t25, S.t26, S.t27, S.t28, S.l20, S.l21, S.l22, S.l23, S.l24, S.l26, S.l28, S.o19_0, S.o19_1, S.o19_2, S.o19_3, S.o19_4, S.o19_9, S.o19_10, S.o25_0, S.o27_0, S.t33, S.t34, S.t35, S.t36, S.t37, S.t38, S.t39, S.t40, S.t41, S.l33, S.l34, S.l35, S.l36, S.l37, S.l39, S.l41, S.o32_0, S.o32_1, S.o32_2, S.o32_3, S.o32_4, S.o32_9, S.o32_10, S.o38_0, S.o40_0, S.t43, S.t44, S.t45, S.t46, S.t47, S.t48, S.t49, S.t50, S.t51, S.l43, S.l44, S.l45, S.l46, S.l47, S.l49, S.l51, S.o42_0, S.o42_1, S.o42_2, S.o42_3, S.o42_4, S.o42_9, S.o42_10, S.o48_0, S.o50_0, hn, ho, tp, hc, e42, Int32.not_lt.mp h1, Int32.not_le.mpr h2, h1, h2, zs_of, List.length_cons, List.length_nil, tl_some, tl_none, zrf_some, zdrop_i, zdrop_r, zdrop_q, zdrop_n, zdrop_l, i32_12, i32_1170, i32_2, i32_3, i32_5, i32_6, i32_8, i32_36, i32_200, Int32.reduceLE, Int32.reduceLT, Int32.reduceAdd, Int32.reduceSub, Int32.reduceMul, true_and, and_true, eq_self, true_or, or_true, not_true, not_false_iff, ↓reduceIte, zuo, zuA, zu_nk, zrow_at, zrow_ne]
    · have e2 : zu (zu (cpM I (rgA (I 52 1)) 9) 52 1 0) 52 2 (I 52 2) = zu (cpM I (rgA (I 52 1)) 9) 52 1 0 := by
        have := @zu_id (zu (cpM I (rgA (I 52 1)) 9) 52 1 0) 52 2
        rwa [zu_nk (by decide), e42] at this
      simp (decide := true) only [s12_0, s12_0q, s12_1, s12_4, s12_4q, s12_5, s12_8, s12_8q, s12_8p, s12_9, s12_9q, s12_10, s12_10q, s12_13, s12_13q, s12_14, s12_14q, s12_15, s12_18, s12_19, s12_20, s12_22, s12_25, s12_25q, s12_26, s12_29, s12_30, s12_31, s12_34, s12_35, s12_38, s12_38q, s12_39, s12_42, s12_44, s12_47, s12_47q, s12_48, s12_48q, s12_49, s12_52, s12_53, s12_54, s12_57, S.t8, S.t29, S.t30, S.t31, S.t52, S.t53, S.t134, S.t155, S.t156, S.t157, S.t158, S.t159, S.t160, S.t161, S.t162, S.t163, S.t164, S.t165, S.t166, S.t167, S.t168, S.t169, S.t170, S.t171, S.t172, S.t173, S.t174, S.t175, S.t176, S.t177, S.t178, S.t179, S.t180, S.t181, S.t182, S.t183, S.t184, S.t185, S.t186, S.t187, S.l31, S.l53, S.l134, S.l155, S.l157, S.l158, S.l159, S.l161, S.l163, S.l165, S.l167, S.l168, S.l169, S.l170, S.l171, S.l172, S.l173, S.l174, S.l175, S.l176, S.l177, S.l178, S.l179, S.l180, S.l181, S.l182, S.l183, S.l184, S.l185, S.l186, S.l187, S.o8_0, S.o8_1, S.o8_2, S.o8_3, S.o8_4, S.o8_5, S.o8_6, S.o8_7, S.o29_0, S.o29_1, S.o29_2, S.o30_0, S.o52_0, S.o53_0, S.o53_1, S.o53_2, S.o53_3, S.o53_4, S.o53_5, S.o53_6, S.o53_7, S.o134_0, S.o134_1, S.o156_0, S.o156_1, S.o159_0, S.o159_1, S.o159_2, S.o160_0, S.o162_0, S.o164_0, S.o166_0, S.o166_2, S.o166_3, S.o166_6, S.o166_7, S.o166_8, S.o166_9, S.o166_10, S.o166_11, S.o166_15, S.o166_18, S.o166_19, S.o166_20, S.o166_21, S.o166_22, S.o166_23, S.o166_24, S.o166_25, S.o166_26, S.o166_27, S.o166_28, S.t9, S.t19, S.t32, S.t42, S.t54, S.t64, S.t74, S.t84, S.t94, S.t104, S.t114, S.t124, S.t135, S.t145, S.t10, S.t11, S.t12, S.t13, S.t14, S.t15, S.t16, S.t17, S.t18, S.l10, S.l11, S.l12, S.l13, S.l14, S.l16, S.l18, S.o9_0, S.o9_1, S.o9_2, S.o9_3, S.o9_4, S.o9_9, S.o9_10, S.o15_0, S.o17_0, S.t20, S.t21, S.t22, S.t23, S.t24, S.t25, S.t26, S.t27, S.t28, S.l20, S.l21, S.l22, S.l23, S.l24, S.l26, S.l28, S.o19_0, S.o19_1, S.o19_2, S.o19_3, S.o19_4, S.o19_9, S.o19_10, S.o25_0, S.o27_0, S.t33, S.t34, S.t35, S.t36, S.t37, S.t38, S.t39, S.t40, S.t41, S.l33, S.l34, S.l35, S.l36, S.l37, S.l39, S.l41, S.o32_0, S.o32_1, S.o32_2, S.o32_3, S.o32_4, S.o32_9, S.o32_10, S.o38_0, S.o40_0, S.t43, S.t44, S.t45, S.t46, S.t47, S.t48, S.t49, S.t50, S.t51, S.l43, S.l44, S.l45, S.l46, S.l47, S.l49, S.l51, S.o42_0, S.o42_1, S.o42_2, S.o42_3, S.o42_4, S.o42_9, S.o42_10, S.o48_0, S.o50_0, hn, ho, tp, hc, e42, Int32.not_lt.mp h1, Int32.not_lt.mp h2, h1, h2, e2, zs_of, List.length_cons, List.length_nil, tl_some, tl_none, zrf_some, zdrop_i, zdrop_r, zdrop_q, zdrop_n, zdrop_l, i32_12, i32_1170, i32_2, i32_3, i32_5, i32_6, i32_8, i32_36, i32_200, Int32.reduceLE, Int32.reduceLT, Int32.reduceAdd, Int32.reduceSub, Int32.reduceMul, true_and, and_true, eq_self, true_or, or_true, not_true, not_false_iff, ↓reduceIte, zuo, zuA, zu_nk, zrow_at, zrow_ne]
/-- a copied plain tells the same -/
theorem PP.cp {p q : Nat} {b b2 : Int32} (hd : p + 10 ≤ q ∨ q + 10 ≤ p) (h : PP I q b) (h1 : ∀ c, p ≤ c → c < p + 10 → I2 c = cpM I p q c) (h2 : ∀ j, 0 ≤ j → j < 90 → I2 167 (b2 + j) = I 167 (b + j)) : PP I2 p b2 := by
  obtain ⟨⟨a1, a2⟩, a3⟩ := h
  have t1 : Tr (cpM I p q) p I q := cpM_tr hd
  have t2 : Tr I2 p (cpM I p q) p := Tr.self h1
  have i1 := t1.inv a1
  have p1 := t1.pr a1.1 a3
  refine ⟨⟨t2.inv i1, ?_⟩, ?_⟩
  · rw [h1 p (Nat.le_refl _) (by omega), t1.1.2.2.2]
    exact a2
  · exact PR.frM (t2.num i1.1) h2 (t2.pr i1.1 p1)
theorem cyM_out {f : Int32 → Int32} {bf bt j : Int32} (h : j < bt ∨ bt + 90 ≤ j) : cyM f bf bt j = f j := zsl_out h
set_option maxHeartbeats 4000000 in
theorem HistOK.push (h : HistOK I) (hn : PP I 9 0) (h1 : ∀ c, 54 ≤ c → c < 134 → I2 c = remM I c) (h0 : I2 52 = remM I 52) (hu : I2 166 1 = kpU (I 166 1)) (h2 : ∀ j, 180 ≤ j → j < 900 → I2 167 j = kpF (I 167) (I 166 1) j) : HistOK I2 := by
  obtain ⟨⟨a1, a2, a3⟩, b, c⟩ := h
  have hf := rgA_far b
  have e42 : cpM I (rgA (I 52 1)) 9 52 = I 52 := cpM_fr 52 (by omega)
  have g1 : I2 52 1 = nx1 (I 52 1) := by rw [h0]; unfold remM; rw [zu_nk (by decide), zuA]
  have g2 : I2 52 2 = if I 52 2 < 8 then I 52 2 + 1 else I 52 2 := by rw [h0]; unfold remM; rw [zuA]
  have gr : ∀ c, 54 ≤ c → c < 134 → I2 c = cpM I (rgA (I 52 1)) 9 c := fun c c0 c1 => by
    rw [h1 c c0 c1]; unfold remM; rw [zuo (by omega), zuo (by omega)]
  have gn : ∀ k, 0 ≤ k ∧ k < 8 → k ≠ I 52 1 → ∀ c, rgA k ≤ c → c < rgA k + 10 → I2 c = I c := fun k hk hne c c0 c1 => by
    have f1 := rgA_far hk
    have f2 := rgA_ne hk b hne
    rw [gr c (by omega) (by omega)]
    exact cpM_fr c (by omega)
  refine ⟨?_, ?_, fun i i0 i1 => ?_⟩
  · rw [g2, hu, a1]; exact rgU a2 a3
  · rw [g1]; exact (rg2 b).2
  · rw [hu] at i1
    rw [g1, hu]
    by_cases h8 : I 166 1 = 8
    · have eu : kpU (I 166 1) = 8 := by unfold kpU; rw [if_pos h8]
      have ek : ∀ j, kpF (I 167) (I 166 1) j = cyM (shF (I 167)) 0 810 j := fun j => by unfold kpF; rw [if_pos h8]
      rw [eu] at i1 ⊢
      by_cases i7 : i = 7
      · subst i7
        rw [(rg2 b).1]
        refine hn.cp (by omega) (fun c c0 c1 => gr c (by omega) (by omega)) (fun j j0 j1 => ?_)
        obtain ⟨q1, q2⟩ := hn1 i0 i1 j0 j1
        rw [h2 _ q1 q2, ek]
        rw [show (180 : Int32) + 90 * 7 = 810 by decide, cyM_at (by decide) j j0 j1]
        unfold shF
        rw [zsl_out (Or.inl (hn15 j0 j1))]
      · obtain ⟨er0, er1, er2, er3⟩ := rg1 b ⟨i0, i1⟩ i7
        obtain ⟨i2, i3, i4⟩ := hn8 i0 i1 i7
        have hold := c (i + 1) i3 (by rw [h8]; exact i4)
        rw [h8] at hold
        rw [er0]
        obtain ⟨⟨o1, o2⟩, o3⟩ := hold
        have ht : Tr I2 (rgA (wr (I 52 1 - 8 + (i + 1)))) I (rgA (wr (I 52 1 - 8 + (i + 1)))) := Tr.self (gn _ ⟨er1, er2⟩ er3)
        refine ⟨⟨ht.inv o1, ?_⟩, ?_⟩
        · rw [gn _ ⟨er1, er2⟩ er3 _ (Nat.le_refl _) (by omega)]; exact o2
        · refine PR.frM (b := 180 + 90 * (i + 1)) (ht.num o1.1) (fun j j0 j1 => ?_) (ht.pr o1.1 o3)
          obtain ⟨q1, q2⟩ := hn1 i0 i1 j0 j1
          have q3 := hn2 i0 i2 j0 j1
          rw [h2 _ q1 q2, ek, cyM_out (Or.inl q3)]
          unfold shF zsl
          rw [if_pos ⟨q1, by rw [show (180 : Int32) + 630 = 810 by decide]; exact q3⟩]
          show I 167 (270 + (180 + 90 * i + j - 180)) = _
          rw [hn3]
    · have u8 := hn9 a2 a3 h8
      have eu : kpU (I 166 1) = I 166 1 + 1 := by unfold kpU; rw [if_neg h8]
      have ek : ∀ j, kpF (I 167) (I 166 1) j = cyM (I 167) 0 (180 + 90 * I 166 1) j := fun j => by unfold kpF; rw [if_neg h8]
      rw [eu] at i1 ⊢
      have i8 := hn11 a2 u8 i1
      obtain ⟨e1, e2⟩ := rg3 b ⟨a2, u8⟩ ⟨i0, i8⟩
      by_cases i7 : i = I 166 1
      · rw [e1 i7]
        refine hn.cp (by omega) (fun c c0 c1 => gr c (by omega) (by omega)) (fun j j0 j1 => ?_)
        obtain ⟨q1, q2⟩ := hn1 i0 i8 j0 j1
        rw [h2 _ q1 q2, ek, i7]
        obtain ⟨b1, b2, b3⟩ := hn5 a2 u8
        rw [cyM_at ⟨b1, b2⟩ j j0 j1]
      · have i9 := hn10 a2 u8 i1 i7
        obtain ⟨er0, er1, er2, er3⟩ := e2 i9
        rw [er0]
        refine (c i i0 i9).fr (gn _ ⟨er1, er2⟩ er3) (fun j j0 j1 => ?_)
        obtain ⟨q1, q2⟩ := hn1 i0 i8 j0 j1
        rw [h2 _ q1 q2, ek, cyM_out (Or.inl (hn4 i0 i9 u8 j0 j1))]
end HIST
