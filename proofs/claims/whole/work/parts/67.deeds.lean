theorem sum0 {a b : Int32} (ha : 0 ≤ a ∧ a ≤ 12) (hb : 0 ≤ b ∧ b ≤ 12) : a + b = 0 ↔ a = 0 ∧ b = 0 := by grind
theorem n999 {a : Int32} (h : a ≤ 999) : 999 ≤ a ↔ a = 999 := by grind
theorem n999b {a : Int32} (h0 : 0 ≤ a) (h : a ≤ 999) (hn : ¬ a = 999) : 0 ≤ a + 1 ∧ a + 1 ≤ 999 := by grind
theorem n12 {a : Int32} (h : a ≤ 12) : a < 12 ↔ ¬ a = 12 := by grind
theorem sub1 (a : Int32) : a + 1 - 1 = a := by grind
theorem i32_0add (a : Int32) : 0 + a = a := by grind
theorem lA0 {l : Int32} (h : 0 ≤ l ∧ l < 2) : l = 0 ∨ l = 1 := by grind
theorem lA1 {l : Int32} : (0 ≤ l ∧ l ≤ 1) ↔ (0 ≤ l ∧ l < 2) := by grind
theorem dn1 {j : Int32} (h0 : 0 ≤ j) (h : j < 90) : 90 + j < 180 ∧ 0 + j < 180 ∧ 0 ≤ 90 + j ∧ 0 ≤ 0 + j := by grind
section DEEDS
variable {Q : Option Value → ZH → Prop} {n : Nat} {tg ln : Nat → Nat} {I I1 I2 : Nat → Int32 → Int32} {J : Nat → Int32 → Int64} {O : Nat → Int32 → Option Nat}
theorem kpF_out {f : Int32 → Int32} {u j : Int32} (hu : 0 ≤ u ∧ u ≤ 8) (h : j < 180 ∨ 900 ≤ j) : kpF f u j = f j := by
  unfold kpF
  by_cases h8 : u = 8
  · rw [if_pos h8, cyM_out (by
      rcases h with h | h
      · exact Or.inl (Int32.lt_trans h (by decide))
      · exact Or.inr h)]
    unfold shF
    refine zsl_out ?_
    rcases h with h | h
    · exact Or.inl h
    · exact Or.inr (by rw [show (180 : Int32) + 630 = 810 by decide]; exact Int32.le_trans (by decide) h)
  · rw [if_neg h8]
    have u8 := hn9 hu.1 hu.2 h8
    have h0 := hu.1
    refine cyM_out ?_
    rcases h with h | h
    · exact Or.inl (by clear h8; grind)
    · exact Or.inr (by clear h8; grind)
theorem remM_o {c : Nat} (hn : 0 ≤ I 52 1 ∧ I 52 1 < 8) (h1 : c ≠ 52) (h2 : c < 54 ∨ 134 ≤ c) : remM I c = I c := by
  have hf := rgA_far hn
  unfold remM
  rw [zuo h1, zuo h1]
  exact cpM_fr c (by omega)
theorem kpI_row {F : Int32 → Int32} : zrow (kpI I) 167 F = zu (zrow I 167 F) 166 1 (kpU (I 166 1)) := by
  unfold kpI
  rw [zu_zrow_ne (by decide), zrow_zrow]
theorem kpI_at : kpI I 167 = kpF (I 167) (I 166 1) := by
  unfold kpI
  rw [zuo (by decide), zrow_at]
/-- after a deed -/
theorem INV.deed {g : Int32 → Int32} (h : INV n tg ln I J O) (hf : PFr I1 (remM I) 9) (hm : MFr g (kpF (I 167) (I 166 1)) 0) (hn : NI I1 9) (hp : PR I1 9 g 0) : INV n tg ln (zu (zrow I1 167 g) 166 1 (kpU (I 166 1))) J O := by
  obtain ⟨a, b, c, d, e, f, gg, i, j⟩ := h
  have hN := d.2.1
  have hu := d.1.2
  have w : ∀ q, (q < 9 ∨ 19 ≤ q) → q ≠ 166 → q ≠ 167 → zu (zrow I1 167 g) 166 1 (kpU (I 166 1)) q = remM I q := fun q h1 h2 h3 => by
    rw [zuo h2, zrow_ne h3]; exact hf q (by omega)
  have w2 : ∀ q, (q < 9 ∨ 19 ≤ q) ∧ q ≠ 166 ∧ q ≠ 167 ∧ q ≠ 52 ∧ (q < 54 ∨ 134 ≤ q) → zu (zrow I1 167 g) 166 1 (kpU (I 166 1)) q = I q := fun q h => by
    rw [w q h.1 h.2.1 h.2.2.1]; exact remM_o hN h.2.2.2.1 h.2.2.2.2
  have w7 : zu (zrow I1 167 g) 166 1 (kpU (I 166 1)) 167 = g := by rw [zuo (by decide), zrow_at]
  have e156 : I1 166 = I 166 := by rw [hf 166 (by omega)]; exact remM_o hN (by decide) (by omega)
  have wk : ∀ k, k ≠ 1 → zu (zrow I1 167 g) 166 1 (kpU (I 166 1)) 166 k = I 166 k := fun k hk => by rw [zu_nk hk, zrow_ne (by decide), e156]
  have wr7 : ∀ k, 90 ≤ k → zu (zrow I1 167 g) 166 1 (kpU (I 166 1)) 167 k = kpF (I 167) (I 166 1) k := fun k hk => by rw [w7]; exact hm k (Or.inr hk)
  refine ⟨a, ⟨?_, ?_⟩, ?_, ?_, ?_, f.fr (w2 30 (by omega)) (w2 31 (by omega)) (wk 4 (by decide)) (w2 169 (by omega)), gg.fr (w2 156 (by omega)) (w2 157 (by omega)) (w2 158 (by omega)) (wk 5 (by decide)) (w2 170 (by omega)) (w2 171 (by omega)), i.fr (fun q _ _ => w2 q (by omega)) (w2 172 (by omega)) (w2 173 (by omega)) (w2 174 (by omega)) (fun q _ => w2 q (by omega)), j.fr (fun q _ => w2 q (by omega)) (fun q _ _ => w2 q (by omega))⟩
  · have ht : Tr (zu (zrow I1 167 g) 166 1 (kpU (I 166 1))) 9 I1 9 := Tr.self (fun q h0 h1 => by rw [zuo (by omega), zrow_ne (by omega)])
    exact ⟨ht.inv hn.1, by rw [ht.1.2.2.2]; exact hn.2⟩
  · have ht : Tr (zu (zrow I1 167 g) 166 1 (kpU (I 166 1))) 9 I1 9 := Tr.self (fun q h0 h1 => by rw [zuo (by omega), zrow_ne (by omega)])
    rw [w7]
    exact ht.pr hn.1.1 hp
  · refine c.fr (fun q _ _ => w2 q (by omega)) (fun k k0 k1 => ?_)
    rw [wr7 _ (by clear wr7 w w2 hf hm; grind)]
    exact kpF_out hu (Or.inl (dn1 k0 k1).1)
  · exact d.push b (fun q h0 h1 => w q (by omega) (by omega) (by omega)) (w 52 (by omega) (by decide) (by decide)) (zuA) (fun k k0 k1 => wr7 k (Int32.le_trans (by decide) k0))
  · refine e.fr (fun q _ _ => w2 q (by omega)) (w2 168 (by omega)) (fun k k0 k1 => ?_)
    rw [wr7 _ (Int32.le_trans (by decide) k0)]
    exact kpF_out hu (Or.inr k0)
/-- what a deed starts from -/
theorem INV.rem (h : INV n tg ln I J O) : NI (remM I) 9 ∧ PR (remM I) 9 (kpF (I 167) (I 166 1)) 0 ∧ ((0 ≤ I 52 1 ∧ I 52 1 < 8) ∧ (0 ≤ I 166 1 ∧ I 166 1 ≤ 8)) ∧ (∀ c, 9 ≤ c → c < 19 → remM I c = I c) ∧ ∀ k, k < 180 → kpF (I 167) (I 166 1) k = I 167 k := by
  have d := h.hist
  have hn := h.now
  have hN := d.2.1
  have hu := d.1.2
  have ht : Tr (remM I) 9 I 9 := Tr.self (fun q h0 h1 => remM_o hN (by omega) (by omega))
  refine ⟨⟨ht.inv hn.1.1, by rw [ht.1.2.2.2]; exact hn.1.2⟩, ?_, ⟨hN, hu⟩, fun q h0 h1 => remM_o hN (by omega) (by omega), fun k hk => kpF_out hu (Or.inl hk)⟩
  exact PR.frM (b := 0) (ht.num hn.1.1.1) (fun k k0 k1 => kpF_out hu (Or.inl (dn1 k0 k1).2.1)) (ht.pr hn.1.1.1 hn.2)
theorem both_night (hI : INV n tg ln I J O) : BOTH 88 165 [some (.ref 8)] [some (.ref 166)] n tg ln I J O := by
  have S := hI.S
  have hi := hI.now.1.1
  have hz := hI.now.z
  obtain ⟨hA, hB, ⟨hN, hu⟩, hS, hK⟩ := hI.rem
  have e4 := (hz.2.1 0 (Or.inl rfl)).1
  have e5 := (hz.2.1 1 (Or.inr rfl)).1
  simp only [lnA, Int32.reduceAdd] at e4 e5
  simp (decide := true) only [reduceIte, Nat.reduceAdd] at e4 e5
  have n4 := hi.1.2.1
  have n5 := hi.1.2.2
  simp only [Nat.reduceAdd] at n4 n5
  have e2 := hz.1.2.2.1
  have h999 := hI.now.1.2
  unfold BOTH
  by_cases h0 : I 15 1 = 0 ∧ I 17 1 = 0
  · have h1 : I 167 4 + I 167 5 = 0 := by rw [← e4, ← e5, h0.1, h0.2]; decide
    simp (decide := true) only [s88_0, s88_0q, s88_1, s88_4, s88_7, s88_10, s88_12, s88_13, s88_13q, s88_14, s88_17, s88_20, s88_23, s88_26, s88_28, s88_29, s88_29q, s88_30, s88_33, s88_33q, s88_34, s88_37, s88_37q, s88_40, s88_40q, s88_41, s88_44, s88_47, c_Plain_hasNoPlaces S.p9, h0, S.t8, S.t29, S.t30, S.t31, S.t52, S.t53, S.t134, S.t155, S.t156, S.t157, S.t158, S.t159, S.t160, S.t161, S.t162, S.t163, S.t164, S.t165, S.t166, S.t167, S.t168, S.t169, S.t170, S.t171, S.t172, S.t173, S.t174, S.t175, S.t176, S.t177, S.t178, S.t179, S.t180, S.t181, S.t182, S.t183, S.t184, S.t185, S.t186, S.t187, S.l31, S.l53, S.l134, S.l155, S.l157, S.l158, S.l159, S.l161, S.l163, S.l165, S.l167, S.l168, S.l169, S.l170, S.l171, S.l172, S.l173, S.l174, S.l175, S.l176, S.l177, S.l178, S.l179, S.l180, S.l181, S.l182, S.l183, S.l184, S.l185, S.l186, S.l187, S.o8_0, S.o8_1, S.o8_2, S.o8_3, S.o8_4, S.o8_5, S.o8_6, S.o8_7, S.o29_0, S.o29_1, S.o29_2, S.o30_0, S.o52_0, S.o53_0, S.o53_1, S.o53_2, S.o53_3, S.o53_4, S.o53_5, S.o53_6, S.o53_7, S.o134_0, S.o134_1, S.o156_0, S.o156_1, S.o159_0, S.o159_1, S.o159_2, S.o160_0, S.o162_0, S.o164_0, S.o166_0, S.o166_2, S.o166_3, S.o166_6, S.o166_7, S.o166_8, S.o166_9, S.o166_10, S.o166_11, S.o166_15, S.o166_18, S.o166_19, S.o166_20, S.o166_21, S.o166_22, S.o166_23, S.o166_24, S.o166_25, S.o166_26, S.o166_27, S.o166_28, S.t9, S.t19, S.t32, S.t42, S.t54, S.t64, S.t74, S.t84, S.t94, S.t104, S.t114, S.t124, S.t135, S.t145, S.t10, S.t11, S.t12, S.t13, S.t14, S.t15, S.t16, S.t17, S.t18, S.l10, S.l11, S.l12, S.l13, S.l14, S.l16, S.l18, S.o9_0, S.o9_1, S.o9_2, S.o9_3, S.o9_4, S.o9_9, S.o9_10, S.o15_0, S.o17_0, S.t20, S.t21, S.t22, S.t23, S.t24, S.t25, S.t26, S.t27, S.t28, S.l20, S.l21, S.l22, S.l23, S.l24, S.l26, S.l28, S.o19_0, S.o19_1, S.o19_2, S.o19_3, S.o19_4, S.o19_9, S.o19_10, S.o25_0, S.o27_0, S.t33, S.t34, S.t35, S.t36, S.t37, S.t38, S.t39, S.t40, S.t41, S.l33, S.l34, S.l35, S.l36, S.l37, S.l39, S.l41, S.o32_0, S.o32_1, S.o32_2, S.o32_3, S.o32_4, S.o32_9, S.o32_10, S.o38_0, S.o40_0, S.t43, S.t44, S.t45, S.t46, S.t47, S.t48, S.t49, S.t50, S.t51, S.l43, S.l44, S.l45, S.l46, S.l47, S.l49, S.l51, S.o42_0, S.o42_1, S.o42_2, S.o42_3, S.o42_4, S.o42_9, S.o42_10, S.o48_0, S.o50_0, zs_of, List.length_cons, List.length_nil, tl_some, tl_none, zrf_some, zdrop_i, zdrop_r, zdrop_q, zdrop_n, zdrop_l, i32_12, i32_1170, i32_2, i32_3, i32_5, i32_6, i32_8, i32_36, i32_200, Int32.reduceLE, Int32.reduceLT, Int32.reduceAdd, Int32.reduceSub, Int32.reduceMul, true_and, and_true, eq_self, true_or, or_true, not_true, not_false_iff, ↓reduceIte, zuo, zuA, zu_nk, zrow_at, zrow_ne, ex_some]
    simp (decide := true) only [s165_0, s165_0q, s165_1, s165_4, s165_5, s165_6, s165_6q, s165_7, s165_10, s165_11, s165_12, s165_13, s165_16, s165_18, s165_19, s165_19q, s165_20, s165_23, s165_24, s165_25, s165_28, s165_31, s165_33, s165_34, s165_34q, s165_35, s165_38, s165_38q, s165_39, s165_40, s165_43, h1, S.t8, S.t29, S.t30, S.t31, S.t52, S.t53, S.t134, S.t155, S.t156, S.t157, S.t158, S.t159, S.t160, S.t161, S.t162, S.t163, S.t164, S.t165, S.t166, S.t167, S.t168, S.t169, S.t170, S.t171, S.t172, S.t173, S.t174, S.t175, S.t176, S.t177, S.t178, S.t179, S.t180, S.t181, S.t182, S.t183, S.t184, S.t185, S.t186, S.t187, S.l31, S.l53, S.l134, S.l155, S.l157, S.l158, S.l159, S.l161, S.l163, S.l165, S.l167, S.l168, S.l169, S.l170, S.l171, S.l172, S.l173, S.l174, S.l175, S.l176, S.l177, S.l178, S.l179, S.l180, S.l181, S.l182, S.l183, S.l184, S.l185, S.l186, S.l187, S.o8_0, S.o8_1, S.o8_2, S.o8_3, S.o8_4, S.o8_5, S.o8_6, S.o8_7, S.o29_0, S.o29_1, S.o29_2, S.o30_0, S.o52_0, S.o53_0, S.o53_1, S.o53_2, S.o53_3, S.o53_4, S.o53_5, S.o53_6, S.o53_7, S.o134_0, S.o134_1, S.o156_0, S.o156_1, S.o159_0, S.o159_1, S.o159_2, S.o160_0, S.o162_0, S.o164_0, S.o166_0, S.o166_2, S.o166_3, S.o166_6, S.o166_7, S.o166_8, S.o166_9, S.o166_10, S.o166_11, S.o166_15, S.o166_18, S.o166_19, S.o166_20, S.o166_21, S.o166_22, S.o166_23, S.o166_24, S.o166_25, S.o166_26, S.o166_27, S.o166_28, S.t9, S.t19, S.t32, S.t42, S.t54, S.t64, S.t74, S.t84, S.t94, S.t104, S.t114, S.t124, S.t135, S.t145, S.t10, S.t11, S.t12, S.t13, S.t14, S.t15, S.t16, S.t17, S.t18, S.l10, S.l11, S.l12, S.l13, S.l14, S.l16, S.l18, S.o9_0, S.o9_1, S.o9_2, S.o9_3, S.o9_4, S.o9_9, S.o9_10, S.o15_0, S.o17_0, S.t20, S.t21, S.t22, S.t23, S.t24, S.t25, S.t26, S.t27, S.t28, S.l20, S.l21, S.l22, S.l23, S.l24, S.l26, S.l28, S.o19_0, S.o19_1, S.o19_2, S.o19_3, S.o19_4, S.o19_9, S.o19_10, S.o25_0, S.o27_0, S.t33, S.t34, S.t35, S.t36, S.t37, S.t38, S.t39, S.t40, S.t41, S.l33, S.l34, S.l35, S.l36, S.l37, S.l39, S.l41, S.o32_0, S.o32_1, S.o32_2, S.o32_3, S.o32_4, S.o32_9, S.o32_10, S.o38_0, S.o40_0, S.t43, S.t44, S.t45, S.t46, S.t47, S.t48, S.t49, S.t50, S.t51, S.l43, S.l44, S.l45, S.l46, S.l47, S.l49, S.l51, S.o42_0, S.o42_1, S.o42_2, S.o42_3, S.o42_4, S.o42_9, S.o42_10, S.o48_0, S.o50_0, zs_of, List.length_cons, List.length_nil, tl_some, tl_none, zrf_some, zdrop_i, zdrop_r, zdrop_q, zdrop_n, zdrop_l, i32_12, i32_1170, i32_2, i32_3, i32_5, i32_6, i32_8, i32_36, i32_200, Int32.reduceLE, Int32.reduceLT, Int32.reduceAdd, Int32.reduceSub, Int32.reduceMul, true_and, and_true, eq_self, true_or, or_true, not_true, not_false_iff, ↓reduceIte, zuo, zuA, zu_nk, zrow_at, zrow_ne]
    exact GOOD.of hI rfl
  · have h1 : ¬ I 167 4 + I 167 5 = 0 := by rw [← e4, ← e5, sum0 n4 n5]; exact h0
    by_cases h2 : I 167 2 = 999
    · have h3 : 999 ≤ I 9 8 := by rw [e2, h2]; decide
      simp (decide := true) only [s88_0, s88_0q, s88_1, s88_4, s88_7, s88_10, s88_12, s88_13, s88_13q, s88_14, s88_17, s88_20, s88_23, s88_26, s88_28, s88_29, s88_29q, s88_30, s88_33, s88_33q, s88_34, s88_37, s88_37q, s88_40, s88_40q, s88_41, s88_44, s88_47, c_Plain_hasNoPlaces S.p9, h0, Int32.not_lt.mpr h3, S.t8, S.t29, S.t30, S.t31, S.t52, S.t53, S.t134, S.t155, S.t156, S.t157, S.t158, S.t159, S.t160, S.t161, S.t162, S.t163, S.t164, S.t165, S.t166, S.t167, S.t168, S.t169, S.t170, S.t171, S.t172, S.t173, S.t174, S.t175, S.t176, S.t177, S.t178, S.t179, S.t180, S.t181, S.t182, S.t183, S.t184, S.t185, S.t186, S.t187, S.l31, S.l53, S.l134, S.l155, S.l157, S.l158, S.l159, S.l161, S.l163, S.l165, S.l167, S.l168, S.l169, S.l170, S.l171, S.l172, S.l173, S.l174, S.l175, S.l176, S.l177, S.l178, S.l179, S.l180, S.l181, S.l182, S.l183, S.l184, S.l185, S.l186, S.l187, S.o8_0, S.o8_1, S.o8_2, S.o8_3, S.o8_4, S.o8_5, S.o8_6, S.o8_7, S.o29_0, S.o29_1, S.o29_2, S.o30_0, S.o52_0, S.o53_0, S.o53_1, S.o53_2, S.o53_3, S.o53_4, S.o53_5, S.o53_6, S.o53_7, S.o134_0, S.o134_1, S.o156_0, S.o156_1, S.o159_0, S.o159_1, S.o159_2, S.o160_0, S.o162_0, S.o164_0, S.o166_0, S.o166_2, S.o166_3, S.o166_6, S.o166_7, S.o166_8, S.o166_9, S.o166_10, S.o166_11, S.o166_15, S.o166_18, S.o166_19, S.o166_20, S.o166_21, S.o166_22, S.o166_23, S.o166_24, S.o166_25, S.o166_26, S.o166_27, S.o166_28, S.t9, S.t19, S.t32, S.t42, S.t54, S.t64, S.t74, S.t84, S.t94, S.t104, S.t114, S.t124, S.t135, S.t145, S.t10, S.t11, S.t12, S.t13, S.t14, S.t15, S.t16, S.t17, S.t18, S.l10, S.l11, S.l12, S.l13, S.l14, S.l16, S.l18, S.o9_0, S.o9_1, S.o9_2, S.o9_3, S.o9_4, S.o9_9, S.o9_10, S.o15_0, S.o17_0, S.t20, S.t21, S.t22, S.t23, S.t24, S.t25, S.t26, S.t27, S.t28, S.l20, S.l21, S.l22, S.l23, S.l24, S.l26, S.l28, S.o19_0, S.o19_1, S.o19_2, S.o19_3, S.o19_4, S.o19_9, S.o19_10, S.o25_0, S.o27_0, S.t33, S.t34, S.t35, S.t36, S.t37, S.t38, S.t39, S.t40, S.t41, S.l33, S.l34, S.l35, S.l36, S.l37, S.l39, S.l41, S.o32_0, S.o32_1, S.o32_2, S.o32_3, S.o32_4, S.o32_9, S.o32_10, S.o38_0, S.o40_0, S.t43, S.t44, S.t45, S.t46, S.t47, S.t48, S.t49, S.t50, S.t51, S.l43, S.l44, S.l45, S.l46, S.l47, S.l49, S.l51, S.o42_0, S.o42_1, S.o42_2, S.o42_3, S.o42_4, S.o42_9, S.o42_10, S.o48_0, S.o50_0, zs_of, List.length_cons, List.length_nil, tl_some, tl_none, zrf_some, zdrop_i, zdrop_r, zdrop_q, zdrop_n, zdrop_l, i32_12, i32_1170, i32_2, i32_3, i32_5, i32_6, i32_8, i32_36, i32_200, Int32.reduceLE, Int32.reduceLT, Int32.reduceAdd, Int32.reduceSub, Int32.reduceMul, true_and, and_true, eq_self, true_or, or_true, not_true, not_false_iff, ↓reduceIte, zuo, zuA, zu_nk, zrow_at, zrow_ne, ex_some]
      simp (decide := true) only [s165_0, s165_0q, s165_1, s165_4, s165_5, s165_6, s165_6q, s165_7, s165_10, s165_11, s165_12, s165_13, s165_16, s165_18, s165_19, s165_19q, s165_20, s165_23, s165_24, s165_25, s165_28, s165_31, s165_33, s165_34, s165_34q, s165_35, s165_38, s165_38q, s165_39, s165_40, s165_43, h1, h2, S.t8, S.t29, S.t30, S.t31, S.t52, S.t53, S.t134, S.t155, S.t156, S.t157, S.t158, S.t159, S.t160, S.t161, S.t162, S.t163, S.t164, S.t165, S.t166, S.t167, S.t168, S.t169, S.t170, S.t171, S.t172, S.t173, S.t174, S.t175, S.t176, S.t177, S.t178, S.t179, S.t180, S.t181, S.t182, S.t183, S.t184, S.t185, S.t186, S.t187, S.l31, S.l53, S.l134, S.l155, S.l157, S.l158, S.l159, S.l161, S.l163, S.l165, S.l167, S.l168, S.l169, S.l170, S.l171, S.l172, S.l173, S.l174, S.l175, S.l176, S.l177, S.l178, S.l179, S.l180, S.l181, S.l182, S.l183, S.l184, S.l185, S.l186, S.l187, S.o8_0, S.o8_1, S.o8_2, S.o8_3, S.o8_4, S.o8_5, S.o8_6, S.o8_7, S.o29_0, S.o29_1, S.o29_2, S.o30_0, S.o52_0, S.o53_0, S.o53_1, S.o53_2, S.o53_3, S.o53_4, S.o53_5, S.o53_6, S.o53_7, S.o134_0, S.o134_1, S.o156_0, S.o156_1, S.o159_0, S.o159_1, S.o159_2, S.o160_0, S.o162_0, S.o164_0, S.o166_0, S.o166_2, S.o166_3, S.o166_6, S.o166_7, S.o166_8, S.o166_9, S.o166_10, S.o166_11, S.o166_15, S.o166_18, S.o166_19, S.o166_20, S.o166_21, S.o166_22, S.o166_23, S.o166_24, S.o166_25, S.o166_26, S.o166_27, S.o166_28, S.t9, S.t19, S.t32, S.t42, S.t54, S.t64, S.t74, S.t84, S.t94, S.t104, S.t114, S.t124, S.t135, S.t145, S.t10, S.t11, S.t12, S.t13, S.t14, S.t15, S.t16, S.t17, S.t18, S.l10, S.l11, S.l12, S.l13, S.l14, S.l16, S.l18, S.o9_0, S.o9_1, S.o9_2, S.o9_3, S.o9_4, S.o9_9, S.o9_10, S.o15_0, S.o17_0, S.t20, S.t21, S.t22, S.t23, S.t24, S.t25, S.t26, S.t27, S.t28, S.l20, S.l21, S.l22, S.l23, S.l24, S.l26, S.l28, S.o19_0, S.o19_1, S.o19_2, S.o19_3, S.o19_4, S.o19_9, S.o19_10, S.o25_0, S.o27_0, S.t33, S.t34, S.t35, S.t36, S.t37, S.t38, S.t39, S.t40, S.t41, S.l33, S.l34, S.l35, S.l36, S.l37, S.l39, S.l41, S.o32_0, S.o32_1, S.o32_2, S.o32_3, S.o32_4, S.o32_9, S.o32_10, S.o38_0, S.o40_0, S.t43, S.t44, S.t45, S.t46, S.t47, S.t48, S.t49, S.t50, S.t51, S.l43, S.l44, S.l45, S.l46, S.l47, S.l49, S.l51, S.o42_0, S.o42_1, S.o42_2, S.o42_3, S.o42_4, S.o42_9, S.o42_10, S.o48_0, S.o50_0, zs_of, List.length_cons, List.length_nil, tl_some, tl_none, zrf_some, zdrop_i, zdrop_r, zdrop_q, zdrop_n, zdrop_l, i32_12, i32_1170, i32_2, i32_3, i32_5, i32_6, i32_8, i32_36, i32_200, Int32.reduceLE, Int32.reduceLT, Int32.reduceAdd, Int32.reduceSub, Int32.reduceMul, true_and, and_true, eq_self, true_or, or_true, not_true, not_false_iff, ↓reduceIte, zuo, zuA, zu_nk, zrow_at, zrow_ne]
      exact GOOD.of hI rfl
    · have h3 : ¬ 999 ≤ I 9 8 := by rw [n999 h999.2, e2]; exact h2
      obtain ⟨q1, q2, q3⟩ := ntAM (by decide) hA.1 hB
      have hrem := fun (Q : Option Value → ZH → Prop) => @c_remember Q n tg ln I J O S hN
      have hpn := fun (Q : Option Value → ZH → Prop) => @c_Plain_passNight Q n tg ln (remM I) J O 9 S.p9 hA.1.1
      have w : ∀ c, c < 9 ∨ 19 ≤ c → c ≠ 52 → (c < 54 ∨ 134 ≤ c) → ntM (remM I) 9 c = I c := fun c h1 h2 h3 => by rw [ntM_fr c (by omega)]; exact remM_o hN h2 h3
      have w6 := w 166 (by omega) (by omega) (by omega)
      have w7 := w 167 (by omega) (by omega) (by omega)
      have hkp := fun (Q : Option Value → ZH → Prop) => @c_M_keepPast Q n tg ln (ntM (remM I) 9) J O S (by rw [w6]; exact hu)
      have hmn := hB.num hA.1
      have ek : kpI (ntM (remM I) 9) 167 = kpF (I 167) (I 166 1) := by rw [kpI_at, w6, w7]
      have ht : kpF (I 167) (I 166 1) (0 + 3) = 0 ∨ kpF (I 167) (I 166 1) (0 + 3) = 1 := by
        have := hB.1.2.2.2
        rw [← this]
        exact hA.1.2.1.2
      have hps := fun (Q : Option Value → ZH → Prop) => @c_M_passes Q n tg ln (kpI (ntM (remM I) 9)) J O 166 167 0 S.mr (by decide) (by rw [ek]; exact hmn) (by rw [ek]; exact ht)
      simp (decide := true) only [s88_0, s88_0q, s88_1, s88_4, s88_7, s88_10, s88_12, s88_13, s88_13q, s88_14, s88_17, s88_20, s88_23, s88_26, s88_28, s88_29, s88_29q, s88_30, s88_33, s88_33q, s88_34, s88_37, s88_37q, s88_40, s88_40q, s88_41, s88_44, s88_47, c_Plain_hasNoPlaces S.p9, h0, Int32.not_le.mp h3, hrem, hpn, S.t8, S.t29, S.t30, S.t31, S.t52, S.t53, S.t134, S.t155, S.t156, S.t157, S.t158, S.t159, S.t160, S.t161, S.t162, S.t163, S.t164, S.t165, S.t166, S.t167, S.t168, S.t169, S.t170, S.t171, S.t172, S.t173, S.t174, S.t175, S.t176, S.t177, S.t178, S.t179, S.t180, S.t181, S.t182, S.t183, S.t184, S.t185, S.t186, S.t187, S.l31, S.l53, S.l134, S.l155, S.l157, S.l158, S.l159, S.l161, S.l163, S.l165, S.l167, S.l168, S.l169, S.l170, S.l171, S.l172, S.l173, S.l174, S.l175, S.l176, S.l177, S.l178, S.l179, S.l180, S.l181, S.l182, S.l183, S.l184, S.l185, S.l186, S.l187, S.o8_0, S.o8_1, S.o8_2, S.o8_3, S.o8_4, S.o8_5, S.o8_6, S.o8_7, S.o29_0, S.o29_1, S.o29_2, S.o30_0, S.o52_0, S.o53_0, S.o53_1, S.o53_2, S.o53_3, S.o53_4, S.o53_5, S.o53_6, S.o53_7, S.o134_0, S.o134_1, S.o156_0, S.o156_1, S.o159_0, S.o159_1, S.o159_2, S.o160_0, S.o162_0, S.o164_0, S.o166_0, S.o166_2, S.o166_3, S.o166_6, S.o166_7, S.o166_8, S.o166_9, S.o166_10, S.o166_11, S.o166_15, S.o166_18, S.o166_19, S.o166_20, S.o166_21, S.o166_22, S.o166_23, S.o166_24, S.o166_25, S.o166_26, S.o166_27, S.o166_28, S.t9, S.t19, S.t32, S.t42, S.t54, S.t64, S.t74, S.t84, S.t94, S.t104, S.t114, S.t124, S.t135, S.t145, S.t10, S.t11, S.t12, S.t13, S.t14, S.t15, S.t16, S.t17, S.t18, S.l10, S.l11, S.l12, S.l13, S.l14, S.l16, S.l18, S.o9_0, S.o9_1, S.o9_2, S.o9_3, S.o9_4, S.o9_9, S.o9_10, S.o15_0, S.o17_0, S.t20, S.t21, S.t22, S.t23, S.t24, S.t25, S.t26, S.t27, S.t28, S.l20, S.l21, S.l22, S.l23, S.l24, S.l26, S.l28, S.o19_0, S.o19_1, S.o19_2, S.o19_3, S.o19_4, S.o19_9, S.o19_10, S.o25_0, S.o27_0, S.t33, S.t34, S.t35, S.t36, S.t37, S.t38, S.t39, S.t40, S.t41, S.l33, S.l34, S.l35, S.l36, S.l37, S.l39, S.l41, S.o32_0, S.o32_1, S.o32_2, S.o32_3, S.o32_4, S.o32_9, S.o32_10, S.o38_0, S.o40_0, S.t43, S.t44, S.t45, S.t46, S.t47, S.t48, S.t49, S.t50, S.t51, S.l43, S.l44, S.l45, S.l46, S.l47, S.l49, S.l51, S.o42_0, S.o42_1, S.o42_2, S.o42_3, S.o42_4, S.o42_9, S.o42_10, S.o48_0, S.o50_0, zs_of, List.length_cons, List.length_nil, tl_some, tl_none, zrf_some, zdrop_i, zdrop_r, zdrop_q, zdrop_n, zdrop_l, i32_12, i32_1170, i32_2, i32_3, i32_5, i32_6, i32_8, i32_36, i32_200, Int32.reduceLE, Int32.reduceLT, Int32.reduceAdd, Int32.reduceSub, Int32.reduceMul, true_and, and_true, eq_self, true_or, or_true, not_true, not_false_iff, ↓reduceIte, zuo, zuA, zu_nk, zrow_at, zrow_ne, ex_some]
      simp (decide := true) only [s165_0, s165_0q, s165_1, s165_4, s165_5, s165_6, s165_6q, s165_7, s165_10, s165_11, s165_12, s165_13, s165_16, s165_18, s165_19, s165_19q, s165_20, s165_23, s165_24, s165_25, s165_28, s165_31, s165_33, s165_34, s165_34q, s165_35, s165_38, s165_38q, s165_39, s165_40, s165_43, h1, h2, w7, hkp, hps, ek, kpI_row, w6, S.t8, S.t29, S.t30, S.t31, S.t52, S.t53, S.t134, S.t155, S.t156, S.t157, S.t158, S.t159, S.t160, S.t161, S.t162, S.t163, S.t164, S.t165, S.t166, S.t167, S.t168, S.t169, S.t170, S.t171, S.t172, S.t173, S.t174, S.t175, S.t176, S.t177, S.t178, S.t179, S.t180, S.t181, S.t182, S.t183, S.t184, S.t185, S.t186, S.t187, S.l31, S.l53, S.l134, S.l155, S.l157, S.l158, S.l159, S.l161, S.l163, S.l165, S.l167, S.l168, S.l169, S.l170, S.l171, S.l172, S.l173, S.l174, S.l175, S.l176, S.l177, S.l178, S.l179, S.l180, S.l181, S.l182, S.l183, S.l184, S.l185, S.l186, S.l187, S.o8_0, S.o8_1, S.o8_2, S.o8_3, S.o8_4, S.o8_5, S.o8_6, S.o8_7, S.o29_0, S.o29_1, S.o29_2, S.o30_0, S.o52_0, S.o53_0, S.o53_1, S.o53_2, S.o53_3, S.o53_4, S.o53_5, S.o53_6, S.o53_7, S.o134_0, S.o134_1, S.o156_0, S.o156_1, S.o159_0, S.o159_1, S.o159_2, S.o160_0, S.o162_0, S.o164_0, S.o166_0, S.o166_2, S.o166_3, S.o166_6, S.o166_7, S.o166_8, S.o166_9, S.o166_10, S.o166_11, S.o166_15, S.o166_18, S.o166_19, S.o166_20, S.o166_21, S.o166_22, S.o166_23, S.o166_24, S.o166_25, S.o166_26, S.o166_27, S.o166_28, S.t9, S.t19, S.t32, S.t42, S.t54, S.t64, S.t74, S.t84, S.t94, S.t104, S.t114, S.t124, S.t135, S.t145, S.t10, S.t11, S.t12, S.t13, S.t14, S.t15, S.t16, S.t17, S.t18, S.l10, S.l11, S.l12, S.l13, S.l14, S.l16, S.l18, S.o9_0, S.o9_1, S.o9_2, S.o9_3, S.o9_4, S.o9_9, S.o9_10, S.o15_0, S.o17_0, S.t20, S.t21, S.t22, S.t23, S.t24, S.t25, S.t26, S.t27, S.t28, S.l20, S.l21, S.l22, S.l23, S.l24, S.l26, S.l28, S.o19_0, S.o19_1, S.o19_2, S.o19_3, S.o19_4, S.o19_9, S.o19_10, S.o25_0, S.o27_0, S.t33, S.t34, S.t35, S.t36, S.t37, S.t38, S.t39, S.t40, S.t41, S.l33, S.l34, S.l35, S.l36, S.l37, S.l39, S.l41, S.o32_0, S.o32_1, S.o32_2, S.o32_3, S.o32_4, S.o32_9, S.o32_10, S.o38_0, S.o40_0, S.t43, S.t44, S.t45, S.t46, S.t47, S.t48, S.t49, S.t50, S.t51, S.l43, S.l44, S.l45, S.l46, S.l47, S.l49, S.l51, S.o42_0, S.o42_1, S.o42_2, S.o42_3, S.o42_4, S.o42_9, S.o42_10, S.o48_0, S.o50_0, zs_of, List.length_cons, List.length_nil, tl_some, tl_none, zrf_some, zdrop_i, zdrop_r, zdrop_q, zdrop_n, zdrop_l, i32_12, i32_1170, i32_2, i32_3, i32_5, i32_6, i32_8, i32_36, i32_200, Int32.reduceLE, Int32.reduceLT, Int32.reduceAdd, Int32.reduceSub, Int32.reduceMul, true_and, and_true, eq_self, true_or, or_true, not_true, not_false_iff, ↓reduceIte, zuo, zuA, zu_nk, zrow_at, zrow_ne]
      refine ⟨by rw [q1], GOOD.of (hI.deed ntM_fr (paM_fr (by decide) hmn ht) ⟨q3, ?_⟩ q2) ?_⟩
      · rw [ntM_8, hS 9 (by omega) (by omega)]
        exact n999b h999.1 h999.2 (by rw [e2]; exact h2)
      · rw [zuo (by decide), zrow_ne (by decide)]
        exact w 0 (by omega) (by omega) (by omega)
end DEEDS
