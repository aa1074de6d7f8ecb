theorem sum0 {a b : Int32} (ha : 0 ≤ a ∧ a ≤ 12) (hb : 0 ≤ b ∧ b ≤ 12) : a + b = 0 ↔ a = 0 ∧ b = 0 := by grind
theorem n999 {a : Int32} (h : a ≤ 999) : 999 ≤ a ↔ a = 999 := by grind
theorem n999b {a : Int32} (h0 : 0 ≤ a) (h : a ≤ 999) (hn : ¬ a = 999) : 0 ≤ a + 1 ∧ a + 1 ≤ 999 := by grind
theorem n12 {a : Int32} (h : a ≤ 12) : a < 12 ↔ ¬ a = 12 := by grind
theorem sub1 (a : Int32) : a + 1 - 1 = a := by grind
theorem i32_0add (a : Int32) : 0 + a = a := by grind
theorem lA0 {l : Int32} (h : 0 ≤ l ∧ l < 2) : l = 0 ∨ l = 1 := by grind
theorem lA1 {l : Int32} : (0 ≤ l ∧ l ≤ 1) ↔ (0 ≤ l ∧ l < 2) := by grind
theorem dn1 {j : Int32} (h0 : 0 ≤ j) (h : j < 90) : 90 + j < 180 ∧ 0 + j < 180 ∧ 0 ≤ 90 + j ∧ 0 ≤ 0 + j := by grind
section DEEDS
variable {Q : Option Value → ZH → Prop} {n : Nat} {tg ln : Nat → Nat} {I I1 I2 : Nat → Int32 → Int32} {J : Nat → Int32 → Int64} {O : Nat → Int32 → Option Nat}
theorem kpF_out {f : Int32 → Int32} {u j : Int32} (hu : 0 ≤ u ∧ u ≤ 8) (h : j < 180 ∨ 900 ≤ j) : kpF f u j = f j := by
  unfold kpF
  by_cases h8 : u = 8
  · rw [if_pos h8, cyM_out (by
      rcases h with h | h
      · exact Or.inl (Int32.lt_trans h (by decide))
      · exact Or.inr h)]
    unfold shF
    refine zsl_out ?_
    rcases h with h | h
    · exact Or.inl h
    · exact Or.inr (by rw [show (180 : Int32) + 630 = 810 by decide]; exact Int32.le_trans (by decide) h)
  · rw [if_neg h8]
    have u8 := hn9 hu.1 hu.2 h8
    have h0 := hu.1
    refine cyM_out ?_
    rcases h with h | h
    · exact Or.inl (by clear h8; grind)
    · exact Or.inr (by clear h8; grind)
theorem remM_o {c : Nat} (hn : 0 ≤ I 42 1 ∧ I 42 1 < 8) (h1 : c ≠ 42) (h2 : c < 44 ∨ 124 ≤ c) : remM I c = I c := by
  have hf := rgA_far hn
  unfold remM
  rw [zuo h1, zuo h1]
  exact cpM_fr c (by omega)
theorem kpI_row {F : Int32 → Int32} : zrow (kpI I) 157 F = zu (zrow I 157 F) 156 1 (kpU (I 156 1)) := by
  unfold kpI
  rw [zu_zrow_ne (by decide), zrow_zrow]
theorem kpI_at : kpI I 157 = kpF (I 157) (I 156 1) := by
  unfold kpI
  rw [zuo (by decide), zrow_at]
/-- after a deed -/
theorem INV.deed {g : Int32 → Int32} (h : INV n tg ln I J O) (hf : PFr I1 (remM I) 9) (hm : MFr g (kpF (I 157) (I 156 1)) 0) (hn : NI I1 9) (hp : PR I1 9 g 0) : INV n tg ln (zu (zrow I1 157 g) 156 1 (kpU (I 156 1))) J O := by
  obtain ⟨a, b, c, d, e, f, gg, i, j⟩ := h
  have hN := d.2.1
  have hu := d.1.2
  have w : ∀ q, (q < 9 ∨ 19 ≤ q) → q ≠ 156 → q ≠ 157 → zu (zrow I1 157 g) 156 1 (kpU (I 156 1)) q = remM I q := fun q h1 h2 h3 => by
    rw [zuo h2, zrow_ne h3]; exact hf q (by omega)
  have w2 : ∀ q, (q < 9 ∨ 19 ≤ q) ∧ q ≠ 156 ∧ q ≠ 157 ∧ q ≠ 42 ∧ (q < 44 ∨ 124 ≤ q) → zu (zrow I1 157 g) 156 1 (kpU (I 156 1)) q = I q := fun q h => by
    rw [w q h.1 h.2.1 h.2.2.1]; exact remM_o hN h.2.2.2.1 h.2.2.2.2
  have w7 : zu (zrow I1 157 g) 156 1 (kpU (I 156 1)) 157 = g := by rw [zuo (by decide), zrow_at]
  have e156 : I1 156 = I 156 := by rw [hf 156 (by omega)]; exact remM_o hN (by decide) (by omega)
  have wk : ∀ k, k ≠ 1 → zu (zrow I1 157 g) 156 1 (kpU (I 156 1)) 156 k = I 156 k := fun k hk => by rw [zu_nk hk, zrow_ne (by decide), e156]
  have wr7 : ∀ k, 90 ≤ k → zu (zrow I1 157 g) 156 1 (kpU (I 156 1)) 157 k = kpF (I 157) (I 156 1) k := fun k hk => by rw [w7]; exact hm k (Or.inr hk)
  refine ⟨a, ⟨?_, ?_⟩, ?_, ?_, ?_, f.fr (w2 39 (by omega)) (w2 40 (by omega)) (wk 4 (by decide)) (w2 159 (by omega)), gg.fr (w2 146 (by omega)) (w2 147 (by omega)) (w2 148 (by omega)) (wk 5 (by decide)) (w2 160 (by omega)) (w2 161 (by omega)), i.fr (fun q _ _ => w2 q (by omega)) (w2 162 (by omega)) (w2 163 (by omega)) (w2 164 (by omega)) (fun q _ => w2 q (by omega)), j.fr (fun q _ => w2 q (by omega)) (fun q _ _ => w2 q (by omega))⟩
  · have ht : Tr (zu (zrow I1 157 g) 156 1 (kpU (I 156 1))) 9 I1 9 := Tr.self (fun q h0 h1 => by rw [zuo (by omega), zrow_ne (by omega)])
    exact ⟨ht.inv hn.1, by rw [ht.1.2.2.2]; exact hn.2⟩
  · have ht : Tr (zu (zrow I1 157 g) 156 1 (kpU (I 156 1))) 9 I1 9 := Tr.self (fun q h0 h1 => by rw [zuo (by omega), zrow_ne (by omega)])
    rw [w7]
    exact ht.pr hn.1.1 hp
  · refine c.fr (fun q _ _ => w2 q (by omega)) (fun k k0 k1 => ?_)
    rw [wr7 _ (by clear wr7 w w2 hf hm; grind)]
    exact kpF_out hu (Or.inl (dn1 k0 k1).1)
  · exact d.push b (fun q h0 h1 => w q (by omega) (by omega) (by omega)) (w 42 (by omega) (by decide) (by decide)) (zuA) (fun k k0 k1 => wr7 k (Int32.le_trans (by decide) k0))
  · refine e.fr (fun q _ _ => w2 q (by omega)) (w2 158 (by omega)) (fun k k0 k1 => ?_)
    rw [wr7 _ (Int32.le_trans (by decide) k0)]
    exact kpF_out hu (Or.inr k0)
/-- what a deed starts from -/
theorem INV.rem (h : INV n tg ln I J O) : NI (remM I) 9 ∧ PR (remM I) 9 (kpF (I 157) (I 156 1)) 0 ∧ ((0 ≤ I 42 1 ∧ I 42 1 < 8) ∧ (0 ≤ I 156 1 ∧ I 156 1 ≤ 8)) ∧ (∀ c, 9 ≤ c → c < 19 → remM I c = I c) ∧ ∀ k, k < 180 → kpF (I 157) (I 156 1) k = I 157 k := by
  have d := h.hist
  have hn := h.now
  have hN := d.2.1
  have hu := d.1.2
  have ht : Tr (remM I) 9 I 9 := Tr.self (fun q h0 h1 => remM_o hN (by omega) (by omega))
  refine ⟨⟨ht.inv hn.1.1, by rw [ht.1.2.2.2]; exact hn.1.2⟩, ?_, ⟨hN, hu⟩, fun q h0 h1 => remM_o hN (by omega) (by omega), fun k hk => kpF_out hu (Or.inl hk)⟩
  exact PR.frM (b := 0) (ht.num hn.1.1.1) (fun k k0 k1 => kpF_out hu (Or.inl (dn1 k0 k1).2.1)) (ht.pr hn.1.1.1 hn.2)
theorem both_night (hI : INV n tg ln I J O) : BOTH 87 164 [some (.ref 8)] [some (.ref 156)] n tg ln I J O := by
  have S := hI.S
  have hi := hI.now.1.1
  have hz := hI.now.z
  obtain ⟨hA, hB, ⟨hN, hu⟩, hS, hK⟩ := hI.rem
  have e4 := (hz.2.1 0 (Or.inl rfl)).1
  have e5 := (hz.2.1 1 (Or.inr rfl)).1
  simp only [lnA, Int32.reduceAdd] at e4 e5
  simp (decide := true) only [reduceIte, Nat.reduceAdd] at e4 e5
  have n4 := hi.1.2.1
  have n5 := hi.1.2.2
  simp only [Nat.reduceAdd] at n4 n5
  have e2 := hz.1.2.2.1
  have h999 := hI.now.1.2
  unfold BOTH
  by_cases h0 : I 15 1 = 0 ∧ I 17 1 = 0
  · have h1 : I 157 4 + I 157 5 = 0 := by rw [← e4, ← e5, h0.1, h0.2]; decide
    simp (decide := true) only [s87_0, s87_0q, s87_1, s87_4, s87_7, s87_10, s87_12, s87_13, s87_13q, s87_14, s87_17, s87_20, s87_23, s87_26, s87_28, s87_29, s87_29q, s87_30, s87_33, s87_33q, s87_34, s87_37, s87_37q, s87_40, s87_40q, s87_41, s87_44, s87_47, c_Plain_hasNoPlaces S.p9, h0, S.t8, S.t39, S.t40, S.t41, S.t42, S.t43, S.t124, S.t145, S.t146, S.t147, S.t148, S.t149, S.t150, S.t151, S.t152, S.t153, S.t154, S.t155, S.t156, S.t157, S.t158, S.t159, S.t160, S.t161, S.t162, S.t163, S.t164, S.t165, S.t166, S.t167, S.t168, S.t169, S.t170, S.t171, S.t172, S.t173, S.t174, S.t175, S.t176, S.t177, S.l40, S.l43, S.l124, S.l145, S.l147, S.l148, S.l149, S.l151, S.l153, S.l155, S.l157, S.l158, S.l159, S.l160, S.l161, S.l162, S.l163, S.l164, S.l165, S.l166, S.l167, S.l168, S.l169, S.l170, S.l171, S.l172, S.l173, S.l174, S.l175, S.l176, S.l177, S.o8_0, S.o8_1, S.o8_2, S.o8_3, S.o8_4, S.o8_5, S.o8_6, S.o8_7, S.o8_8, S.o8_9, S.o39_0, S.o41_0, S.o41_1, S.o41_2, S.o42_0, S.o43_0, S.o43_1, S.o43_2, S.o43_3, S.o43_4, S.o43_5, S.o43_6, S.o43_7, S.o124_0, S.o124_1, S.o146_0, S.o146_1, S.o149_0, S.o149_1, S.o149_2, S.o150_0, S.o152_0, S.o154_0, S.o156_0, S.o156_2, S.o156_3, S.o156_6, S.o156_7, S.o156_8, S.o156_9, S.o156_10, S.o156_11, S.o156_15, S.o156_18, S.o156_19, S.o156_20, S.o156_21, S.o156_22, S.o156_23, S.o156_24, S.o156_25, S.o156_26, S.o156_27, S.o156_28, S.t9, S.t19, S.t29, S.t44, S.t54, S.t64, S.t74, S.t84, S.t94, S.t104, S.t114, S.t125, S.t135, S.t10, S.t11, S.t12, S.t13, S.t14, S.t15, S.t16, S.t17, S.t18, S.l10, S.l11, S.l12, S.l13, S.l14, S.l16, S.l18, S.o9_0, S.o9_1, S.o9_2, S.o9_3, S.o9_4, S.o9_9, S.o9_10, S.o15_0, S.o17_0, S.t20, S.t21, S.t22, S.t23, S.t24, S.t25, S.t26, S.t27, S.t28, S.l20, S.l21, S.l22, S.l23, S.l24, S.l26, S.l28, S.o19_0, S.o19_1, S.o19_2, S.o19_3, S.o19_4, S.o19_9, S.o19_10, S.o25_0, S.o27_0, S.t30, S.t31, S.t32, S.t33, S.t34, S.t35, S.t36, S.t37, S.t38, S.l30, S.l31, S.l32, S.l33, S.l34, S.l36, S.l38, S.o29_0, S.o29_1, S.o29_2, S.o29_3, S.o29_4, S.o29_9, S.o29_10, S.o35_0, S.o37_0, zs_of, List.length_cons, List.length_nil, tl_some, tl_none, zrf_some, zdrop_i, zdrop_r, zdrop_q, zdrop_n, zdrop_l, i32_12, i32_1170, i32_2, i32_3, i32_5, i32_6, i32_8, i32_36, i32_200, Int32.reduceLE, Int32.reduceLT, Int32.reduceAdd, Int32.reduceSub, Int32.reduceMul, true_and, and_true, eq_self, true_or, or_true, not_true, not_false_iff, ↓reduceIte, zuo, zuA, zu_nk, zrow_at, zrow_ne, ex_some]
    simp (decide := true) only [s164_0, s164_0q, s164_1, s164_4, s164_5, s164_6, s164_6q, s164_7, s164_10, s164_11, s164_12, s164_13, s164_16, s164_18, s164_19, s164_19q, s164_20, s164_23, s164_24, s164_25, s164_28, s164_31, s164_33, s164_34, s164_34q, s164_35, s164_38, s164_38q, s164_39, s164_40, s164_43, h1, S.t8, S.t39, S.t40, S.t41, S.t42, S.t43, S.t124, S.t145, S.t146, S.t147, S.t148, S.t149, S.t150, S.t151, S.t152, S.t153, S.t154, S.t155, S.t156, S.t157, S.t158, S.t159, S.t160, S.t161, S.t162, S.t163, S.t164, S.t165, S.t166, S.t167, S.t168, S.t169, S.t170, S.t171, S.t172, S.t173, S.t174, S.t175, S.t176, S.t177, S.l40, S.l43, S.l124, S.l145, S.l147, S.l148, S.l149, S.l151, S.l153, S.l155, S.l157, S.l158, S.l159, S.l160, S.l161, S.l162, S.l163, S.l164, S.l165, S.l166, S.l167, S.l168, S.l169, S.l170, S.l171, S.l172, S.l173, S.l174, S.l175, S.l176, S.l177, S.o8_0, S.o8_1, S.o8_2, S.o8_3, S.o8_4, S.o8_5, S.o8_6, S.o8_7, S.o8_8, S.o8_9, S.o39_0, S.o41_0, S.o41_1, S.o41_2, S.o42_0, S.o43_0, S.o43_1, S.o43_2, S.o43_3, S.o43_4, S.o43_5, S.o43_6, S.o43_7, S.o124_0, S.o124_1, S.o146_0, S.o146_1, S.o149_0, S.o149_1, S.o149_2, S.o150_0, S.o152_0, S.o154_0, S.o156_0, S.o156_2, S.o156_3, S.o156_6, S.o156_7, S.o156_8, S.o156_9, S.o156_10, S.o156_11, S.o156_15, S.o156_18, S.o156_19, S.o156_20, S.o156_21, S.o156_22, S.o156_23, S.o156_24, S.o156_25, S.o156_26, S.o156_27, S.o156_28, S.t9, S.t19, S.t29, S.t44, S.t54, S.t64, S.t74, S.t84, S.t94, S.t104, S.t114, S.t125, S.t135, S.t10, S.t11, S.t12, S.t13, S.t14, S.t15, S.t16, S.t17, S.t18, S.l10, S.l11, S.l12, S.l13, S.l14, S.l16, S.l18, S.o9_0, S.o9_1, S.o9_2, S.o9_3, S.o9_4, S.o9_9, S.o9_10, S.o15_0, S.o17_0, S.t20, S.t21, S.t22, S.t23, S.t24, S.t25, S.t26, S.t27, S.t28, S.l20, S.l21, S.l22, S.l23, S.l24, S.l26, S.l28, S.o19_0, S.o19_1, S.o19_2, S.o19_3, S.o19_4, S.o19_9, S.o19_10, S.o25_0, S.o27_0, S.t30, S.t31, S.t32, S.t33, S.t34, S.t35, S.t36, S.t37, S.t38, S.l30, S.l31, S.l32, S.l33, S.l34, S.l36, S.l38, S.o29_0, S.o29_1, S.o29_2, S.o29_3, S.o29_4, S.o29_9, S.o29_10, S.o35_0, S.o37_0, zs_of, List.length_cons, List.length_nil, tl_some, tl_none, zrf_some, zdrop_i, zdrop_r, zdrop_q, zdrop_n, zdrop_l, i32_12, i32_1170, i32_2, i32_3, i32_5, i32_6, i32_8, i32_36, i32_200, Int32.reduceLE, Int32.reduceLT, Int32.reduceAdd, Int32.reduceSub, Int32.reduceMul, true_and, and_true, eq_self, true_or, or_true, not_true, not_false_iff, ↓reduceIte, zuo, zuA, zu_nk, zrow_at, zrow_ne]
    exact GOOD.of hI rfl
  · have h1 : ¬ I 157 4 + I 157 5 = 0 := by rw [← e4, ← e5, sum0 n4 n5]; exact h0
    by_cases h2 : I 157 2 = 999
    · have h3 : 999 ≤ I 9 8 := by rw [e2, h2]; decide
      simp (decide := true) only [s87_0, s87_0q, s87_1, s87_4, s87_7, s87_10, s87_12, s87_13, s87_13q, s87_14, s87_17, s87_20, s87_23, s87_26, s87_28, s87_29, s87_29q, s87_30, s87_33, s87_33q, s87_34, s87_37, s87_37q, s87_40, s87_40q, s87_41, s87_44, s87_47, c_Plain_hasNoPlaces S.p9, h0, Int32.not_lt.mpr h3, S.t8, S.t39, S.t40, S.t41, S.t42, S.t43, S.t124, S.t145, S.t146, S.t147, S.t148, S.t149, S.t150, S.t151, S.t152, S.t153, S.t154, S.t155, S.t156, S.t157, S.t158, S.t159, S.t160, S.t161, S.t162, S.t163, S.t164, S.t165, S.t166, S.t167, S.t168, S.t169, S.t170, S.t171, S.t172, S.t173, S.t174, S.t175, S.t176, S.t177, S.l40, S.l43, S.l124, S.l145, S.l147, S.l148, S.l149, S.l151, S.l153, S.l155, S.l157, S.l158, S.l159, S.l160, S.l161, S.l162, S.l163, S.l164, S.l165, S.l166, S.l167, S.l168, S.l169, S.l170, S.l171, S.l172, S.l173, S.l174, S.l175, S.l176, S.l177, S.o8_0, S.o8_1, S.o8_2, S.o8_3, S.o8_4, S.o8_5, S.o8_6, S.o8_7, S.o8_8, S.o8_9, S.o39_0, S.o41_0, S.o41_1, S.o41_2, S.o42_0, S.o43_0, S.o43_1, S.o43_2, S.o43_3, S.o43_4, S.o43_5, S.o43_6, S.o43_7, S.o124_0, S.o124_1, S.o146_0, S.o146_1, S.o149_0, S.o149_1, S.o149_2, S.o150_0, S.o152_0, S.o154_0, S.o156_0, S.o156_2, S.o156_3, S.o156_6, S.o156_7, S.o156_8, S.o156_9, S.o156_10, S.o156_11, S.o156_15, S.o156_18, S.o156_19, S.o156_20, S.o156_21, S.o156_22, S.o156_23, S.o156_24, S.o156_25, S.o156_26, S.o156_27, S.o156_28, S.t9, S.t19, S.t29, S.t44, S.t54, S.t64, S.t74, S.t84, S.t94, S.t104, S.t114, S.t125, S.t135, S.t10, S.t11, S.t12, S.t13, S.t14, S.t15, S.t16, S.t17, S.t18, S.l10, S.l11, S.l12, S.l13, S.l14, S.l16, S.l18, S.o9_0, S.o9_1, S.o9_2, S.o9_3, S.o9_4, S.o9_9, S.o9_10, S.o15_0, S.o17_0, S.t20, S.t21, S.t22, S.t23, S.t24, S.t25, S.t26, S.t27, S.t28, S.l20, S.l21, S.l22, S.l23, S.l24, S.l26, S.l28, S.o19_0, S.o19_1, S.o19_2, S.o19_3, S.o19_4, S.o19_9, S.o19_10, S.o25_0, S.o27_0, S.t30, S.t31, S.t32, S.t33, S.t34, S.t35, S.t36, S.t37, S.t38, S.l30, S.l31, S.l32, S.l33, S.l34, S.l36, S.l38, S.o29_0, S.o29_1, S.o29_2, S.o29_3, S.o29_4, S.o29_9, S.o29_10, S.o35_0, S.o37_0, zs_of, List.length_cons, List.length_nil, tl_some, tl_none, zrf_some, zdrop_i, zdrop_r, zdrop_q, zdrop_n, zdrop_l, i32_12, i32_1170, i32_2, i32_3, i32_5, i32_6, i32_8, i32_36, i32_200, Int32.reduceLE, Int32.reduceLT, Int32.reduceAdd, Int32.reduceSub, Int32.reduceMul, true_and, and_true, eq_self, true_or, or_true, not_true, not_false_iff, ↓reduceIte, zuo, zuA, zu_nk, zrow_at, zrow_ne, ex_some]
      simp (decide := true) only [s164_0, s164_0q, s164_1, s164_4, s164_5, s164_6, s164_6q, s164_7, s164_10, s164_11, s164_12, s164_13, s164_16, s164_18, s164_19, s164_19q, s164_20, s164_23, s164_24, s164_25, s164_28, s164_31, s164_33, s164_34, s164_34q, s164_35, s164_38, s164_38q, s164_39, s164_40, s164_43, h1, h2, S.t8, S.t39, S.t40, S.t41, S.t42, S.t43, S.t124, S.t145, S.t146, S.t147, S.t148, S.t149, S.t150, S.t151, S.t152, S.t153, S.t154, S.t155, S.t156, S.t157, S.t158, S.t159, S.t160, S.t161, S.t162, S.t163, S.t164, S.t165, S.t166, S.t167, S.t168, S.t169, S.t170, S.t171, S.t172, S.t173, S.t174, S.t175, S.t176, S.t177, S.l40, S.l43, S.l124, S.l145, S.l147, S.l148, S.l149, S.l151, S.l153, S.l155, S.l157, S.l158, S.l159, S.l160, S.l161, S.l162, S.l163, S.l164, S.l165, S.l166, S.l167, S.l168, S.l169, S.l170, S.l171, S.l172, S.l173, S.l174, S.l175, S.l176, S.l177, S.o8_0, S.o8_1, S.o8_2, S.o8_3, S.o8_4, S.o8_5, S.o8_6, S.o8_7, S.o8_8, S.o8_9, S.o39_0, S.o41_0, S.o41_1, S.o41_2, S.o42_0, S.o43_0, S.o43_1, S.o43_2, S.o43_3, S.o43_4, S.o43_5, S.o43_6, S.o43_7, S.o124_0, S.o124_1, S.o146_0, S.o146_1, S.o149_0, S.o149_1, S.o149_2, S.o150_0, S.o152_0, S.o154_0, S.o156_0, S.o156_2, S.o156_3, S.o156_6, S.o156_7, S.o156_8, S.o156_9, S.o156_10, S.o156_11, S.o156_15, S.o156_18, S.o156_19, S.o156_20, S.o156_21, S.o156_22, S.o156_23, S.o156_24, S.o156_25, S.o156_26, S.o156_27, S.o156_28, S.t9, S.t19, S.t29, S.t44, S.t54, S.t64, S.t74, S.t84, S.t94, S.t104, S.t114, S.t125, S.t135, S.t10, S.t11, S.t12, S.t13, S.t14, S.t15, S.t16, S.t17, S.t18, S.l10, S.l11, S.l12, S.l13, S.l14, S.l16, S.l18, S.o9_0, S.o9_1, S.o9_2, S.o9_3, S.o9_4, S.o9_9, S.o9_10, S.o15_0, S.o17_0, S.t20, S.t21, S.t22, S.t23, S.t24, S.t25, S.t26, S.t27, S.t28, S.l20, S.l21, S.l22, S.l23, S.l24, S.l26, S.l28, S.o19_0, S.o19_1, S.o19_2, S.o19_3, S.o19_4, S.o19_9, S.o19_10, S.o25_0, S.o27_0, S.t30, S.t31, S.t32, S.t33, S.t34, S.t35, S.t36, S.t37, S.t38, S.l30, S.l31, S.l32, S.l33, S.l34, S.l36, S.l38, S.o29_0, S.o29_1, S.o29_2, S.o29_3, S.o29_4, S.o29_9, S.o29_10, S.o35_0, S.o37_0, zs_of, List.length_cons, List.length_nil, tl_some, tl_none, zrf_some, zdrop_i, zdrop_r, zdrop_q, zdrop_n, zdrop_l, i32_12, i32_1170, i32_2, i32_3, i32_5, i32_6, i32_8, i32_36, i32_200, Int32.reduceLE, Int32.reduceLT, Int32.reduceAdd, Int32.reduceSub, Int32.reduceMul, true_and, and_true, eq_self, true_or, or_true, not_true, not_false_iff, ↓reduceIte, zuo, zuA, zu_nk, zrow_at, zrow_ne]
      exact GOOD.of hI rfl
    · have h3 : ¬ 999 ≤ I 9 8 := by rw [n999 h999.2, e2]; exact h2
      obtain ⟨q1, q2, q3⟩ := ntAM (by decide) hA.1 hB
      have hrem := fun (Q : Option Value → ZH → Prop) => @c_remember Q n tg ln I J O S hN
      have hpn := fun (Q : Option Value → ZH → Prop) => @c_Plain_passNight Q n tg ln (remM I) J O 9 S.p9 hA.1.1
      have w : ∀ c, c < 9 ∨ 19 ≤ c → c ≠ 42 → (c < 44 ∨ 124 ≤ c) → ntM (remM I) 9 c = I c := fun c h1 h2 h3 => by rw [ntM_fr c (by omega)]; exact remM_o hN h2 h3
      have w6 := w 156 (by omega) (by omega) (by omega)
      have w7 := w 157 (by omega) (by omega) (by omega)
      have hkp := fun (Q : Option Value → ZH → Prop) => @c_M_keepPast Q n tg ln (ntM (remM I) 9) J O S (by rw [w6]; exact hu)
      have hmn := hB.num hA.1
      have ek : kpI (ntM (remM I) 9) 157 = kpF (I 157) (I 156 1) := by rw [kpI_at, w6, w7]
      have ht : kpF (I 157) (I 156 1) (0 + 3) = 0 ∨ kpF (I 157) (I 156 1) (0 + 3) = 1 := by
        have := hB.1.2.2.2
        rw [← this]
        exact hA.1.2.1.2
      have hps := fun (Q : Option Value → ZH → Prop) => @c_M_passes Q n tg ln (kpI (ntM (remM I) 9)) J O 156 157 0 S.mr (by decide) (by rw [ek]; exact hmn) (by rw [ek]; exact ht)
      simp (decide := true) only [s87_0, s87_0q, s87_1, s87_4, s87_7, s87_10, s87_12, s87_13, s87_13q, s87_14, s87_17, s87_20, s87_23, s87_26, s87_28, s87_29, s87_29q, s87_30, s87_33, s87_33q, s87_34, s87_37, s87_37q, s87_40, s87_40q, s87_41, s87_44, s87_47, c_Plain_hasNoPlaces S.p9, h0, Int32.not_le.mp h3, hrem, hpn, S.t8, S.t39, S.t40, S.t41, S.t42, S.t43, S.t124, S.t145, S.t146, S.t147, S.t148, S.t149, S.t150, S.t151, S.t152, S.t153, S.t154, S.t155, S.t156, S.t157, S.t158, S.t159, S.t160, S.t161, S.t162, S.t163, S.t164, S.t165, S.t166, S.t167, S.t168, S.t169, S.t170, S.t171, S.t172, S.t173, S.t174, S.t175, S.t176, S.t177, S.l40, S.l43, S.l124, S.l145, S.l147, S.l148, S.l149, S.l151, S.l153, S.l155, S.l157, S.l158, S.l159, S.l160, S.l161, S.l162, S.l163, S.l164, S.l165, S.l166, S.l167, S.l168, S.l169, S.l170, S.l171, S.l172, S.l173, S.l174, S.l175, S.l176, S.l177, S.o8_0, S.o8_1, S.o8_2, S.o8_3, S.o8_4, S.o8_5, S.o8_6, S.o8_7, S.o8_8, S.o8_9, S.o39_0, S.o41_0, S.o41_1, S.o41_2, S.o42_0, S.o43_0, S.o43_1, S.o43_2, S.o43_3, S.o43_4, S.o43_5, S.o43_6, S.o43_7, S.o124_0, S.o124_1, S.o146_0, S.o146_1, S.o149_0, S.o149_1, S.o149_2, S.o150_0, S.o152_0, S.o154_0, S.o156_0, S.o156_2, S.o156_3, S.o156_6, S.o156_7, S.o156_8, S.o156_9, S.o156_10, S.o156_11, S.o156_15, S.o156_18, S.o156_19, S.o156_20, S.o156_21, S.o156_22, S.o156_23, S.o156_24, S.o156_25, S.o156_26, S.o156_27, S.o156_28, S.t9, S.t19, S.t29, S.t44, S.t54, S.t64, S.t74, S.t84, S.t94, S.t104, S.t114, S.t125, S.t135, S.t10, S.t11, S.t12, S.t13, S.t14, S.t15, S.t16, S.t17, S.t18, S.l10, S.l11, S.l12, S.l13, S.l14, S.l16, S.l18, S.o9_0, S.o9_1, S.o9_2, S.o9_3, S.o9_4, S.o9_9, S.o9_10, S.o15_0, S.o17_0, S.t20, S.t21, S.t22, S.t23, S.t24, S.t25, S.t26, S.t27, S.t28, S.l20, S.l21, S.l22, S.l23, S.l24, S.l26, S.l28, S.o19_0, S.o19_1, S.o19_2, S.o19_3, S.o19_4, S.o19_9, S.o19_10, S.o25_0, S.o27_0, S.t30, S.t31, S.t32, S.t33, S.t34, S.t35, S.t36, S.t37, S.t38, S.l30, S.l31, S.l32, S.l33, S.l34, S.l36, S.l38, S.o29_0, S.o29_1, S.o29_2, S.o29_3, S.o29_4, S.o29_9, S.o29_10, S.o35_0, S.o37_0, zs_of, List.length_cons, List.length_nil, tl_some, tl_none, zrf_some, zdrop_i, zdrop_r, zdrop_q, zdrop_n, zdrop_l, i32_12, i32_1170, i32_2, i32_3, i32_5, i32_6, i32_8, i32_36, i32_200, Int32.reduceLE, Int32.reduceLT, Int32.reduceAdd, Int32.reduceSub, Int32.reduceMul, true_and, and_true, eq_self, true_or, or_true, not_true, not_false_iff, ↓reduceIte, zuo, zuA, zu_nk, zrow_at, zrow_ne, ex_some]
      simp (decide := true) only [s164_0, s164_0q, s164_1, s164_4, s164_5, s164_6, s164_6q, s164_7, s164_10, s164_11, s164_12, s164_13, s164_16, s164_18, s164_19, s164_19q, s164_20, s164_23, s164_24, s164_25, s164_28, s164_31, s164_33, s164_34, s164_34q, s164_35, s164_38, s164_38q, s164_39, s164_40, s164_43, h1, h2, w7, hkp, hps, ek, kpI_row, w6, S.t8, S.t39, S.t40, S.t41, S.t42, S.t43, S.t124, S.t145, S.t146, S.t147, S.t148, S.t149, S.t150, S.t151, S.t152, S.t153, S.t154, S.t155, S.t156, S.t157, S.t158, S.t159, S.t160, S.t161, S.t162, S.t163, S.t164, S.t165, S.t166, S.t167, S.t168, S.t169, S.t170, S.t171, S.t172, S.t173, S.t174, S.t175, S.t176, S.t177, S.l40, S.l43, S.l124, S.l145, S.l147, S.l148, S.l149, S.l151, S.l153, S.l155, S.l157, S.l158, S.l159, S.l160, S.l161, S.l162, S.l163, S.l164, S.l165, S.l166, S.l167, S.l168, S.l169, S.l170, S.l171, S.l172, S.l173, S.l174, S.l175, S.l176, S.l177, S.o8_0, S.o8_1, S.o8_2, S.o8_3, S.o8_4, S.o8_5, S.o8_6, S.o8_7, S.o8_8, S.o8_9, S.o39_0, S.o41_0, S.o41_1, S.o41_2, S.o42_0, S.o43_0, S.o43_1, S.o43_2, S.o43_3, S.o43_4, S.o43_5, S.o43_6, S.o43_7, S.o124_0, S.o124_1, S.o146_0, S.o146_1, S.o149_0, S.o149_1, S.o149_2, S.o150_0, S.o152_0, S.o154_0, S.o156_0, S.o156_2, S.o156_3, S.o156_6, S.o156_7, S.o156_8, S.o156_9, S.o156_10, S.o156_11, S.o156_15, S.o156_18, S.o156_19, S.o156_20, S.o156_21, S.o156_22, S.o156_23, S.o156_24, S.o156_25, S.o156_26, S.o156_27, S.o156_28, S.t9, S.t19, S.t29, S.t44, S.t54, S.t64, S.t74, S.t84, S.t94, S.t104, S.t114, S.t125, S.t135, S.t10, S.t11, S.t12, S.t13, S.t14, S.t15, S.t16, S.t17, S.t18, S.l10, S.l11, S.l12, S.l13, S.l14, S.l16, S.l18, S.o9_0, S.o9_1, S.o9_2, S.o9_3, S.o9_4, S.o9_9, S.o9_10, S.o15_0, S.o17_0, S.t20, S.t21, S.t22, S.t23, S.t24, S.t25, S.t26, S.t27, S.t28, S.l20, S.l21, S.l22, S.l23, S.l24, S.l26, S.l28, S.o19_0, S.o19_1, S.o19_2, S.o19_3, S.o19_4, S.o19_9, S.o19_10, S.o25_0, S.o27_0, S.t30, S.t31, S.t32, S.t33, S.t34, S.t35, S.t36, S.t37, S.t38, S.l30, S.l31, S.l32, S.l33, S.l34, S.l36, S.l38, S.o29_0, S.o29_1, S.o29_2, S.o29_3, S.o29_4, S.o29_9, S.o29_10, S.o35_0, S.o37_0, zs_of, List.length_cons, List.length_nil, tl_some, tl_none, zrf_some, zdrop_i, zdrop_r, zdrop_q, zdrop_n, zdrop_l, i32_12, i32_1170, i32_2, i32_3, i32_5, i32_6, i32_8, i32_36, i32_200, Int32.reduceLE, Int32.reduceLT, Int32.reduceAdd, Int32.reduceSub, Int32.reduceMul, true_and, and_true, eq_self, true_or, or_true, not_true, not_false_iff, ↓reduceIte, zuo, zuA, zu_nk, zrow_at, zrow_ne]
      refine ⟨by rw [q1], GOOD.of (hI.deed ntM_fr (paM_fr (by decide) hmn ht) ⟨q3, ?_⟩ q2) ?_⟩
      · rw [ntM_8, hS 9 (by omega) (by omega)]
        exact n999b h999.1 h999.2 (by rw [e2]; exact h2)
      · rw [zuo (by decide), zrow_ne (by decide)]
        exact w 0 (by omega) (by omega) (by omega)
end DEEDS
