section PLAINC
variable {Q : Option Value → ZH → Prop} {n : Nat} {tg ln : Nat → Nat} {I : Nat → Int32 → Int32} {J : Nat → Int32 → Int64} {O : Nat → Int32 → Option Nat} {p a c : Nat}
/-- where a tree's own gap is -/
def gapA (I : Nat → Int32 → Int32) (p : Nat) (t : Int32) : Int32 := zfirst (I (lnA p (I (p + 5) t)) 1) (fun q => decide (I (lnA p (I (p + 5) t) + 1) q = 50 + t)) 0
theorem c_Plain_gapPlace {t : Int32} (h : PlSh tg ln O p) (hn : PlNum I p) (ht : 0 ≤ t ∧ t < I p 5) : Runs 50 0 [some (.ref p), some (.int t)] [] (n, tg, ln, I, J, O) Q ↔ Q (some (.int (gapA I p t))) (n, tg, ln, I, J, O) := by
  obtain ⟨⟨t0, t1, t2, t3, t4, t5, -⟩, ⟨l1, l2, l3, l4, l5, -⟩, ⟨o0, o1, o2, o3, o4, -⟩⟩ := id h
  have hb := hn.1
  have hlo := fun (Q : Option Value → ZH → Prop) (x : Int32) => @c_Plain_lineOf Q n tg ln I J O p x h
  have hm := lnA_num hn (I (p + 5) t)
  have ta := lnA_tg h (I (p + 5) t)
  have hp := fun (Q : Option Value → ZH → Prop) x => @c_Line_placeOf Q n tg ln I J O (lnA p (I (p + 5) t)) (lnA p (I (p + 5) t) + 1) x (lnA_tg h _) (lnA_O h _) (lnA_tc h _) (lnA_lc h _) hm.1 hm.2
  unfold gapA
  simp only [s50_0, s50_0q, s50_1, s50_1q, s50_2, s50_5, s50_6, s50_7, s50_10, s50_11, s50_14, s50_17, hlo, c_Line_gapOf, hp, t0, t5, l5, o4, ta, zs0, zs1, zs2, zs3, tl_some, tl_none, zrf_some, zdrop_i, zdrop_r, zdrop_n, i32_12]
  grind
def canA (I : Nat → Int32 → Int32) (p : Nat) (t : Int32) : Prop := ¬ gapA I p t = -1 ∨ I (lnA p (I (p + 5) t)) 1 < 12
theorem c_Plain_canComeBack {t : Int32} (h : PlSh tg ln O p) (hn : PlNum I p) (ht : 0 ≤ t ∧ t < I p 5) (hd : Decidable (canA I p t)) : Runs 48 0 [some (.ref p), some (.int t)] [] (n, tg, ln, I, J, O) Q ↔ Q (some (.int (if canA I p t then 1 else 0))) (n, tg, ln, I, J, O) := by
  obtain ⟨⟨t0, t1, t2, t3, t4, t5, -⟩, ⟨l1, l2, l3, l4, l5, -⟩, ⟨o0, o1, o2, o3, o4, -⟩⟩ := id h
  have hb := hn.1
  have hlo := fun (Q : Option Value → ZH → Prop) (x : Int32) => @c_Plain_lineOf Q n tg ln I J O p x h
  have hgp := fun (Q : Option Value → ZH → Prop) => @c_Plain_gapPlace Q n tg ln I J O p t h hn ht
  have ta := lnA_tg h (I (p + 5) t)
  simp only [s48_0, s48_0q, s48_1, s48_2, s48_5, s48_8, s48_8q, s48_9, s48_10, s48_13, s48_14, s48_17, s48_17q, s48_18, s48_18q, s48_19, s48_22, s48_23, s48_24, s48_27, s48_30, s48_33, s48_34, s48_37, s48_38, c_Plain_isTree h, hlo, hgp, c_Line_isFull ta, if_pos ht, if_neg (show ¬ (1 : Int32) = 0 by decide), t0, t5, l5, o4, ta, zs0, zs1, zs2, zs3, tl_some, tl_none, zrf_some, zdrop_i, zdrop_r, zdrop_n, i32_12, eq_self, true_or, or_true]
  unfold canA
  grind
theorem gapA_spec {t : Int32} : gapA I p t = -1 ∨ (0 ≤ gapA I p t ∧ gapA I p t < I (lnA p (I (p + 5) t)) 1 ∧ I (lnA p (I (p + 5) t) + 1) (gapA I p t) = 50 + t) := by
  have := @zfirst_spec (I (lnA p (I (p + 5) t)) 1) (fun q => decide (I (lnA p (I (p + 5) t) + 1) q = 50 + t)) 0
  unfold gapA
  grind
/-- back again: what is written -/
def bkM (I : Nat → Int32 → Int32) (p : Nat) (t : Int32) : Nat → Int32 → Int32 := zu (if gapA I p t = -1 then zu (apA I (lnA p (I (p + 5) t)) t) (p + 3) t 0 else zu I (lnA p (I (p + 5) t) + 1) (gapA I p t) t) (p + 4) t 0
theorem PlNum.eqv {I2 : Nat → Int32 → Int32} (h5 : I2 p 5 = I p 5) (h6 : 0 ≤ I2 (p + 6) 1 ∧ I2 (p + 6) 1 ≤ 12) (h8 : 0 ≤ I2 (p + 8) 1 ∧ I2 (p + 8) 1 ≤ 12) (hn : PlNum I p) : PlNum I2 p := ⟨by rw [h5]; exact hn.1, h6, h8⟩
theorem lnA_cases (x : Int32) : lnA p x = p + 6 ∨ lnA p x = p + 8 := by unfold lnA; split <;> simp
theorem PlNum.back {t : Int32} (hn : PlNum I p) (hc : canA I p t) : PlNum (bkM I p t) p := by
  have h6 := hn.2.1
  have h8 := hn.2.2
  have hl := @lnA_cases p (I (p + 5) t)
  have hm := lnA_num hn (I (p + 5) t)
  unfold canA at hc
  unfold bkM apA
  generalize hq : lnA p (I (p + 5) t) = a at *
  by_cases h1 : gapA I p t = -1
  · rw [if_pos h1]
    refine PlNum.eqv ?_ ?_ ?_ hn
    · unfold zu; grind
    · unfold zu; grind
    · unfold zu; grind
  · rw [if_neg h1]
    refine PlNum.eqv ?_ ?_ ?_ hn
    · unfold zu; grind
    · unfold zu; grind
    · unfold zu; grind
theorem c_Plain_comeBack {t : Int32} (h : PlSh tg ln O p) (hn : PlNum I p) (ht : 0 ≤ t ∧ t < I p 5) (hc : canA I p t) : Runs 49 0 [some (.ref p), some (.int t), none] [] (n, tg, ln, I, J, O) Q ↔ Q (some (.int (placeA (bkM I p t) p t))) (n, tg, ln, bkM I p t, J, O) := by
  obtain ⟨⟨t0, t1, t2, t3, t4, t5, -⟩, ⟨l1, l2, l3, l4, l5, -⟩, ⟨o0, o1, o2, o3, o4, -⟩⟩ := id h
  have hb := hn.1
  have hdc : Decidable (canA I p t) := .isTrue hc
  have hcc := fun (Q : Option Value → ZH → Prop) => @c_Plain_canComeBack Q n tg ln I J O p t h hn ht hdc
  have hlo := fun (Q : Option Value → ZH → Prop) (I2 : Nat → Int32 → Int32) (x : Int32) => @c_Plain_lineOf Q n tg ln I2 J O p x h
  have hgp := fun (Q : Option Value → ZH → Prop) => @c_Plain_gapPlace Q n tg ln I J O p t h hn ht
  have hpo := fun (Q : Option Value → ZH → Prop) => @c_Plain_placeOf Q n tg ln (bkM I p t) J O p t h (hn.back hc)
  have ta := lnA_tg h (I (p + 5) t)
  have hm := lnA_num hn (I (p + 5) t)
  have hsp := @gapA_spec I p t
  have hl := @lnA_cases p (I (p + 5) t)
  have hpt := fun (Q : Option Value → ZH → Prop) q v => @c_Line_put Q n tg ln I J O (lnA p (I (p + 5) t)) (lnA p (I (p + 5) t) + 1) q v (lnA_tg h _) (lnA_O h _) (lnA_tc h _) (lnA_lc h _) hm.2
  have hap := fun (Q : Option Value → ZH → Prop) x => @c_Line_append Q n tg ln I J O (lnA p (I (p + 5) t)) (lnA p (I (p + 5) t) + 1) x (lnA_tg h _) (lnA_O h _) (lnA_tc h _) (lnA_lc h _) (by omega) hm.1
  by_cases h1 : gapA I p t = -1
  · have hr : I (lnA p (I (p + 5) t)) 1 < 12 := hc.resolve_left (fun z => z h1)
    have e1 : bkM I p t = zu (zu (zu (zu I (lnA p (I (p + 5) t) + 1) (I (lnA p (I (p + 5) t)) 1) t) (lnA p (I (p + 5) t)) 1 (I (lnA p (I (p + 5) t)) 1 + 1)) (p + 3) t 0) (p + 4) t 0 := by unfold bkM apA; rw [if_pos h1]
    rw [e1] at hpo ⊢
    simp only [s49_0, s49_0q, s49_1, s49_2, s49_5, s49_8, s49_9, s49_10, s49_10q, s49_11, s49_12, s49_15, s49_16, s49_17, s49_18, s49_21, s49_21q, s49_22, s49_22q, s49_23, s49_26, s49_27, s49_28, s49_31, s49_32, s49_33, s49_36, s49_39, s49_39q, s49_40, s49_40q, s49_41, s49_44, s49_45, s49_46, s49_49, s49_50, s49_53, s49_53q, s49_54, s49_57, s49_58, s49_59, s49_60, s49_60q, s49_61, s49_64, s49_65, s49_66, s49_67, s49_67q, s49_68, s49_69, s49_72, hcc, hlo, hgp, hap, h1, if_pos hc, if_pos hr, if_neg (show ¬ (1 : Int32) = 0 by decide), if_pos (show ¬ (1 : Int32) = 0 by decide), t0, t5, t4, t3, l3, l4, l5, o2, o3, o4, ta, zs0, zs1, zs2, zs3, tl_some, tl_none, zrf_some, zdrop_i, zdrop_r, zdrop_n, i32_12, hpo]
    grind
  · obtain ⟨b1, b2, b3⟩ := hsp.resolve_left h1
    have bq : 0 ≤ gapA I p t ∧ gapA I p t < I (lnA p (I (p + 5) t)) 1 := ⟨b1, b2⟩
    have e1 : bkM I p t = zu (zu I (lnA p (I (p + 5) t) + 1) (gapA I p t) t) (p + 4) t 0 := by unfold bkM; rw [if_neg h1]
    rw [e1] at hpo ⊢
    simp only [s49_0, s49_0q, s49_1, s49_2, s49_5, s49_8, s49_9, s49_10, s49_10q, s49_11, s49_12, s49_15, s49_16, s49_17, s49_18, s49_21, s49_21q, s49_22, s49_22q, s49_23, s49_26, s49_27, s49_28, s49_31, s49_32, s49_33, s49_36, s49_39, s49_39q, s49_40, s49_40q, s49_41, s49_44, s49_45, s49_46, s49_49, s49_50, s49_53, s49_53q, s49_54, s49_57, s49_58, s49_59, s49_60, s49_60q, s49_61, s49_64, s49_65, s49_66, s49_67, s49_67q, s49_68, s49_69, s49_72, hcc, hlo, hgp, hpt, if_pos hc, if_pos bq, if_neg (show ¬ (1 : Int32) = 0 by decide), if_pos (show ¬ (1 : Int32) = 0 by decide), t0, t5, t4, t3, l3, l4, l5, o2, o3, o4, ta, zs0, zs1, zs2, zs3, tl_some, tl_none, zrf_some, zdrop_i, zdrop_r, zdrop_n, i32_12, hpo]
    grind
def clM (I : Nat → Int32 → Int32) (p : Nat) : Nat → Int32 → Int32 := zu (zu (zu (zu (zu (zu I (p + 6) 1 0) (p + 8) 1 0) p 5 0) p 6 0) p 7 0) p 8 0
theorem c_Plain_clear (h : PlSh tg ln O p) : Runs 37 0 [some (.ref p)] [] (n, tg, ln, I, J, O) Q ↔ Q none (n, tg, ln, clM I p, J, O) := by
  obtain ⟨⟨t0, t1, t2, t3, t4, t5, t6, t7, t8, t9⟩, -, ⟨o0, o1, o2, o3, o4, o9, o10, -⟩⟩ := id h
  have h6 := fun (Q : Option Value → ZH → Prop) (I2 : Nat → Int32 → Int32) => @c_Line_clear Q n tg ln I2 J O (p + 6) t6
  have h8 := fun (Q : Option Value → ZH → Prop) (I2 : Nat → Int32 → Int32) => @c_Line_clear Q n tg ln I2 J O (p + 8) t8
  unfold clM
  simp only [s37_0, s37_0q, s37_1, s37_4, s37_7, s37_7q, s37_8, s37_11, s37_14, s37_14q, s37_15, s37_16, s37_19, s37_19q, s37_20, s37_21, s37_24, s37_24q, s37_25, s37_26, s37_29, s37_29q, s37_30, s37_31, s37_34, h6, h8, t0, t6, t8, o9, o10, zs0, tl_none, zrf_some]
/-- one plain copied upon another -/
def cpM (I : Nat → Int32 → Int32) (p q : Nat) : Nat → Int32 → Int32 := zu (zcpy (zu (zcpy (zu (zu (zu (zu (zcpy (zcpy (zcpy (zcpy (zcpy I (p + 1) (q + 1) 12) (p + 2) (q + 2) 12) (p + 3) (q + 3) 12) (p + 4) (q + 4) 12) (p + 5) (q + 5) 12) p 5 (I q 5)) p 6 (I q 6)) p 7 (I q 7)) p 8 (I q 8)) (p + 7) (q + 7) 12) (p + 6) 1 (I (q + 6) 1)) (p + 9) (q + 9) 12) (p + 8) 1 (I (q + 8) 1)
theorem c_Plain_copyFrom {q : Nat} (h : PlSh tg ln O p) (h2 : PlSh tg ln O q) (hd : p + 10 ≤ q ∨ q + 10 ≤ p) : Runs 38 0 [some (.ref p), some (.ref q)] [] (n, tg, ln, I, J, O) Q ↔ Q none (n, tg, ln, cpM I p q, J, O) := by
  obtain ⟨⟨t0, t1, t2, t3, t4, t5, t6, t7, t8, t9⟩, ⟨l1, l2, l3, l4, l5, l7, l9⟩, ⟨o0, o1, o2, o3, o4, o9, o10, o6, o8⟩⟩ := id h
  obtain ⟨⟨u0, u1, u2, u3, u4, u5, u6, u7, u8, u9⟩, ⟨k1, k2, k3, k4, k5, k7, k9⟩, ⟨r0, r1, r2, r3, r4, r9, r10, r6, r8⟩⟩ := id h2
  have z1 : ∀ (I : Nat → Int32 → Int32) a b k c j, c ≠ a → zcpy I a b k c j = I c j := fun I a b k c j hc => by unfold zcpy; rw [if_neg (fun z => hc z.1)]
  have z2 : ∀ (I : Nat → Int32 → Int32) a k v c j, c ≠ a → zu I a k v c j = I c j := fun I a k v c j hc => by unfold zu; rw [if_neg (fun z => hc z.1)]
  have h6 := fun (Q : Option Value → ZH → Prop) (I2 : Nat → Int32 → Int32) => @c_Line_copyFrom Q n tg ln I2 J O (p + 6) (p + 7) (q + 6) (q + 7) t6 o6 t7 l7 u6 r6 u7 k7 (by omega)
  have h8 := fun (Q : Option Value → ZH → Prop) (I2 : Nat → Int32 → Int32) => @c_Line_copyFrom Q n tg ln I2 J O (p + 8) (p + 9) (q + 8) (q + 9) t8 o8 t9 l9 u8 r8 u9 k9 (by omega)
  have b12 : (0 : Int32) ≤ 12 ∧ (12 : Int32) ≤ 12 ∧ (12 : Int32) ≤ 12 := by decide
  have e5 : ∀ j, zcpy (zcpy (zcpy (zcpy (zcpy I (p + 1) (q + 1) 12) (p + 2) (q + 2) 12) (p + 3) (q + 3) 12) (p + 4) (q + 4) 12) (p + 5) (q + 5) 12 q j = I q j := fun j => by
    rw [z1 _ _ _ _ _ _ (by omega), z1 _ _ _ _ _ _ (by omega), z1 _ _ _ _ _ _ (by omega), z1 _ _ _ _ _ _ (by omega), z1 _ _ _ _ _ _ (by omega)]
  have e6 : ∀ k v j, zu (zcpy (zcpy (zcpy (zcpy (zcpy I (p + 1) (q + 1) 12) (p + 2) (q + 2) 12) (p + 3) (q + 3) 12) (p + 4) (q + 4) 12) (p + 5) (q + 5) 12) p k v q j = I q j := fun k v j => by rw [z2 _ _ _ _ _ _ (by omega), e5]
  have e7 : ∀ k v k1 v1 j, zu (zu (zcpy (zcpy (zcpy (zcpy (zcpy I (p + 1) (q + 1) 12) (p + 2) (q + 2) 12) (p + 3) (q + 3) 12) (p + 4) (q + 4) 12) (p + 5) (q + 5) 12) p k v) p k1 v1 q j = I q j := fun k v k1 v1 j => by rw [z2 _ _ _ _ _ _ (by omega), e6]
  have e8 : ∀ k v k1 v1 k2 v2 j, zu (zu (zu (zcpy (zcpy (zcpy (zcpy (zcpy I (p + 1) (q + 1) 12) (p + 2) (q + 2) 12) (p + 3) (q + 3) 12) (p + 4) (q + 4) 12) (p + 5) (q + 5) 12) p k v) p k1 v1) p k2 v2 q j = I q j := fun k v k1 v1 k2 v2 j => by rw [z2 _ _ _ _ _ _ (by omega), e7]
  have e9 : ∀ k v k1 v1 k2 v2 k3 v3 j, zu (zu (zu (zu (zcpy (zcpy (zcpy (zcpy (zcpy I (p + 1) (q + 1) 12) (p + 2) (q + 2) 12) (p + 3) (q + 3) 12) (p + 4) (q + 4) 12) (p + 5) (q + 5) 12) p k v) p k1 v1) p k2 v2) p k3 v3 (q + 6) j = I (q + 6) j := fun k v k1 v1 k2 v2 k3 v3 j => by
    rw [z2 _ _ _ _ _ _ (by omega), z2 _ _ _ _ _ _ (by omega), z2 _ _ _ _ _ _ (by omega), z2 _ _ _ _ _ _ (by omega), z1 _ _ _ _ _ _ (by omega), z1 _ _ _ _ _ _ (by omega), z1 _ _ _ _ _ _ (by omega), z1 _ _ _ _ _ _ (by omega), z1 _ _ _ _ _ _ (by omega)]
  have e10 : ∀ k v k1 v1 k2 v2 k3 v3 v4 j, zu (zcpy (zu (zu (zu (zu (zcpy (zcpy (zcpy (zcpy (zcpy I (p + 1) (q + 1) 12) (p + 2) (q + 2) 12) (p + 3) (q + 3) 12) (p + 4) (q + 4) 12) (p + 5) (q + 5) 12) p k v) p k1 v1) p k2 v2) p k3 v3) (p + 7) (q + 7) 12) (p + 6) 1 v4 (q + 8) j = I (q + 8) j := fun k v k1 v1 k2 v2 k3 v3 v4 j => by
    rw [z2 _ _ _ _ _ _ (by omega), z1 _ _ _ _ _ _ (by omega), z2 _ _ _ _ _ _ (by omega), z2 _ _ _ _ _ _ (by omega), z2 _ _ _ _ _ _ (by omega), z2 _ _ _ _ _ _ (by omega), z1 _ _ _ _ _ _ (by omega), z1 _ _ _ _ _ _ (by omega), z1 _ _ _ _ _ _ (by omega), z1 _ _ _ _ _ _ (by omega), z1 _ _ _ _ _ _ (by omega)]
  unfold cpM
  simp only [s38_0, s38_0q, s38_1, s38_4, s38_5, s38_5q, s38_6, s38_9, s38_10, s38_12, s38_15, s38_15q, s38_16, s38_19, s38_20, s38_20q, s38_21, s38_24, s38_25, s38_27, s38_30, s38_30q, s38_31, s38_34, s38_35, s38_35q, s38_36, s38_39, s38_40, s38_42, s38_45, s38_45q, s38_46, s38_49, s38_50, s38_50q, s38_51, s38_54, s38_55, s38_57, s38_60, s38_60q, s38_61, s38_64, s38_65, s38_65q, s38_66, s38_69, s38_70, s38_72, s38_75, s38_75q, s38_76, s38_76q, s38_77, s38_80, s38_83, s38_83q, s38_84, s38_84q, s38_85, s38_88, s38_91, s38_91q, s38_92, s38_92q, s38_93, s38_96, s38_99, s38_99q, s38_100, s38_100q, s38_101, s38_104, s38_107, s38_107q, s38_108, s38_111, s38_111q, s38_112, s38_115, s38_115q, s38_118, s38_118q, s38_119, s38_122, s38_122q, s38_123, s38_126, s38_126q, s38_129, t0, t1, t2, t3, t4, t5, t6, t8, l1, l2, l3, l4, l5, o0, o1, o2, o3, o4, o9, o10, u0, u1, u2, u3, u4, u5, u6, u8, k1, k2, k3, k4, k5, r0, r1, r2, r3, r4, r9, r10, zs0, zs1, zs2, tl_some, tl_none, zrf_some, zdrop_i, zdrop_r, zdrop_n, i32_12, b12, true_and, h6, h8, e5, e6, e7, e8, e9, e10]
end PLAINC
