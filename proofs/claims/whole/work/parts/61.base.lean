/-! small things -/
theorem Runs.mono {mi pc : Nat} {ls : List (Option Value)} {st : List Value} {h : ZH} {Q Q2 : Option Value → ZH → Prop} (hr : Runs mi pc ls st h Q) (hq : ∀ v h', Q v h' → Q2 v h') : Runs mi pc ls st h Q2 := by
  obtain ⟨n, v, h', a, b⟩ := hr
  exact ⟨n, v, h', a, hq _ _ b⟩
theorem zs_of {st : List Value} (h : st.length ≤ 4) : zsumc st ≤ 8 := by
  have key : ∀ st : List Value, zsumc st ≤ 2 * st.length := by
    intro st
    induction st with
    | nil => exact Nat.le_refl _
    | cons v vs ih =>
      have e : zsumc (v :: vs) = v.category + zsumc vs := by simp [zsumc]
      have c : v.category ≤ 2 := by cases v <;> simp [Value.category]
      rw [e, List.length_cons]
      omega
  have := key st
  omega
theorem zdrop_l (x : Int64) : zdrop (some (.long x)) = none := rfl
theorem i64_le (x y : Int32) : x.toInt64 ≤ y.toInt64 ↔ x ≤ y := by
  rw [Int64.le_iff_toInt_le, Int32.le_iff_toInt_le, Int32.toInt_toInt64, Int32.toInt_toInt64]
theorem i64_lo {k : Int64} {c : Int32} (e : c.toInt64 = k) (x : Int32) : (k ≤ x.toInt64) = (c ≤ x) := by
  rw [← e]; exact propext (i64_le c x)
theorem i64_hi {k : Int64} {c : Int32} (e : c.toInt64 = k) (x : Int32) : (x.toInt64 ≤ k) = (x ≤ c) := by
  rw [← e]; exact propext (i64_le x c)
theorem lo0 (x : Int32) : ((0 : Int64) ≤ x.toInt64) = (0 ≤ x) := i64_lo (by decide) x
theorem lo1 (x : Int32) : ((1 : Int64) ≤ x.toInt64) = (1 ≤ x) := i64_lo (by decide) x
theorem lo48 (x : Int32) : ((48 : Int64) ≤ x.toInt64) = (48 ≤ x) := i64_lo (by decide) x
theorem lo97 (x : Int32) : ((97 : Int64) ≤ x.toInt64) = (97 ≤ x) := i64_lo (by decide) x
theorem hi1 (x : Int32) : (x.toInt64 ≤ (1 : Int64)) = (x ≤ 1) := i64_hi (by decide) x
theorem hi2 (x : Int32) : (x.toInt64 ≤ (2 : Int64)) = (x ≤ 2) := i64_hi (by decide) x
theorem hi4 (x : Int32) : (x.toInt64 ≤ (4 : Int64)) = (x ≤ 4) := i64_hi (by decide) x
theorem hi5 (x : Int32) : (x.toInt64 ≤ (5 : Int64)) = (x ≤ 5) := i64_hi (by decide) x
theorem hi9 (x : Int32) : (x.toInt64 ≤ (9 : Int64)) = (x ≤ 9) := i64_hi (by decide) x
theorem hi10 (x : Int32) : (x.toInt64 ≤ (10 : Int64)) = (x ≤ 10) := i64_hi (by decide) x
theorem hi11 (x : Int32) : (x.toInt64 ≤ (11 : Int64)) = (x ≤ 11) := i64_hi (by decide) x
theorem hi20 (x : Int32) : (x.toInt64 ≤ (20 : Int64)) = (x ≤ 20) := i64_hi (by decide) x
theorem hi57 (x : Int32) : (x.toInt64 ≤ (57 : Int64)) = (x ≤ 57) := i64_hi (by decide) x
theorem hi60 (x : Int32) : (x.toInt64 ≤ (60 : Int64)) = (x ≤ 60) := i64_hi (by decide) x
theorem hi99 (x : Int32) : (x.toInt64 ≤ (99 : Int64)) = (x ≤ 99) := i64_hi (by decide) x
theorem hi122 (x : Int32) : (x.toInt64 ≤ (122 : Int64)) = (x ≤ 122) := i64_hi (by decide) x
theorem hi255 (x : Int32) : (x.toInt64 ≤ (255 : Int64)) = (x ≤ 255) := i64_hi (by decide) x
theorem b01 (c : Prop) (d : Decidable c) : ((if c then (1 : Int32) else 0) = 0) = ¬ c := by
  by_cases h : c <;> simp [h]
theorem b01b (c : Prop) (d : Decidable c) : ((if c then (1 : Int32) else 0) = 1) = c := by
  by_cases h : c <;> simp [h]
section SMALL
variable {Q : Option Value → ZH → Prop} {n : Nat} {tg ln : Nat → Nat} {I : Nat → Int32 → Int32} {J : Nat → Int32 → Int64} {O : Nat → Int32 → Option Nat}
theorem c_M_in {u0 u1 u2 : Int64} {h : ZH} : Runs 127 0 [some (.long u0), none, some (.long u1), none, some (.long u2), none] [] h Q ↔ Q (some (.int (if u1 ≤ u0 ∧ u0 ≤ u2 then 1 else 0))) h := by
  simp only [s127_0, s127_1, s127_2, s127_3, s127_6, s127_7, s127_9, s127_10, s127_13, s127_14, s127_17, s127_18, lg_cmp_lt, lg_cmp_gt, eq_self, true_or, or_true]
  by_cases h1 : u0 < u1
  · rw [if_pos h1, if_neg (fun z => absurd h1 (Int64.not_lt.mpr z.1))]
  · rw [if_neg h1]
    by_cases h2 : u2 < u0
    · rw [if_pos h2, if_neg (fun z => absurd h2 (Int64.not_lt.mpr z.2))]
    · rw [if_neg h2, if_pos ⟨Int64.not_lt.mp h1, Int64.not_lt.mp h2⟩]
theorem c_M_isTree {u : Int64} (S : SH tg ln O) : Runs 151 0 [some (.ref 166), some (.long u), none] [] (n, tg, ln, I, J, O) Q ↔ Q (some (.int (if 0 ≤ u ∧ u ≤ (I 167 0 - 1).toInt64 then 1 else 0))) (n, tg, ln, I, J, O) := by
  simp (decide := true) only [s151_0, s151_1, s151_2, s151_2q, s151_3, s151_6, s151_7, s151_8, s151_9, s151_10, s151_11, s151_14, c_M_in, S.t166, S.o166_0, S.t167, S.l167, zs_of, List.length_cons, List.length_nil, tl_some, tl_none, zrf_some, zdrop_i, zdrop_r, zdrop_q, zdrop_n, zdrop_l, i32_12, i32_1170, i32_2, i32_3, i32_5, i32_6, i32_8, i32_36, i32_200, Int32.reduceLE, Int32.reduceLT, Int32.reduceAdd, Int32.reduceSub, Int32.reduceMul, true_and, and_true, eq_self, true_or, or_true, not_true, not_false_iff, ↓reduceIte, zuo, zuA, zu_nk, zrow_at, zrow_ne]
  by_cases h : 0 ≤ u ∧ u ≤ (I 167 0 - 1).toInt64
  · simp (decide := true) only [if_pos h, s151_0, s151_1, s151_2, s151_2q, s151_3, s151_6, s151_7, s151_8, s151_9, s151_10, s151_11, s151_14, zs_of, List.length_cons, List.length_nil, tl_some, tl_none, zrf_some, zdrop_i, zdrop_r, zdrop_q, zdrop_n, zdrop_l, i32_12, i32_1170, i32_2, i32_3, i32_5, i32_6, i32_8, i32_36, i32_200, Int32.reduceLE, Int32.reduceLT, Int32.reduceAdd, Int32.reduceSub, Int32.reduceMul, true_and, and_true, eq_self, true_or, or_true, not_true, not_false_iff, ↓reduceIte, zuo, zuA, zu_nk, zrow_at, zrow_ne]
  · simp (decide := true) only [if_neg h, s151_0, s151_1, s151_2, s151_2q, s151_3, s151_6, s151_7, s151_8, s151_9, s151_10, s151_11, s151_14, zs_of, List.length_cons, List.length_nil, tl_some, tl_none, zrf_some, zdrop_i, zdrop_r, zdrop_q, zdrop_n, zdrop_l, i32_12, i32_1170, i32_2, i32_3, i32_5, i32_6, i32_8, i32_36, i32_200, Int32.reduceLE, Int32.reduceLT, Int32.reduceAdd, Int32.reduceSub, Int32.reduceMul, true_and, and_true, eq_self, true_or, or_true, not_true, not_false_iff, ↓reduceIte, zuo, zuA, zu_nk, zrow_at, zrow_ne]
theorem c_Q_isLine {x : Int32} {h : ZH} : Runs 116 0 [some (.int x)] [] h Q ↔ Q (some (.int (if 0 ≤ x ∧ x < 2 then 1 else 0))) h := by
  simp only [s116_0, s116_1, s116_4, s116_5, s116_6, s116_9, s116_10, s116_13, s116_14, eq_self, true_or, or_true]
  grind
theorem c_Q_isKeep {x : Int32} {h : ZH} : Runs 117 0 [some (.int x)] [] h Q ↔ Q (some (.int (if 0 ≤ x ∧ x < 2 then 1 else 0))) h := by
  simp only [s117_0, s117_1, s117_4, s117_5, s117_6, s117_9, s117_10, s117_13, s117_14, eq_self, true_or, or_true]
  grind
theorem c_Q_isBag {x : Int32} {h : ZH} : Runs 118 0 [some (.int x)] [] h Q ↔ Q (some (.int (if 0 ≤ x ∧ x < 3 then 1 else 0))) h := by
  simp only [s118_0, s118_1, s118_4, s118_5, s118_6, s118_9, s118_10, s118_13, s118_14, eq_self, true_or, or_true]
  grind
theorem c_Q_isKR {x y : Int32} {h : ZH} : Runs 119 0 [some (.int x), some (.int y)] [] h Q ↔ Q (some (.int (if (0 ≤ x ∧ x ≤ 4) ∧ 0 ≤ y ∧ y ≤ 99 then 1 else 0))) h := by
  simp only [s119_0, s119_1, s119_4, s119_5, s119_6, s119_9, s119_10, s119_13, s119_14, s119_16, s119_19, s119_20, s119_23, s119_24, eq_self, true_or, or_true]
  grind
end SMALL
