/-! THE ODDS OF THE DOOR -/
def pwF (b : Int64) (e : Int32) : Int64 := zfor e (fun _ r => r * b) 0 1
def chF (a k : Int32) : Int64 := zfor (k + 1) (fun i c => c * (a - k + i).toInt64 / i.toInt64) 1 1
def wyF (m a y o : Int32) : Int64 := zfor (a + 1) (fun t s => s + chF a t * pwF y.toInt64 t * pwF o.toInt64 (a - t)) m 0
def gcF : Nat → Int64 → Int64 → Int64
  | 0, a, _ => a
  | k + 1, a, b => if b = 0 then a else gcF k b (a - a / b * b)
def gdF : Nat → Int64 → Int64 → Option Int64
  | 0, _, _ => none
  | k + 1, a, b => if b = 0 then some a else gdF k b (a - a / b * b)
def dwF (a q k : Int32) (c : Int64) : Int64 := zfor a (fun i w => w * (if i < k then q.toInt64 else (10 - q).toInt64)) 0 c
def dsF (a q m : Int32) : Int64 × Int64 × Int64 := zfor (a + 1) (fun k s => (s.1 + (if k < m then 0 else dwF a q k s.2.2), s.2.1 + dwF a q k s.2.2, s.2.2 * (a - k).toInt64 / (k + 1).toInt64)) 0 (0, 0, 1)
theorem door_all : ∀ a : Fin 10, ∀ q : Fin 11, ∀ m : Fin 10, (dsF (Int32.ofNat a) (Int32.ofNat q) (Int32.ofNat m)).1 = wyF (Int32.ofNat m) (Int32.ofNat a) (Int32.ofNat q) (10 - Int32.ofNat q) ∧ (dsF (Int32.ofNat a) (Int32.ofNat q) (Int32.ofNat m)).2.1 = pwF 10 (Int32.ofNat a) ∧ gdF 100 (wyF (Int32.ofNat m) (Int32.ofNat a) (Int32.ofNat q) (10 - Int32.ofNat q)) (pwF 10 (Int32.ofNat a)) = some (gcF 100 (wyF (Int32.ofNat m) (Int32.ofNat a) (Int32.ofNat q) (10 - Int32.ofNat q)) (pwF 10 (Int32.ofNat a))) ∧ 1 ≤ gcF 100 (wyF (Int32.ofNat m) (Int32.ofNat a) (Int32.ofNat q) (10 - Int32.ofNat q)) (pwF 10 (Int32.ofNat a)) := by decide +kernel
theorem l64_0 {i : Int32} (h : i ≠ 0) : ¬ i.toInt64 = 0 := fun z => h (Int32.toInt_inj.mp (by
  have := congrArg Int64.toInt z
  rw [Int32.toInt_toInt64] at this
  rw [this]
  decide))
section DOOR
variable {Q : Option Value → ZH → Prop} {h : ZH}
theorem c_power {b : Int64} {e : Int32} : Runs 33 0 [some (.long b), none, some (.int e), none, none, none] [] h Q ↔ Q (some (.long (pwF b e))) h := by
  have loop : ∀ p, ∀ r, (Runs 33 5 [some (.long b), none, some (.int e), some (.long r), none, some (.int p)] [] h Q ↔ Q (some (.long (zfor e (fun _ r => r * b) p r))) h) := by
    refine zup_ind e (fun p hp r => ?_) (fun p hp ih r => ?_)
    · rw [s33_5, zfor_end hp]
      simp (decide := true) only [s33_0, s33_1, s33_2, s33_3, s33_7, s33_8, s33_11, s33_12, s33_13, s33_14, s33_15, s33_18, s33_21, s33_22, Int32.not_lt.mp hp, zs_of, List.length_cons, List.length_nil, tl_some, tl_none, zrf_some, zdrop_i, zdrop_r, zdrop_q, zdrop_n, zdrop_l, i32_12, i32_1170, i32_2, i32_3, i32_5, i32_6, i32_8, i32_36, i32_200, Int32.reduceLE, Int32.reduceLT, Int32.reduceAdd, Int32.reduceSub, Int32.reduceMul, true_and, and_true, eq_self, true_or, or_true, not_true, not_false_iff, ↓reduceIte, zuo, zuA, zu_nk, zrow_at, zrow_ne]
    · rw [s33_5, zfor_go hp]
      simp (decide := true) only [s33_0, s33_1, s33_2, s33_3, s33_7, s33_8, s33_11, s33_12, s33_13, s33_14, s33_15, s33_18, s33_21, s33_22, Int32.not_le.mpr hp, ih, zs_of, List.length_cons, List.length_nil, tl_some, tl_none, zrf_some, zdrop_i, zdrop_r, zdrop_q, zdrop_n, zdrop_l, i32_12, i32_1170, i32_2, i32_3, i32_5, i32_6, i32_8, i32_36, i32_200, Int32.reduceLE, Int32.reduceLT, Int32.reduceAdd, Int32.reduceSub, Int32.reduceMul, true_and, and_true, eq_self, true_or, or_true, not_true, not_false_iff, ↓reduceIte, zuo, zuA, zu_nk, zrow_at, zrow_ne]
  simp (decide := true) only [s33_0, s33_1, s33_2, s33_3, s33_7, s33_8, s33_11, s33_12, s33_13, s33_14, s33_15, s33_18, s33_21, s33_22, zs_of, List.length_cons, List.length_nil, tl_some, tl_none, zrf_some, zdrop_i, zdrop_r, zdrop_q, zdrop_n, zdrop_l, i32_12, i32_1170, i32_2, i32_3, i32_5, i32_6, i32_8, i32_36, i32_200, Int32.reduceLE, Int32.reduceLT, Int32.reduceAdd, Int32.reduceSub, Int32.reduceMul, true_and, and_true, eq_self, true_or, or_true, not_true, not_false_iff, ↓reduceIte, zuo, zuA, zu_nk, zrow_at, zrow_ne]
  exact loop 0 1
theorem lt_s1 {p k : Int32} (hk : k ≤ 100) : p < k + 1 ↔ ¬ k < p := by grind
theorem nz_a {p : Int32} (h : 1 ≤ p) (hk : p ≤ 100) : p ≠ 0 ∧ 1 ≤ p + 1 := by grind
theorem nz_ge1 {p k : Int32} (h : 1 ≤ p) (hk : p < k + 1) (hk2 : k ≤ 100) : p ≠ 0 ∧ 1 ≤ p + 1 := nz_a h (Int32.le_trans (Int32.not_lt.mp ((lt_s1 hk2).mp hk)) hk2)
theorem c_choices {a k : Int32} (hk : k ≤ 100) : Runs 35 0 [some (.int a), some (.int k), none, none, none] [] h Q ↔ Q (some (.long (chF a k))) h := by
  have loop : ∀ p, 1 ≤ p → ∀ c, (Runs 35 5 [some (.int a), some (.int k), some (.long c), none, some (.int p)] [] h Q ↔ Q (some (.long (zfor (k + 1) (fun i c => c * (a - k + i).toInt64 / i.toInt64) p c))) h) := by
    refine zup_ind (k + 1) (fun p hp h1 c => ?_) (fun p hp ih h1 c => ?_)
    · have hp2 : k < p := by rw [lt_s1 hk] at hp; exact Decidable.not_not.mp hp
      rw [s35_5, zfor_end hp]
      simp (decide := true) only [s35_0, s35_1, s35_2, s35_3, s35_7, s35_8, s35_11, s35_12, s35_13, s35_14, s35_15, s35_17, s35_18, s35_19, s35_20, s35_22, s35_23, s35_24, s35_25, s35_28, s35_31, s35_32, hp2, zs_of, List.length_cons, List.length_nil, tl_some, tl_none, zrf_some, zdrop_i, zdrop_r, zdrop_q, zdrop_n, zdrop_l, i32_12, i32_1170, i32_2, i32_3, i32_5, i32_6, i32_8, i32_36, i32_200, Int32.reduceLE, Int32.reduceLT, Int32.reduceAdd, Int32.reduceSub, Int32.reduceMul, true_and, and_true, eq_self, true_or, or_true, not_true, not_false_iff, ↓reduceIte, zuo, zuA, zu_nk, zrow_at, zrow_ne]
    · have hp2 := (lt_s1 hk).mp hp
      obtain ⟨n0, n1⟩ := nz_ge1 h1 hp hk
      rw [s35_5, zfor_go hp]
      simp (decide := true) only [s35_0, s35_1, s35_2, s35_3, s35_7, s35_8, s35_11, s35_12, s35_13, s35_14, s35_15, s35_17, s35_18, s35_19, s35_20, s35_22, s35_23, s35_24, s35_25, s35_28, s35_31, s35_32, hp2, l64_0 n0, ih n1, zs_of, List.length_cons, List.length_nil, tl_some, tl_none, zrf_some, zdrop_i, zdrop_r, zdrop_q, zdrop_n, zdrop_l, i32_12, i32_1170, i32_2, i32_3, i32_5, i32_6, i32_8, i32_36, i32_200, Int32.reduceLE, Int32.reduceLT, Int32.reduceAdd, Int32.reduceSub, Int32.reduceMul, true_and, and_true, eq_self, true_or, or_true, not_true, not_false_iff, ↓reduceIte, zuo, zuA, zu_nk, zrow_at, zrow_ne]
  simp (decide := true) only [s35_0, s35_1, s35_2, s35_3, s35_7, s35_8, s35_11, s35_12, s35_13, s35_14, s35_15, s35_17, s35_18, s35_19, s35_20, s35_22, s35_23, s35_24, s35_25, s35_28, s35_31, s35_32, zs_of, List.length_cons, List.length_nil, tl_some, tl_none, zrf_some, zdrop_i, zdrop_r, zdrop_q, zdrop_n, zdrop_l, i32_12, i32_1170, i32_2, i32_3, i32_5, i32_6, i32_8, i32_36, i32_200, Int32.reduceLE, Int32.reduceLT, Int32.reduceAdd, Int32.reduceSub, Int32.reduceMul, true_and, and_true, eq_self, true_or, or_true, not_true, not_false_iff, ↓reduceIte, zuo, zuA, zu_nk, zrow_at, zrow_ne]
  exact loop 1 (by decide) 1
theorem le_of_s1 {p k : Int32} (hk : k ≤ 9) (hp : p < k + 1) : p ≤ 100 := by grind
theorem c_ways {m a y o : Int32} (ha : a ≤ 9) : Runs 32 0 [some (.int m), some (.int a), some (.int y), some (.int o), none, none, none] [] h Q ↔ Q (some (.long (wyF m a y o))) h := by
  have a1 : a ≤ 100 := Int32.le_trans ha (by decide)
  have loop : ∀ p, ∀ s, (Runs 32 6 [some (.int m), some (.int a), some (.int y), some (.int o), some (.long s), none, some (.int p)] [] h Q ↔ Q (some (.long (zfor (a + 1) (fun t s => s + chF a t * pwF y.toInt64 t * pwF o.toInt64 (a - t)) p s))) h) := by
    refine zup_ind (a + 1) (fun p hp s => ?_) (fun p hp ih s => ?_)
    · have hp2 : a < p := by rw [lt_s1 a1] at hp; exact Decidable.not_not.mp hp
      rw [s32_6, zfor_end hp]
      simp (decide := true) only [s32_0, s32_1, s32_3, s32_4, s32_8, s32_9, s32_12, s32_14, s32_15, s32_17, s32_20, s32_21, s32_22, s32_24, s32_27, s32_28, s32_29, s32_30, s32_31, s32_33, s32_34, s32_37, s32_38, s32_39, s32_41, s32_44, s32_47, s32_49, hp2, zs_of, List.length_cons, List.length_nil, tl_some, tl_none, zrf_some, zdrop_i, zdrop_r, zdrop_q, zdrop_n, zdrop_l, i32_12, i32_1170, i32_2, i32_3, i32_5, i32_6, i32_8, i32_36, i32_200, Int32.reduceLE, Int32.reduceLT, Int32.reduceAdd, Int32.reduceSub, Int32.reduceMul, true_and, and_true, eq_self, true_or, or_true, not_true, not_false_iff, ↓reduceIte, zuo, zuA, zu_nk, zrow_at, zrow_ne]
    · have hp2 := (lt_s1 a1).mp hp
      have hc := fun (Q : Option Value → ZH → Prop) => @c_choices Q h a p (le_of_s1 ha hp)
      rw [s32_6, zfor_go hp]
      simp (decide := true) only [s32_0, s32_1, s32_3, s32_4, s32_8, s32_9, s32_12, s32_14, s32_15, s32_17, s32_20, s32_21, s32_22, s32_24, s32_27, s32_28, s32_29, s32_30, s32_31, s32_33, s32_34, s32_37, s32_38, s32_39, s32_41, s32_44, s32_47, s32_49, hp2, hc, c_power, ih, zs_of, List.length_cons, List.length_nil, tl_some, tl_none, zrf_some, zdrop_i, zdrop_r, zdrop_q, zdrop_n, zdrop_l, i32_12, i32_1170, i32_2, i32_3, i32_5, i32_6, i32_8, i32_36, i32_200, Int32.reduceLE, Int32.reduceLT, Int32.reduceAdd, Int32.reduceSub, Int32.reduceMul, true_and, and_true, eq_self, true_or, or_true, not_true, not_false_iff, ↓reduceIte, zuo, zuA, zu_nk, zrow_at, zrow_ne]
  simp (decide := true) only [s32_0, s32_1, s32_3, s32_4, s32_8, s32_9, s32_12, s32_14, s32_15, s32_17, s32_20, s32_21, s32_22, s32_24, s32_27, s32_28, s32_29, s32_30, s32_31, s32_33, s32_34, s32_37, s32_38, s32_39, s32_41, s32_44, s32_47, s32_49, zs_of, List.length_cons, List.length_nil, tl_some, tl_none, zrf_some, zdrop_i, zdrop_r, zdrop_q, zdrop_n, zdrop_l, i32_12, i32_1170, i32_2, i32_3, i32_5, i32_6, i32_8, i32_36, i32_200, Int32.reduceLE, Int32.reduceLT, Int32.reduceAdd, Int32.reduceSub, Int32.reduceMul, true_and, and_true, eq_self, true_or, or_true, not_true, not_false_iff, ↓reduceIte, zuo, zuA, zu_nk, zrow_at, zrow_ne]
  exact loop m 0
theorem c_gcd {a b : Int64} : Runs 34 0 [some (.long a), none, some (.long b), none, none, none, none, none, none, none, none] [] h Q ↔ Q (some (.long (gcF 100 a b))) h := by
  have loop : ∀ (k : Nat) (p : Int32) (x y : Int64) (z9 : Option Value), p.toInt + k = (100 : Int32).toInt → (Runs 34 9 [some (.long a), none, some (.long b), none, some (.long x), none, some (.long y), none, some (.int p), z9, none] [] h Q ↔ Q (some (.long (gcF k x y))) h) := by
    intro k
    induction k with
    | zero =>
      intro p x y z9 e
      have c := (ct0 (by decide) e).1 rfl
      subst c
      rw [s34_9]
      simp (decide := true) only [s34_0, s34_1, s34_3, s34_4, s34_6, s34_7, s34_11, s34_13, s34_16, s34_18, s34_19, s34_20, s34_23, s34_25, s34_27, s34_28, s34_30, s34_32, s34_34, s34_36, s34_38, s34_41, s34_44, s34_46, zs_of, List.length_cons, List.length_nil, tl_some, tl_none, zrf_some, zdrop_i, zdrop_r, zdrop_q, zdrop_n, zdrop_l, i32_12, i32_1170, i32_2, i32_3, i32_5, i32_6, i32_8, i32_36, i32_200, Int32.reduceLE, Int32.reduceLT, Int32.reduceAdd, Int32.reduceSub, Int32.reduceMul, true_and, and_true, eq_self, true_or, or_true, not_true, not_false_iff, ↓reduceIte, zuo, zuA, zu_nk, zrow_at, zrow_ne]
      exact Iff.rfl
    | succ k ih =>
      intro p x y z9 e
      obtain ⟨c, -, e'⟩ := (ct0 (by decide) e).2 k rfl
      unfold gcF
      rw [s34_9]
      by_cases hy : y = 0
      · rw [if_pos hy]
        simp (decide := true) only [s34_0, s34_1, s34_3, s34_4, s34_6, s34_7, s34_11, s34_13, s34_16, s34_18, s34_19, s34_20, s34_23, s34_25, s34_27, s34_28, s34_30, s34_32, s34_34, s34_36, s34_38, s34_41, s34_44, s34_46, c, lg_cmp_eq, hy, zs_of, List.length_cons, List.length_nil, tl_some, tl_none, zrf_some, zdrop_i, zdrop_r, zdrop_q, zdrop_n, zdrop_l, i32_12, i32_1170, i32_2, i32_3, i32_5, i32_6, i32_8, i32_36, i32_200, Int32.reduceLE, Int32.reduceLT, Int32.reduceAdd, Int32.reduceSub, Int32.reduceMul, true_and, and_true, eq_self, true_or, or_true, not_true, not_false_iff, ↓reduceIte, zuo, zuA, zu_nk, zrow_at, zrow_ne]
      · rw [if_neg hy]
        simp (decide := true) only [s34_0, s34_1, s34_3, s34_4, s34_6, s34_7, s34_11, s34_13, s34_16, s34_18, s34_19, s34_20, s34_23, s34_25, s34_27, s34_28, s34_30, s34_32, s34_34, s34_36, s34_38, s34_41, s34_44, s34_46, c, lg_cmp_eq, hy, ih _ _ _ _ e', zs_of, List.length_cons, List.length_nil, tl_some, tl_none, zrf_some, zdrop_i, zdrop_r, zdrop_q, zdrop_n, zdrop_l, i32_12, i32_1170, i32_2, i32_3, i32_5, i32_6, i32_8, i32_36, i32_200, Int32.reduceLE, Int32.reduceLT, Int32.reduceAdd, Int32.reduceSub, Int32.reduceMul, true_and, and_true, eq_self, true_or, or_true, not_true, not_false_iff, ↓reduceIte, zuo, zuA, zu_nk, zrow_at, zrow_ne]
  simp (decide := true) only [s34_0, s34_1, s34_3, s34_4, s34_6, s34_7, s34_11, s34_13, s34_16, s34_18, s34_19, s34_20, s34_23, s34_25, s34_27, s34_28, s34_30, s34_32, s34_34, s34_36, s34_38, s34_41, s34_44, s34_46, zs_of, List.length_cons, List.length_nil, tl_some, tl_none, zrf_some, zdrop_i, zdrop_r, zdrop_q, zdrop_n, zdrop_l, i32_12, i32_1170, i32_2, i32_3, i32_5, i32_6, i32_8, i32_36, i32_200, Int32.reduceLE, Int32.reduceLT, Int32.reduceAdd, Int32.reduceSub, Int32.reduceMul, true_and, and_true, eq_self, true_or, or_true, not_true, not_false_iff, ↓reduceIte, zuo, zuA, zu_nk, zrow_at, zrow_ne]
  exact loop 100 0 a b none (by decide)
theorem m_door_in {a q m pt k : Int32} {A B C : Int64} {z15 z16 : Option Value} : ∀ p, ∀ w, (Runs 190 75 [some (.ref 166), some (.int a), some (.int q), some (.int m), some (.int pt), some (.long A), none, some (.long B), none, some (.long C), none, some (.int k), some (.long w), none, some (.int p), z15, z16] [] h Q ↔ ∃ p', Runs 190 109 [some (.ref 166), some (.int a), some (.int q), some (.int m), some (.int pt), some (.long A), none, some (.long B), none, some (.long C), none, some (.int k), some (.long (zfor a (fun i w => w * (if i < k then q.toInt64 else (10 - q).toInt64)) p w)), none, some (.int p'), z15, z16] [] h Q ∧ p' = (if p < a then a else p)) := by
  refine zup_ind a (fun p hp w => ?_) (fun p hp ih w => ?_)
  · rw [s190_75, zfor_end hp]
    simp (decide := true) only [s190_0, s190_1, s190_2, s190_3, s190_6, s190_9, s190_12, s190_13, s190_14, s190_15, s190_18, s190_21, s190_24, s190_25, s190_26, s190_27, s190_30, s190_33, s190_36, s190_38, s190_39, s190_40, s190_41, s190_44, s190_47, s190_49, s190_50, s190_51, s190_53, s190_54, s190_56, s190_57, s190_59, s190_60, s190_62, s190_64, s190_65, s190_68, s190_70, s190_72, s190_73, s190_77, s190_78, s190_81, s190_83, s190_85, s190_87, s190_90, s190_91, s190_92, s190_95, s190_97, s190_98, s190_99, s190_100, s190_101, s190_103, s190_106, s190_111, s190_113, s190_114, s190_117, s190_118, s190_121, s190_123, s190_124, s190_126, s190_128, s190_130, s190_131, s190_133, s190_135, s190_136, s190_138, s190_139, s190_140, s190_141, s190_143, s190_144, s190_145, s190_146, s190_147, s190_149, s190_152, s190_155, s190_157, s190_159, s190_161, s190_163, s190_165, s190_166, s190_167, s190_170, s190_172, s190_174, s190_175, s190_177, s190_179, s190_181, s190_183, s190_185, s190_188, s190_190, s190_193, s190_195, s190_197, s190_198, s190_201, s190_203, s190_205, s190_206, s190_207, Int32.not_lt.mp hp, hp, zs_of, List.length_cons, List.length_nil, tl_some, tl_none, zrf_some, zdrop_i, zdrop_r, zdrop_q, zdrop_n, zdrop_l, i32_12, i32_1170, i32_2, i32_3, i32_5, i32_6, i32_8, i32_36, i32_200, Int32.reduceLE, Int32.reduceLT, Int32.reduceAdd, Int32.reduceSub, Int32.reduceMul, true_and, and_true, eq_self, true_or, or_true, not_true, not_false_iff, ↓reduceIte, zuo, zuA, zu_nk, zrow_at, zrow_ne]
    constructor
    · exact fun z => ⟨p, z, rfl⟩
    · rintro ⟨p', z, rfl⟩; exact z
  · rw [s190_75, zfor_go hp]
    have e2 : (if p + 1 < a then a else p + 1) = a := by clear ih; grind
    by_cases hk : p < k
    · simp (decide := true) only [s190_0, s190_1, s190_2, s190_3, s190_6, s190_9, s190_12, s190_13, s190_14, s190_15, s190_18, s190_21, s190_24, s190_25, s190_26, s190_27, s190_30, s190_33, s190_36, s190_38, s190_39, s190_40, s190_41, s190_44, s190_47, s190_49, s190_50, s190_51, s190_53, s190_54, s190_56, s190_57, s190_59, s190_60, s190_62, s190_64, s190_65, s190_68, s190_70, s190_72, s190_73, s190_77, s190_78, s190_81, s190_83, s190_85, s190_87, s190_90, s190_91, s190_92, s190_95, s190_97, s190_98, s190_99, s190_100, s190_101, s190_103, s190_106, s190_111, s190_113, s190_114, s190_117, s190_118, s190_121, s190_123, s190_124, s190_126, s190_128, s190_130, s190_131, s190_133, s190_135, s190_136, s190_138, s190_139, s190_140, s190_141, s190_143, s190_144, s190_145, s190_146, s190_147, s190_149, s190_152, s190_155, s190_157, s190_159, s190_161, s190_163, s190_165, s190_166, s190_167, s190_170, s190_172, s190_174, s190_175, s190_177, s190_179, s190_181, s190_183, s190_185, s190_188, s190_190, s190_193, s190_195, s190_197, s190_198, s190_201, s190_203, s190_205, s190_206, s190_207, Int32.not_le.mpr hp, Int32.not_le.mpr hk, hk, hp, ih, e2, zs_of, List.length_cons, List.length_nil, tl_some, tl_none, zrf_some, zdrop_i, zdrop_r, zdrop_q, zdrop_n, zdrop_l, i32_12, i32_1170, i32_2, i32_3, i32_5, i32_6, i32_8, i32_36, i32_200, Int32.reduceLE, Int32.reduceLT, Int32.reduceAdd, Int32.reduceSub, Int32.reduceMul, true_and, and_true, eq_self, true_or, or_true, not_true, not_false_iff, ↓reduceIte, zuo, zuA, zu_nk, zrow_at, zrow_ne]
    · simp (decide := true) only [s190_0, s190_1, s190_2, s190_3, s190_6, s190_9, s190_12, s190_13, s190_14, s190_15, s190_18, s190_21, s190_24, s190_25, s190_26, s190_27, s190_30, s190_33, s190_36, s190_38, s190_39, s190_40, s190_41, s190_44, s190_47, s190_49, s190_50, s190_51, s190_53, s190_54, s190_56, s190_57, s190_59, s190_60, s190_62, s190_64, s190_65, s190_68, s190_70, s190_72, s190_73, s190_77, s190_78, s190_81, s190_83, s190_85, s190_87, s190_90, s190_91, s190_92, s190_95, s190_97, s190_98, s190_99, s190_100, s190_101, s190_103, s190_106, s190_111, s190_113, s190_114, s190_117, s190_118, s190_121, s190_123, s190_124, s190_126, s190_128, s190_130, s190_131, s190_133, s190_135, s190_136, s190_138, s190_139, s190_140, s190_141, s190_143, s190_144, s190_145, s190_146, s190_147, s190_149, s190_152, s190_155, s190_157, s190_159, s190_161, s190_163, s190_165, s190_166, s190_167, s190_170, s190_172, s190_174, s190_175, s190_177, s190_179, s190_181, s190_183, s190_185, s190_188, s190_190, s190_193, s190_195, s190_197, s190_198, s190_201, s190_203, s190_205, s190_206, s190_207, Int32.not_le.mpr hp, Int32.not_lt.mp hk, hk, hp, ih, e2, zs_of, List.length_cons, List.length_nil, tl_some, tl_none, zrf_some, zdrop_i, zdrop_r, zdrop_q, zdrop_n, zdrop_l, i32_12, i32_1170, i32_2, i32_3, i32_5, i32_6, i32_8, i32_36, i32_200, Int32.reduceLE, Int32.reduceLT, Int32.reduceAdd, Int32.reduceSub, Int32.reduceMul, true_and, and_true, eq_self, true_or, or_true, not_true, not_false_iff, ↓reduceIte, zuo, zuA, zu_nk, zrow_at, zrow_ne]
end DOOR
