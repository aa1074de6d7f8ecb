/-! WHAT IS FORETOLD: whom to send home -/
def bt (k : Int32) : Int32 := 1 <<< (k &&& 31)
def nt (x : Int32) : Int32 := x ^^^ (-1)
def pr2 (h l : Int32) : Int32 := bt h ||| bt l
theorem nt_bv (x : Int32) : (nt x).toBitVec = ~~~ x.toBitVec := by
  unfold nt
  rw [Int32.toBitVec_xor, show (-1 : Int32).toBitVec = BitVec.allOnes 32 by decide, BitVec.xor_allOnes]
theorem nt_or (a b : Int32) : nt (a ||| b) = nt a &&& nt b := by
  apply Int32.toBitVec_inj.mp
  rw [nt_bv, Int32.toBitVec_and, nt_bv, nt_bv, Int32.toBitVec_or]
  ext i hi
  simp
theorem or_and (a b m : Int32) : (a ||| b) &&& m = (a &&& m) ||| (b &&& m) := by
  apply Int32.toBitVec_inj.mp
  rw [Int32.toBitVec_and, Int32.toBitVec_or, Int32.toBitVec_or, Int32.toBitVec_and, Int32.toBitVec_and]
  ext i hi
  simp [Bool.and_or_distrib_right]
theorem or_z (a b : Int32) : a ||| b = 0 ↔ a = 0 ∧ b = 0 := by
  constructor
  · intro h
    have h2 := congrArg Int32.toBitVec h
    rw [Int32.toBitVec_or] at h2
    have h3 : ∀ i, (a.toBitVec.getLsbD i || b.toBitVec.getLsbD i) = false := fun i => by
      have := congrArg (fun x : BitVec 32 => x.getLsbD i) h2
      simpa using this
    refine ⟨Int32.toBitVec_inj.mp ?_, Int32.toBitVec_inj.mp ?_⟩
    · ext i hi
      have := h3 i
      simp at this ⊢
      exact this.1
    · ext i hi
      have := h3 i
      simp at this ⊢
      exact this.2
  · rintro ⟨rfl, rfl⟩
    decide
theorem sub_le {a b : Int32} (hb : 0 ≤ b) (h : a &&& nt b = 0) : a ≤ b := by
  have e : a &&& b = a := by
    apply Int32.toBitVec_inj.mp
    have h2 := congrArg Int32.toBitVec h
    rw [Int32.toBitVec_and, nt_bv] at h2
    rw [Int32.toBitVec_and]
    ext i hi
    have := congrArg (fun x : BitVec 32 => x.getLsbD i) h2
    simp [hi] at this ⊢
    exact this
  have e2 : (a &&& b).toBitVec.toNat ≤ b.toBitVec.toNat := by
    rw [Int32.toBitVec_and, BitVec.toNat_and]
    exact Nat.and_le_right
  rw [e] at e2
  have hb2 : (0 : Int) ≤ b.toBitVec.toInt := by simpa using Int32.le_iff_toInt_le.mp hb
  refine Int32.le_iff_toInt_le.mpr ?_
  show a.toBitVec.toInt ≤ b.toBitVec.toInt
  rw [BitVec.toInt_eq_toNat_cond] at hb2 ⊢
  rw [BitVec.toInt_eq_toNat_cond]
  have := b.toBitVec.isLt
  split at hb2 <;> split <;> omega
theorem bt_nt : ∀ q t : Fin 12, bt (Int32.ofNat q) &&& nt (bt (Int32.ofNat t)) = if q = t then 0 else bt (Int32.ofNat q) := by decide +kernel
theorem fin12i : ∀ q t : Fin 12, Int32.ofNat q = Int32.ofNat t → q = t := by decide +kernel
theorem bt_nt2 {q t : Int32} (hq : 0 ≤ q ∧ q < 12) (ht : 0 ≤ t ∧ t < 12) : bt q &&& nt (bt t) = if q = t then 0 else bt q := by
  obtain ⟨a, rfl⟩ := fin12 hq.1 hq.2
  obtain ⟨b, rfl⟩ := fin12 ht.1 ht.2
  rw [bt_nt]
  by_cases h : a = b
  · rw [if_pos h, h, if_pos rfl]
  · rw [if_neg h, if_neg (fun z => h (fin12i a b z))]
theorem sx1 {q j : Int32} (h0 : 0 ≤ q) (h : q < 12) (hn : ¬ j = q) : q + 1 ≤ j ↔ q ≤ j := by grind
theorem sx2 {q j : Int32} (h0 : 0 ≤ q) (h : q < 12) (hn : j = q) : ¬ q + 1 ≤ j := by grind
theorem sx3 {q T : Int32} (h0 : 0 ≤ q) (h : q < T) (hT : T ≤ 12) : q + 1 ≤ T := by grind
/-- a set, by its members -/
def msF (T : Int32) (c : Int32 → Bool) (q s : Int32) : Int32 := zfor T (fun k s => if c k = true then s ||| bt k else s) q s
theorem ms_mem {T j : Int32} {c : Int32 → Bool} (hT : T ≤ 12) (hj : 0 ≤ j ∧ j < 12) : ∀ q, 0 ≤ q → ∀ s, (bt j &&& nt (msF T c q s) = 0 ↔ bt j &&& nt s = 0 ∨ (q ≤ j ∧ j < T ∧ c j = true)) := by
  refine zup_ind T (fun q hq h0 s => ?_) (fun q hq ih h0 s => ?_)
  · unfold msF
    rw [zfor_end hq]
    constructor
    · exact Or.inl
    · rintro (h | ⟨h1, h2, -⟩)
      · exact h
      · exact absurd (Int32.lt_of_le_of_lt h1 h2) hq
  · have q12 : 0 ≤ q ∧ q < 12 := ⟨h0, Int32.lt_of_lt_of_le hq hT⟩
    have ih := ih (up1 h0 hq)
    unfold msF at ih ⊢
    rw [zfor_go hq, ih]
    by_cases hc : c q = true
    · rw [if_pos hc, nt_or]
      have e : bt j &&& (nt s &&& nt (bt q)) = (bt j &&& nt (bt q)) &&& nt s := by rw [Int32.and_comm (nt s), Int32.and_assoc]
      rw [e, bt_nt2 hj q12]
      by_cases hjq : j = q
      · rw [if_pos hjq, Int32.zero_and]
        constructor
        · exact fun _ => Or.inr ⟨by rw [hjq]; exact Int32.le_refl _, by rw [hjq]; exact hq, by rw [hjq]; exact hc⟩
        · exact fun _ => Or.inl rfl
      · rw [if_neg hjq]
        rw [sx1 q12.1 q12.2 hjq]
    · rw [if_neg hc]
      by_cases hjq : j = q
      · have h1 : ¬ (q + 1 ≤ j) := sx2 q12.1 q12.2 hjq
        constructor
        · rintro (h | h)
          · exact Or.inl h
          · exact absurd h.1 h1
        · rintro (h | h)
          · exact Or.inl h
          · rw [hjq] at h; exact absurd h.2.2 hc
      · rw [sx1 q12.1 q12.2 hjq]
theorem ms_rng {T : Int32} {c : Int32 → Bool} (hT : T ≤ 12) : ∀ q, 0 ≤ q → q ≤ T → ∀ s : Int32, 0 ≤ s → (∀ a : Nat, q = Int32.ofNat a → a < 13 → s < Int32.ofNat (2 ^ a)) → 0 ≤ msF T c q s ∧ msF T c q s < 4096 := by
  refine zup_ind T (fun q hq h0 h1 s s0 hs => ?_) (fun q hq ih h0 h1 s s0 hs => ?_)
  · unfold msF
    rw [zfor_end hq]
    have q13 : q < Int32.ofNat 13 := Int32.lt_of_le_of_lt (Int32.le_trans h1 hT) (by decide)
    obtain ⟨a, ha⟩ := finN (by omega) h0 q13
    have h2 := hs a.val ha a.isLt
    refine ⟨s0, Int32.lt_of_lt_of_le h2 ?_⟩
    have : ∀ a : Fin 13, Int32.ofNat (2 ^ a.val) ≤ 4096 := by decide +kernel
    exact this a
  · have q12 : q < 12 := Int32.lt_of_lt_of_le hq hT
    obtain ⟨a, ha⟩ := fin12 h0 q12
    have hb := hs a.val ha (by omega)
    obtain ⟨b, hb2⟩ := finN (by have := a.isLt; exact Nat.le_trans (Nat.pow_le_pow_right (by omega) (show a.val ≤ 12 by omega)) (by decide)) s0 hb
    obtain ⟨g1, g2, g3⟩ := bc_all a b
    rw [← ha, ← hb2] at g2 g3
    obtain ⟨p1, p2⟩ := pw_all a
    rw [← ha] at p2
    have h01 : 0 ≤ q + 1 := up1 h0 q12
    have inj : ∀ a2 : Nat, q + 1 = Int32.ofNat a2 → a2 < 13 → a2 = a.val + 1 := fun a2 e hl => nI_inj (by omega) (by omega) (show Int32.ofNat a2 = Int32.ofNat (a.val + 1) by rw [← e, ← p2])
    have hqT : q + 1 ≤ T := sx3 h0 hq hT
    have ih := ih h01 hqT
    unfold msF at ih ⊢
    rw [zfor_go hq]
    by_cases hc : c q = true
    · rw [if_pos hc]
      exact ih _ g3 (fun a2 e hl => by rw [inj a2 e hl]; exact g2)
    · rw [if_neg hc]
      exact ih _ s0 (fun a2 e hl => by rw [inj a2 e hl]; exact Int32.lt_trans hb p1)
theorem st_less {T t : Int32} {c : Int32 → Int32} (hT : T ≤ 12) (ht : 0 ≤ t ∧ t < 12) : ∀ q, 0 ≤ q → ∀ s, stF T c q s &&& nt (bt t) = msF T (fun k => decide (¬ k = t ∧ c k = 0)) q (s &&& nt (bt t)) := by
  refine zup_ind T (fun q hq h0 s => ?_) (fun q hq ih h0 s => ?_)
  · unfold stF msF
    rw [zfor_end hq, zfor_end hq]
  · have q12 : 0 ≤ q ∧ q < 12 := ⟨h0, Int32.lt_of_lt_of_le hq hT⟩
    have ih := ih (up1 h0 hq)
    unfold stF msF at ih ⊢
    rw [zfor_go hq, zfor_go hq, ih]
    by_cases hc : c q = 0
    · rw [if_pos hc]
      have e : (s ||| (1 <<< (q &&& 31))) &&& nt (bt t) = (s &&& nt (bt t)) ||| (bt q &&& nt (bt t)) := or_and _ _ _
      rw [e, bt_nt2 q12 ht]
      by_cases hqt : q = t
      · rw [if_pos hqt, if_neg (by simp [hqt]), Int32.or_zero]
      · rw [if_neg hqt, if_pos (by simp [hqt, hc])]
    · rw [if_neg hc, if_neg (by simp [hc])]
def bitsF (s : Int32) : Int32 := zfor 12 (fun k m => m + ((s >>> (k &&& 31)) &&& 1)) 0 0
theorem c_bits {Q : Option Value → ZH → Prop} {s : Int32} {h : ZH} : Runs 129 0 [some (.int s), none, none] [] h Q ↔ Q (some (.int (bitsF s))) h := by
  have loop : ∀ q, ∀ m, (Runs 129 4 [some (.int s), some (.int m), some (.int q)] [] h Q ↔ Q (some (.int (zfor 12 (fun k m => m + ((s >>> (k &&& 31)) &&& 1)) q m))) h) := by
    refine zup_ind 12 (fun q hq m => ?_) (fun q hq ih m => ?_)
    · rw [s129_4, zfor_end hq]
      simp (decide := true) only [s129_0, s129_1, s129_2, s129_3, s129_5, s129_7, s129_10, s129_11, s129_12, s129_13, s129_14, s129_15, s129_16, s129_17, s129_18, s129_21, s129_24, s129_25, Int32.not_lt.mp hq, zs_of, List.length_cons, List.length_nil, tl_some, tl_none, zrf_some, zdrop_i, zdrop_r, zdrop_q, zdrop_n, zdrop_l, i32_12, i32_1170, i32_2, i32_3, i32_5, i32_6, i32_8, i32_36, i32_200, Int32.reduceLE, Int32.reduceLT, Int32.reduceAdd, Int32.reduceSub, Int32.reduceMul, true_and, and_true, eq_self, true_or, or_true, not_true, not_false_iff, ↓reduceIte, zuo, zuA, zu_nk, zrow_at, zrow_ne]
    · rw [s129_4, zfor_go hq]
      simp (decide := true) only [s129_0, s129_1, s129_2, s129_3, s129_5, s129_7, s129_10, s129_11, s129_12, s129_13, s129_14, s129_15, s129_16, s129_17, s129_18, s129_21, s129_24, s129_25, Int32.not_le.mpr hq, ih, zs_of, List.length_cons, List.length_nil, tl_some, tl_none, zrf_some, zdrop_i, zdrop_r, zdrop_q, zdrop_n, zdrop_l, i32_12, i32_1170, i32_2, i32_3, i32_5, i32_6, i32_8, i32_36, i32_200, Int32.reduceLE, Int32.reduceLT, Int32.reduceAdd, Int32.reduceSub, Int32.reduceMul, true_and, and_true, eq_self, true_or, or_true, not_true, not_false_iff, ↓reduceIte, zuo, zuA, zu_nk, zrow_at, zrow_ne]
  simp (decide := true) only [s129_0, s129_1, s129_2, s129_3, s129_5, s129_7, s129_10, s129_11, s129_12, s129_13, s129_14, s129_15, s129_16, s129_17, s129_18, s129_21, s129_24, s129_25, zs_of, List.length_cons, List.length_nil, tl_some, tl_none, zrf_some, zdrop_i, zdrop_r, zdrop_q, zdrop_n, zdrop_l, i32_12, i32_1170, i32_2, i32_3, i32_5, i32_6, i32_8, i32_36, i32_200, Int32.reduceLE, Int32.reduceLT, Int32.reduceAdd, Int32.reduceSub, Int32.reduceMul, true_and, and_true, eq_self, true_or, or_true, not_true, not_false_iff, ↓reduceIte, zuo, zuA, zu_nk, zrow_at, zrow_ne]
  exact loop 0 0
def hasB (s q : Int32) : Prop := (s >>> (q &&& 31)) &&& 1 = 1
theorem c_has {Q : Option Value → ZH → Prop} {s q : Int32} {h : ZH} : Runs 128 0 [some (.int s), some (.int q)] [] h Q ↔ Q (some (.int (if (s >>> (q &&& 31)) &&& 1 = 1 then 1 else 0))) h := by
  by_cases hq : (s >>> (q &&& 31)) &&& 1 = 1
  · simp (decide := true) only [s128_0, s128_1, s128_2, s128_3, s128_4, s128_5, s128_6, s128_9, s128_10, s128_13, s128_14, hq, zs_of, List.length_cons, List.length_nil, tl_some, tl_none, zrf_some, zdrop_i, zdrop_r, zdrop_q, zdrop_n, zdrop_l, i32_12, i32_1170, i32_2, i32_3, i32_5, i32_6, i32_8, i32_36, i32_200, Int32.reduceLE, Int32.reduceLT, Int32.reduceAdd, Int32.reduceSub, Int32.reduceMul, true_and, and_true, eq_self, true_or, or_true, not_true, not_false_iff, ↓reduceIte, zuo, zuA, zu_nk, zrow_at, zrow_ne]
  · simp (decide := true) only [s128_0, s128_1, s128_2, s128_3, s128_4, s128_5, s128_6, s128_9, s128_10, s128_13, s128_14, hq, zs_of, List.length_cons, List.length_nil, tl_some, tl_none, zrf_some, zdrop_i, zdrop_r, zdrop_q, zdrop_n, zdrop_l, i32_12, i32_1170, i32_2, i32_3, i32_5, i32_6, i32_8, i32_36, i32_200, Int32.reduceLE, Int32.reduceLT, Int32.reduceAdd, Int32.reduceSub, Int32.reduceMul, true_and, and_true, eq_self, true_or, or_true, not_true, not_false_iff, ↓reduceIte, zuo, zuA, zu_nk, zrow_at, zrow_ne]
theorem bits_all : ∀ a : Fin 64, ∀ b : Fin 64, (bitsF (Int32.ofNat (64 * a + b)) = 0 → Int32.ofNat (64 * a + b) = 0) ∧ (bitsF (Int32.ofNat (64 * a + b)) = 1 → ∃ j : Fin 12, Int32.ofNat (64 * a + b) = bt (Int32.ofNat j)) ∧ (bitsF (Int32.ofNat (64 * a + b)) = 2 → ∃ h : Fin 12, ∃ l : Fin h.val, Int32.ofNat (64 * a + b) = pr2 (Int32.ofNat h) (Int32.ofNat l)) := by decide +kernel
theorem bt_all : ∀ j : Fin 12, bitsF (bt (Int32.ofNat j)) = 1 ∧ (0 ≤ bt (Int32.ofNat j) ∧ bt (Int32.ofNat j) < 4096) ∧ (∀ q : Fin 12, (bt (Int32.ofNat j) >>> (Int32.ofNat q &&& 31)) &&& 1 = 1 → q = j) ∧ (∀ i : Fin 12, bt (Int32.ofNat i) < bt (Int32.ofNat j) → i < j) ∧ ¬ bt (Int32.ofNat j) = 0 := by decide +kernel
theorem pr_all : ∀ h : Fin 12, ∀ l : Fin h.val, bitsF (pr2 (Int32.ofNat h) (Int32.ofNat l)) = 2 ∧ (0 ≤ pr2 (Int32.ofNat h) (Int32.ofNat l) ∧ pr2 (Int32.ofNat h) (Int32.ofNat l) < 4096) ∧ (∀ q : Fin 12, (pr2 (Int32.ofNat h) (Int32.ofNat l) >>> (Int32.ofNat q &&& 31)) &&& 1 = 1 → q = h ∨ q.val = l.val) := by decide +kernel
theorem pr_ord : ∀ h : Fin 12, ∀ l : Fin h.val, ∀ h2 : Fin 12, ∀ l2 : Fin h2.val, pr2 (Int32.ofNat h2) (Int32.ofNat l2) < pr2 (Int32.ofNat h) (Int32.ofNat l) → h2 < h ∨ (h2 = h ∧ l2.val < l.val) := by decide +kernel
theorem bits_0 : bitsF 0 = 0 := by decide +kernel
theorem has_0 : ∀ q : Fin 12, ¬ ((0 : Int32) >>> (Int32.ofNat q &&& 31)) &&& 1 = 1 := by decide +kernel
theorem ofNat_lt12 : ∀ a b : Fin 13, (Int32.ofNat a < Int32.ofNat b ↔ a < b) := by decide +kernel
def few (s : Int32) : Prop := (0 ≤ s ∧ s < 4096) ∧ (bitsF s = 0 ∨ bitsF s = 1 ∨ bitsF s = 2)
/-- a set of two at most, by its shape -/
theorem few_shape {s : Int32} (h : few s) : (bitsF s = 0 ∧ s = 0) ∨ (bitsF s = 1 ∧ ∃ j : Fin 12, s = bt (Int32.ofNat j)) ∨ (bitsF s = 2 ∧ ∃ h : Fin 12, ∃ l : Fin h.val, s = pr2 (Int32.ofNat h) (Int32.ofNat l)) := by
  obtain ⟨⟨h0, h1⟩, h2⟩ := h
  obtain ⟨a, ha⟩ := finN (m := 4096) (by omega) h0 h1
  have hab : a.val = 64 * (a.val / 64) + a.val % 64 := by omega
  rw [hab] at ha
  obtain ⟨g0, g1, g2⟩ := bits_all ⟨a.val / 64, by omega⟩ ⟨a.val % 64, by omega⟩
  dsimp only at g0 g1 g2
  rw [← ha] at g0 g1 g2
  rcases h2 with h2 | h2 | h2
  · exact Or.inl ⟨h2, g0 h2⟩
  · exact Or.inr (Or.inl ⟨h2, g1 h2⟩)
  · exact Or.inr (Or.inr ⟨h2, g2 h2⟩)
theorem has_sub {s q m : Int32} (h : few s) (hs : s &&& m = 0) (hq : 0 ≤ q ∧ q < 12) (hh : (s >>> (q &&& 31)) &&& 1 = 1) : bt q &&& m = 0 := by
  obtain ⟨a, rfl⟩ := fin12 hq.1 hq.2
  rcases few_shape h with ⟨-, rfl⟩ | ⟨-, j, rfl⟩ | ⟨-, h3, l, rfl⟩
  · exact absurd hh (has_0 a)
  · rw [(bt_all j).2.2.1 a hh]
    exact hs
  · unfold pr2 at hs
    rw [or_and, or_z] at hs
    rcases (pr_all h3 l).2.2 a hh with e | e
    · rw [e]; exact hs.1
    · rw [show a = ⟨l.val, by omega⟩ from Fin.ext e]; exact hs.2
/-- the answer: the least that serves, by size, then by number -/
def SPEC (ok : Int32 → Prop) (r : Int32) : Prop := (r = -1 ∧ ∀ s, few s → ¬ ok s) ∨ ((few r ∧ ok r) ∧ ∀ s, few s → ok s → (bitsF s < bitsF r ∨ (bitsF s = bitsF r ∧ s < r)) → False)
theorem tri (a b c d : Int32) : (a < b ∨ (a = b ∧ c < d)) ∨ (b < a ∨ (b = a ∧ d < c)) ∨ (a = b ∧ c = d) := by grind
theorem SPEC.uniq {ok : Int32 → Prop} {r r2 : Int32} (h : SPEC ok r) (h2 : SPEC ok r2) : r = r2 := by
  rcases h with ⟨rfl, h⟩ | ⟨⟨f, o⟩, h⟩
  · rcases h2 with ⟨rfl, h2⟩ | ⟨⟨f2, o2⟩, h2⟩
    · rfl
    · exact absurd o2 (h _ f2)
  · rcases h2 with ⟨rfl, h2⟩ | ⟨⟨f2, o2⟩, h2⟩
    · exact absurd o (h2 _ f)
    · rcases tri (bitsF r) (bitsF r2) r r2 with q | q | q
      · exact (h2 r f o q).elim
      · exact (h r2 f2 o2 q).elim
      · exact q.2
theorem few_0 : few 0 := ⟨by decide, Or.inl bits_0⟩
theorem few_bt (j : Fin 12) : few (bt (Int32.ofNat j)) := ⟨(bt_all j).2.1, Or.inr (Or.inl (bt_all j).1)⟩
theorem few_pr (h : Fin 12) (l : Fin h.val) : few (pr2 (Int32.ofNat h) (Int32.ofNat l)) := ⟨(pr_all h l).2.1, Or.inr (Or.inr (pr_all h l).1)⟩
theorem SPEC.none {ok : Int32 → Prop} (h0 : ¬ ok 0) (h1 : ∀ j : Fin 12, ¬ ok (bt (Int32.ofNat j))) (h2 : ∀ h : Fin 12, ∀ l : Fin h.val, ¬ ok (pr2 (Int32.ofNat h) (Int32.ofNat l))) : SPEC ok (-1) := by
  refine Or.inl ⟨rfl, fun s hs => ?_⟩
  rcases few_shape hs with ⟨-, rfl⟩ | ⟨-, j, rfl⟩ | ⟨-, h, l, rfl⟩
  · exact h0
  · exact h1 j
  · exact h2 h l
theorem nlt01 : ¬ ((1 : Int32) < 0) ∧ ¬ ((0 : Int32) < 0) ∧ ¬ ((2 : Int32) < 0) ∧ ¬ ((1 : Int32) < 1) ∧ ¬ ((2 : Int32) < 1) ∧ ¬ ((2 : Int32) < 2) := by decide
theorem SPEC.zero {ok : Int32 → Prop} (h0 : ok 0) : SPEC ok 0 := by
  refine Or.inr ⟨⟨few_0, h0⟩, fun s hs _ hl => ?_⟩
  rw [bits_0] at hl
  rcases few_shape hs with ⟨e, rfl⟩ | ⟨e, -⟩ | ⟨e, -⟩
  · rw [e] at hl; revert hl; decide
  · rw [e] at hl; revert hl; simp
  · rw [e] at hl; revert hl; simp
theorem SPEC.one {ok : Int32 → Prop} {j : Fin 12} (h0 : ¬ ok 0) (h1 : ∀ i : Fin 12, i < j → ¬ ok (bt (Int32.ofNat i))) (hj : ok (bt (Int32.ofNat j))) : SPEC ok (bt (Int32.ofNat j)) := by
  refine Or.inr ⟨⟨few_bt j, hj⟩, fun s hs ho hl => ?_⟩
  rw [(bt_all j).1] at hl
  rcases few_shape hs with ⟨e, rfl⟩ | ⟨e, i, rfl⟩ | ⟨e, -⟩
  · exact h0 ho
  · rw [e] at hl
    have : bt (Int32.ofNat i) < bt (Int32.ofNat j) := by
      rcases hl with hl | hl
      · exact absurd hl (by decide)
      · exact hl.2
    exact h1 i ((bt_all j).2.2.2.1 i this) ho
  · rw [e] at hl; revert hl; simp
theorem SPEC.two {ok : Int32 → Prop} {h : Fin 12} {l : Fin h.val} (h0 : ¬ ok 0) (h1 : ∀ i : Fin 12, ¬ ok (bt (Int32.ofNat i))) (h2 : ∀ h2 : Fin 12, ∀ l2 : Fin h2.val, (h2 < h ∨ (h2 = h ∧ l2.val < l.val)) → ¬ ok (pr2 (Int32.ofNat h2) (Int32.ofNat l2))) (hj : ok (pr2 (Int32.ofNat h) (Int32.ofNat l))) : SPEC ok (pr2 (Int32.ofNat h) (Int32.ofNat l)) := by
  refine Or.inr ⟨⟨few_pr h l, hj⟩, fun s hs ho hl => ?_⟩
  rw [(pr_all h l).1] at hl
  rcases few_shape hs with ⟨e, rfl⟩ | ⟨e, i, rfl⟩ | ⟨e, hh, ll, rfl⟩
  · exact h0 ho
  · exact h1 i ho
  · rw [e] at hl
    have : pr2 (Int32.ofNat hh) (Int32.ofNat ll) < pr2 (Int32.ofNat h) (Int32.ofNat l) := by
      rcases hl with hl | hl
      · exact absurd hl (by decide)
      · exact hl.2
    exact h2 hh ll (pr_ord h l hh ll this) ho
