/-! THE LAW -/
theorem ite_both {c : Prop} {d : Decidable c} {A B : Prop} (ha : A) (hb : B) : if c then A else B := by
  by_cases h : c
  · rw [if_pos h]; exact ha
  · rw [if_neg h]; exact hb
theorem lw_n {L : Nat} (hL : L ≤ 3072) : (Int32.ofNat L).toInt = (L : Int) := nI_toInt (by omega)
theorem lw_sub {L : Nat} (hL : L ≤ 3072) : (Int32.ofNat L - 6).toInt = (L : Int) - 6 := by
  rw [Int32.toInt_sub, lw_n hL, show (6 : Int32).toInt = 6 by decide]
  exact Int.bmod_eq_of_le (by simp; omega) (by simp; omega)
theorem lw_add {i j : Int32} (h0 : 0 ≤ i.toInt) (h : i.toInt ≤ 4000) (j0 : 0 ≤ j.toInt) (j1 : j.toInt ≤ 6) : (i + j).toInt = i.toInt + j.toInt := by
  rw [Int32.toInt_add]
  exact Int.bmod_eq_of_le (by simp; omega) (by simp; omega)
theorem lw_ix {L : Nat} {i j : Int32} (hL : L ≤ 3072) (h0 : 0 ≤ i.toInt) (h : i.toInt + 6 ≤ (L : Int)) (j0 : 0 ≤ j.toInt) (j1 : j.toInt ≤ 5) : 0 ≤ i + j ∧ i + j < Int32.ofNat L := by
  rw [i32_nn, Int32.lt_iff_toInt_lt, lw_n hL, lw_add h0 (by omega) j0 (by omega)]
  omega
section LAW
variable {n : Nat} {tg ln : Nat → Nat} {I : Nat → Int32 → Int32} {J : Nat → Int32 → Int64} {O : Nat → Int32 → Option Nat}
/-- the law's runs: it answers 1, and makes no more than a cell a call -/
def LWQ (n k : Nat) (v : Option Value) (h : ZH) : Prop := v = some (.int 1) ∧ h.1 ≤ n + k
set_option maxHeartbeats 8000000 in
theorem law_loop {L : Nat} (hL : L ≤ 3072) : ∀ (k : Nat) (i : Int32) (n : Nat) (tg ln : Nat → Nat) (I : Nat → Int32 → Int32) (J : Nat → Int32 → Int64) (O : Nat → Int32 → Option Nat), INV n tg ln I J O → tg 0 = 30 → ln 0 = L → 0 ≤ i.toInt → i.toInt ≤ 4000 → (L : Int) - 6 - i.toInt < 6 * (k : Nat) → Runs 205 18 [some (.ref 0), some (.ref 8), some (.ref 156), some (.int i)] [] (n, tg, ln, I, J, O) (LWQ n k) := by
  intro k
  induction k with
  | zero =>
    intro i n tg ln I J O hI t0 l0 i0 i1 hk
    have c : Int32.ofNat L - 6 < i := Int32.lt_iff_toInt_lt.mpr (by rw [lw_sub hL]; omega)
    have t02 : tg 0 = 20 ∨ tg 0 = 30 := Or.inr t0
    rw [s205_18]
    simp (decide := true) only [s205_19, s205_19q, s205_20, s205_21, s205_23, s205_24, s205_27, s205_27q, s205_1199, s205_1200, t02, l0, c, zs_of, List.length_cons, List.length_nil, tl_some, tl_none, zrf_some, zdrop_i, zdrop_r, zdrop_q, zdrop_n, zdrop_l, i32_12, i32_1170, i32_2, i32_3, i32_5, i32_6, i32_8, i32_36, i32_200, Int32.reduceLE, Int32.reduceLT, Int32.reduceAdd, Int32.reduceSub, Int32.reduceMul, true_and, and_true, eq_self, true_or, or_true, not_true, not_false_iff, ↓reduceIte, zuo, zuA, zu_nk, zrow_at, zrow_ne]
    exact ⟨rfl, Nat.le_refl _⟩
  | succ k ih =>
    intro i n tg ln I J O hI t0 l0 i0 i1 hk
    have S := hI.S
    have hn := hI.1.2
    have t02 : tg 0 = 20 ∨ tg 0 = 30 := Or.inr t0
    by_cases c : Int32.ofNat L - 6 < i
    · rw [s205_18]
      simp (decide := true) only [s205_19, s205_19q, s205_20, s205_21, s205_23, s205_24, s205_27, s205_27q, s205_1199, s205_1200, t02, l0, c, zs_of, List.length_cons, List.length_nil, tl_some, tl_none, zrf_some, zdrop_i, zdrop_r, zdrop_q, zdrop_n, zdrop_l, i32_12, i32_1170, i32_2, i32_3, i32_5, i32_6, i32_8, i32_36, i32_200, Int32.reduceLE, Int32.reduceLT, Int32.reduceAdd, Int32.reduceSub, Int32.reduceMul, true_and, and_true, eq_self, true_or, or_true, not_true, not_false_iff, ↓reduceIte, zuo, zuA, zu_nk, zrow_at, zrow_ne]
      exact ⟨rfl, Nat.le_add_right _ _⟩
    · have c2 : i.toInt + 6 ≤ (L : Int) := by
        have := mt Int32.lt_iff_toInt_lt.mpr c
        rw [lw_sub hL] at this
        omega
      have x0 : 0 ≤ i ∧ i < Int32.ofNat L := by
        have := @lw_ix L i 0 hL i0 c2 (by decide) (by decide)
        rwa [i32_add0] at this
      have x1 := @lw_ix L i 1 hL i0 c2 (by decide) (by decide)
      have x2 := @lw_ix L i 2 hL i0 c2 (by decide) (by decide)
      have x3 := @lw_ix L i 3 hL i0 c2 (by decide) (by decide)
      have x4 := @lw_ix L i 4 hL i0 c2 (by decide) (by decide)
      have x5 := @lw_ix L i 5 hL i0 c2 (by decide) (by decide)
      have hnext : ∀ h2, GOOD n tg ln I h2 → Runs 205 1193 [some (.ref 0), some (.ref 8), some (.ref 156), some (.int i)] [] h2 (LWQ n (k + 1)) := by
        rintro ⟨n2, tg2, ln2, I2, J2, O2⟩ ⟨g1, ⟨g2, g3⟩, g4, g5, g6⟩
        dsimp only at g1 g2 g3 g4 g5 g6
        have e6 : (i + 6).toInt = i.toInt + 6 := lw_add i0 i1 (by decide) (by decide)
        have := ih (i + 6) n2 tg2 ln2 I2 J2 O2 g1 (g4.trans t0) (g5.trans l0) (by rw [e6]; omega) (by rw [e6]; omega) (by rw [e6]; omega)
        simp (decide := true) only [s205_1193, s205_1196, zs_of, List.length_cons, List.length_nil, tl_some, tl_none, zrf_some, zdrop_i, zdrop_r, zdrop_q, zdrop_n, zdrop_l, i32_12, i32_1170, i32_2, i32_3, i32_5, i32_6, i32_8, i32_36, i32_200, Int32.reduceLE, Int32.reduceLT, Int32.reduceAdd, Int32.reduceSub, Int32.reduceMul, true_and, and_true, eq_self, true_or, or_true, not_true, not_false_iff, ↓reduceIte, zuo, zuA, zu_nk, zrow_at, zrow_ne]
        exact this.mono (fun v h hv => ⟨hv.1, Nat.le_trans hv.2 (by omega)⟩)
      have kp : ∀ {n1 : Nat} {tg1 ln1 : Nat → Nat} {I1 : Nat → Int32 → Int32} {J1 : Nat → Int32 → Int64} {O1 : Nat → Int32 → Option Nat}, KEEP (n, tg, ln, I, J, O) (n1, tg1, ln1, I1, J1, O1) → tg1 0 = 30 ∧ ln1 0 = L ∧ I1 0 = I 0 ∧ tg1 156 = 10 := fun {n1 tg1 ln1 I1 J1 O1} hk => by
        obtain ⟨-, hk⟩ := hk
        obtain ⟨a1, a2, a3⟩ := hk 0 (Nat.lt_of_lt_of_le (by decide) hn)
        obtain ⟨b1, -, -⟩ := hk 156 (Nat.lt_of_lt_of_le (by decide) hn)
        dsimp only at a1 a2 a3 b1
        exact ⟨a1.trans t0, a2.trans l0, a3 t0, b1.trans S.t156⟩
      have b0 : Runs 205 188 [some (.ref 0), some (.ref 8), some (.ref 156), some (.int i)] [] (n, tg, ln, I, J, O) (LWQ n (k + 1)) := by
        simp (decide := true) only [s205_188, s205_188q, s205_189, s205_189q, s205_190, s205_191, s205_192, s205_193, s205_193q, s205_194, t0, l0, x1, x2, x3, x4, x5, S.t8, zs_of, List.length_cons, List.length_nil, tl_some, tl_none, zrf_some, zdrop_i, zdrop_r, zdrop_q, zdrop_n, zdrop_l, i32_12, i32_1170, i32_2, i32_3, i32_5, i32_6, i32_8, i32_36, i32_200, Int32.reduceLE, Int32.reduceLT, Int32.reduceAdd, Int32.reduceSub, Int32.reduceMul, true_and, and_true, eq_self, true_or, or_true, not_true, not_false_iff, ↓reduceIte, zuo, zuA, zu_nk, zrow_at, zrow_ne]
        refine Runs.mono (Runs.keep (both_write hI)) (fun v h1 hv => ?_)
        obtain ⟨⟨x, rfl, hm⟩, hk1⟩ := hv
        obtain ⟨n1, tg1, ln1, I1, J1, O1⟩ := h1
        obtain ⟨y0, y1, y2, y3⟩ := kp hk1
        simp (decide := true) only [s205_197, s205_197q, s205_198, s205_198q, s205_199, s205_200, s205_201, s205_202, s205_202q, s205_203, y0, y1, y2, y3, x1, x2, x3, x4, x5, zs_of, List.length_cons, List.length_nil, tl_some, tl_none, zrf_some, zdrop_i, zdrop_r, zdrop_q, zdrop_n, zdrop_l, i32_12, i32_1170, i32_2, i32_3, i32_5, i32_6, i32_8, i32_36, i32_200, Int32.reduceLE, Int32.reduceLT, Int32.reduceAdd, Int32.reduceSub, Int32.reduceMul, true_and, and_true, eq_self, true_or, or_true, not_true, not_false_iff, ↓reduceIte, zuo, zuA, zu_nk, zrow_at, zrow_ne]
        refine Runs.mono hm (fun v2 h2 hv2 => ?_)
        obtain ⟨rfl, hg⟩ := hv2
        simp (decide := true) only [s205_206, s205_209, s205_210, zs_of, List.length_cons, List.length_nil, tl_some, tl_none, zrf_some, zdrop_i, zdrop_r, zdrop_q, zdrop_n, zdrop_l, i32_12, i32_1170, i32_2, i32_3, i32_5, i32_6, i32_8, i32_36, i32_200, Int32.reduceLE, Int32.reduceLT, Int32.reduceAdd, Int32.reduceSub, Int32.reduceMul, true_and, and_true, eq_self, true_or, or_true, not_true, not_false_iff, ↓reduceIte, zuo, zuA, zu_nk, zrow_at, zrow_ne]
        exact hnext h2 hg
      have b1 : Runs 205 211 [some (.ref 0), some (.ref 8), some (.ref 156), some (.int i)] [] (n, tg, ln, I, J, O) (LWQ n (k + 1)) := by
        simp (decide := true) only [s205_211, s205_211q, s205_212, t0, l0, x1, x2, x3, x4, x5, S.t8, zs_of, List.length_cons, List.length_nil, tl_some, tl_none, zrf_some, zdrop_i, zdrop_r, zdrop_q, zdrop_n, zdrop_l, i32_12, i32_1170, i32_2, i32_3, i32_5, i32_6, i32_8, i32_36, i32_200, Int32.reduceLE, Int32.reduceLT, Int32.reduceAdd, Int32.reduceSub, Int32.reduceMul, true_and, and_true, eq_self, true_or, or_true, not_true, not_false_iff, ↓reduceIte, zuo, zuA, zu_nk, zrow_at, zrow_ne]
        refine Runs.mono (Runs.keep (both_erase hI)) (fun v h1 hv => ?_)
        obtain ⟨⟨x, rfl, hm⟩, hk1⟩ := hv
        obtain ⟨n1, tg1, ln1, I1, J1, O1⟩ := h1
        obtain ⟨y0, y1, y2, y3⟩ := kp hk1
        simp (decide := true) only [s205_215, s205_215q, s205_216, y0, y1, y2, y3, x1, x2, x3, x4, x5, zs_of, List.length_cons, List.length_nil, tl_some, tl_none, zrf_some, zdrop_i, zdrop_r, zdrop_q, zdrop_n, zdrop_l, i32_12, i32_1170, i32_2, i32_3, i32_5, i32_6, i32_8, i32_36, i32_200, Int32.reduceLE, Int32.reduceLT, Int32.reduceAdd, Int32.reduceSub, Int32.reduceMul, true_and, and_true, eq_self, true_or, or_true, not_true, not_false_iff, ↓reduceIte, zuo, zuA, zu_nk, zrow_at, zrow_ne]
        refine Runs.mono hm (fun v2 h2 hv2 => ?_)
        obtain ⟨rfl, hg⟩ := hv2
        simp (decide := true) only [s205_219, s205_222, s205_223, zs_of, List.length_cons, List.length_nil, tl_some, tl_none, zrf_some, zdrop_i, zdrop_r, zdrop_q, zdrop_n, zdrop_l, i32_12, i32_1170, i32_2, i32_3, i32_5, i32_6, i32_8, i32_36, i32_200, Int32.reduceLE, Int32.reduceLT, Int32.reduceAdd, Int32.reduceSub, Int32.reduceMul, true_and, and_true, eq_self, true_or, or_true, not_true, not_false_iff, ↓reduceIte, zuo, zuA, zu_nk, zrow_at, zrow_ne]
        exact hnext h2 hg
      have b2 : Runs 205 224 [some (.ref 0), some (.ref 8), some (.ref 156), some (.int i)] [] (n, tg, ln, I, J, O) (LWQ n (k + 1)) := by
        simp (decide := true) only [s205_224, s205_224q, s205_225, t0, l0, x1, x2, x3, x4, x5, S.t8, zs_of, List.length_cons, List.length_nil, tl_some, tl_none, zrf_some, zdrop_i, zdrop_r, zdrop_q, zdrop_n, zdrop_l, i32_12, i32_1170, i32_2, i32_3, i32_5, i32_6, i32_8, i32_36, i32_200, Int32.reduceLE, Int32.reduceLT, Int32.reduceAdd, Int32.reduceSub, Int32.reduceMul, true_and, and_true, eq_self, true_or, or_true, not_true, not_false_iff, ↓reduceIte, zuo, zuA, zu_nk, zrow_at, zrow_ne]
        refine Runs.mono (Runs.keep (both_fault hI)) (fun v h1 hv => ?_)
        obtain ⟨⟨x, rfl, hm⟩, hk1⟩ := hv
        obtain ⟨n1, tg1, ln1, I1, J1, O1⟩ := h1
        obtain ⟨y0, y1, y2, y3⟩ := kp hk1
        simp (decide := true) only [s205_228, s205_228q, s205_229, y0, y1, y2, y3, x1, x2, x3, x4, x5, zs_of, List.length_cons, List.length_nil, tl_some, tl_none, zrf_some, zdrop_i, zdrop_r, zdrop_q, zdrop_n, zdrop_l, i32_12, i32_1170, i32_2, i32_3, i32_5, i32_6, i32_8, i32_36, i32_200, Int32.reduceLE, Int32.reduceLT, Int32.reduceAdd, Int32.reduceSub, Int32.reduceMul, true_and, and_true, eq_self, true_or, or_true, not_true, not_false_iff, ↓reduceIte, zuo, zuA, zu_nk, zrow_at, zrow_ne]
        refine Runs.mono hm (fun v2 h2 hv2 => ?_)
        obtain ⟨rfl, hg⟩ := hv2
        simp (decide := true) only [s205_232, s205_235, s205_236, zs_of, List.length_cons, List.length_nil, tl_some, tl_none, zrf_some, zdrop_i, zdrop_r, zdrop_q, zdrop_n, zdrop_l, i32_12, i32_1170, i32_2, i32_3, i32_5, i32_6, i32_8, i32_36, i32_200, Int32.reduceLE, Int32.reduceLT, Int32.reduceAdd, Int32.reduceSub, Int32.reduceMul, true_and, and_true, eq_self, true_or, or_true, not_true, not_false_iff, ↓reduceIte, zuo, zuA, zu_nk, zrow_at, zrow_ne]
        exact hnext h2 hg
      have b3 : Runs 205 237 [some (.ref 0), some (.ref 8), some (.ref 156), some (.int i)] [] (n, tg, ln, I, J, O) (LWQ n (k + 1)) := by
        simp (decide := true) only [s205_237, s205_237q, s205_238, t0, l0, x1, x2, x3, x4, x5, S.t8, zs_of, List.length_cons, List.length_nil, tl_some, tl_none, zrf_some, zdrop_i, zdrop_r, zdrop_q, zdrop_n, zdrop_l, i32_12, i32_1170, i32_2, i32_3, i32_5, i32_6, i32_8, i32_36, i32_200, Int32.reduceLE, Int32.reduceLT, Int32.reduceAdd, Int32.reduceSub, Int32.reduceMul, true_and, and_true, eq_self, true_or, or_true, not_true, not_false_iff, ↓reduceIte, zuo, zuA, zu_nk, zrow_at, zrow_ne]
        refine Runs.mono (Runs.keep (both_plain hI)) (fun v h1 hv => ?_)
        obtain ⟨⟨x, rfl, hm⟩, hk1⟩ := hv
        obtain ⟨n1, tg1, ln1, I1, J1, O1⟩ := h1
        obtain ⟨y0, y1, y2, y3⟩ := kp hk1
        simp (decide := true) only [s205_241, s205_241q, s205_242, y0, y1, y2, y3, x1, x2, x3, x4, x5, zs_of, List.length_cons, List.length_nil, tl_some, tl_none, zrf_some, zdrop_i, zdrop_r, zdrop_q, zdrop_n, zdrop_l, i32_12, i32_1170, i32_2, i32_3, i32_5, i32_6, i32_8, i32_36, i32_200, Int32.reduceLE, Int32.reduceLT, Int32.reduceAdd, Int32.reduceSub, Int32.reduceMul, true_and, and_true, eq_self, true_or, or_true, not_true, not_false_iff, ↓reduceIte, zuo, zuA, zu_nk, zrow_at, zrow_ne]
        refine Runs.mono hm (fun v2 h2 hv2 => ?_)
        obtain ⟨rfl, hg⟩ := hv2
        simp (decide := true) only [s205_245, s205_248, s205_249, zs_of, List.length_cons, List.length_nil, tl_some, tl_none, zrf_some, zdrop_i, zdrop_r, zdrop_q, zdrop_n, zdrop_l, i32_12, i32_1170, i32_2, i32_3, i32_5, i32_6, i32_8, i32_36, i32_200, Int32.reduceLE, Int32.reduceLT, Int32.reduceAdd, Int32.reduceSub, Int32.reduceMul, true_and, and_true, eq_self, true_or, or_true, not_true, not_false_iff, ↓reduceIte, zuo, zuA, zu_nk, zrow_at, zrow_ne]
        exact hnext h2 hg
      have b4 : Runs 205 250 [some (.ref 0), some (.ref 8), some (.ref 156), some (.int i)] [] (n, tg, ln, I, J, O) (LWQ n (k + 1)) := by
        simp (decide := true) only [s205_250, s205_250q, s205_251, s205_251q, s205_252, s205_253, s205_254, s205_255, s205_255q, s205_256, s205_256q, s205_257, s205_258, s205_259, s205_260, s205_260q, s205_261, t0, l0, x1, x2, x3, x4, x5, S.t8, zs_of, List.length_cons, List.length_nil, tl_some, tl_none, zrf_some, zdrop_i, zdrop_r, zdrop_q, zdrop_n, zdrop_l, i32_12, i32_1170, i32_2, i32_3, i32_5, i32_6, i32_8, i32_36, i32_200, Int32.reduceLE, Int32.reduceLT, Int32.reduceAdd, Int32.reduceSub, Int32.reduceMul, true_and, and_true, eq_self, true_or, or_true, not_true, not_false_iff, ↓reduceIte, zuo, zuA, zu_nk, zrow_at, zrow_ne]
        refine Runs.mono (Runs.keep (both_tree hI)) (fun v h1 hv => ?_)
        obtain ⟨⟨x, rfl, hm⟩, hk1⟩ := hv
        obtain ⟨n1, tg1, ln1, I1, J1, O1⟩ := h1
        obtain ⟨y0, y1, y2, y3⟩ := kp hk1
        simp (decide := true) only [s205_264, s205_264q, s205_265, s205_265q, s205_266, s205_267, s205_268, s205_269, s205_269q, s205_270, s205_270q, s205_271, s205_272, s205_273, s205_274, s205_274q, s205_275, y0, y1, y2, y3, x1, x2, x3, x4, x5, zs_of, List.length_cons, List.length_nil, tl_some, tl_none, zrf_some, zdrop_i, zdrop_r, zdrop_q, zdrop_n, zdrop_l, i32_12, i32_1170, i32_2, i32_3, i32_5, i32_6, i32_8, i32_36, i32_200, Int32.reduceLE, Int32.reduceLT, Int32.reduceAdd, Int32.reduceSub, Int32.reduceMul, true_and, and_true, eq_self, true_or, or_true, not_true, not_false_iff, ↓reduceIte, zuo, zuA, zu_nk, zrow_at, zrow_ne]
        refine Runs.mono hm (fun v2 h2 hv2 => ?_)
        obtain ⟨rfl, hg⟩ := hv2
        simp (decide := true) only [s205_278, s205_281, s205_282, zs_of, List.length_cons, List.length_nil, tl_some, tl_none, zrf_some, zdrop_i, zdrop_r, zdrop_q, zdrop_n, zdrop_l, i32_12, i32_1170, i32_2, i32_3, i32_5, i32_6, i32_8, i32_36, i32_200, Int32.reduceLE, Int32.reduceLT, Int32.reduceAdd, Int32.reduceSub, Int32.reduceMul, true_and, and_true, eq_self, true_or, or_true, not_true, not_false_iff, ↓reduceIte, zuo, zuA, zu_nk, zrow_at, zrow_ne]
        exact hnext h2 hg
      have b5 : Runs 205 283 [some (.ref 0), some (.ref 8), some (.ref 156), some (.int i)] [] (n, tg, ln, I, J, O) (LWQ n (k + 1)) := by
        simp (decide := true) only [s205_283, s205_283q, s205_284, s205_284q, s205_285, s205_286, s205_287, s205_288, s205_288q, s205_289, s205_289q, s205_290, s205_291, s205_292, s205_293, s205_293q, s205_294, t0, l0, x1, x2, x3, x4, x5, S.t8, zs_of, List.length_cons, List.length_nil, tl_some, tl_none, zrf_some, zdrop_i, zdrop_r, zdrop_q, zdrop_n, zdrop_l, i32_12, i32_1170, i32_2, i32_3, i32_5, i32_6, i32_8, i32_36, i32_200, Int32.reduceLE, Int32.reduceLT, Int32.reduceAdd, Int32.reduceSub, Int32.reduceMul, true_and, and_true, eq_self, true_or, or_true, not_true, not_false_iff, ↓reduceIte, zuo, zuA, zu_nk, zrow_at, zrow_ne]
        refine Runs.mono (Runs.keep (both_at hI)) (fun v h1 hv => ?_)
        obtain ⟨⟨x, rfl, hm⟩, hk1⟩ := hv
        obtain ⟨n1, tg1, ln1, I1, J1, O1⟩ := h1
        obtain ⟨y0, y1, y2, y3⟩ := kp hk1
        simp (decide := true) only [s205_297, s205_297q, s205_298, s205_298q, s205_299, s205_300, s205_301, s205_302, s205_302q, s205_303, s205_303q, s205_304, s205_305, s205_306, s205_307, s205_307q, s205_308, y0, y1, y2, y3, x1, x2, x3, x4, x5, zs_of, List.length_cons, List.length_nil, tl_some, tl_none, zrf_some, zdrop_i, zdrop_r, zdrop_q, zdrop_n, zdrop_l, i32_12, i32_1170, i32_2, i32_3, i32_5, i32_6, i32_8, i32_36, i32_200, Int32.reduceLE, Int32.reduceLT, Int32.reduceAdd, Int32.reduceSub, Int32.reduceMul, true_and, and_true, eq_self, true_or, or_true, not_true, not_false_iff, ↓reduceIte, zuo, zuA, zu_nk, zrow_at, zrow_ne]
        refine Runs.mono hm (fun v2 h2 hv2 => ?_)
        obtain ⟨rfl, hg⟩ := hv2
        simp (decide := true) only [s205_311, s205_314, s205_315, zs_of, List.length_cons, List.length_nil, tl_some, tl_none, zrf_some, zdrop_i, zdrop_r, zdrop_q, zdrop_n, zdrop_l, i32_12, i32_1170, i32_2, i32_3, i32_5, i32_6, i32_8, i32_36, i32_200, Int32.reduceLE, Int32.reduceLT, Int32.reduceAdd, Int32.reduceSub, Int32.reduceMul, true_and, and_true, eq_self, true_or, or_true, not_true, not_false_iff, ↓reduceIte, zuo, zuA, zu_nk, zrow_at, zrow_ne]
        exact hnext h2 hg
      have b6 : Runs 205 316 [some (.ref 0), some (.ref 8), some (.ref 156), some (.int i)] [] (n, tg, ln, I, J, O) (LWQ n (k + 1)) := by
        simp (decide := true) only [s205_316, s205_316q, s205_317, s205_317q, s205_318, s205_319, s205_320, s205_321, s205_321q, s205_322, s205_322q, s205_323, s205_324, s205_325, s205_326, s205_326q, s205_327, t0, l0, x1, x2, x3, x4, x5, S.t8, zs_of, List.length_cons, List.length_nil, tl_some, tl_none, zrf_some, zdrop_i, zdrop_r, zdrop_q, zdrop_n, zdrop_l, i32_12, i32_1170, i32_2, i32_3, i32_5, i32_6, i32_8, i32_36, i32_200, Int32.reduceLE, Int32.reduceLT, Int32.reduceAdd, Int32.reduceSub, Int32.reduceMul, true_and, and_true, eq_self, true_or, or_true, not_true, not_false_iff, ↓reduceIte, zuo, zuA, zu_nk, zrow_at, zrow_ne]
        refine Runs.mono (Runs.keep (both_as hI)) (fun v h1 hv => ?_)
        obtain ⟨⟨x, rfl, hm⟩, hk1⟩ := hv
        obtain ⟨n1, tg1, ln1, I1, J1, O1⟩ := h1
        obtain ⟨y0, y1, y2, y3⟩ := kp hk1
        simp (decide := true) only [s205_330, s205_330q, s205_331, s205_331q, s205_332, s205_333, s205_334, s205_335, s205_335q, s205_336, s205_336q, s205_337, s205_338, s205_339, s205_340, s205_340q, s205_341, y0, y1, y2, y3, x1, x2, x3, x4, x5, zs_of, List.length_cons, List.length_nil, tl_some, tl_none, zrf_some, zdrop_i, zdrop_r, zdrop_q, zdrop_n, zdrop_l, i32_12, i32_1170, i32_2, i32_3, i32_5, i32_6, i32_8, i32_36, i32_200, Int32.reduceLE, Int32.reduceLT, Int32.reduceAdd, Int32.reduceSub, Int32.reduceMul, true_and, and_true, eq_self, true_or, or_true, not_true, not_false_iff, ↓reduceIte, zuo, zuA, zu_nk, zrow_at, zrow_ne]
        refine Runs.mono hm (fun v2 h2 hv2 => ?_)
        obtain ⟨rfl, hg⟩ := hv2
        simp (decide := true) only [s205_344, s205_347, s205_348, zs_of, List.length_cons, List.length_nil, tl_some, tl_none, zrf_some, zdrop_i, zdrop_r, zdrop_q, zdrop_n, zdrop_l, i32_12, i32_1170, i32_2, i32_3, i32_5, i32_6, i32_8, i32_36, i32_200, Int32.reduceLE, Int32.reduceLT, Int32.reduceAdd, Int32.reduceSub, Int32.reduceMul, true_and, and_true, eq_self, true_or, or_true, not_true, not_false_iff, ↓reduceIte, zuo, zuA, zu_nk, zrow_at, zrow_ne]
        exact hnext h2 hg
      have b7 : Runs 205 349 [some (.ref 0), some (.ref 8), some (.ref 156), some (.int i)] [] (n, tg, ln, I, J, O) (LWQ n (k + 1)) := by
        simp (decide := true) only [s205_349, s205_349q, s205_350, t0, l0, x1, x2, x3, x4, x5, S.t8, zs_of, List.length_cons, List.length_nil, tl_some, tl_none, zrf_some, zdrop_i, zdrop_r, zdrop_q, zdrop_n, zdrop_l, i32_12, i32_1170, i32_2, i32_3, i32_5, i32_6, i32_8, i32_36, i32_200, Int32.reduceLE, Int32.reduceLT, Int32.reduceAdd, Int32.reduceSub, Int32.reduceMul, true_and, and_true, eq_self, true_or, or_true, not_true, not_false_iff, ↓reduceIte, zuo, zuA, zu_nk, zrow_at, zrow_ne]
        refine Runs.mono (Runs.keep (both_night hI)) (fun v h1 hv => ?_)
        obtain ⟨⟨x, rfl, hm⟩, hk1⟩ := hv
        obtain ⟨n1, tg1, ln1, I1, J1, O1⟩ := h1
        obtain ⟨y0, y1, y2, y3⟩ := kp hk1
        simp (decide := true) only [s205_353, s205_353q, s205_354, y0, y1, y2, y3, x1, x2, x3, x4, x5, zs_of, List.length_cons, List.length_nil, tl_some, tl_none, zrf_some, zdrop_i, zdrop_r, zdrop_q, zdrop_n, zdrop_l, i32_12, i32_1170, i32_2, i32_3, i32_5, i32_6, i32_8, i32_36, i32_200, Int32.reduceLE, Int32.reduceLT, Int32.reduceAdd, Int32.reduceSub, Int32.reduceMul, true_and, and_true, eq_self, true_or, or_true, not_true, not_false_iff, ↓reduceIte, zuo, zuA, zu_nk, zrow_at, zrow_ne]
        refine Runs.mono hm (fun v2 h2 hv2 => ?_)
        obtain ⟨rfl, hg⟩ := hv2
        simp (decide := true) only [s205_357, s205_360, s205_361, zs_of, List.length_cons, List.length_nil, tl_some, tl_none, zrf_some, zdrop_i, zdrop_r, zdrop_q, zdrop_n, zdrop_l, i32_12, i32_1170, i32_2, i32_3, i32_5, i32_6, i32_8, i32_36, i32_200, Int32.reduceLE, Int32.reduceLT, Int32.reduceAdd, Int32.reduceSub, Int32.reduceMul, true_and, and_true, eq_self, true_or, or_true, not_true, not_false_iff, ↓reduceIte, zuo, zuA, zu_nk, zrow_at, zrow_ne]
        exact hnext h2 hg
      have b8 : Runs 205 362 [some (.ref 0), some (.ref 8), some (.ref 156), some (.int i)] [] (n, tg, ln, I, J, O) (LWQ n (k + 1)) := by
        simp (decide := true) only [s205_362, s205_362q, s205_363, s205_363q, s205_364, s205_365, s205_366, s205_367, s205_367q, s205_368, s205_368q, s205_369, s205_370, s205_371, s205_372, s205_372q, s205_373, s205_373q, s205_374, s205_375, s205_376, s205_377, s205_377q, s205_378, t0, l0, x1, x2, x3, x4, x5, S.t8, zs_of, List.length_cons, List.length_nil, tl_some, tl_none, zrf_some, zdrop_i, zdrop_r, zdrop_q, zdrop_n, zdrop_l, i32_12, i32_1170, i32_2, i32_3, i32_5, i32_6, i32_8, i32_36, i32_200, Int32.reduceLE, Int32.reduceLT, Int32.reduceAdd, Int32.reduceSub, Int32.reduceMul, true_and, and_true, eq_self, true_or, or_true, not_true, not_false_iff, ↓reduceIte, zuo, zuA, zu_nk, zrow_at, zrow_ne]
        refine Runs.mono (Runs.keep (both_join hI)) (fun v h1 hv => ?_)
        obtain ⟨⟨x, rfl, hm⟩, hk1⟩ := hv
        obtain ⟨n1, tg1, ln1, I1, J1, O1⟩ := h1
        obtain ⟨y0, y1, y2, y3⟩ := kp hk1
        simp (decide := true) only [s205_381, s205_381q, s205_382, s205_382q, s205_383, s205_384, s205_385, s205_386, s205_386q, s205_387, s205_387q, s205_388, s205_389, s205_390, s205_391, s205_391q, s205_392, s205_392q, s205_393, s205_394, s205_395, s205_396, s205_396q, s205_397, y0, y1, y2, y3, x1, x2, x3, x4, x5, zs_of, List.length_cons, List.length_nil, tl_some, tl_none, zrf_some, zdrop_i, zdrop_r, zdrop_q, zdrop_n, zdrop_l, i32_12, i32_1170, i32_2, i32_3, i32_5, i32_6, i32_8, i32_36, i32_200, Int32.reduceLE, Int32.reduceLT, Int32.reduceAdd, Int32.reduceSub, Int32.reduceMul, true_and, and_true, eq_self, true_or, or_true, not_true, not_false_iff, ↓reduceIte, zuo, zuA, zu_nk, zrow_at, zrow_ne]
        refine Runs.mono hm (fun v2 h2 hv2 => ?_)
        obtain ⟨rfl, hg⟩ := hv2
        simp (decide := true) only [s205_400, s205_403, s205_404, zs_of, List.length_cons, List.length_nil, tl_some, tl_none, zrf_some, zdrop_i, zdrop_r, zdrop_q, zdrop_n, zdrop_l, i32_12, i32_1170, i32_2, i32_3, i32_5, i32_6, i32_8, i32_36, i32_200, Int32.reduceLE, Int32.reduceLT, Int32.reduceAdd, Int32.reduceSub, Int32.reduceMul, true_and, and_true, eq_self, true_or, or_true, not_true, not_false_iff, ↓reduceIte, zuo, zuA, zu_nk, zrow_at, zrow_ne]
        exact hnext h2 hg
      have b9 : Runs 205 405 [some (.ref 0), some (.ref 8), some (.ref 156), some (.int i)] [] (n, tg, ln, I, J, O) (LWQ n (k + 1)) := by
        simp (decide := true) only [s205_405, s205_405q, s205_406, s205_406q, s205_407, s205_408, s205_409, s205_410, s205_410q, s205_411, t0, l0, x1, x2, x3, x4, x5, S.t8, zs_of, List.length_cons, List.length_nil, tl_some, tl_none, zrf_some, zdrop_i, zdrop_r, zdrop_q, zdrop_n, zdrop_l, i32_12, i32_1170, i32_2, i32_3, i32_5, i32_6, i32_8, i32_36, i32_200, Int32.reduceLE, Int32.reduceLT, Int32.reduceAdd, Int32.reduceSub, Int32.reduceMul, true_and, and_true, eq_self, true_or, or_true, not_true, not_false_iff, ↓reduceIte, zuo, zuA, zu_nk, zrow_at, zrow_ne]
        refine Runs.mono (Runs.keep (both_home hI)) (fun v h1 hv => ?_)
        obtain ⟨⟨x, rfl, hm⟩, hk1⟩ := hv
        obtain ⟨n1, tg1, ln1, I1, J1, O1⟩ := h1
        obtain ⟨y0, y1, y2, y3⟩ := kp hk1
        simp (decide := true) only [s205_414, s205_414q, s205_415, s205_415q, s205_416, s205_417, s205_418, s205_419, s205_419q, s205_420, y0, y1, y2, y3, x1, x2, x3, x4, x5, zs_of, List.length_cons, List.length_nil, tl_some, tl_none, zrf_some, zdrop_i, zdrop_r, zdrop_q, zdrop_n, zdrop_l, i32_12, i32_1170, i32_2, i32_3, i32_5, i32_6, i32_8, i32_36, i32_200, Int32.reduceLE, Int32.reduceLT, Int32.reduceAdd, Int32.reduceSub, Int32.reduceMul, true_and, and_true, eq_self, true_or, or_true, not_true, not_false_iff, ↓reduceIte, zuo, zuA, zu_nk, zrow_at, zrow_ne]
        refine Runs.mono hm (fun v2 h2 hv2 => ?_)
        obtain ⟨rfl, hg⟩ := hv2
        simp (decide := true) only [s205_423, s205_426, s205_427, zs_of, List.length_cons, List.length_nil, tl_some, tl_none, zrf_some, zdrop_i, zdrop_r, zdrop_q, zdrop_n, zdrop_l, i32_12, i32_1170, i32_2, i32_3, i32_5, i32_6, i32_8, i32_36, i32_200, Int32.reduceLE, Int32.reduceLT, Int32.reduceAdd, Int32.reduceSub, Int32.reduceMul, true_and, and_true, eq_self, true_or, or_true, not_true, not_false_iff, ↓reduceIte, zuo, zuA, zu_nk, zrow_at, zrow_ne]
        exact hnext h2 hg
      have b10 : Runs 205 428 [some (.ref 0), some (.ref 8), some (.ref 156), some (.int i)] [] (n, tg, ln, I, J, O) (LWQ n (k + 1)) := by
        simp (decide := true) only [s205_428, s205_428q, s205_429, s205_429q, s205_430, s205_431, s205_432, s205_433, s205_433q, s205_434, t0, l0, x1, x2, x3, x4, x5, S.t8, zs_of, List.length_cons, List.length_nil, tl_some, tl_none, zrf_some, zdrop_i, zdrop_r, zdrop_q, zdrop_n, zdrop_l, i32_12, i32_1170, i32_2, i32_3, i32_5, i32_6, i32_8, i32_36, i32_200, Int32.reduceLE, Int32.reduceLT, Int32.reduceAdd, Int32.reduceSub, Int32.reduceMul, true_and, and_true, eq_self, true_or, or_true, not_true, not_false_iff, ↓reduceIte, zuo, zuA, zu_nk, zrow_at, zrow_ne]
        refine Runs.mono (Runs.keep (both_back hI)) (fun v h1 hv => ?_)
        obtain ⟨⟨x, rfl, hm⟩, hk1⟩ := hv
        obtain ⟨n1, tg1, ln1, I1, J1, O1⟩ := h1
        obtain ⟨y0, y1, y2, y3⟩ := kp hk1
        simp (decide := true) only [s205_437, s205_437q, s205_438, s205_438q, s205_439, s205_440, s205_441, s205_442, s205_442q, s205_443, y0, y1, y2, y3, x1, x2, x3, x4, x5, zs_of, List.length_cons, List.length_nil, tl_some, tl_none, zrf_some, zdrop_i, zdrop_r, zdrop_q, zdrop_n, zdrop_l, i32_12, i32_1170, i32_2, i32_3, i32_5, i32_6, i32_8, i32_36, i32_200, Int32.reduceLE, Int32.reduceLT, Int32.reduceAdd, Int32.reduceSub, Int32.reduceMul, true_and, and_true, eq_self, true_or, or_true, not_true, not_false_iff, ↓reduceIte, zuo, zuA, zu_nk, zrow_at, zrow_ne]
        refine Runs.mono hm (fun v2 h2 hv2 => ?_)
        obtain ⟨rfl, hg⟩ := hv2
        simp (decide := true) only [s205_446, s205_449, s205_450, zs_of, List.length_cons, List.length_nil, tl_some, tl_none, zrf_some, zdrop_i, zdrop_r, zdrop_q, zdrop_n, zdrop_l, i32_12, i32_1170, i32_2, i32_3, i32_5, i32_6, i32_8, i32_36, i32_200, Int32.reduceLE, Int32.reduceLT, Int32.reduceAdd, Int32.reduceSub, Int32.reduceMul, true_and, and_true, eq_self, true_or, or_true, not_true, not_false_iff, ↓reduceIte, zuo, zuA, zu_nk, zrow_at, zrow_ne]
        exact hnext h2 hg
      have b11 : Runs 205 451 [some (.ref 0), some (.ref 8), some (.ref 156), some (.int i)] [] (n, tg, ln, I, J, O) (LWQ n (k + 1)) := by
        simp (decide := true) only [s205_451, s205_451q, s205_452, s205_452q, s205_453, s205_454, s205_455, s205_456, s205_456q, s205_457, t0, l0, x1, x2, x3, x4, x5, S.t8, zs_of, List.length_cons, List.length_nil, tl_some, tl_none, zrf_some, zdrop_i, zdrop_r, zdrop_q, zdrop_n, zdrop_l, i32_12, i32_1170, i32_2, i32_3, i32_5, i32_6, i32_8, i32_36, i32_200, Int32.reduceLE, Int32.reduceLT, Int32.reduceAdd, Int32.reduceSub, Int32.reduceMul, true_and, and_true, eq_self, true_or, or_true, not_true, not_false_iff, ↓reduceIte, zuo, zuA, zu_nk, zrow_at, zrow_ne]
        refine Runs.mono (Runs.keep (both_fell hI)) (fun v h1 hv => ?_)
        obtain ⟨⟨x, rfl, hm⟩, hk1⟩ := hv
        obtain ⟨n1, tg1, ln1, I1, J1, O1⟩ := h1
        obtain ⟨y0, y1, y2, y3⟩ := kp hk1
        simp (decide := true) only [s205_460, s205_460q, s205_461, s205_461q, s205_462, s205_463, s205_464, s205_465, s205_465q, s205_466, y0, y1, y2, y3, x1, x2, x3, x4, x5, zs_of, List.length_cons, List.length_nil, tl_some, tl_none, zrf_some, zdrop_i, zdrop_r, zdrop_q, zdrop_n, zdrop_l, i32_12, i32_1170, i32_2, i32_3, i32_5, i32_6, i32_8, i32_36, i32_200, Int32.reduceLE, Int32.reduceLT, Int32.reduceAdd, Int32.reduceSub, Int32.reduceMul, true_and, and_true, eq_self, true_or, or_true, not_true, not_false_iff, ↓reduceIte, zuo, zuA, zu_nk, zrow_at, zrow_ne]
        refine Runs.mono hm (fun v2 h2 hv2 => ?_)
        obtain ⟨rfl, hg⟩ := hv2
        simp (decide := true) only [s205_469, s205_472, s205_473, zs_of, List.length_cons, List.length_nil, tl_some, tl_none, zrf_some, zdrop_i, zdrop_r, zdrop_q, zdrop_n, zdrop_l, i32_12, i32_1170, i32_2, i32_3, i32_5, i32_6, i32_8, i32_36, i32_200, Int32.reduceLE, Int32.reduceLT, Int32.reduceAdd, Int32.reduceSub, Int32.reduceMul, true_and, and_true, eq_self, true_or, or_true, not_true, not_false_iff, ↓reduceIte, zuo, zuA, zu_nk, zrow_at, zrow_ne]
        exact hnext h2 hg
      have b12 : Runs 205 474 [some (.ref 0), some (.ref 8), some (.ref 156), some (.int i)] [] (n, tg, ln, I, J, O) (LWQ n (k + 1)) := by
        simp (decide := true) only [s205_474, s205_474q, s205_475, s205_475q, s205_476, s205_477, s205_478, s205_479, s205_479q, s205_480, t0, l0, x1, x2, x3, x4, x5, S.t8, zs_of, List.length_cons, List.length_nil, tl_some, tl_none, zrf_some, zdrop_i, zdrop_r, zdrop_q, zdrop_n, zdrop_l, i32_12, i32_1170, i32_2, i32_3, i32_5, i32_6, i32_8, i32_36, i32_200, Int32.reduceLE, Int32.reduceLT, Int32.reduceAdd, Int32.reduceSub, Int32.reduceMul, true_and, and_true, eq_self, true_or, or_true, not_true, not_false_iff, ↓reduceIte, zuo, zuA, zu_nk, zrow_at, zrow_ne]
        refine Runs.mono (Runs.keep (both_law hI)) (fun v h1 hv => ?_)
        obtain ⟨⟨x, rfl, hm⟩, hk1⟩ := hv
        obtain ⟨n1, tg1, ln1, I1, J1, O1⟩ := h1
        obtain ⟨y0, y1, y2, y3⟩ := kp hk1
        simp (decide := true) only [s205_483, s205_483q, s205_484, s205_484q, s205_485, s205_486, s205_487, s205_488, s205_488q, s205_489, y0, y1, y2, y3, x1, x2, x3, x4, x5, zs_of, List.length_cons, List.length_nil, tl_some, tl_none, zrf_some, zdrop_i, zdrop_r, zdrop_q, zdrop_n, zdrop_l, i32_12, i32_1170, i32_2, i32_3, i32_5, i32_6, i32_8, i32_36, i32_200, Int32.reduceLE, Int32.reduceLT, Int32.reduceAdd, Int32.reduceSub, Int32.reduceMul, true_and, and_true, eq_self, true_or, or_true, not_true, not_false_iff, ↓reduceIte, zuo, zuA, zu_nk, zrow_at, zrow_ne]
        refine Runs.mono hm (fun v2 h2 hv2 => ?_)
        obtain ⟨rfl, hg⟩ := hv2
        simp (decide := true) only [s205_492, s205_495, s205_496, zs_of, List.length_cons, List.length_nil, tl_some, tl_none, zrf_some, zdrop_i, zdrop_r, zdrop_q, zdrop_n, zdrop_l, i32_12, i32_1170, i32_2, i32_3, i32_5, i32_6, i32_8, i32_36, i32_200, Int32.reduceLE, Int32.reduceLT, Int32.reduceAdd, Int32.reduceSub, Int32.reduceMul, true_and, and_true, eq_self, true_or, or_true, not_true, not_false_iff, ↓reduceIte, zuo, zuA, zu_nk, zrow_at, zrow_ne]
        exact hnext h2 hg
      have b13 : Runs 205 497 [some (.ref 0), some (.ref 8), some (.ref 156), some (.int i)] [] (n, tg, ln, I, J, O) (LWQ n (k + 1)) := by
        simp (decide := true) only [s205_497, s205_497q, s205_498, t0, l0, x1, x2, x3, x4, x5, S.t8, zs_of, List.length_cons, List.length_nil, tl_some, tl_none, zrf_some, zdrop_i, zdrop_r, zdrop_q, zdrop_n, zdrop_l, i32_12, i32_1170, i32_2, i32_3, i32_5, i32_6, i32_8, i32_36, i32_200, Int32.reduceLE, Int32.reduceLT, Int32.reduceAdd, Int32.reduceSub, Int32.reduceMul, true_and, and_true, eq_self, true_or, or_true, not_true, not_false_iff, ↓reduceIte, zuo, zuA, zu_nk, zrow_at, zrow_ne]
        refine Runs.mono (Runs.keep (both_undo hI)) (fun v h1 hv => ?_)
        obtain ⟨⟨x, rfl, hm⟩, hk1⟩ := hv
        obtain ⟨n1, tg1, ln1, I1, J1, O1⟩ := h1
        obtain ⟨y0, y1, y2, y3⟩ := kp hk1
        simp (decide := true) only [s205_501, s205_501q, s205_502, y0, y1, y2, y3, x1, x2, x3, x4, x5, zs_of, List.length_cons, List.length_nil, tl_some, tl_none, zrf_some, zdrop_i, zdrop_r, zdrop_q, zdrop_n, zdrop_l, i32_12, i32_1170, i32_2, i32_3, i32_5, i32_6, i32_8, i32_36, i32_200, Int32.reduceLE, Int32.reduceLT, Int32.reduceAdd, Int32.reduceSub, Int32.reduceMul, true_and, and_true, eq_self, true_or, or_true, not_true, not_false_iff, ↓reduceIte, zuo, zuA, zu_nk, zrow_at, zrow_ne]
        refine Runs.mono hm (fun v2 h2 hv2 => ?_)
        obtain ⟨rfl, hg⟩ := hv2
        simp (decide := true) only [s205_505, s205_508, s205_509, zs_of, List.length_cons, List.length_nil, tl_some, tl_none, zrf_some, zdrop_i, zdrop_r, zdrop_q, zdrop_n, zdrop_l, i32_12, i32_1170, i32_2, i32_3, i32_5, i32_6, i32_8, i32_36, i32_200, Int32.reduceLE, Int32.reduceLT, Int32.reduceAdd, Int32.reduceSub, Int32.reduceMul, true_and, and_true, eq_self, true_or, or_true, not_true, not_false_iff, ↓reduceIte, zuo, zuA, zu_nk, zrow_at, zrow_ne]
        exact hnext h2 hg
      have b14 : Runs 205 510 [some (.ref 0), some (.ref 8), some (.ref 156), some (.int i)] [] (n, tg, ln, I, J, O) (LWQ n (k + 1)) := by
        simp (decide := true) only [s205_510, s205_510q, s205_511, s205_511q, s205_512, s205_513, s205_514, s205_515, s205_515q, s205_516, t0, l0, x1, x2, x3, x4, x5, S.t8, zs_of, List.length_cons, List.length_nil, tl_some, tl_none, zrf_some, zdrop_i, zdrop_r, zdrop_q, zdrop_n, zdrop_l, i32_12, i32_1170, i32_2, i32_3, i32_5, i32_6, i32_8, i32_36, i32_200, Int32.reduceLE, Int32.reduceLT, Int32.reduceAdd, Int32.reduceSub, Int32.reduceMul, true_and, and_true, eq_self, true_or, or_true, not_true, not_false_iff, ↓reduceIte, zuo, zuA, zu_nk, zrow_at, zrow_ne]
        refine Runs.mono (Runs.keep (both_keep hI)) (fun v h1 hv => ?_)
        obtain ⟨⟨x, rfl, hm⟩, hk1⟩ := hv
        obtain ⟨n1, tg1, ln1, I1, J1, O1⟩ := h1
        obtain ⟨y0, y1, y2, y3⟩ := kp hk1
        simp (decide := true) only [s205_519, s205_519q, s205_520, s205_520q, s205_521, s205_522, s205_523, s205_524, s205_524q, s205_525, y0, y1, y2, y3, x1, x2, x3, x4, x5, zs_of, List.length_cons, List.length_nil, tl_some, tl_none, zrf_some, zdrop_i, zdrop_r, zdrop_q, zdrop_n, zdrop_l, i32_12, i32_1170, i32_2, i32_3, i32_5, i32_6, i32_8, i32_36, i32_200, Int32.reduceLE, Int32.reduceLT, Int32.reduceAdd, Int32.reduceSub, Int32.reduceMul, true_and, and_true, eq_self, true_or, or_true, not_true, not_false_iff, ↓reduceIte, zuo, zuA, zu_nk, zrow_at, zrow_ne]
        refine Runs.mono hm (fun v2 h2 hv2 => ?_)
        obtain ⟨rfl, hg⟩ := hv2
        simp (decide := true) only [s205_528, s205_531, s205_532, zs_of, List.length_cons, List.length_nil, tl_some, tl_none, zrf_some, zdrop_i, zdrop_r, zdrop_q, zdrop_n, zdrop_l, i32_12, i32_1170, i32_2, i32_3, i32_5, i32_6, i32_8, i32_36, i32_200, Int32.reduceLE, Int32.reduceLT, Int32.reduceAdd, Int32.reduceSub, Int32.reduceMul, true_and, and_true, eq_self, true_or, or_true, not_true, not_false_iff, ↓reduceIte, zuo, zuA, zu_nk, zrow_at, zrow_ne]
        exact hnext h2 hg
      have b15 : Runs 205 533 [some (.ref 0), some (.ref 8), some (.ref 156), some (.int i)] [] (n, tg, ln, I, J, O) (LWQ n (k + 1)) := by
        simp (decide := true) only [s205_533, s205_533q, s205_534, s205_534q, s205_535, s205_536, s205_537, s205_538, s205_538q, s205_539, t0, l0, x1, x2, x3, x4, x5, S.t8, zs_of, List.length_cons, List.length_nil, tl_some, tl_none, zrf_some, zdrop_i, zdrop_r, zdrop_q, zdrop_n, zdrop_l, i32_12, i32_1170, i32_2, i32_3, i32_5, i32_6, i32_8, i32_36, i32_200, Int32.reduceLE, Int32.reduceLT, Int32.reduceAdd, Int32.reduceSub, Int32.reduceMul, true_and, and_true, eq_self, true_or, or_true, not_true, not_false_iff, ↓reduceIte, zuo, zuA, zu_nk, zrow_at, zrow_ne]
        refine Runs.mono (Runs.keep (both_again hI)) (fun v h1 hv => ?_)
        obtain ⟨⟨x, rfl, hm⟩, hk1⟩ := hv
        obtain ⟨n1, tg1, ln1, I1, J1, O1⟩ := h1
        obtain ⟨y0, y1, y2, y3⟩ := kp hk1
        simp (decide := true) only [s205_542, s205_542q, s205_543, s205_543q, s205_544, s205_545, s205_546, s205_547, s205_547q, s205_548, y0, y1, y2, y3, x1, x2, x3, x4, x5, zs_of, List.length_cons, List.length_nil, tl_some, tl_none, zrf_some, zdrop_i, zdrop_r, zdrop_q, zdrop_n, zdrop_l, i32_12, i32_1170, i32_2, i32_3, i32_5, i32_6, i32_8, i32_36, i32_200, Int32.reduceLE, Int32.reduceLT, Int32.reduceAdd, Int32.reduceSub, Int32.reduceMul, true_and, and_true, eq_self, true_or, or_true, not_true, not_false_iff, ↓reduceIte, zuo, zuA, zu_nk, zrow_at, zrow_ne]
        refine Runs.mono hm (fun v2 h2 hv2 => ?_)
        obtain ⟨rfl, hg⟩ := hv2
        simp (decide := true) only [s205_551, s205_554, s205_555, zs_of, List.length_cons, List.length_nil, tl_some, tl_none, zrf_some, zdrop_i, zdrop_r, zdrop_q, zdrop_n, zdrop_l, i32_12, i32_1170, i32_2, i32_3, i32_5, i32_6, i32_8, i32_36, i32_200, Int32.reduceLE, Int32.reduceLT, Int32.reduceAdd, Int32.reduceSub, Int32.reduceMul, true_and, and_true, eq_self, true_or, or_true, not_true, not_false_iff, ↓reduceIte, zuo, zuA, zu_nk, zrow_at, zrow_ne]
        exact hnext h2 hg
      have b16 : Runs 205 556 [some (.ref 0), some (.ref 8), some (.ref 156), some (.int i)] [] (n, tg, ln, I, J, O) (LWQ n (k + 1)) := by
        simp (decide := true) only [s205_556, s205_556q, s205_557, s205_557q, s205_558, s205_559, s205_560, s205_561, s205_561q, s205_562, t0, l0, x1, x2, x3, x4, x5, S.t8, zs_of, List.length_cons, List.length_nil, tl_some, tl_none, zrf_some, zdrop_i, zdrop_r, zdrop_q, zdrop_n, zdrop_l, i32_12, i32_1170, i32_2, i32_3, i32_5, i32_6, i32_8, i32_36, i32_200, Int32.reduceLE, Int32.reduceLT, Int32.reduceAdd, Int32.reduceSub, Int32.reduceMul, true_and, and_true, eq_self, true_or, or_true, not_true, not_false_iff, ↓reduceIte, zuo, zuA, zu_nk, zrow_at, zrow_ne]
        refine Runs.mono (Runs.keep (both_when hI)) (fun v h1 hv => ?_)
        obtain ⟨⟨x, rfl, hm⟩, hk1⟩ := hv
        obtain ⟨n1, tg1, ln1, I1, J1, O1⟩ := h1
        obtain ⟨y0, y1, y2, y3⟩ := kp hk1
        simp (decide := true) only [s205_565, s205_565q, s205_566, s205_566q, s205_567, s205_568, s205_569, s205_570, s205_570q, s205_571, y0, y1, y2, y3, x1, x2, x3, x4, x5, zs_of, List.length_cons, List.length_nil, tl_some, tl_none, zrf_some, zdrop_i, zdrop_r, zdrop_q, zdrop_n, zdrop_l, i32_12, i32_1170, i32_2, i32_3, i32_5, i32_6, i32_8, i32_36, i32_200, Int32.reduceLE, Int32.reduceLT, Int32.reduceAdd, Int32.reduceSub, Int32.reduceMul, true_and, and_true, eq_self, true_or, or_true, not_true, not_false_iff, ↓reduceIte, zuo, zuA, zu_nk, zrow_at, zrow_ne]
        refine Runs.mono hm (fun v2 h2 hv2 => ?_)
        obtain ⟨rfl, hg⟩ := hv2
        simp (decide := true) only [s205_574, s205_577, s205_578, zs_of, List.length_cons, List.length_nil, tl_some, tl_none, zrf_some, zdrop_i, zdrop_r, zdrop_q, zdrop_n, zdrop_l, i32_12, i32_1170, i32_2, i32_3, i32_5, i32_6, i32_8, i32_36, i32_200, Int32.reduceLE, Int32.reduceLT, Int32.reduceAdd, Int32.reduceSub, Int32.reduceMul, true_and, and_true, eq_self, true_or, or_true, not_true, not_false_iff, ↓reduceIte, zuo, zuA, zu_nk, zrow_at, zrow_ne]
        exact hnext h2 hg
      have b17 : Runs 205 579 [some (.ref 0), some (.ref 8), some (.ref 156), some (.int i)] [] (n, tg, ln, I, J, O) (LWQ n (k + 1)) := by
        simp (decide := true) only [s205_579, s205_579q, s205_580, s205_580q, s205_581, s205_582, s205_583, s205_584, s205_584q, s205_585, s205_585q, s205_586, s205_587, s205_588, s205_589, s205_589q, s205_590, t0, l0, x1, x2, x3, x4, x5, S.t8, zs_of, List.length_cons, List.length_nil, tl_some, tl_none, zrf_some, zdrop_i, zdrop_r, zdrop_q, zdrop_n, zdrop_l, i32_12, i32_1170, i32_2, i32_3, i32_5, i32_6, i32_8, i32_36, i32_200, Int32.reduceLE, Int32.reduceLT, Int32.reduceAdd, Int32.reduceSub, Int32.reduceMul, true_and, and_true, eq_self, true_or, or_true, not_true, not_false_iff, ↓reduceIte, zuo, zuA, zu_nk, zrow_at, zrow_ne]
        refine Runs.mono (Runs.keep (both_where hI)) (fun v h1 hv => ?_)
        obtain ⟨⟨x, rfl, hm⟩, hk1⟩ := hv
        obtain ⟨n1, tg1, ln1, I1, J1, O1⟩ := h1
        obtain ⟨y0, y1, y2, y3⟩ := kp hk1
        simp (decide := true) only [s205_593, s205_593q, s205_594, s205_594q, s205_595, s205_596, s205_597, s205_598, s205_598q, s205_599, s205_599q, s205_600, s205_601, s205_602, s205_603, s205_603q, s205_604, y0, y1, y2, y3, x1, x2, x3, x4, x5, zs_of, List.length_cons, List.length_nil, tl_some, tl_none, zrf_some, zdrop_i, zdrop_r, zdrop_q, zdrop_n, zdrop_l, i32_12, i32_1170, i32_2, i32_3, i32_5, i32_6, i32_8, i32_36, i32_200, Int32.reduceLE, Int32.reduceLT, Int32.reduceAdd, Int32.reduceSub, Int32.reduceMul, true_and, and_true, eq_self, true_or, or_true, not_true, not_false_iff, ↓reduceIte, zuo, zuA, zu_nk, zrow_at, zrow_ne]
        refine Runs.mono hm (fun v2 h2 hv2 => ?_)
        obtain ⟨rfl, hg⟩ := hv2
        simp (decide := true) only [s205_607, s205_610, s205_611, zs_of, List.length_cons, List.length_nil, tl_some, tl_none, zrf_some, zdrop_i, zdrop_r, zdrop_q, zdrop_n, zdrop_l, i32_12, i32_1170, i32_2, i32_3, i32_5, i32_6, i32_8, i32_36, i32_200, Int32.reduceLE, Int32.reduceLT, Int32.reduceAdd, Int32.reduceSub, Int32.reduceMul, true_and, and_true, eq_self, true_or, or_true, not_true, not_false_iff, ↓reduceIte, zuo, zuA, zu_nk, zrow_at, zrow_ne]
        exact hnext h2 hg
      have b18 : Runs 205 612 [some (.ref 0), some (.ref 8), some (.ref 156), some (.int i)] [] (n, tg, ln, I, J, O) (LWQ n (k + 1)) := by
        simp (decide := true) only [s205_612, s205_612q, s205_613, s205_613q, s205_614, s205_615, s205_616, s205_617, s205_617q, s205_618, t0, l0, x1, x2, x3, x4, x5, S.t8, zs_of, List.length_cons, List.length_nil, tl_some, tl_none, zrf_some, zdrop_i, zdrop_r, zdrop_q, zdrop_n, zdrop_l, i32_12, i32_1170, i32_2, i32_3, i32_5, i32_6, i32_8, i32_36, i32_200, Int32.reduceLE, Int32.reduceLT, Int32.reduceAdd, Int32.reduceSub, Int32.reduceMul, true_and, and_true, eq_self, true_or, or_true, not_true, not_false_iff, ↓reduceIte, zuo, zuA, zu_nk, zrow_at, zrow_ne]
        refine Runs.mono (Runs.keep (both_next hI)) (fun v h1 hv => ?_)
        obtain ⟨⟨x, rfl, hm⟩, hk1⟩ := hv
        obtain ⟨n1, tg1, ln1, I1, J1, O1⟩ := h1
        obtain ⟨y0, y1, y2, y3⟩ := kp hk1
        simp (decide := true) only [s205_621, s205_621q, s205_622, s205_622q, s205_623, s205_624, s205_625, s205_626, s205_626q, s205_627, y0, y1, y2, y3, x1, x2, x3, x4, x5, zs_of, List.length_cons, List.length_nil, tl_some, tl_none, zrf_some, zdrop_i, zdrop_r, zdrop_q, zdrop_n, zdrop_l, i32_12, i32_1170, i32_2, i32_3, i32_5, i32_6, i32_8, i32_36, i32_200, Int32.reduceLE, Int32.reduceLT, Int32.reduceAdd, Int32.reduceSub, Int32.reduceMul, true_and, and_true, eq_self, true_or, or_true, not_true, not_false_iff, ↓reduceIte, zuo, zuA, zu_nk, zrow_at, zrow_ne]
        refine Runs.mono hm (fun v2 h2 hv2 => ?_)
        obtain ⟨rfl, hg⟩ := hv2
        simp (decide := true) only [s205_630, s205_633, s205_634, zs_of, List.length_cons, List.length_nil, tl_some, tl_none, zrf_some, zdrop_i, zdrop_r, zdrop_q, zdrop_n, zdrop_l, i32_12, i32_1170, i32_2, i32_3, i32_5, i32_6, i32_8, i32_36, i32_200, Int32.reduceLE, Int32.reduceLT, Int32.reduceAdd, Int32.reduceSub, Int32.reduceMul, true_and, and_true, eq_self, true_or, or_true, not_true, not_false_iff, ↓reduceIte, zuo, zuA, zu_nk, zrow_at, zrow_ne]
        exact hnext h2 hg
      have b19 : Runs 205 635 [some (.ref 0), some (.ref 8), some (.ref 156), some (.int i)] [] (n, tg, ln, I, J, O) (LWQ n (k + 1)) := by
        simp (decide := true) only [s205_635, s205_635q, s205_636, s205_636q, s205_637, s205_638, s205_639, s205_640, s205_640q, s205_641, s205_641q, s205_642, s205_643, s205_644, s205_645, s205_645q, s205_646, t0, l0, x1, x2, x3, x4, x5, S.t8, zs_of, List.length_cons, List.length_nil, tl_some, tl_none, zrf_some, zdrop_i, zdrop_r, zdrop_q, zdrop_n, zdrop_l, i32_12, i32_1170, i32_2, i32_3, i32_5, i32_6, i32_8, i32_36, i32_200, Int32.reduceLE, Int32.reduceLT, Int32.reduceAdd, Int32.reduceSub, Int32.reduceMul, true_and, and_true, eq_self, true_or, or_true, not_true, not_false_iff, ↓reduceIte, zuo, zuA, zu_nk, zrow_at, zrow_ne]
        refine Runs.mono (Runs.keep (both_best hI)) (fun v h1 hv => ?_)
        obtain ⟨⟨x, rfl, hm⟩, hk1⟩ := hv
        obtain ⟨n1, tg1, ln1, I1, J1, O1⟩ := h1
        obtain ⟨y0, y1, y2, y3⟩ := kp hk1
        simp (decide := true) only [s205_649, s205_649q, s205_650, s205_650q, s205_651, s205_652, s205_653, s205_654, s205_654q, s205_655, s205_655q, s205_656, s205_657, s205_658, s205_659, s205_659q, s205_660, y0, y1, y2, y3, x1, x2, x3, x4, x5, zs_of, List.length_cons, List.length_nil, tl_some, tl_none, zrf_some, zdrop_i, zdrop_r, zdrop_q, zdrop_n, zdrop_l, i32_12, i32_1170, i32_2, i32_3, i32_5, i32_6, i32_8, i32_36, i32_200, Int32.reduceLE, Int32.reduceLT, Int32.reduceAdd, Int32.reduceSub, Int32.reduceMul, true_and, and_true, eq_self, true_or, or_true, not_true, not_false_iff, ↓reduceIte, zuo, zuA, zu_nk, zrow_at, zrow_ne]
        refine Runs.mono hm (fun v2 h2 hv2 => ?_)
        obtain ⟨rfl, hg⟩ := hv2
        simp (decide := true) only [s205_663, s205_666, s205_667, zs_of, List.length_cons, List.length_nil, tl_some, tl_none, zrf_some, zdrop_i, zdrop_r, zdrop_q, zdrop_n, zdrop_l, i32_12, i32_1170, i32_2, i32_3, i32_5, i32_6, i32_8, i32_36, i32_200, Int32.reduceLE, Int32.reduceLT, Int32.reduceAdd, Int32.reduceSub, Int32.reduceMul, true_and, and_true, eq_self, true_or, or_true, not_true, not_false_iff, ↓reduceIte, zuo, zuA, zu_nk, zrow_at, zrow_ne]
        exact hnext h2 hg
      have b20 : Runs 205 668 [some (.ref 0), some (.ref 8), some (.ref 156), some (.int i)] [] (n, tg, ln, I, J, O) (LWQ n (k + 1)) := by
        simp (decide := true) only [s205_668, s205_668q, s205_669, s205_669q, s205_670, s205_671, s205_672, s205_673, s205_673q, s205_674, s205_674q, s205_675, s205_676, s205_677, s205_678, s205_678q, s205_679, t0, l0, x1, x2, x3, x4, x5, S.t8, zs_of, List.length_cons, List.length_nil, tl_some, tl_none, zrf_some, zdrop_i, zdrop_r, zdrop_q, zdrop_n, zdrop_l, i32_12, i32_1170, i32_2, i32_3, i32_5, i32_6, i32_8, i32_36, i32_200, Int32.reduceLE, Int32.reduceLT, Int32.reduceAdd, Int32.reduceSub, Int32.reduceMul, true_and, and_true, eq_self, true_or, or_true, not_true, not_false_iff, ↓reduceIte, zuo, zuA, zu_nk, zrow_at, zrow_ne]
        refine Runs.mono (Runs.keep (both_send hI)) (fun v h1 hv => ?_)
        obtain ⟨⟨x, rfl, hm⟩, hk1⟩ := hv
        obtain ⟨n1, tg1, ln1, I1, J1, O1⟩ := h1
        obtain ⟨y0, y1, y2, y3⟩ := kp hk1
        simp (decide := true) only [s205_682, s205_682q, s205_683, s205_683q, s205_684, s205_685, s205_686, s205_687, s205_687q, s205_688, s205_688q, s205_689, s205_690, s205_691, s205_692, s205_692q, s205_693, y0, y1, y2, y3, x1, x2, x3, x4, x5, zs_of, List.length_cons, List.length_nil, tl_some, tl_none, zrf_some, zdrop_i, zdrop_r, zdrop_q, zdrop_n, zdrop_l, i32_12, i32_1170, i32_2, i32_3, i32_5, i32_6, i32_8, i32_36, i32_200, Int32.reduceLE, Int32.reduceLT, Int32.reduceAdd, Int32.reduceSub, Int32.reduceMul, true_and, and_true, eq_self, true_or, or_true, not_true, not_false_iff, ↓reduceIte, zuo, zuA, zu_nk, zrow_at, zrow_ne]
        refine Runs.mono hm (fun v2 h2 hv2 => ?_)
        obtain ⟨rfl, hg⟩ := hv2
        simp (decide := true) only [s205_696, s205_699, s205_700, zs_of, List.length_cons, List.length_nil, tl_some, tl_none, zrf_some, zdrop_i, zdrop_r, zdrop_q, zdrop_n, zdrop_l, i32_12, i32_1170, i32_2, i32_3, i32_5, i32_6, i32_8, i32_36, i32_200, Int32.reduceLE, Int32.reduceLT, Int32.reduceAdd, Int32.reduceSub, Int32.reduceMul, true_and, and_true, eq_self, true_or, or_true, not_true, not_false_iff, ↓reduceIte, zuo, zuA, zu_nk, zrow_at, zrow_ne]
        exact hnext h2 hg
      have b21 : Runs 205 701 [some (.ref 0), some (.ref 8), some (.ref 156), some (.int i)] [] (n, tg, ln, I, J, O) (LWQ n (k + 1)) := by
        simp (decide := true) only [s205_701, s205_701q, s205_702, s205_702q, s205_703, s205_704, s205_705, s205_706, s205_706q, s205_707, t0, l0, x1, x2, x3, x4, x5, S.t8, zs_of, List.length_cons, List.length_nil, tl_some, tl_none, zrf_some, zdrop_i, zdrop_r, zdrop_q, zdrop_n, zdrop_l, i32_12, i32_1170, i32_2, i32_3, i32_5, i32_6, i32_8, i32_36, i32_200, Int32.reduceLE, Int32.reduceLT, Int32.reduceAdd, Int32.reduceSub, Int32.reduceMul, true_and, and_true, eq_self, true_or, or_true, not_true, not_false_iff, ↓reduceIte, zuo, zuA, zu_nk, zrow_at, zrow_ne]
        refine Runs.mono (Runs.keep (both_waits hI)) (fun v h1 hv => ?_)
        obtain ⟨⟨x, rfl, hm⟩, hk1⟩ := hv
        obtain ⟨n1, tg1, ln1, I1, J1, O1⟩ := h1
        obtain ⟨y0, y1, y2, y3⟩ := kp hk1
        simp (decide := true) only [s205_710, s205_710q, s205_711, s205_711q, s205_712, s205_713, s205_714, s205_715, s205_715q, s205_716, y0, y1, y2, y3, x1, x2, x3, x4, x5, zs_of, List.length_cons, List.length_nil, tl_some, tl_none, zrf_some, zdrop_i, zdrop_r, zdrop_q, zdrop_n, zdrop_l, i32_12, i32_1170, i32_2, i32_3, i32_5, i32_6, i32_8, i32_36, i32_200, Int32.reduceLE, Int32.reduceLT, Int32.reduceAdd, Int32.reduceSub, Int32.reduceMul, true_and, and_true, eq_self, true_or, or_true, not_true, not_false_iff, ↓reduceIte, zuo, zuA, zu_nk, zrow_at, zrow_ne]
        refine Runs.mono hm (fun v2 h2 hv2 => ?_)
        obtain ⟨rfl, hg⟩ := hv2
        simp (decide := true) only [s205_719, s205_722, s205_723, zs_of, List.length_cons, List.length_nil, tl_some, tl_none, zrf_some, zdrop_i, zdrop_r, zdrop_q, zdrop_n, zdrop_l, i32_12, i32_1170, i32_2, i32_3, i32_5, i32_6, i32_8, i32_36, i32_200, Int32.reduceLE, Int32.reduceLT, Int32.reduceAdd, Int32.reduceSub, Int32.reduceMul, true_and, and_true, eq_self, true_or, or_true, not_true, not_false_iff, ↓reduceIte, zuo, zuA, zu_nk, zrow_at, zrow_ne]
        exact hnext h2 hg
      have b22 : Runs 205 724 [some (.ref 0), some (.ref 8), some (.ref 156), some (.int i)] [] (n, tg, ln, I, J, O) (LWQ n (k + 1)) := by
        simp (decide := true) only [s205_724, s205_724q, s205_725, s205_725q, s205_726, s205_727, s205_728, s205_729, s205_729q, s205_730, s205_730q, s205_731, s205_732, s205_733, s205_734, s205_734q, s205_735, t0, l0, x1, x2, x3, x4, x5, S.t8, zs_of, List.length_cons, List.length_nil, tl_some, tl_none, zrf_some, zdrop_i, zdrop_r, zdrop_q, zdrop_n, zdrop_l, i32_12, i32_1170, i32_2, i32_3, i32_5, i32_6, i32_8, i32_36, i32_200, Int32.reduceLE, Int32.reduceLT, Int32.reduceAdd, Int32.reduceSub, Int32.reduceMul, true_and, and_true, eq_self, true_or, or_true, not_true, not_false_iff, ↓reduceIte, zuo, zuA, zu_nk, zrow_at, zrow_ne]
        refine Runs.mono (Runs.keep (both_seen hI)) (fun v h1 hv => ?_)
        obtain ⟨⟨x, rfl, hm⟩, hk1⟩ := hv
        obtain ⟨n1, tg1, ln1, I1, J1, O1⟩ := h1
        obtain ⟨y0, y1, y2, y3⟩ := kp hk1
        simp (decide := true) only [s205_738, s205_738q, s205_739, s205_739q, s205_740, s205_741, s205_742, s205_743, s205_743q, s205_744, s205_744q, s205_745, s205_746, s205_747, s205_748, s205_748q, s205_749, y0, y1, y2, y3, x1, x2, x3, x4, x5, zs_of, List.length_cons, List.length_nil, tl_some, tl_none, zrf_some, zdrop_i, zdrop_r, zdrop_q, zdrop_n, zdrop_l, i32_12, i32_1170, i32_2, i32_3, i32_5, i32_6, i32_8, i32_36, i32_200, Int32.reduceLE, Int32.reduceLT, Int32.reduceAdd, Int32.reduceSub, Int32.reduceMul, true_and, and_true, eq_self, true_or, or_true, not_true, not_false_iff, ↓reduceIte, zuo, zuA, zu_nk, zrow_at, zrow_ne]
        refine Runs.mono hm (fun v2 h2 hv2 => ?_)
        obtain ⟨rfl, hg⟩ := hv2
        simp (decide := true) only [s205_752, s205_755, s205_756, zs_of, List.length_cons, List.length_nil, tl_some, tl_none, zrf_some, zdrop_i, zdrop_r, zdrop_q, zdrop_n, zdrop_l, i32_12, i32_1170, i32_2, i32_3, i32_5, i32_6, i32_8, i32_36, i32_200, Int32.reduceLE, Int32.reduceLT, Int32.reduceAdd, Int32.reduceSub, Int32.reduceMul, true_and, and_true, eq_self, true_or, or_true, not_true, not_false_iff, ↓reduceIte, zuo, zuA, zu_nk, zrow_at, zrow_ne]
        exact hnext h2 hg
      have b23 : Runs 205 757 [some (.ref 0), some (.ref 8), some (.ref 156), some (.int i)] [] (n, tg, ln, I, J, O) (LWQ n (k + 1)) := by
        simp (decide := true) only [s205_757, s205_757q, s205_758, t0, l0, x1, x2, x3, x4, x5, S.t8, zs_of, List.length_cons, List.length_nil, tl_some, tl_none, zrf_some, zdrop_i, zdrop_r, zdrop_q, zdrop_n, zdrop_l, i32_12, i32_1170, i32_2, i32_3, i32_5, i32_6, i32_8, i32_36, i32_200, Int32.reduceLE, Int32.reduceLT, Int32.reduceAdd, Int32.reduceSub, Int32.reduceMul, true_and, and_true, eq_self, true_or, or_true, not_true, not_false_iff, ↓reduceIte, zuo, zuA, zu_nk, zrow_at, zrow_ne]
        refine Runs.mono (Runs.keep (both_forget hI)) (fun v h1 hv => ?_)
        obtain ⟨⟨x, rfl, hm⟩, hk1⟩ := hv
        obtain ⟨n1, tg1, ln1, I1, J1, O1⟩ := h1
        obtain ⟨y0, y1, y2, y3⟩ := kp hk1
        simp (decide := true) only [s205_761, s205_761q, s205_762, y0, y1, y2, y3, x1, x2, x3, x4, x5, zs_of, List.length_cons, List.length_nil, tl_some, tl_none, zrf_some, zdrop_i, zdrop_r, zdrop_q, zdrop_n, zdrop_l, i32_12, i32_1170, i32_2, i32_3, i32_5, i32_6, i32_8, i32_36, i32_200, Int32.reduceLE, Int32.reduceLT, Int32.reduceAdd, Int32.reduceSub, Int32.reduceMul, true_and, and_true, eq_self, true_or, or_true, not_true, not_false_iff, ↓reduceIte, zuo, zuA, zu_nk, zrow_at, zrow_ne]
        refine Runs.mono hm (fun v2 h2 hv2 => ?_)
        obtain ⟨rfl, hg⟩ := hv2
        simp (decide := true) only [s205_765, s205_768, s205_769, zs_of, List.length_cons, List.length_nil, tl_some, tl_none, zrf_some, zdrop_i, zdrop_r, zdrop_q, zdrop_n, zdrop_l, i32_12, i32_1170, i32_2, i32_3, i32_5, i32_6, i32_8, i32_36, i32_200, Int32.reduceLE, Int32.reduceLT, Int32.reduceAdd, Int32.reduceSub, Int32.reduceMul, true_and, and_true, eq_self, true_or, or_true, not_true, not_false_iff, ↓reduceIte, zuo, zuA, zu_nk, zrow_at, zrow_ne]
        exact hnext h2 hg
      have b24 : Runs 205 770 [some (.ref 0), some (.ref 8), some (.ref 156), some (.int i)] [] (n, tg, ln, I, J, O) (LWQ n (k + 1)) := by
        simp (decide := true) only [s205_770, s205_770q, s205_771, t0, l0, x1, x2, x3, x4, x5, S.t8, zs_of, List.length_cons, List.length_nil, tl_some, tl_none, zrf_some, zdrop_i, zdrop_r, zdrop_q, zdrop_n, zdrop_l, i32_12, i32_1170, i32_2, i32_3, i32_5, i32_6, i32_8, i32_36, i32_200, Int32.reduceLE, Int32.reduceLT, Int32.reduceAdd, Int32.reduceSub, Int32.reduceMul, true_and, and_true, eq_self, true_or, or_true, not_true, not_false_iff, ↓reduceIte, zuo, zuA, zu_nk, zrow_at, zrow_ne]
        refine Runs.mono (Runs.keep (both_laws hI)) (fun v h1 hv => ?_)
        obtain ⟨⟨x, rfl, hm⟩, hk1⟩ := hv
        obtain ⟨n1, tg1, ln1, I1, J1, O1⟩ := h1
        obtain ⟨y0, y1, y2, y3⟩ := kp hk1
        simp (decide := true) only [s205_774, s205_774q, s205_775, y0, y1, y2, y3, x1, x2, x3, x4, x5, zs_of, List.length_cons, List.length_nil, tl_some, tl_none, zrf_some, zdrop_i, zdrop_r, zdrop_q, zdrop_n, zdrop_l, i32_12, i32_1170, i32_2, i32_3, i32_5, i32_6, i32_8, i32_36, i32_200, Int32.reduceLE, Int32.reduceLT, Int32.reduceAdd, Int32.reduceSub, Int32.reduceMul, true_and, and_true, eq_self, true_or, or_true, not_true, not_false_iff, ↓reduceIte, zuo, zuA, zu_nk, zrow_at, zrow_ne]
        refine Runs.mono hm (fun v2 h2 hv2 => ?_)
        obtain ⟨rfl, hg⟩ := hv2
        simp (decide := true) only [s205_778, s205_781, s205_782, zs_of, List.length_cons, List.length_nil, tl_some, tl_none, zrf_some, zdrop_i, zdrop_r, zdrop_q, zdrop_n, zdrop_l, i32_12, i32_1170, i32_2, i32_3, i32_5, i32_6, i32_8, i32_36, i32_200, Int32.reduceLE, Int32.reduceLT, Int32.reduceAdd, Int32.reduceSub, Int32.reduceMul, true_and, and_true, eq_self, true_or, or_true, not_true, not_false_iff, ↓reduceIte, zuo, zuA, zu_nk, zrow_at, zrow_ne]
        exact hnext h2 hg
      have b25 : Runs 205 783 [some (.ref 0), some (.ref 8), some (.ref 156), some (.int i)] [] (n, tg, ln, I, J, O) (LWQ n (k + 1)) := by
        simp (decide := true) only [s205_783, s205_783q, s205_784, s205_784q, s205_785, s205_786, s205_787, s205_788, s205_788q, s205_789, t0, l0, x1, x2, x3, x4, x5, S.t8, zs_of, List.length_cons, List.length_nil, tl_some, tl_none, zrf_some, zdrop_i, zdrop_r, zdrop_q, zdrop_n, zdrop_l, i32_12, i32_1170, i32_2, i32_3, i32_5, i32_6, i32_8, i32_36, i32_200, Int32.reduceLE, Int32.reduceLT, Int32.reduceAdd, Int32.reduceSub, Int32.reduceMul, true_and, and_true, eq_self, true_or, or_true, not_true, not_false_iff, ↓reduceIte, zuo, zuA, zu_nk, zrow_at, zrow_ne]
        refine Runs.mono (Runs.keep (both_kinds hI)) (fun v h1 hv => ?_)
        obtain ⟨⟨x, rfl, hm⟩, hk1⟩ := hv
        obtain ⟨n1, tg1, ln1, I1, J1, O1⟩ := h1
        obtain ⟨y0, y1, y2, y3⟩ := kp hk1
        simp (decide := true) only [s205_792, s205_792q, s205_793, s205_793q, s205_794, s205_795, s205_796, s205_797, s205_797q, s205_798, y0, y1, y2, y3, x1, x2, x3, x4, x5, zs_of, List.length_cons, List.length_nil, tl_some, tl_none, zrf_some, zdrop_i, zdrop_r, zdrop_q, zdrop_n, zdrop_l, i32_12, i32_1170, i32_2, i32_3, i32_5, i32_6, i32_8, i32_36, i32_200, Int32.reduceLE, Int32.reduceLT, Int32.reduceAdd, Int32.reduceSub, Int32.reduceMul, true_and, and_true, eq_self, true_or, or_true, not_true, not_false_iff, ↓reduceIte, zuo, zuA, zu_nk, zrow_at, zrow_ne]
        refine Runs.mono hm (fun v2 h2 hv2 => ?_)
        obtain ⟨rfl, hg⟩ := hv2
        simp (decide := true) only [s205_801, s205_804, s205_805, zs_of, List.length_cons, List.length_nil, tl_some, tl_none, zrf_some, zdrop_i, zdrop_r, zdrop_q, zdrop_n, zdrop_l, i32_12, i32_1170, i32_2, i32_3, i32_5, i32_6, i32_8, i32_36, i32_200, Int32.reduceLE, Int32.reduceLT, Int32.reduceAdd, Int32.reduceSub, Int32.reduceMul, true_and, and_true, eq_self, true_or, or_true, not_true, not_false_iff, ↓reduceIte, zuo, zuA, zu_nk, zrow_at, zrow_ne]
        exact hnext h2 hg
      have b26 : Runs 205 806 [some (.ref 0), some (.ref 8), some (.ref 156), some (.int i)] [] (n, tg, ln, I, J, O) (LWQ n (k + 1)) := by
        simp (decide := true) only [s205_806, s205_806q, s205_807, s205_807q, s205_808, s205_809, s205_810, s205_811, s205_811q, s205_812, s205_812q, s205_813, s205_814, s205_815, s205_816, s205_816q, s205_817, s205_817q, s205_818, s205_819, s205_820, s205_821, s205_821q, s205_822, s205_822q, s205_823, s205_824, s205_825, s205_826, s205_826q, s205_827, t0, l0, x1, x2, x3, x4, x5, S.t8, zs_of, List.length_cons, List.length_nil, tl_some, tl_none, zrf_some, zdrop_i, zdrop_r, zdrop_q, zdrop_n, zdrop_l, i32_12, i32_1170, i32_2, i32_3, i32_5, i32_6, i32_8, i32_36, i32_200, Int32.reduceLE, Int32.reduceLT, Int32.reduceAdd, Int32.reduceSub, Int32.reduceMul, true_and, and_true, eq_self, true_or, or_true, not_true, not_false_iff, ↓reduceIte, zuo, zuA, zu_nk, zrow_at, zrow_ne]
        refine Runs.mono (Runs.keep (both_door hI)) (fun v h1 hv => ?_)
        obtain ⟨⟨x, rfl, hm⟩, hk1⟩ := hv
        obtain ⟨n1, tg1, ln1, I1, J1, O1⟩ := h1
        obtain ⟨y0, y1, y2, y3⟩ := kp hk1
        simp (decide := true) only [s205_830, s205_830q, s205_831, s205_831q, s205_832, s205_833, s205_834, s205_835, s205_835q, s205_836, s205_836q, s205_837, s205_838, s205_839, s205_840, s205_840q, s205_841, s205_841q, s205_842, s205_843, s205_844, s205_845, s205_845q, s205_846, s205_846q, s205_847, s205_848, s205_849, s205_850, s205_850q, s205_851, y0, y1, y2, y3, x1, x2, x3, x4, x5, zs_of, List.length_cons, List.length_nil, tl_some, tl_none, zrf_some, zdrop_i, zdrop_r, zdrop_q, zdrop_n, zdrop_l, i32_12, i32_1170, i32_2, i32_3, i32_5, i32_6, i32_8, i32_36, i32_200, Int32.reduceLE, Int32.reduceLT, Int32.reduceAdd, Int32.reduceSub, Int32.reduceMul, true_and, and_true, eq_self, true_or, or_true, not_true, not_false_iff, ↓reduceIte, zuo, zuA, zu_nk, zrow_at, zrow_ne]
        refine Runs.mono hm (fun v2 h2 hv2 => ?_)
        obtain ⟨rfl, hg⟩ := hv2
        simp (decide := true) only [s205_854, s205_857, s205_858, zs_of, List.length_cons, List.length_nil, tl_some, tl_none, zrf_some, zdrop_i, zdrop_r, zdrop_q, zdrop_n, zdrop_l, i32_12, i32_1170, i32_2, i32_3, i32_5, i32_6, i32_8, i32_36, i32_200, Int32.reduceLE, Int32.reduceLT, Int32.reduceAdd, Int32.reduceSub, Int32.reduceMul, true_and, and_true, eq_self, true_or, or_true, not_true, not_false_iff, ↓reduceIte, zuo, zuA, zu_nk, zrow_at, zrow_ne]
        exact hnext h2 hg
      have b27 : Runs 205 859 [some (.ref 0), some (.ref 8), some (.ref 156), some (.int i)] [] (n, tg, ln, I, J, O) (LWQ n (k + 1)) := by
        simp (decide := true) only [s205_859, s205_859q, s205_860, s205_860q, s205_861, s205_862, s205_863, s205_864, s205_864q, s205_865, s205_865q, s205_866, s205_867, s205_868, s205_869, s205_869q, s205_870, t0, l0, x1, x2, x3, x4, x5, S.t8, zs_of, List.length_cons, List.length_nil, tl_some, tl_none, zrf_some, zdrop_i, zdrop_r, zdrop_q, zdrop_n, zdrop_l, i32_12, i32_1170, i32_2, i32_3, i32_5, i32_6, i32_8, i32_36, i32_200, Int32.reduceLE, Int32.reduceLT, Int32.reduceAdd, Int32.reduceSub, Int32.reduceMul, true_and, and_true, eq_self, true_or, or_true, not_true, not_false_iff, ↓reduceIte, zuo, zuA, zu_nk, zrow_at, zrow_ne]
        refine Runs.mono (Runs.keep (both_bag hI)) (fun v h1 hv => ?_)
        obtain ⟨⟨x, rfl, hm⟩, hk1⟩ := hv
        obtain ⟨n1, tg1, ln1, I1, J1, O1⟩ := h1
        obtain ⟨y0, y1, y2, y3⟩ := kp hk1
        simp (decide := true) only [s205_873, s205_873q, s205_874, s205_874q, s205_875, s205_876, s205_877, s205_878, s205_878q, s205_879, s205_879q, s205_880, s205_881, s205_882, s205_883, s205_883q, s205_884, y0, y1, y2, y3, x1, x2, x3, x4, x5, zs_of, List.length_cons, List.length_nil, tl_some, tl_none, zrf_some, zdrop_i, zdrop_r, zdrop_q, zdrop_n, zdrop_l, i32_12, i32_1170, i32_2, i32_3, i32_5, i32_6, i32_8, i32_36, i32_200, Int32.reduceLE, Int32.reduceLT, Int32.reduceAdd, Int32.reduceSub, Int32.reduceMul, true_and, and_true, eq_self, true_or, or_true, not_true, not_false_iff, ↓reduceIte, zuo, zuA, zu_nk, zrow_at, zrow_ne]
        refine Runs.mono hm (fun v2 h2 hv2 => ?_)
        obtain ⟨rfl, hg⟩ := hv2
        simp (decide := true) only [s205_887, s205_890, s205_891, zs_of, List.length_cons, List.length_nil, tl_some, tl_none, zrf_some, zdrop_i, zdrop_r, zdrop_q, zdrop_n, zdrop_l, i32_12, i32_1170, i32_2, i32_3, i32_5, i32_6, i32_8, i32_36, i32_200, Int32.reduceLE, Int32.reduceLT, Int32.reduceAdd, Int32.reduceSub, Int32.reduceMul, true_and, and_true, eq_self, true_or, or_true, not_true, not_false_iff, ↓reduceIte, zuo, zuA, zu_nk, zrow_at, zrow_ne]
        exact hnext h2 hg
      have b28 : Runs 205 892 [some (.ref 0), some (.ref 8), some (.ref 156), some (.int i)] [] (n, tg, ln, I, J, O) (LWQ n (k + 1)) := by
        simp (decide := true) only [s205_892, s205_892q, s205_893, s205_893q, s205_894, s205_895, s205_896, s205_897, s205_897q, s205_898, s205_898q, s205_899, s205_900, s205_901, s205_902, s205_902q, s205_903, s205_903q, s205_904, s205_905, s205_906, s205_907, s205_907q, s205_908, s205_908q, s205_909, s205_910, s205_911, s205_912, s205_912q, s205_913, s205_914, s205_916, s205_917, s205_917q, s205_918, s205_919, s205_920, s205_921, s205_921q, s205_922, s205_923, s205_926, s205_927, s205_928, t0, l0, x1, x2, x3, x4, x5, S.t8, zs_of, List.length_cons, List.length_nil, tl_some, tl_none, zrf_some, zdrop_i, zdrop_r, zdrop_q, zdrop_n, zdrop_l, i32_12, i32_1170, i32_2, i32_3, i32_5, i32_6, i32_8, i32_36, i32_200, Int32.reduceLE, Int32.reduceLT, Int32.reduceAdd, Int32.reduceSub, Int32.reduceMul, true_and, and_true, eq_self, true_or, or_true, not_true, not_false_iff, ↓reduceIte, zuo, zuA, zu_nk, zrow_at, zrow_ne]
        refine Runs.mono (Runs.keep (both_hold hI)) (fun v h1 hv => ?_)
        obtain ⟨⟨x, rfl, hm⟩, hk1⟩ := hv
        obtain ⟨n1, tg1, ln1, I1, J1, O1⟩ := h1
        obtain ⟨y0, y1, y2, y3⟩ := kp hk1
        simp (decide := true) only [s205_931, s205_931q, s205_932, s205_932q, s205_933, s205_934, s205_935, s205_936, s205_936q, s205_937, s205_937q, s205_938, s205_939, s205_940, s205_941, s205_941q, s205_942, s205_942q, s205_943, s205_944, s205_945, s205_946, s205_946q, s205_947, s205_947q, s205_948, s205_949, s205_950, s205_951, s205_951q, s205_952, s205_953, s205_955, s205_956, s205_956q, s205_957, s205_958, s205_959, s205_960, s205_960q, s205_961, s205_962, s205_965, s205_966, s205_967, y0, y1, y2, y3, x1, x2, x3, x4, x5, zs_of, List.length_cons, List.length_nil, tl_some, tl_none, zrf_some, zdrop_i, zdrop_r, zdrop_q, zdrop_n, zdrop_l, i32_12, i32_1170, i32_2, i32_3, i32_5, i32_6, i32_8, i32_36, i32_200, Int32.reduceLE, Int32.reduceLT, Int32.reduceAdd, Int32.reduceSub, Int32.reduceMul, true_and, and_true, eq_self, true_or, or_true, not_true, not_false_iff, ↓reduceIte, zuo, zuA, zu_nk, zrow_at, zrow_ne]
        refine Runs.mono hm (fun v2 h2 hv2 => ?_)
        obtain ⟨rfl, hg⟩ := hv2
        simp (decide := true) only [s205_970, s205_973, s205_974, zs_of, List.length_cons, List.length_nil, tl_some, tl_none, zrf_some, zdrop_i, zdrop_r, zdrop_q, zdrop_n, zdrop_l, i32_12, i32_1170, i32_2, i32_3, i32_5, i32_6, i32_8, i32_36, i32_200, Int32.reduceLE, Int32.reduceLT, Int32.reduceAdd, Int32.reduceSub, Int32.reduceMul, true_and, and_true, eq_self, true_or, or_true, not_true, not_false_iff, ↓reduceIte, zuo, zuA, zu_nk, zrow_at, zrow_ne]
        exact hnext h2 hg
      have b29 : Runs 205 975 [some (.ref 0), some (.ref 8), some (.ref 156), some (.int i)] [] (n, tg, ln, I, J, O) (LWQ n (k + 1)) := by
        simp (decide := true) only [s205_975, s205_975q, s205_976, s205_976q, s205_977, s205_978, s205_979, s205_980, s205_980q, s205_981, s205_981q, s205_982, s205_983, s205_984, s205_985, s205_985q, s205_986, t0, l0, x1, x2, x3, x4, x5, S.t8, zs_of, List.length_cons, List.length_nil, tl_some, tl_none, zrf_some, zdrop_i, zdrop_r, zdrop_q, zdrop_n, zdrop_l, i32_12, i32_1170, i32_2, i32_3, i32_5, i32_6, i32_8, i32_36, i32_200, Int32.reduceLE, Int32.reduceLT, Int32.reduceAdd, Int32.reduceSub, Int32.reduceMul, true_and, and_true, eq_self, true_or, or_true, not_true, not_false_iff, ↓reduceIte, zuo, zuA, zu_nk, zrow_at, zrow_ne]
        refine Runs.mono (Runs.keep (both_wrap hI)) (fun v h1 hv => ?_)
        obtain ⟨⟨x, rfl, hm⟩, hk1⟩ := hv
        obtain ⟨n1, tg1, ln1, I1, J1, O1⟩ := h1
        obtain ⟨y0, y1, y2, y3⟩ := kp hk1
        simp (decide := true) only [s205_989, s205_989q, s205_990, s205_990q, s205_991, s205_992, s205_993, s205_994, s205_994q, s205_995, s205_995q, s205_996, s205_997, s205_998, s205_999, s205_999q, s205_1000, y0, y1, y2, y3, x1, x2, x3, x4, x5, zs_of, List.length_cons, List.length_nil, tl_some, tl_none, zrf_some, zdrop_i, zdrop_r, zdrop_q, zdrop_n, zdrop_l, i32_12, i32_1170, i32_2, i32_3, i32_5, i32_6, i32_8, i32_36, i32_200, Int32.reduceLE, Int32.reduceLT, Int32.reduceAdd, Int32.reduceSub, Int32.reduceMul, true_and, and_true, eq_self, true_or, or_true, not_true, not_false_iff, ↓reduceIte, zuo, zuA, zu_nk, zrow_at, zrow_ne]
        refine Runs.mono hm (fun v2 h2 hv2 => ?_)
        obtain ⟨rfl, hg⟩ := hv2
        simp (decide := true) only [s205_1003, s205_1006, s205_1007, zs_of, List.length_cons, List.length_nil, tl_some, tl_none, zrf_some, zdrop_i, zdrop_r, zdrop_q, zdrop_n, zdrop_l, i32_12, i32_1170, i32_2, i32_3, i32_5, i32_6, i32_8, i32_36, i32_200, Int32.reduceLE, Int32.reduceLT, Int32.reduceAdd, Int32.reduceSub, Int32.reduceMul, true_and, and_true, eq_self, true_or, or_true, not_true, not_false_iff, ↓reduceIte, zuo, zuA, zu_nk, zrow_at, zrow_ne]
        exact hnext h2 hg
      have b30 : Runs 205 1008 [some (.ref 0), some (.ref 8), some (.ref 156), some (.int i)] [] (n, tg, ln, I, J, O) (LWQ n (k + 1)) := by
        simp (decide := true) only [s205_1008, s205_1008q, s205_1009, s205_1009q, s205_1010, s205_1011, s205_1012, s205_1013, s205_1013q, s205_1014, s205_1014q, s205_1015, s205_1016, s205_1017, s205_1018, s205_1018q, s205_1019, t0, l0, x1, x2, x3, x4, x5, S.t8, zs_of, List.length_cons, List.length_nil, tl_some, tl_none, zrf_some, zdrop_i, zdrop_r, zdrop_q, zdrop_n, zdrop_l, i32_12, i32_1170, i32_2, i32_3, i32_5, i32_6, i32_8, i32_36, i32_200, Int32.reduceLE, Int32.reduceLT, Int32.reduceAdd, Int32.reduceSub, Int32.reduceMul, true_and, and_true, eq_self, true_or, or_true, not_true, not_false_iff, ↓reduceIte, zuo, zuA, zu_nk, zrow_at, zrow_ne]
        refine Runs.mono (Runs.keep (both_open hI)) (fun v h1 hv => ?_)
        obtain ⟨⟨x, rfl, hm⟩, hk1⟩ := hv
        obtain ⟨n1, tg1, ln1, I1, J1, O1⟩ := h1
        obtain ⟨y0, y1, y2, y3⟩ := kp hk1
        simp (decide := true) only [s205_1022, s205_1022q, s205_1023, s205_1023q, s205_1024, s205_1025, s205_1026, s205_1027, s205_1027q, s205_1028, s205_1028q, s205_1029, s205_1030, s205_1031, s205_1032, s205_1032q, s205_1033, y0, y1, y2, y3, x1, x2, x3, x4, x5, zs_of, List.length_cons, List.length_nil, tl_some, tl_none, zrf_some, zdrop_i, zdrop_r, zdrop_q, zdrop_n, zdrop_l, i32_12, i32_1170, i32_2, i32_3, i32_5, i32_6, i32_8, i32_36, i32_200, Int32.reduceLE, Int32.reduceLT, Int32.reduceAdd, Int32.reduceSub, Int32.reduceMul, true_and, and_true, eq_self, true_or, or_true, not_true, not_false_iff, ↓reduceIte, zuo, zuA, zu_nk, zrow_at, zrow_ne]
        refine Runs.mono hm (fun v2 h2 hv2 => ?_)
        obtain ⟨rfl, hg⟩ := hv2
        simp (decide := true) only [s205_1036, s205_1039, s205_1040, zs_of, List.length_cons, List.length_nil, tl_some, tl_none, zrf_some, zdrop_i, zdrop_r, zdrop_q, zdrop_n, zdrop_l, i32_12, i32_1170, i32_2, i32_3, i32_5, i32_6, i32_8, i32_36, i32_200, Int32.reduceLE, Int32.reduceLT, Int32.reduceAdd, Int32.reduceSub, Int32.reduceMul, true_and, and_true, eq_self, true_or, or_true, not_true, not_false_iff, ↓reduceIte, zuo, zuA, zu_nk, zrow_at, zrow_ne]
        exact hnext h2 hg
      have b31 : Runs 205 1041 [some (.ref 0), some (.ref 8), some (.ref 156), some (.int i)] [] (n, tg, ln, I, J, O) (LWQ n (k + 1)) := by
        simp (decide := true) only [s205_1041, s205_1041q, s205_1042, s205_1042q, s205_1043, s205_1044, s205_1045, s205_1046, s205_1046q, s205_1047, s205_1047q, s205_1048, s205_1049, s205_1050, s205_1051, s205_1051q, s205_1052, s205_1052q, s205_1053, s205_1054, s205_1055, s205_1056, s205_1056q, s205_1057, t0, l0, x1, x2, x3, x4, x5, S.t8, zs_of, List.length_cons, List.length_nil, tl_some, tl_none, zrf_some, zdrop_i, zdrop_r, zdrop_q, zdrop_n, zdrop_l, i32_12, i32_1170, i32_2, i32_3, i32_5, i32_6, i32_8, i32_36, i32_200, Int32.reduceLE, Int32.reduceLT, Int32.reduceAdd, Int32.reduceSub, Int32.reduceMul, true_and, and_true, eq_self, true_or, or_true, not_true, not_false_iff, ↓reduceIte, zuo, zuA, zu_nk, zrow_at, zrow_ne]
        refine Runs.mono (Runs.keep (both_held hI)) (fun v h1 hv => ?_)
        obtain ⟨⟨x, rfl, hm⟩, hk1⟩ := hv
        obtain ⟨n1, tg1, ln1, I1, J1, O1⟩ := h1
        obtain ⟨y0, y1, y2, y3⟩ := kp hk1
        simp (decide := true) only [s205_1060, s205_1060q, s205_1061, s205_1061q, s205_1062, s205_1063, s205_1064, s205_1065, s205_1065q, s205_1066, s205_1066q, s205_1067, s205_1068, s205_1069, s205_1070, s205_1070q, s205_1071, s205_1071q, s205_1072, s205_1073, s205_1074, s205_1075, s205_1075q, s205_1076, y0, y1, y2, y3, x1, x2, x3, x4, x5, zs_of, List.length_cons, List.length_nil, tl_some, tl_none, zrf_some, zdrop_i, zdrop_r, zdrop_q, zdrop_n, zdrop_l, i32_12, i32_1170, i32_2, i32_3, i32_5, i32_6, i32_8, i32_36, i32_200, Int32.reduceLE, Int32.reduceLT, Int32.reduceAdd, Int32.reduceSub, Int32.reduceMul, true_and, and_true, eq_self, true_or, or_true, not_true, not_false_iff, ↓reduceIte, zuo, zuA, zu_nk, zrow_at, zrow_ne]
        refine Runs.mono hm (fun v2 h2 hv2 => ?_)
        obtain ⟨rfl, hg⟩ := hv2
        simp (decide := true) only [s205_1079, s205_1082, s205_1083, zs_of, List.length_cons, List.length_nil, tl_some, tl_none, zrf_some, zdrop_i, zdrop_r, zdrop_q, zdrop_n, zdrop_l, i32_12, i32_1170, i32_2, i32_3, i32_5, i32_6, i32_8, i32_36, i32_200, Int32.reduceLE, Int32.reduceLT, Int32.reduceAdd, Int32.reduceSub, Int32.reduceMul, true_and, and_true, eq_self, true_or, or_true, not_true, not_false_iff, ↓reduceIte, zuo, zuA, zu_nk, zrow_at, zrow_ne]
        exact hnext h2 hg
      have b32 : Runs 205 1084 [some (.ref 0), some (.ref 8), some (.ref 156), some (.int i)] [] (n, tg, ln, I, J, O) (LWQ n (k + 1)) := by
        simp (decide := true) only [s205_1084, s205_1084q, s205_1085, s205_1085q, s205_1086, s205_1087, s205_1088, s205_1089, s205_1089q, s205_1090, s205_1090q, s205_1091, s205_1092, s205_1093, s205_1094, s205_1094q, s205_1095, s205_1095q, s205_1096, s205_1097, s205_1098, s205_1099, s205_1099q, s205_1100, s205_1100q, s205_1101, s205_1102, s205_1103, s205_1104, s205_1104q, s205_1105, s205_1105q, s205_1106, s205_1107, s205_1108, s205_1109, s205_1109q, s205_1110, t0, l0, x1, x2, x3, x4, x5, S.t8, zs_of, List.length_cons, List.length_nil, tl_some, tl_none, zrf_some, zdrop_i, zdrop_r, zdrop_q, zdrop_n, zdrop_l, i32_12, i32_1170, i32_2, i32_3, i32_5, i32_6, i32_8, i32_36, i32_200, Int32.reduceLE, Int32.reduceLT, Int32.reduceAdd, Int32.reduceSub, Int32.reduceMul, true_and, and_true, eq_self, true_or, or_true, not_true, not_false_iff, ↓reduceIte, zuo, zuA, zu_nk, zrow_at, zrow_ne]
        refine Runs.mono (Runs.keep (both_move hI)) (fun v h1 hv => ?_)
        obtain ⟨⟨x, rfl, hm⟩, hk1⟩ := hv
        obtain ⟨n1, tg1, ln1, I1, J1, O1⟩ := h1
        obtain ⟨y0, y1, y2, y3⟩ := kp hk1
        simp (decide := true) only [s205_1113, s205_1113q, s205_1114, s205_1114q, s205_1115, s205_1116, s205_1117, s205_1118, s205_1118q, s205_1119, s205_1119q, s205_1120, s205_1121, s205_1122, s205_1123, s205_1123q, s205_1124, s205_1124q, s205_1125, s205_1126, s205_1127, s205_1128, s205_1128q, s205_1129, s205_1129q, s205_1130, s205_1131, s205_1132, s205_1133, s205_1133q, s205_1134, s205_1134q, s205_1135, s205_1136, s205_1137, s205_1138, s205_1138q, s205_1139, y0, y1, y2, y3, x1, x2, x3, x4, x5, zs_of, List.length_cons, List.length_nil, tl_some, tl_none, zrf_some, zdrop_i, zdrop_r, zdrop_q, zdrop_n, zdrop_l, i32_12, i32_1170, i32_2, i32_3, i32_5, i32_6, i32_8, i32_36, i32_200, Int32.reduceLE, Int32.reduceLT, Int32.reduceAdd, Int32.reduceSub, Int32.reduceMul, true_and, and_true, eq_self, true_or, or_true, not_true, not_false_iff, ↓reduceIte, zuo, zuA, zu_nk, zrow_at, zrow_ne]
        refine Runs.mono hm (fun v2 h2 hv2 => ?_)
        obtain ⟨rfl, hg⟩ := hv2
        simp (decide := true) only [s205_1142, s205_1145, s205_1146, zs_of, List.length_cons, List.length_nil, tl_some, tl_none, zrf_some, zdrop_i, zdrop_r, zdrop_q, zdrop_n, zdrop_l, i32_12, i32_1170, i32_2, i32_3, i32_5, i32_6, i32_8, i32_36, i32_200, Int32.reduceLE, Int32.reduceLT, Int32.reduceAdd, Int32.reduceSub, Int32.reduceMul, true_and, and_true, eq_self, true_or, or_true, not_true, not_false_iff, ↓reduceIte, zuo, zuA, zu_nk, zrow_at, zrow_ne]
        exact hnext h2 hg
      have b33 : Runs 205 1147 [some (.ref 0), some (.ref 8), some (.ref 156), some (.int i)] [] (n, tg, ln, I, J, O) (LWQ n (k + 1)) := by
        simp (decide := true) only [s205_1147, s205_1147q, s205_1148, s205_1148q, s205_1149, s205_1150, s205_1151, s205_1152, s205_1152q, s205_1153, t0, l0, x1, x2, x3, x4, x5, S.t8, zs_of, List.length_cons, List.length_nil, tl_some, tl_none, zrf_some, zdrop_i, zdrop_r, zdrop_q, zdrop_n, zdrop_l, i32_12, i32_1170, i32_2, i32_3, i32_5, i32_6, i32_8, i32_36, i32_200, Int32.reduceLE, Int32.reduceLT, Int32.reduceAdd, Int32.reduceSub, Int32.reduceMul, true_and, and_true, eq_self, true_or, or_true, not_true, not_false_iff, ↓reduceIte, zuo, zuA, zu_nk, zrow_at, zrow_ne]
        refine Runs.mono (Runs.keep (both_drop hI)) (fun v h1 hv => ?_)
        obtain ⟨⟨x, rfl, hm⟩, hk1⟩ := hv
        obtain ⟨n1, tg1, ln1, I1, J1, O1⟩ := h1
        obtain ⟨y0, y1, y2, y3⟩ := kp hk1
        simp (decide := true) only [s205_1156, s205_1156q, s205_1157, s205_1157q, s205_1158, s205_1159, s205_1160, s205_1161, s205_1161q, s205_1162, y0, y1, y2, y3, x1, x2, x3, x4, x5, zs_of, List.length_cons, List.length_nil, tl_some, tl_none, zrf_some, zdrop_i, zdrop_r, zdrop_q, zdrop_n, zdrop_l, i32_12, i32_1170, i32_2, i32_3, i32_5, i32_6, i32_8, i32_36, i32_200, Int32.reduceLE, Int32.reduceLT, Int32.reduceAdd, Int32.reduceSub, Int32.reduceMul, true_and, and_true, eq_self, true_or, or_true, not_true, not_false_iff, ↓reduceIte, zuo, zuA, zu_nk, zrow_at, zrow_ne]
        refine Runs.mono hm (fun v2 h2 hv2 => ?_)
        obtain ⟨rfl, hg⟩ := hv2
        simp (decide := true) only [s205_1165, s205_1168, s205_1169, zs_of, List.length_cons, List.length_nil, tl_some, tl_none, zrf_some, zdrop_i, zdrop_r, zdrop_q, zdrop_n, zdrop_l, i32_12, i32_1170, i32_2, i32_3, i32_5, i32_6, i32_8, i32_36, i32_200, Int32.reduceLE, Int32.reduceLT, Int32.reduceAdd, Int32.reduceSub, Int32.reduceMul, true_and, and_true, eq_self, true_or, or_true, not_true, not_false_iff, ↓reduceIte, zuo, zuA, zu_nk, zrow_at, zrow_ne]
        exact hnext h2 hg
      have b34 : Runs 205 1170 [some (.ref 0), some (.ref 8), some (.ref 156), some (.int i)] [] (n, tg, ln, I, J, O) (LWQ n (k + 1)) := by
        simp (decide := true) only [s205_1170, s205_1170q, s205_1171, s205_1171q, s205_1172, s205_1173, s205_1174, s205_1175, s205_1175q, s205_1176, t0, l0, x1, x2, x3, x4, x5, S.t8, zs_of, List.length_cons, List.length_nil, tl_some, tl_none, zrf_some, zdrop_i, zdrop_r, zdrop_q, zdrop_n, zdrop_l, i32_12, i32_1170, i32_2, i32_3, i32_5, i32_6, i32_8, i32_36, i32_200, Int32.reduceLE, Int32.reduceLT, Int32.reduceAdd, Int32.reduceSub, Int32.reduceMul, true_and, and_true, eq_self, true_or, or_true, not_true, not_false_iff, ↓reduceIte, zuo, zuA, zu_nk, zrow_at, zrow_ne]
        refine Runs.mono (Runs.keep (both_count hI)) (fun v h1 hv => ?_)
        obtain ⟨⟨x, rfl, hm⟩, hk1⟩ := hv
        obtain ⟨n1, tg1, ln1, I1, J1, O1⟩ := h1
        obtain ⟨y0, y1, y2, y3⟩ := kp hk1
        simp (decide := true) only [s205_1179, s205_1179q, s205_1180, s205_1180q, s205_1181, s205_1182, s205_1183, s205_1184, s205_1184q, s205_1185, y0, y1, y2, y3, x1, x2, x3, x4, x5, zs_of, List.length_cons, List.length_nil, tl_some, tl_none, zrf_some, zdrop_i, zdrop_r, zdrop_q, zdrop_n, zdrop_l, i32_12, i32_1170, i32_2, i32_3, i32_5, i32_6, i32_8, i32_36, i32_200, Int32.reduceLE, Int32.reduceLT, Int32.reduceAdd, Int32.reduceSub, Int32.reduceMul, true_and, and_true, eq_self, true_or, or_true, not_true, not_false_iff, ↓reduceIte, zuo, zuA, zu_nk, zrow_at, zrow_ne]
        refine Runs.mono hm (fun v2 h2 hv2 => ?_)
        obtain ⟨rfl, hg⟩ := hv2
        simp (decide := true) only [s205_1188, s205_1191, s205_1192, zs_of, List.length_cons, List.length_nil, tl_some, tl_none, zrf_some, zdrop_i, zdrop_r, zdrop_q, zdrop_n, zdrop_l, i32_12, i32_1170, i32_2, i32_3, i32_5, i32_6, i32_8, i32_36, i32_200, Int32.reduceLE, Int32.reduceLT, Int32.reduceAdd, Int32.reduceSub, Int32.reduceMul, true_and, and_true, eq_self, true_or, or_true, not_true, not_false_iff, ↓reduceIte, zuo, zuA, zu_nk, zrow_at, zrow_ne]
        exact hnext h2 hg
      have bd : Runs 205 1193 [some (.ref 0), some (.ref 8), some (.ref 156), some (.int i)] [] (n, tg, ln, I, J, O) (LWQ n (k + 1)) := hnext _ (GOOD.of hI rfl)
      rw [s205_18]
      simp (decide := true) only [s205_19, s205_19q, s205_20, s205_21, s205_23, s205_24, s205_27, s205_27q, s205_28, s205_29, s205_29q, s205_30, s205_32, t02, t0, l0, x0, c, zs_of, List.length_cons, List.length_nil, tl_some, tl_none, zrf_some, zdrop_i, zdrop_r, zdrop_q, zdrop_n, zdrop_l, i32_12, i32_1170, i32_2, i32_3, i32_5, i32_6, i32_8, i32_36, i32_200, Int32.reduceLE, Int32.reduceLT, Int32.reduceAdd, Int32.reduceSub, Int32.reduceMul, true_and, and_true, eq_self, true_or, or_true, not_true, not_false_iff, ↓reduceIte, zuo, zuA, zu_nk, zrow_at, zrow_ne]
      rw [s205_33]
      exact ite_both b0 (ite_both b1 (ite_both b2 (ite_both b3 (ite_both b4 (ite_both b5 (ite_both b6 (ite_both b7 (ite_both b8 (ite_both b9 (ite_both b10 (ite_both b11 (ite_both b12 (ite_both b13 (ite_both b14 (ite_both b15 (ite_both b16 (ite_both b17 (ite_both b18 (ite_both b19 (ite_both b20 (ite_both b21 (ite_both b22 (ite_both b23 (ite_both b24 (ite_both b25 (ite_both b26 (ite_both b27 (ite_both b28 (ite_both b29 (ite_both b30 (ite_both b31 (ite_both b32 (ite_both b33 (ite_both b34 (bd)))))))))))))))))))))))))))))))))))
end LAW
