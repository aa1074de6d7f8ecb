/-! THE LAW -/
theorem ite_both {c : Prop} {d : Decidable c} {A B : Prop} (ha : A) (hb : B) : if c then A else B := by
  by_cases h : c
  · rw [if_pos h]; exact ha
  · rw [if_neg h]; exact hb
theorem lw_n {L : Nat} (hL : L ≤ 3072) : (Int32.ofNat L).toInt = (L : Int) := nI_toInt (by omega)
theorem lw_sub {L : Nat} (hL : L ≤ 3072) : (Int32.ofNat L - 6).toInt = (L : Int) - 6 := by
  rw [Int32.toInt_sub, lw_n hL, show (6 : Int32).toInt = 6 by decide]
  exact Int.bmod_eq_of_le (by simp; omega) (by simp; omega)
theorem lw_add {i j : Int32} (h0 : 0 ≤ i.toInt) (h : i.toInt ≤ 4000) (j0 : 0 ≤ j.toInt) (j1 : j.toInt ≤ 6) : (i + j).toInt = i.toInt + j.toInt := by
  rw [Int32.toInt_add]
  exact Int.bmod_eq_of_le (by simp; omega) (by simp; omega)
theorem lw_ix {L : Nat} {i j : Int32} (hL : L ≤ 3072) (h0 : 0 ≤ i.toInt) (h : i.toInt + 6 ≤ (L : Int)) (j0 : 0 ≤ j.toInt) (j1 : j.toInt ≤ 5) : 0 ≤ i + j ∧ i + j < Int32.ofNat L := by
  rw [i32_nn, Int32.lt_iff_toInt_lt, lw_n hL, lw_add h0 (by omega) j0 (by omega)]
  omega
section LAW
variable {n : Nat} {tg ln : Nat → Nat} {I : Nat → Int32 → Int32} {J : Nat → Int32 → Int64} {O : Nat → Int32 → Option Nat}
/-- the law's runs: it answers 1, and makes no more than a cell a call -/
def LWQ (n k : Nat) (v : Option Value) (h : ZH) : Prop := v = some (.int 1) ∧ h.1 ≤ n + k
set_option maxHeartbeats 8000000 in
theorem law_loop {L : Nat} (hL : L ≤ 3072) : ∀ (k : Nat) (i : Int32) (n : Nat) (tg ln : Nat → Nat) (I : Nat → Int32 → Int32) (J : Nat → Int32 → Int64) (O : Nat → Int32 → Option Nat), INV n tg ln I J O → tg 0 = 30 → ln 0 = L → 0 ≤ i.toInt → i.toInt ≤ 4000 → (L : Int) - 6 - i.toInt < 6 * (k : Nat) → Runs 206 18 [some (.ref 0), some (.ref 8), some (.ref 166), some (.int i)] [] (n, tg, ln, I, J, O) (LWQ n k) := by
  intro k
  induction k with
  | zero =>
    intro i n tg ln I J O hI t0 l0 i0 i1 hk
    have c : Int32.ofNat L - 6 < i := Int32.lt_iff_toInt_lt.mpr (by rw [lw_sub hL]; omega)
    have t02 : tg 0 = 20 ∨ tg 0 = 30 := Or.inr t0
    rw [s206_18]
    simp (decide := true) only [s206_19, s206_19q, s206_20, s206_21, s206_23, s206_24, s206_27, s206_27q, s206_1199, s206_1200, t02, l0, c, zs_of, List.length_cons, List.length_nil, tl_some, tl_none, zrf_some, zdrop_i, zdrop_r, zdrop_q, zdrop_n, zdrop_l, i32_12, i32_1170, i32_2, i32_3, i32_5, i32_6, i32_8, i32_36, i32_200, Int32.reduceLE, Int32.reduceLT, Int32.reduceAdd, Int32.reduceSub, Int32.reduceMul, true_and, and_true, eq_self, true_or, or_true, not_true, not_false_iff, ↓reduceIte, zuo, zuA, zu_nk, zrow_at, zrow_ne]
    exact ⟨rfl, Nat.le_refl _⟩
  | succ k ih =>
    intro i n tg ln I J O hI t0 l0 i0 i1 hk
    have S := hI.S
    have hn := hI.1.2
    have t02 : tg 0 = 20 ∨ tg 0 = 30 := Or.inr t0
    by_cases c : Int32.ofNat L - 6 < i
    · rw [s206_18]
      simp (decide := true) only [s206_19, s206_19q, s206_20, s206_21, s206_23, s206_24, s206_27, s206_27q, s206_1199, s206_1200, t02, l0, c, zs_of, List.length_cons, List.length_nil, tl_some, tl_none, zrf_some, zdrop_i, zdrop_r, zdrop_q, zdrop_n, zdrop_l, i32_12, i32_1170, i32_2, i32_3, i32_5, i32_6, i32_8, i32_36, i32_200, Int32.reduceLE, Int32.reduceLT, Int32.reduceAdd, Int32.reduceSub, Int32.reduceMul, true_and, and_true, eq_self, true_or, or_true, not_true, not_false_iff, ↓reduceIte, zuo, zuA, zu_nk, zrow_at, zrow_ne]
      exact ⟨rfl, Nat.le_add_right _ _⟩
    · have c2 : i.toInt + 6 ≤ (L : Int) := by
        have := mt Int32.lt_iff_toInt_lt.mpr c
        rw [lw_sub hL] at this
        omega
      have x0 : 0 ≤ i ∧ i < Int32.ofNat L := by
        have := @lw_ix L i 0 hL i0 c2 (by decide) (by decide)
        rwa [i32_add0] at this
      have x1 := @lw_ix L i 1 hL i0 c2 (by decide) (by decide)
      have x2 := @lw_ix L i 2 hL i0 c2 (by decide) (by decide)
      have x3 := @lw_ix L i 3 hL i0 c2 (by decide) (by decide)
      have x4 := @lw_ix L i 4 hL i0 c2 (by decide) (by decide)
      have x5 := @lw_ix L i 5 hL i0 c2 (by decide) (by decide)
      have hnext : ∀ h2, GOOD n tg ln I h2 → Runs 206 1193 [some (.ref 0), some (.ref 8), some (.ref 166), some (.int i)] [] h2 (LWQ n (k + 1)) := by
        rintro ⟨n2, tg2, ln2, I2, J2, O2⟩ ⟨g1, ⟨g2, g3⟩, g4, g5, g6⟩
        dsimp only at g1 g2 g3 g4 g5 g6
        have e6 : (i + 6).toInt = i.toInt + 6 := lw_add i0 i1 (by decide) (by decide)
        have := ih (i + 6) n2 tg2 ln2 I2 J2 O2 g1 (g4.trans t0) (g5.trans l0) (by rw [e6]; omega) (by rw [e6]; omega) (by rw [e6]; omega)
        simp (decide := true) only [s206_1193, s206_1196, zs_of, List.length_cons, List.length_nil, tl_some, tl_none, zrf_some, zdrop_i, zdrop_r, zdrop_q, zdrop_n, zdrop_l, i32_12, i32_1170, i32_2, i32_3, i32_5, i32_6, i32_8, i32_36, i32_200, Int32.reduceLE, Int32.reduceLT, Int32.reduceAdd, Int32.reduceSub, Int32.reduceMul, true_and, and_true, eq_self, true_or, or_true, not_true, not_false_iff, ↓reduceIte, zuo, zuA, zu_nk, zrow_at, zrow_ne]
        exact this.mono (fun v h hv => ⟨hv.1, Nat.le_trans hv.2 (by omega)⟩)
      have kp : ∀ {n1 : Nat} {tg1 ln1 : Nat → Nat} {I1 : Nat → Int32 → Int32} {J1 : Nat → Int32 → Int64} {O1 : Nat → Int32 → Option Nat}, KEEP (n, tg, ln, I, J, O) (n1, tg1, ln1, I1, J1, O1) → tg1 0 = 30 ∧ ln1 0 = L ∧ I1 0 = I 0 ∧ tg1 166 = 10 := fun {n1 tg1 ln1 I1 J1 O1} hk => by
        obtain ⟨-, hk⟩ := hk
        obtain ⟨a1, a2, a3⟩ := hk 0 (Nat.lt_of_lt_of_le (by decide) hn)
        obtain ⟨b1, -, -⟩ := hk 166 (Nat.lt_of_lt_of_le (by decide) hn)
        dsimp only at a1 a2 a3 b1
        exact ⟨a1.trans t0, a2.trans l0, a3 t0, b1.trans S.t166⟩
      have b0 : Runs 206 188 [some (.ref 0), some (.ref 8), some (.ref 166), some (.int i)] [] (n, tg, ln, I, J, O) (LWQ n (k + 1)) := by
        simp (decide := true) only [s206_188, s206_188q, s206_189, s206_189q, s206_190, s206_191, s206_192, s206_193, s206_193q, s206_194, t0, l0, x1, x2, x3, x4, x5, S.t8, zs_of, List.length_cons, List.length_nil, tl_some, tl_none, zrf_some, zdrop_i, zdrop_r, zdrop_q, zdrop_n, zdrop_l, i32_12, i32_1170, i32_2, i32_3, i32_5, i32_6, i32_8, i32_36, i32_200, Int32.reduceLE, Int32.reduceLT, Int32.reduceAdd, Int32.reduceSub, Int32.reduceMul, true_and, and_true, eq_self, true_or, or_true, not_true, not_false_iff, ↓reduceIte, zuo, zuA, zu_nk, zrow_at, zrow_ne]
        refine Runs.mono (Runs.keep (both_write hI)) (fun v h1 hv => ?_)
        obtain ⟨⟨x, rfl, hm⟩, hk1⟩ := hv
        obtain ⟨n1, tg1, ln1, I1, J1, O1⟩ := h1
        obtain ⟨y0, y1, y2, y3⟩ := kp hk1
        simp (decide := true) only [s206_197, s206_197q, s206_198, s206_198q, s206_199, s206_200, s206_201, s206_202, s206_202q, s206_203, y0, y1, y2, y3, x1, x2, x3, x4, x5, zs_of, List.length_cons, List.length_nil, tl_some, tl_none, zrf_some, zdrop_i, zdrop_r, zdrop_q, zdrop_n, zdrop_l, i32_12, i32_1170, i32_2, i32_3, i32_5, i32_6, i32_8, i32_36, i32_200, Int32.reduceLE, Int32.reduceLT, Int32.reduceAdd, Int32.reduceSub, Int32.reduceMul, true_and, and_true, eq_self, true_or, or_true, not_true, not_false_iff, ↓reduceIte, zuo, zuA, zu_nk, zrow_at, zrow_ne]
        refine Runs.mono hm (fun v2 h2 hv2 => ?_)
        obtain ⟨rfl, hg⟩ := hv2
        simp (decide := true) only [s206_206, s206_209, s206_210, zs_of, List.length_cons, List.length_nil, tl_some, tl_none, zrf_some, zdrop_i, zdrop_r, zdrop_q, zdrop_n, zdrop_l, i32_12, i32_1170, i32_2, i32_3, i32_5, i32_6, i32_8, i32_36, i32_200, Int32.reduceLE, Int32.reduceLT, Int32.reduceAdd, Int32.reduceSub, Int32.reduceMul, true_and, and_true, eq_self, true_or, or_true, not_true, not_false_iff, ↓reduceIte, zuo, zuA, zu_nk, zrow_at, zrow_ne]
        exact hnext h2 hg
      have b1 : Runs 206 211 [some (.ref 0), some (.ref 8), some (.ref 166), some (.int i)] [] (n, tg, ln, I, J, O) (LWQ n (k + 1)) := by
        simp (decide := true) only [s206_211, s206_211q, s206_212, t0, l0, x1, x2, x3, x4, x5, S.t8, zs_of, List.length_cons, List.length_nil, tl_some, tl_none, zrf_some, zdrop_i, zdrop_r, zdrop_q, zdrop_n, zdrop_l, i32_12, i32_1170, i32_2, i32_3, i32_5, i32_6, i32_8, i32_36, i32_200, Int32.reduceLE, Int32.reduceLT, Int32.reduceAdd, Int32.reduceSub, Int32.reduceMul, true_and, and_true, eq_self, true_or, or_true, not_true, not_false_iff, ↓reduceIte, zuo, zuA, zu_nk, zrow_at, zrow_ne]
        refine Runs.mono (Runs.keep (both_erase hI)) (fun v h1 hv => ?_)
        obtain ⟨⟨x, rfl, hm⟩, hk1⟩ := hv
        obtain ⟨n1, tg1, ln1, I1, J1, O1⟩ := h1
        obtain ⟨y0, y1, y2, y3⟩ := kp hk1
        simp (decide := true) only [s206_215, s206_215q, s206_216, y0, y1, y2, y3, x1, x2, x3, x4, x5, zs_of, List.length_cons, List.length_nil, tl_some, tl_none, zrf_some, zdrop_i, zdrop_r, zdrop_q, zdrop_n, zdrop_l, i32_12, i32_1170, i32_2, i32_3, i32_5, i32_6, i32_8, i32_36, i32_200, Int32.reduceLE, Int32.reduceLT, Int32.reduceAdd, Int32.reduceSub, Int32.reduceMul, true_and, and_true, eq_self, true_or, or_true, not_true, not_false_iff, ↓reduceIte, zuo, zuA, zu_nk, zrow_at, zrow_ne]
        refine Runs.mono hm (fun v2 h2 hv2 => ?_)
        obtain ⟨rfl, hg⟩ := hv2
        simp (decide := true) only [s206_219, s206_222, s206_223, zs_of, List.length_cons, List.length_nil, tl_some, tl_none, zrf_some, zdrop_i, zdrop_r, zdrop_q, zdrop_n, zdrop_l, i32_12, i32_1170, i32_2, i32_3, i32_5, i32_6, i32_8, i32_36, i32_200, Int32.reduceLE, Int32.reduceLT, Int32.reduceAdd, Int32.reduceSub, Int32.reduceMul, true_and, and_true, eq_self, true_or, or_true, not_true, not_false_iff, ↓reduceIte, zuo, zuA, zu_nk, zrow_at, zrow_ne]
        exact hnext h2 hg
      have b2 : Runs 206 224 [some (.ref 0), some (.ref 8), some (.ref 166), some (.int i)] [] (n, tg, ln, I, J, O) (LWQ n (k + 1)) := by
        simp (decide := true) only [s206_224, s206_224q, s206_225, t0, l0, x1, x2, x3, x4, x5, S.t8, zs_of, List.length_cons, List.length_nil, tl_some, tl_none, zrf_some, zdrop_i, zdrop_r, zdrop_q, zdrop_n, zdrop_l, i32_12, i32_1170, i32_2, i32_3, i32_5, i32_6, i32_8, i32_36, i32_200, Int32.reduceLE, Int32.reduceLT, Int32.reduceAdd, Int32.reduceSub, Int32.reduceMul, true_and, and_true, eq_self, true_or, or_true, not_true, not_false_iff, ↓reduceIte, zuo, zuA, zu_nk, zrow_at, zrow_ne]
        refine Runs.mono (Runs.keep (both_fault hI)) (fun v h1 hv => ?_)
        obtain ⟨⟨x, rfl, hm⟩, hk1⟩ := hv
        obtain ⟨n1, tg1, ln1, I1, J1, O1⟩ := h1
        obtain ⟨y0, y1, y2, y3⟩ := kp hk1
        simp (decide := true) only [s206_228, s206_228q, s206_229, y0, y1, y2, y3, x1, x2, x3, x4, x5, zs_of, List.length_cons, List.length_nil, tl_some, tl_none, zrf_some, zdrop_i, zdrop_r, zdrop_q, zdrop_n, zdrop_l, i32_12, i32_1170, i32_2, i32_3, i32_5, i32_6, i32_8, i32_36, i32_200, Int32.reduceLE, Int32.reduceLT, Int32.reduceAdd, Int32.reduceSub, Int32.reduceMul, true_and, and_true, eq_self, true_or, or_true, not_true, not_false_iff, ↓reduceIte, zuo, zuA, zu_nk, zrow_at, zrow_ne]
        refine Runs.mono hm (fun v2 h2 hv2 => ?_)
        obtain ⟨rfl, hg⟩ := hv2
        simp (decide := true) only [s206_232, s206_235, s206_236, zs_of, List.length_cons, List.length_nil, tl_some, tl_none, zrf_some, zdrop_i, zdrop_r, zdrop_q, zdrop_n, zdrop_l, i32_12, i32_1170, i32_2, i32_3, i32_5, i32_6, i32_8, i32_36, i32_200, Int32.reduceLE, Int32.reduceLT, Int32.reduceAdd, Int32.reduceSub, Int32.reduceMul, true_and, and_true, eq_self, true_or, or_true, not_true, not_false_iff, ↓reduceIte, zuo, zuA, zu_nk, zrow_at, zrow_ne]
        exact hnext h2 hg
      have b3 : Runs 206 237 [some (.ref 0), some (.ref 8), some (.ref 166), some (.int i)] [] (n, tg, ln, I, J, O) (LWQ n (k + 1)) := by
        simp (decide := true) only [s206_237, s206_237q, s206_238, t0, l0, x1, x2, x3, x4, x5, S.t8, zs_of, List.length_cons, List.length_nil, tl_some, tl_none, zrf_some, zdrop_i, zdrop_r, zdrop_q, zdrop_n, zdrop_l, i32_12, i32_1170, i32_2, i32_3, i32_5, i32_6, i32_8, i32_36, i32_200, Int32.reduceLE, Int32.reduceLT, Int32.reduceAdd, Int32.reduceSub, Int32.reduceMul, true_and, and_true, eq_self, true_or, or_true, not_true, not_false_iff, ↓reduceIte, zuo, zuA, zu_nk, zrow_at, zrow_ne]
        refine Runs.mono (Runs.keep (both_plain hI)) (fun v h1 hv => ?_)
        obtain ⟨⟨x, rfl, hm⟩, hk1⟩ := hv
        obtain ⟨n1, tg1, ln1, I1, J1, O1⟩ := h1
        obtain ⟨y0, y1, y2, y3⟩ := kp hk1
        simp (decide := true) only [s206_241, s206_241q, s206_242, y0, y1, y2, y3, x1, x2, x3, x4, x5, zs_of, List.length_cons, List.length_nil, tl_some, tl_none, zrf_some, zdrop_i, zdrop_r, zdrop_q, zdrop_n, zdrop_l, i32_12, i32_1170, i32_2, i32_3, i32_5, i32_6, i32_8, i32_36, i32_200, Int32.reduceLE, Int32.reduceLT, Int32.reduceAdd, Int32.reduceSub, Int32.reduceMul, true_and, and_true, eq_self, true_or, or_true, not_true, not_false_iff, ↓reduceIte, zuo, zuA, zu_nk, zrow_at, zrow_ne]
        refine Runs.mono hm (fun v2 h2 hv2 => ?_)
        obtain ⟨rfl, hg⟩ := hv2
        simp (decide := true) only [s206_245, s206_248, s206_249, zs_of, List.length_cons, List.length_nil, tl_some, tl_none, zrf_some, zdrop_i, zdrop_r, zdrop_q, zdrop_n, zdrop_l, i32_12, i32_1170, i32_2, i32_3, i32_5, i32_6, i32_8, i32_36, i32_200, Int32.reduceLE, Int32.reduceLT, Int32.reduceAdd, Int32.reduceSub, Int32.reduceMul, true_and, and_true, eq_self, true_or, or_true, not_true, not_false_iff, ↓reduceIte, zuo, zuA, zu_nk, zrow_at, zrow_ne]
        exact hnext h2 hg
      have b4 : Runs 206 250 [some (.ref 0), some (.ref 8), some (.ref 166), some (.int i)] [] (n, tg, ln, I, J, O) (LWQ n (k + 1)) := by
        simp (decide := true) only [s206_250, s206_250q, s206_251, s206_251q, s206_252, s206_253, s206_254, s206_255, s206_255q, s206_256, s206_256q, s206_257, s206_258, s206_259, s206_260, s206_260q, s206_261, t0, l0, x1, x2, x3, x4, x5, S.t8, zs_of, List.length_cons, List.length_nil, tl_some, tl_none, zrf_some, zdrop_i, zdrop_r, zdrop_q, zdrop_n, zdrop_l, i32_12, i32_1170, i32_2, i32_3, i32_5, i32_6, i32_8, i32_36, i32_200, Int32.reduceLE, Int32.reduceLT, Int32.reduceAdd, Int32.reduceSub, Int32.reduceMul, true_and, and_true, eq_self, true_or, or_true, not_true, not_false_iff, ↓reduceIte, zuo, zuA, zu_nk, zrow_at, zrow_ne]
        refine Runs.mono (Runs.keep (both_tree hI)) (fun v h1 hv => ?_)
        obtain ⟨⟨x, rfl, hm⟩, hk1⟩ := hv
        obtain ⟨n1, tg1, ln1, I1, J1, O1⟩ := h1
        obtain ⟨y0, y1, y2, y3⟩ := kp hk1
        simp (decide := true) only [s206_264, s206_264q, s206_265, s206_265q, s206_266, s206_267, s206_268, s206_269, s206_269q, s206_270, s206_270q, s206_271, s206_272, s206_273, s206_274, s206_274q, s206_275, y0, y1, y2, y3, x1, x2, x3, x4, x5, zs_of, List.length_cons, List.length_nil, tl_some, tl_none, zrf_some, zdrop_i, zdrop_r, zdrop_q, zdrop_n, zdrop_l, i32_12, i32_1170, i32_2, i32_3, i32_5, i32_6, i32_8, i32_36, i32_200, Int32.reduceLE, Int32.reduceLT, Int32.reduceAdd, Int32.reduceSub, Int32.reduceMul, true_and, and_true, eq_self, true_or, or_true, not_true, not_false_iff, ↓reduceIte, zuo, zuA, zu_nk, zrow_at, zrow_ne]
        refine Runs.mono hm (fun v2 h2 hv2 => ?_)
        obtain ⟨rfl, hg⟩ := hv2
        simp (decide := true) only [s206_278, s206_281, s206_282, zs_of, List.length_cons, List.length_nil, tl_some, tl_none, zrf_some, zdrop_i, zdrop_r, zdrop_q, zdrop_n, zdrop_l, i32_12, i32_1170, i32_2, i32_3, i32_5, i32_6, i32_8, i32_36, i32_200, Int32.reduceLE, Int32.reduceLT, Int32.reduceAdd, Int32.reduceSub, Int32.reduceMul, true_and, and_true, eq_self, true_or, or_true, not_true, not_false_iff, ↓reduceIte, zuo, zuA, zu_nk, zrow_at, zrow_ne]
        exact hnext h2 hg
      have b5 : Runs 206 283 [some (.ref 0), some (.ref 8), some (.ref 166), some (.int i)] [] (n, tg, ln, I, J, O) (LWQ n (k + 1)) := by
        simp (decide := true) only [s206_283, s206_283q, s206_284, s206_284q, s206_285, s206_286, s206_287, s206_288, s206_288q, s206_289, s206_289q, s206_290, s206_291, s206_292, s206_293, s206_293q, s206_294, t0, l0, x1, x2, x3, x4, x5, S.t8, zs_of, List.length_cons, List.length_nil, tl_some, tl_none, zrf_some, zdrop_i, zdrop_r, zdrop_q, zdrop_n, zdrop_l, i32_12, i32_1170, i32_2, i32_3, i32_5, i32_6, i32_8, i32_36, i32_200, Int32.reduceLE, Int32.reduceLT, Int32.reduceAdd, Int32.reduceSub, Int32.reduceMul, true_and, and_true, eq_self, true_or, or_true, not_true, not_false_iff, ↓reduceIte, zuo, zuA, zu_nk, zrow_at, zrow_ne]
        refine Runs.mono (Runs.keep (both_at hI)) (fun v h1 hv => ?_)
        obtain ⟨⟨x, rfl, hm⟩, hk1⟩ := hv
        obtain ⟨n1, tg1, ln1, I1, J1, O1⟩ := h1
        obtain ⟨y0, y1, y2, y3⟩ := kp hk1
        simp (decide := true) only [s206_297, s206_297q, s206_298, s206_298q, s206_299, s206_300, s206_301, s206_302, s206_302q, s206_303, s206_303q, s206_304, s206_305, s206_306, s206_307, s206_307q, s206_308, y0, y1, y2, y3, x1, x2, x3, x4, x5, zs_of, List.length_cons, List.length_nil, tl_some, tl_none, zrf_some, zdrop_i, zdrop_r, zdrop_q, zdrop_n, zdrop_l, i32_12, i32_1170, i32_2, i32_3, i32_5, i32_6, i32_8, i32_36, i32_200, Int32.reduceLE, Int32.reduceLT, Int32.reduceAdd, Int32.reduceSub, Int32.reduceMul, true_and, and_true, eq_self, true_or, or_true, not_true, not_false_iff, ↓reduceIte, zuo, zuA, zu_nk, zrow_at, zrow_ne]
        refine Runs.mono hm (fun v2 h2 hv2 => ?_)
        obtain ⟨rfl, hg⟩ := hv2
        simp (decide := true) only [s206_311, s206_314, s206_315, zs_of, List.length_cons, List.length_nil, tl_some, tl_none, zrf_some, zdrop_i, zdrop_r, zdrop_q, zdrop_n, zdrop_l, i32_12, i32_1170, i32_2, i32_3, i32_5, i32_6, i32_8, i32_36, i32_200, Int32.reduceLE, Int32.reduceLT, Int32.reduceAdd, Int32.reduceSub, Int32.reduceMul, true_and, and_true, eq_self, true_or, or_true, not_true, not_false_iff, ↓reduceIte, zuo, zuA, zu_nk, zrow_at, zrow_ne]
        exact hnext h2 hg
      have b6 : Runs 206 316 [some (.ref 0), some (.ref 8), some (.ref 166), some (.int i)] [] (n, tg, ln, I, J, O) (LWQ n (k + 1)) := by
        simp (decide := true) only [s206_316, s206_316q, s206_317, s206_317q, s206_318, s206_319, s206_320, s206_321, s206_321q, s206_322, s206_322q, s206_323, s206_324, s206_325, s206_326, s206_326q, s206_327, t0, l0, x1, x2, x3, x4, x5, S.t8, zs_of, List.length_cons, List.length_nil, tl_some, tl_none, zrf_some, zdrop_i, zdrop_r, zdrop_q, zdrop_n, zdrop_l, i32_12, i32_1170, i32_2, i32_3, i32_5, i32_6, i32_8, i32_36, i32_200, Int32.reduceLE, Int32.reduceLT, Int32.reduceAdd, Int32.reduceSub, Int32.reduceMul, true_and, and_true, eq_self, true_or, or_true, not_true, not_false_iff, ↓reduceIte, zuo, zuA, zu_nk, zrow_at, zrow_ne]
        refine Runs.mono (Runs.keep (both_as hI)) (fun v h1 hv => ?_)
        obtain ⟨⟨x, rfl, hm⟩, hk1⟩ := hv
        obtain ⟨n1, tg1, ln1, I1, J1, O1⟩ := h1
        obtain ⟨y0, y1, y2, y3⟩ := kp hk1
        simp (decide := true) only [s206_330, s206_330q, s206_331, s206_331q, s206_332, s206_333, s206_334, s206_335, s206_335q, s206_336, s206_336q, s206_337, s206_338, s206_339, s206_340, s206_340q, s206_341, y0, y1, y2, y3, x1, x2, x3, x4, x5, zs_of, List.length_cons, List.length_nil, tl_some, tl_none, zrf_some, zdrop_i, zdrop_r, zdrop_q, zdrop_n, zdrop_l, i32_12, i32_1170, i32_2, i32_3, i32_5, i32_6, i32_8, i32_36, i32_200, Int32.reduceLE, Int32.reduceLT, Int32.reduceAdd, Int32.reduceSub, Int32.reduceMul, true_and, and_true, eq_self, true_or, or_true, not_true, not_false_iff, ↓reduceIte, zuo, zuA, zu_nk, zrow_at, zrow_ne]
        refine Runs.mono hm (fun v2 h2 hv2 => ?_)
        obtain ⟨rfl, hg⟩ := hv2
        simp (decide := true) only [s206_344, s206_347, s206_348, zs_of, List.length_cons, List.length_nil, tl_some, tl_none, zrf_some, zdrop_i, zdrop_r, zdrop_q, zdrop_n, zdrop_l, i32_12, i32_1170, i32_2, i32_3, i32_5, i32_6, i32_8, i32_36, i32_200, Int32.reduceLE, Int32.reduceLT, Int32.reduceAdd, Int32.reduceSub, Int32.reduceMul, true_and, and_true, eq_self, true_or, or_true, not_true, not_false_iff, ↓reduceIte, zuo, zuA, zu_nk, zrow_at, zrow_ne]
        exact hnext h2 hg
      have b7 : Runs 206 349 [some (.ref 0), some (.ref 8), some (.ref 166), some (.int i)] [] (n, tg, ln, I, J, O) (LWQ n (k + 1)) := by
        simp (decide := true) only [s206_349, s206_349q, s206_350, t0, l0, x1, x2, x3, x4, x5, S.t8, zs_of, List.length_cons, List.length_nil, tl_some, tl_none, zrf_some, zdrop_i, zdrop_r, zdrop_q, zdrop_n, zdrop_l, i32_12, i32_1170, i32_2, i32_3, i32_5, i32_6, i32_8, i32_36, i32_200, Int32.reduceLE, Int32.reduceLT, Int32.reduceAdd, Int32.reduceSub, Int32.reduceMul, true_and, and_true, eq_self, true_or, or_true, not_true, not_false_iff, ↓reduceIte, zuo, zuA, zu_nk, zrow_at, zrow_ne]
        refine Runs.mono (Runs.keep (both_night hI)) (fun v h1 hv => ?_)
        obtain ⟨⟨x, rfl, hm⟩, hk1⟩ := hv
        obtain ⟨n1, tg1, ln1, I1, J1, O1⟩ := h1
        obtain ⟨y0, y1, y2, y3⟩ := kp hk1
        simp (decide := true) only [s206_353, s206_353q, s206_354, y0, y1, y2, y3, x1, x2, x3, x4, x5, zs_of, List.length_cons, List.length_nil, tl_some, tl_none, zrf_some, zdrop_i, zdrop_r, zdrop_q, zdrop_n, zdrop_l, i32_12, i32_1170, i32_2, i32_3, i32_5, i32_6, i32_8, i32_36, i32_200, Int32.reduceLE, Int32.reduceLT, Int32.reduceAdd, Int32.reduceSub, Int32.reduceMul, true_and, and_true, eq_self, true_or, or_true, not_true, not_false_iff, ↓reduceIte, zuo, zuA, zu_nk, zrow_at, zrow_ne]
        refine Runs.mono hm (fun v2 h2 hv2 => ?_)
        obtain ⟨rfl, hg⟩ := hv2
        simp (decide := true) only [s206_357, s206_360, s206_361, zs_of, List.length_cons, List.length_nil, tl_some, tl_none, zrf_some, zdrop_i, zdrop_r, zdrop_q, zdrop_n, zdrop_l, i32_12, i32_1170, i32_2, i32_3, i32_5, i32_6, i32_8, i32_36, i32_200, Int32.reduceLE, Int32.reduceLT, Int32.reduceAdd, Int32.reduceSub, Int32.reduceMul, true_and, and_true, eq_self, true_or, or_true, not_true, not_false_iff, ↓reduceIte, zuo, zuA, zu_nk, zrow_at, zrow_ne]
        exact hnext h2 hg
      have b8 : Runs 206 362 [some (.ref 0), some (.ref 8), some (.ref 166), some (.int i)] [] (n, tg, ln, I, J, O) (LWQ n (k + 1)) := by
        simp (decide := true) only [s206_362, s206_362q, s206_363, s206_363q, s206_364, s206_365, s206_366, s206_367, s206_367q, s206_368, s206_368q, s206_369, s206_370, s206_371, s206_372, s206_372q, s206_373, s206_373q, s206_374, s206_375, s206_376, s206_377, s206_377q, s206_378, t0, l0, x1, x2, x3, x4, x5, S.t8, zs_of, List.length_cons, List.length_nil, tl_some, tl_none, zrf_some, zdrop_i, zdrop_r, zdrop_q, zdrop_n, zdrop_l, i32_12, i32_1170, i32_2, i32_3, i32_5, i32_6, i32_8, i32_36, i32_200, Int32.reduceLE, Int32.reduceLT, Int32.reduceAdd, Int32.reduceSub, Int32.reduceMul, true_and, and_true, eq_self, true_or, or_true, not_true, not_false_iff, ↓reduceIte, zuo, zuA, zu_nk, zrow_at, zrow_ne]
        refine Runs.mono (Runs.keep (both_join hI)) (fun v h1 hv => ?_)
        obtain ⟨⟨x, rfl, hm⟩, hk1⟩ := hv
        obtain ⟨n1, tg1, ln1, I1, J1, O1⟩ := h1
        obtain ⟨y0, y1, y2, y3⟩ := kp hk1
        simp (decide := true) only [s206_381, s206_381q, s206_382, s206_382q, s206_383, s206_384, s206_385, s206_386, s206_386q, s206_387, s206_387q, s206_388, s206_389, s206_390, s206_391, s206_391q, s206_392, s206_392q, s206_393, s206_394, s206_395, s206_396, s206_396q, s206_397, y0, y1, y2, y3, x1, x2, x3, x4, x5, zs_of, List.length_cons, List.length_nil, tl_some, tl_none, zrf_some, zdrop_i, zdrop_r, zdrop_q, zdrop_n, zdrop_l, i32_12, i32_1170, i32_2, i32_3, i32_5, i32_6, i32_8, i32_36, i32_200, Int32.reduceLE, Int32.reduceLT, Int32.reduceAdd, Int32.reduceSub, Int32.reduceMul, true_and, and_true, eq_self, true_or, or_true, not_true, not_false_iff, ↓reduceIte, zuo, zuA, zu_nk, zrow_at, zrow_ne]
        refine Runs.mono hm (fun v2 h2 hv2 => ?_)
        obtain ⟨rfl, hg⟩ := hv2
        simp (decide := true) only [s206_400, s206_403, s206_404, zs_of, List.length_cons, List.length_nil, tl_some, tl_none, zrf_some, zdrop_i, zdrop_r, zdrop_q, zdrop_n, zdrop_l, i32_12, i32_1170, i32_2, i32_3, i32_5, i32_6, i32_8, i32_36, i32_200, Int32.reduceLE, Int32.reduceLT, Int32.reduceAdd, Int32.reduceSub, Int32.reduceMul, true_and, and_true, eq_self, true_or, or_true, not_true, not_false_iff, ↓reduceIte, zuo, zuA, zu_nk, zrow_at, zrow_ne]
        exact hnext h2 hg
      have b9 : Runs 206 405 [some (.ref 0), some (.ref 8), some (.ref 166), some (.int i)] [] (n, tg, ln, I, J, O) (LWQ n (k + 1)) := by
        simp (decide := true) only [s206_405, s206_405q, s206_406, s206_406q, s206_407, s206_408, s206_409, s206_410, s206_410q, s206_411, t0, l0, x1, x2, x3, x4, x5, S.t8, zs_of, List.length_cons, List.length_nil, tl_some, tl_none, zrf_some, zdrop_i, zdrop_r, zdrop_q, zdrop_n, zdrop_l, i32_12, i32_1170, i32_2, i32_3, i32_5, i32_6, i32_8, i32_36, i32_200, Int32.reduceLE, Int32.reduceLT, Int32.reduceAdd, Int32.reduceSub, Int32.reduceMul, true_and, and_true, eq_self, true_or, or_true, not_true, not_false_iff, ↓reduceIte, zuo, zuA, zu_nk, zrow_at, zrow_ne]
        refine Runs.mono (Runs.keep (both_home hI)) (fun v h1 hv => ?_)
        obtain ⟨⟨x, rfl, hm⟩, hk1⟩ := hv
        obtain ⟨n1, tg1, ln1, I1, J1, O1⟩ := h1
        obtain ⟨y0, y1, y2, y3⟩ := kp hk1
        simp (decide := true) only [s206_414, s206_414q, s206_415, s206_415q, s206_416, s206_417, s206_418, s206_419, s206_419q, s206_420, y0, y1, y2, y3, x1, x2, x3, x4, x5, zs_of, List.length_cons, List.length_nil, tl_some, tl_none, zrf_some, zdrop_i, zdrop_r, zdrop_q, zdrop_n, zdrop_l, i32_12, i32_1170, i32_2, i32_3, i32_5, i32_6, i32_8, i32_36, i32_200, Int32.reduceLE, Int32.reduceLT, Int32.reduceAdd, Int32.reduceSub, Int32.reduceMul, true_and, and_true, eq_self, true_or, or_true, not_true, not_false_iff, ↓reduceIte, zuo, zuA, zu_nk, zrow_at, zrow_ne]
        refine Runs.mono hm (fun v2 h2 hv2 => ?_)
        obtain ⟨rfl, hg⟩ := hv2
        simp (decide := true) only [s206_423, s206_426, s206_427, zs_of, List.length_cons, List.length_nil, tl_some, tl_none, zrf_some, zdrop_i, zdrop_r, zdrop_q, zdrop_n, zdrop_l, i32_12, i32_1170, i32_2, i32_3, i32_5, i32_6, i32_8, i32_36, i32_200, Int32.reduceLE, Int32.reduceLT, Int32.reduceAdd, Int32.reduceSub, Int32.reduceMul, true_and, and_true, eq_self, true_or, or_true, not_true, not_false_iff, ↓reduceIte, zuo, zuA, zu_nk, zrow_at, zrow_ne]
        exact hnext h2 hg
      have b10 : Runs 206 428 [some (.ref 0), some (.ref 8), some (.ref 166), some (.int i)] [] (n, tg, ln, I, J, O) (LWQ n (k + 1)) := by
        simp (decide := true) only [s206_428, s206_428q, s206_429, s206_429q, s206_430, s206_431, s206_432, s206_433, s206_433q, s206_434, t0, l0, x1, x2, x3, x4, x5, S.t8, zs_of, List.length_cons, List.length_nil, tl_some, tl_none, zrf_some, zdrop_i, zdrop_r, zdrop_q, zdrop_n, zdrop_l, i32_12, i32_1170, i32_2, i32_3, i32_5, i32_6, i32_8, i32_36, i32_200, Int32.reduceLE, Int32.reduceLT, Int32.reduceAdd, Int32.reduceSub, Int32.reduceMul, true_and, and_true, eq_self, true_or, or_true, not_true, not_false_iff, ↓reduceIte, zuo, zuA, zu_nk, zrow_at, zrow_ne]
        refine Runs.mono (Runs.keep (both_back hI)) (fun v h1 hv => ?_)
        obtain ⟨⟨x, rfl, hm⟩, hk1⟩ := hv
        obtain ⟨n1, tg1, ln1, I1, J1, O1⟩ := h1
        obtain ⟨y0, y1, y2, y3⟩ := kp hk1
        simp (decide := true) only [s206_437, s206_437q, s206_438, s206_438q, s206_439, s206_440, s206_441, s206_442, s206_442q, s206_443, y0, y1, y2, y3, x1, x2, x3, x4, x5, zs_of, List.length_cons, List.length_nil, tl_some, tl_none, zrf_some, zdrop_i, zdrop_r, zdrop_q, zdrop_n, zdrop_l, i32_12, i32_1170, i32_2, i32_3, i32_5, i32_6, i32_8, i32_36, i32_200, Int32.reduceLE, Int32.reduceLT, Int32.reduceAdd, Int32.reduceSub, Int32.reduceMul, true_and, and_true, eq_self, true_or, or_true, not_true, not_false_iff, ↓reduceIte, zuo, zuA, zu_nk, zrow_at, zrow_ne]
        refine Runs.mono hm (fun v2 h2 hv2 => ?_)
        obtain ⟨rfl, hg⟩ := hv2
        simp (decide := true) only [s206_446, s206_449, s206_450, zs_of, List.length_cons, List.length_nil, tl_some, tl_none, zrf_some, zdrop_i, zdrop_r, zdrop_q, zdrop_n, zdrop_l, i32_12, i32_1170, i32_2, i32_3, i32_5, i32_6, i32_8, i32_36, i32_200, Int32.reduceLE, Int32.reduceLT, Int32.reduceAdd, Int32.reduceSub, Int32.reduceMul, true_and, and_true, eq_self, true_or, or_true, not_true, not_false_iff, ↓reduceIte, zuo, zuA, zu_nk, zrow_at, zrow_ne]
        exact hnext h2 hg
      have b11 : Runs 206 451 [some (.ref 0), some (.ref 8), some (.ref 166), some (.int i)] [] (n, tg, ln, I, J, O) (LWQ n (k + 1)) := by
        simp (decide := true) only [s206_451, s206_451q, s206_452, s206_452q, s206_453, s206_454, s206_455, s206_456, s206_456q, s206_457, t0, l0, x1, x2, x3, x4, x5, S.t8, zs_of, List.length_cons, List.length_nil, tl_some, tl_none, zrf_some, zdrop_i, zdrop_r, zdrop_q, zdrop_n, zdrop_l, i32_12, i32_1170, i32_2, i32_3, i32_5, i32_6, i32_8, i32_36, i32_200, Int32.reduceLE, Int32.reduceLT, Int32.reduceAdd, Int32.reduceSub, Int32.reduceMul, true_and, and_true, eq_self, true_or, or_true, not_true, not_false_iff, ↓reduceIte, zuo, zuA, zu_nk, zrow_at, zrow_ne]
        refine Runs.mono (Runs.keep (both_fell hI)) (fun v h1 hv => ?_)
        obtain ⟨⟨x, rfl, hm⟩, hk1⟩ := hv
        obtain ⟨n1, tg1, ln1, I1, J1, O1⟩ := h1
        obtain ⟨y0, y1, y2, y3⟩ := kp hk1
        simp (decide := true) only [s206_460, s206_460q, s206_461, s206_461q, s206_462, s206_463, s206_464, s206_465, s206_465q, s206_466, y0, y1, y2, y3, x1, x2, x3, x4, x5, zs_of, List.length_cons, List.length_nil, tl_some, tl_none, zrf_some, zdrop_i, zdrop_r, zdrop_q, zdrop_n, zdrop_l, i32_12, i32_1170, i32_2, i32_3, i32_5, i32_6, i32_8, i32_36, i32_200, Int32.reduceLE, Int32.reduceLT, Int32.reduceAdd, Int32.reduceSub, Int32.reduceMul, true_and, and_true, eq_self, true_or, or_true, not_true, not_false_iff, ↓reduceIte, zuo, zuA, zu_nk, zrow_at, zrow_ne]
        refine Runs.mono hm (fun v2 h2 hv2 => ?_)
        obtain ⟨rfl, hg⟩ := hv2
        simp (decide := true) only [s206_469, s206_472, s206_473, zs_of, List.length_cons, List.length_nil, tl_some, tl_none, zrf_some, zdrop_i, zdrop_r, zdrop_q, zdrop_n, zdrop_l, i32_12, i32_1170, i32_2, i32_3, i32_5, i32_6, i32_8, i32_36, i32_200, Int32.reduceLE, Int32.reduceLT, Int32.reduceAdd, Int32.reduceSub, Int32.reduceMul, true_and, and_true, eq_self, true_or, or_true, not_true, not_false_iff, ↓reduceIte, zuo, zuA, zu_nk, zrow_at, zrow_ne]
        exact hnext h2 hg
      have b12 : Runs 206 474 [some (.ref 0), some (.ref 8), some (.ref 166), some (.int i)] [] (n, tg, ln, I, J, O) (LWQ n (k + 1)) := by
        simp (decide := true) only [s206_474, s206_474q, s206_475, s206_475q, s206_476, s206_477, s206_478, s206_479, s206_479q, s206_480, t0, l0, x1, x2, x3, x4, x5, S.t8, zs_of, List.length_cons, List.length_nil, tl_some, tl_none, zrf_some, zdrop_i, zdrop_r, zdrop_q, zdrop_n, zdrop_l, i32_12, i32_1170, i32_2, i32_3, i32_5, i32_6, i32_8, i32_36, i32_200, Int32.reduceLE, Int32.reduceLT, Int32.reduceAdd, Int32.reduceSub, Int32.reduceMul, true_and, and_true, eq_self, true_or, or_true, not_true, not_false_iff, ↓reduceIte, zuo, zuA, zu_nk, zrow_at, zrow_ne]
        refine Runs.mono (Runs.keep (both_law hI)) (fun v h1 hv => ?_)
        obtain ⟨⟨x, rfl, hm⟩, hk1⟩ := hv
        obtain ⟨n1, tg1, ln1, I1, J1, O1⟩ := h1
        obtain ⟨y0, y1, y2, y3⟩ := kp hk1
        simp (decide := true) only [s206_483, s206_483q, s206_484, s206_484q, s206_485, s206_486, s206_487, s206_488, s206_488q, s206_489, y0, y1, y2, y3, x1, x2, x3, x4, x5, zs_of, List.length_cons, List.length_nil, tl_some, tl_none, zrf_some, zdrop_i, zdrop_r, zdrop_q, zdrop_n, zdrop_l, i32_12, i32_1170, i32_2, i32_3, i32_5, i32_6, i32_8, i32_36, i32_200, Int32.reduceLE, Int32.reduceLT, Int32.reduceAdd, Int32.reduceSub, Int32.reduceMul, true_and, and_true, eq_self, true_or, or_true, not_true, not_false_iff, ↓reduceIte, zuo, zuA, zu_nk, zrow_at, zrow_ne]
        refine Runs.mono hm (fun v2 h2 hv2 => ?_)
        obtain ⟨rfl, hg⟩ := hv2
        simp (decide := true) only [s206_492, s206_495, s206_496, zs_of, List.length_cons, List.length_nil, tl_some, tl_none, zrf_some, zdrop_i, zdrop_r, zdrop_q, zdrop_n, zdrop_l, i32_12, i32_1170, i32_2, i32_3, i32_5, i32_6, i32_8, i32_36, i32_200, Int32.reduceLE, Int32.reduceLT, Int32.reduceAdd, Int32.reduceSub, Int32.reduceMul, true_and, and_true, eq_self, true_or, or_true, not_true, not_false_iff, ↓reduceIte, zuo, zuA, zu_nk, zrow_at, zrow_ne]
        exact hnext h2 hg
      have b13 : Runs 206 497 [some (.ref 0), some (.ref 8), some (.ref 166), some (.int i)] [] (n, tg, ln, I, J, O) (LWQ n (k + 1)) := by
        simp (decide := true) only [s206_497, s206_497q, s206_498, t0, l0, x1, x2, x3, x4, x5, S.t8, zs_of, List.length_cons, List.length_nil, tl_some, tl_none, zrf_some, zdrop_i, zdrop_r, zdrop_q, zdrop_n, zdrop_l, i32_12, i32_1170, i32_2, i32_3, i32_5, i32_6, i32_8, i32_36, i32_200, Int32.reduceLE, Int32.reduceLT, Int32.reduceAdd, Int32.reduceSub, Int32.reduceMul, true_and, and_true, eq_self, true_or, or_true, not_true, not_false_iff, ↓reduceIte, zuo, zuA, zu_nk, zrow_at, zrow_ne]
        refine Runs.mono (Runs.keep (both_undo hI)) (fun v h1 hv => ?_)
        obtain ⟨⟨x, rfl, hm⟩, hk1⟩ := hv
        obtain ⟨n1, tg1, ln1, I1, J1, O1⟩ := h1
        obtain ⟨y0, y1, y2, y3⟩ := kp hk1
        simp (decide := true) only [s206_501, s206_501q, s206_502, y0, y1, y2, y3, x1, x2, x3, x4, x5, zs_of, List.length_cons, List.length_nil, tl_some, tl_none, zrf_some, zdrop_i, zdrop_r, zdrop_q, zdrop_n, zdrop_l, i32_12, i32_1170, i32_2, i32_3, i32_5, i32_6, i32_8, i32_36, i32_200, Int32.reduceLE, Int32.reduceLT, Int32.reduceAdd, Int32.reduceSub, Int32.reduceMul, true_and, and_true, eq_self, true_or, or_true, not_true, not_false_iff, ↓reduceIte, zuo, zuA, zu_nk, zrow_at, zrow_ne]
        refine Runs.mono hm (fun v2 h2 hv2 => ?_)
        obtain ⟨rfl, hg⟩ := hv2
        simp (decide := true) only [s206_505, s206_508, s206_509, zs_of, List.length_cons, List.length_nil, tl_some, tl_none, zrf_some, zdrop_i, zdrop_r, zdrop_q, zdrop_n, zdrop_l, i32_12, i32_1170, i32_2, i32_3, i32_5, i32_6, i32_8, i32_36, i32_200, Int32.reduceLE, Int32.reduceLT, Int32.reduceAdd, Int32.reduceSub, Int32.reduceMul, true_and, and_true, eq_self, true_or, or_true, not_true, not_false_iff, ↓reduceIte, zuo, zuA, zu_nk, zrow_at, zrow_ne]
        exact hnext h2 hg
      have b14 : Runs 206 510 [some (.ref 0), some (.ref 8), some (.ref 166), some (.int i)] [] (n, tg, ln, I, J, O) (LWQ n (k + 1)) := by
        simp (decide := true) only [s206_510, s206_510q, s206_511, s206_511q, s206_512, s206_513, s206_514, s206_515, s206_515q, s206_516, t0, l0, x1, x2, x3, x4, x5, S.t8, zs_of, List.length_cons, List.length_nil, tl_some, tl_none, zrf_some, zdrop_i, zdrop_r, zdrop_q, zdrop_n, zdrop_l, i32_12, i32_1170, i32_2, i32_3, i32_5, i32_6, i32_8, i32_36, i32_200, Int32.reduceLE, Int32.reduceLT, Int32.reduceAdd, Int32.reduceSub, Int32.reduceMul, true_and, and_true, eq_self, true_or, or_true, not_true, not_false_iff, ↓reduceIte, zuo, zuA, zu_nk, zrow_at, zrow_ne]
        refine Runs.mono (Runs.keep (both_keep hI)) (fun v h1 hv => ?_)
        obtain ⟨⟨x, rfl, hm⟩, hk1⟩ := hv
        obtain ⟨n1, tg1, ln1, I1, J1, O1⟩ := h1
        obtain ⟨y0, y1, y2, y3⟩ := kp hk1
        simp (decide := true) only [s206_519, s206_519q, s206_520, s206_520q, s206_521, s206_522, s206_523, s206_524, s206_524q, s206_525, y0, y1, y2, y3, x1, x2, x3, x4, x5, zs_of, List.length_cons, List.length_nil, tl_some, tl_none, zrf_some, zdrop_i, zdrop_r, zdrop_q, zdrop_n, zdrop_l, i32_12, i32_1170, i32_2, i32_3, i32_5, i32_6, i32_8, i32_36, i32_200, Int32.reduceLE, Int32.reduceLT, Int32.reduceAdd, Int32.reduceSub, Int32.reduceMul, true_and, and_true, eq_self, true_or, or_true, not_true, not_false_iff, ↓reduceIte, zuo, zuA, zu_nk, zrow_at, zrow_ne]
        refine Runs.mono hm (fun v2 h2 hv2 => ?_)
        obtain ⟨rfl, hg⟩ := hv2
        simp (decide := true) only [s206_528, s206_531, s206_532, zs_of, List.length_cons, List.length_nil, tl_some, tl_none, zrf_some, zdrop_i, zdrop_r, zdrop_q, zdrop_n, zdrop_l, i32_12, i32_1170, i32_2, i32_3, i32_5, i32_6, i32_8, i32_36, i32_200, Int32.reduceLE, Int32.reduceLT, Int32.reduceAdd, Int32.reduceSub, Int32.reduceMul, true_and, and_true, eq_self, true_or, or_true, not_true, not_false_iff, ↓reduceIte, zuo, zuA, zu_nk, zrow_at, zrow_ne]
        exact hnext h2 hg
      have b15 : Runs 206 533 [some (.ref 0), some (.ref 8), some (.ref 166), some (.int i)] [] (n, tg, ln, I, J, O) (LWQ n (k + 1)) := by
        simp (decide := true) only [s206_533, s206_533q, s206_534, s206_534q, s206_535, s206_536, s206_537, s206_538, s206_538q, s206_539, t0, l0, x1, x2, x3, x4, x5, S.t8, zs_of, List.length_cons, List.length_nil, tl_some, tl_none, zrf_some, zdrop_i, zdrop_r, zdrop_q, zdrop_n, zdrop_l, i32_12, i32_1170, i32_2, i32_3, i32_5, i32_6, i32_8, i32_36, i32_200, Int32.reduceLE, Int32.reduceLT, Int32.reduceAdd, Int32.reduceSub, Int32.reduceMul, true_and, and_true, eq_self, true_or, or_true, not_true, not_false_iff, ↓reduceIte, zuo, zuA, zu_nk, zrow_at, zrow_ne]
        refine Runs.mono (Runs.keep (both_again hI)) (fun v h1 hv => ?_)
        obtain ⟨⟨x, rfl, hm⟩, hk1⟩ := hv
        obtain ⟨n1, tg1, ln1, I1, J1, O1⟩ := h1
        obtain ⟨y0, y1, y2, y3⟩ := kp hk1
        simp (decide := true) only [s206_542, s206_542q, s206_543, s206_543q, s206_544, s206_545, s206_546, s206_547, s206_547q, s206_548, y0, y1, y2, y3, x1, x2, x3, x4, x5, zs_of, List.length_cons, List.length_nil, tl_some, tl_none, zrf_some, zdrop_i, zdrop_r, zdrop_q, zdrop_n, zdrop_l, i32_12, i32_1170, i32_2, i32_3, i32_5, i32_6, i32_8, i32_36, i32_200, Int32.reduceLE, Int32.reduceLT, Int32.reduceAdd, Int32.reduceSub, Int32.reduceMul, true_and, and_true, eq_self, true_or, or_true, not_true, not_false_iff, ↓reduceIte, zuo, zuA, zu_nk, zrow_at, zrow_ne]
        refine Runs.mono hm (fun v2 h2 hv2 => ?_)
        obtain ⟨rfl, hg⟩ := hv2
        simp (decide := true) only [s206_551, s206_554, s206_555, zs_of, List.length_cons, List.length_nil, tl_some, tl_none, zrf_some, zdrop_i, zdrop_r, zdrop_q, zdrop_n, zdrop_l, i32_12, i32_1170, i32_2, i32_3, i32_5, i32_6, i32_8, i32_36, i32_200, Int32.reduceLE, Int32.reduceLT, Int32.reduceAdd, Int32.reduceSub, Int32.reduceMul, true_and, and_true, eq_self, true_or, or_true, not_true, not_false_iff, ↓reduceIte, zuo, zuA, zu_nk, zrow_at, zrow_ne]
        exact hnext h2 hg
      have b16 : Runs 206 556 [some (.ref 0), some (.ref 8), some (.ref 166), some (.int i)] [] (n, tg, ln, I, J, O) (LWQ n (k + 1)) := by
        simp (decide := true) only [s206_556, s206_556q, s206_557, s206_557q, s206_558, s206_559, s206_560, s206_561, s206_561q, s206_562, t0, l0, x1, x2, x3, x4, x5, S.t8, zs_of, List.length_cons, List.length_nil, tl_some, tl_none, zrf_some, zdrop_i, zdrop_r, zdrop_q, zdrop_n, zdrop_l, i32_12, i32_1170, i32_2, i32_3, i32_5, i32_6, i32_8, i32_36, i32_200, Int32.reduceLE, Int32.reduceLT, Int32.reduceAdd, Int32.reduceSub, Int32.reduceMul, true_and, and_true, eq_self, true_or, or_true, not_true, not_false_iff, ↓reduceIte, zuo, zuA, zu_nk, zrow_at, zrow_ne]
        refine Runs.mono (Runs.keep (both_when hI)) (fun v h1 hv => ?_)
        obtain ⟨⟨x, rfl, hm⟩, hk1⟩ := hv
        obtain ⟨n1, tg1, ln1, I1, J1, O1⟩ := h1
        obtain ⟨y0, y1, y2, y3⟩ := kp hk1
        simp (decide := true) only [s206_565, s206_565q, s206_566, s206_566q, s206_567, s206_568, s206_569, s206_570, s206_570q, s206_571, y0, y1, y2, y3, x1, x2, x3, x4, x5, zs_of, List.length_cons, List.length_nil, tl_some, tl_none, zrf_some, zdrop_i, zdrop_r, zdrop_q, zdrop_n, zdrop_l, i32_12, i32_1170, i32_2, i32_3, i32_5, i32_6, i32_8, i32_36, i32_200, Int32.reduceLE, Int32.reduceLT, Int32.reduceAdd, Int32.reduceSub, Int32.reduceMul, true_and, and_true, eq_self, true_or, or_true, not_true, not_false_iff, ↓reduceIte, zuo, zuA, zu_nk, zrow_at, zrow_ne]
        refine Runs.mono hm (fun v2 h2 hv2 => ?_)
        obtain ⟨rfl, hg⟩ := hv2
        simp (decide := true) only [s206_574, s206_577, s206_578, zs_of, List.length_cons, List.length_nil, tl_some, tl_none, zrf_some, zdrop_i, zdrop_r, zdrop_q, zdrop_n, zdrop_l, i32_12, i32_1170, i32_2, i32_3, i32_5, i32_6, i32_8, i32_36, i32_200, Int32.reduceLE, Int32.reduceLT, Int32.reduceAdd, Int32.reduceSub, Int32.reduceMul, true_and, and_true, eq_self, true_or, or_true, not_true, not_false_iff, ↓reduceIte, zuo, zuA, zu_nk, zrow_at, zrow_ne]
        exact hnext h2 hg
      have b17 : Runs 206 579 [some (.ref 0), some (.ref 8), some (.ref 166), some (.int i)] [] (n, tg, ln, I, J, O) (LWQ n (k + 1)) := by
        simp (decide := true) only [s206_579, s206_579q, s206_580, s206_580q, s206_581, s206_582, s206_583, s206_584, s206_584q, s206_585, s206_585q, s206_586, s206_587, s206_588, s206_589, s206_589q, s206_590, t0, l0, x1, x2, x3, x4, x5, S.t8, zs_of, List.length_cons, List.length_nil, tl_some, tl_none, zrf_some, zdrop_i, zdrop_r, zdrop_q, zdrop_n, zdrop_l, i32_12, i32_1170, i32_2, i32_3, i32_5, i32_6, i32_8, i32_36, i32_200, Int32.reduceLE, Int32.reduceLT, Int32.reduceAdd, Int32.reduceSub, Int32.reduceMul, true_and, and_true, eq_self, true_or, or_true, not_true, not_false_iff, ↓reduceIte, zuo, zuA, zu_nk, zrow_at, zrow_ne]
        refine Runs.mono (Runs.keep (both_where hI)) (fun v h1 hv => ?_)
        obtain ⟨⟨x, rfl, hm⟩, hk1⟩ := hv
        obtain ⟨n1, tg1, ln1, I1, J1, O1⟩ := h1
        obtain ⟨y0, y1, y2, y3⟩ := kp hk1
        simp (decide := true) only [s206_593, s206_593q, s206_594, s206_594q, s206_595, s206_596, s206_597, s206_598, s206_598q, s206_599, s206_599q, s206_600, s206_601, s206_602, s206_603, s206_603q, s206_604, y0, y1, y2, y3, x1, x2, x3, x4, x5, zs_of, List.length_cons, List.length_nil, tl_some, tl_none, zrf_some, zdrop_i, zdrop_r, zdrop_q, zdrop_n, zdrop_l, i32_12, i32_1170, i32_2, i32_3, i32_5, i32_6, i32_8, i32_36, i32_200, Int32.reduceLE, Int32.reduceLT, Int32.reduceAdd, Int32.reduceSub, Int32.reduceMul, true_and, and_true, eq_self, true_or, or_true, not_true, not_false_iff, ↓reduceIte, zuo, zuA, zu_nk, zrow_at, zrow_ne]
        refine Runs.mono hm (fun v2 h2 hv2 => ?_)
        obtain ⟨rfl, hg⟩ := hv2
        simp (decide := true) only [s206_607, s206_610, s206_611, zs_of, List.length_cons, List.length_nil, tl_some, tl_none, zrf_some, zdrop_i, zdrop_r, zdrop_q, zdrop_n, zdrop_l, i32_12, i32_1170, i32_2, i32_3, i32_5, i32_6, i32_8, i32_36, i32_200, Int32.reduceLE, Int32.reduceLT, Int32.reduceAdd, Int32.reduceSub, Int32.reduceMul, true_and, and_true, eq_self, true_or, or_true, not_true, not_false_iff, ↓reduceIte, zuo, zuA, zu_nk, zrow_at, zrow_ne]
        exact hnext h2 hg
      have b18 : Runs 206 612 [some (.ref 0), some (.ref 8), some (.ref 166), some (.int i)] [] (n, tg, ln, I, J, O) (LWQ n (k + 1)) := by
        simp (decide := true) only [s206_612, s206_612q, s206_613, s206_613q, s206_614, s206_615, s206_616, s206_617, s206_617q, s206_618, t0, l0, x1, x2, x3, x4, x5, S.t8, zs_of, List.length_cons, List.length_nil, tl_some, tl_none, zrf_some, zdrop_i, zdrop_r, zdrop_q, zdrop_n, zdrop_l, i32_12, i32_1170, i32_2, i32_3, i32_5, i32_6, i32_8, i32_36, i32_200, Int32.reduceLE, Int32.reduceLT, Int32.reduceAdd, Int32.reduceSub, Int32.reduceMul, true_and, and_true, eq_self, true_or, or_true, not_true, not_false_iff, ↓reduceIte, zuo, zuA, zu_nk, zrow_at, zrow_ne]
        refine Runs.mono (Runs.keep (both_next hI)) (fun v h1 hv => ?_)
        obtain ⟨⟨x, rfl, hm⟩, hk1⟩ := hv
        obtain ⟨n1, tg1, ln1, I1, J1, O1⟩ := h1
        obtain ⟨y0, y1, y2, y3⟩ := kp hk1
        simp (decide := true) only [s206_621, s206_621q, s206_622, s206_622q, s206_623, s206_624, s206_625, s206_626, s206_626q, s206_627, y0, y1, y2, y3, x1, x2, x3, x4, x5, zs_of, List.length_cons, List.length_nil, tl_some, tl_none, zrf_some, zdrop_i, zdrop_r, zdrop_q, zdrop_n, zdrop_l, i32_12, i32_1170, i32_2, i32_3, i32_5, i32_6, i32_8, i32_36, i32_200, Int32.reduceLE, Int32.reduceLT, Int32.reduceAdd, Int32.reduceSub, Int32.reduceMul, true_and, and_true, eq_self, true_or, or_true, not_true, not_false_iff, ↓reduceIte, zuo, zuA, zu_nk, zrow_at, zrow_ne]
        refine Runs.mono hm (fun v2 h2 hv2 => ?_)
        obtain ⟨rfl, hg⟩ := hv2
        simp (decide := true) only [s206_630, s206_633, s206_634, zs_of, List.length_cons, List.length_nil, tl_some, tl_none, zrf_some, zdrop_i, zdrop_r, zdrop_q, zdrop_n, zdrop_l, i32_12, i32_1170, i32_2, i32_3, i32_5, i32_6, i32_8, i32_36, i32_200, Int32.reduceLE, Int32.reduceLT, Int32.reduceAdd, Int32.reduceSub, Int32.reduceMul, true_and, and_true, eq_self, true_or, or_true, not_true, not_false_iff, ↓reduceIte, zuo, zuA, zu_nk, zrow_at, zrow_ne]
        exact hnext h2 hg
      have b19 : Runs 206 635 [some (.ref 0), some (.ref 8), some (.ref 166), some (.int i)] [] (n, tg, ln, I, J, O) (LWQ n (k + 1)) := by
        simp (decide := true) only [s206_635, s206_635q, s206_636, s206_636q, s206_637, s206_638, s206_639, s206_640, s206_640q, s206_641, s206_641q, s206_642, s206_643, s206_644, s206_645, s206_645q, s206_646, t0, l0, x1, x2, x3, x4, x5, S.t8, zs_of, List.length_cons, List.length_nil, tl_some, tl_none, zrf_some, zdrop_i, zdrop_r, zdrop_q, zdrop_n, zdrop_l, i32_12, i32_1170, i32_2, i32_3, i32_5, i32_6, i32_8, i32_36, i32_200, Int32.reduceLE, Int32.reduceLT, Int32.reduceAdd, Int32.reduceSub, Int32.reduceMul, true_and, and_true, eq_self, true_or, or_true, not_true, not_false_iff, ↓reduceIte, zuo, zuA, zu_nk, zrow_at, zrow_ne]
        refine Runs.mono (Runs.keep (both_best hI)) (fun v h1 hv => ?_)
        obtain ⟨⟨x, rfl, hm⟩, hk1⟩ := hv
        obtain ⟨n1, tg1, ln1, I1, J1, O1⟩ := h1
        obtain ⟨y0, y1, y2, y3⟩ := kp hk1
        simp (decide := true) only [s206_649, s206_649q, s206_650, s206_650q, s206_651, s206_652, s206_653, s206_654, s206_654q, s206_655, s206_655q, s206_656, s206_657, s206_658, s206_659, s206_659q, s206_660, y0, y1, y2, y3, x1, x2, x3, x4, x5, zs_of, List.length_cons, List.length_nil, tl_some, tl_none, zrf_some, zdrop_i, zdrop_r, zdrop_q, zdrop_n, zdrop_l, i32_12, i32_1170, i32_2, i32_3, i32_5, i32_6, i32_8, i32_36, i32_200, Int32.reduceLE, Int32.reduceLT, Int32.reduceAdd, Int32.reduceSub, Int32.reduceMul, true_and, and_true, eq_self, true_or, or_true, not_true, not_false_iff, ↓reduceIte, zuo, zuA, zu_nk, zrow_at, zrow_ne]
        refine Runs.mono hm (fun v2 h2 hv2 => ?_)
        obtain ⟨rfl, hg⟩ := hv2
        simp (decide := true) only [s206_663, s206_666, s206_667, zs_of, List.length_cons, List.length_nil, tl_some, tl_none, zrf_some, zdrop_i, zdrop_r, zdrop_q, zdrop_n, zdrop_l, i32_12, i32_1170, i32_2, i32_3, i32_5, i32_6, i32_8, i32_36, i32_200, Int32.reduceLE, Int32.reduceLT, Int32.reduceAdd, Int32.reduceSub, Int32.reduceMul, true_and, and_true, eq_self, true_or, or_true, not_true, not_false_iff, ↓reduceIte, zuo, zuA, zu_nk, zrow_at, zrow_ne]
        exact hnext h2 hg
      have b20 : Runs 206 668 [some (.ref 0), some (.ref 8), some (.ref 166), some (.int i)] [] (n, tg, ln, I, J, O) (LWQ n (k + 1)) := by
        simp (decide := true) only [s206_668, s206_668q, s206_669, s206_669q, s206_670, s206_671, s206_672, s206_673, s206_673q, s206_674, s206_674q, s206_675, s206_676, s206_677, s206_678, s206_678q, s206_679, t0, l0, x1, x2, x3, x4, x5, S.t8, zs_of, List.length_cons, List.length_nil, tl_some, tl_none, zrf_some, zdrop_i, zdrop_r, zdrop_q, zdrop_n, zdrop_l, i32_12, i32_1170, i32_2, i32_3, i32_5, i32_6, i32_8, i32_36, i32_200, Int32.reduceLE, Int32.reduceLT, Int32.reduceAdd, Int32.reduceSub, Int32.reduceMul, true_and, and_true, eq_self, true_or, or_true, not_true, not_false_iff, ↓reduceIte, zuo, zuA, zu_nk, zrow_at, zrow_ne]
        refine Runs.mono (Runs.keep (both_send hI)) (fun v h1 hv => ?_)
        obtain ⟨⟨x, rfl, hm⟩, hk1⟩ := hv
        obtain ⟨n1, tg1, ln1, I1, J1, O1⟩ := h1
        obtain ⟨y0, y1, y2, y3⟩ := kp hk1
        simp (decide := true) only [s206_682, s206_682q, s206_683, s206_683q, s206_684, s206_685, s206_686, s206_687, s206_687q, s206_688, s206_688q, s206_689, s206_690, s206_691, s206_692, s206_692q, s206_693, y0, y1, y2, y3, x1, x2, x3, x4, x5, zs_of, List.length_cons, List.length_nil, tl_some, tl_none, zrf_some, zdrop_i, zdrop_r, zdrop_q, zdrop_n, zdrop_l, i32_12, i32_1170, i32_2, i32_3, i32_5, i32_6, i32_8, i32_36, i32_200, Int32.reduceLE, Int32.reduceLT, Int32.reduceAdd, Int32.reduceSub, Int32.reduceMul, true_and, and_true, eq_self, true_or, or_true, not_true, not_false_iff, ↓reduceIte, zuo, zuA, zu_nk, zrow_at, zrow_ne]
        refine Runs.mono hm (fun v2 h2 hv2 => ?_)
        obtain ⟨rfl, hg⟩ := hv2
        simp (decide := true) only [s206_696, s206_699, s206_700, zs_of, List.length_cons, List.length_nil, tl_some, tl_none, zrf_some, zdrop_i, zdrop_r, zdrop_q, zdrop_n, zdrop_l, i32_12, i32_1170, i32_2, i32_3, i32_5, i32_6, i32_8, i32_36, i32_200, Int32.reduceLE, Int32.reduceLT, Int32.reduceAdd, Int32.reduceSub, Int32.reduceMul, true_and, and_true, eq_self, true_or, or_true, not_true, not_false_iff, ↓reduceIte, zuo, zuA, zu_nk, zrow_at, zrow_ne]
        exact hnext h2 hg
      have b21 : Runs 206 701 [some (.ref 0), some (.ref 8), some (.ref 166), some (.int i)] [] (n, tg, ln, I, J, O) (LWQ n (k + 1)) := by
        simp (decide := true) only [s206_701, s206_701q, s206_702, s206_702q, s206_703, s206_704, s206_705, s206_706, s206_706q, s206_707, t0, l0, x1, x2, x3, x4, x5, S.t8, zs_of, List.length_cons, List.length_nil, tl_some, tl_none, zrf_some, zdrop_i, zdrop_r, zdrop_q, zdrop_n, zdrop_l, i32_12, i32_1170, i32_2, i32_3, i32_5, i32_6, i32_8, i32_36, i32_200, Int32.reduceLE, Int32.reduceLT, Int32.reduceAdd, Int32.reduceSub, Int32.reduceMul, true_and, and_true, eq_self, true_or, or_true, not_true, not_false_iff, ↓reduceIte, zuo, zuA, zu_nk, zrow_at, zrow_ne]
        refine Runs.mono (Runs.keep (both_waits hI)) (fun v h1 hv => ?_)
        obtain ⟨⟨x, rfl, hm⟩, hk1⟩ := hv
        obtain ⟨n1, tg1, ln1, I1, J1, O1⟩ := h1
        obtain ⟨y0, y1, y2, y3⟩ := kp hk1
        simp (decide := true) only [s206_710, s206_710q, s206_711, s206_711q, s206_712, s206_713, s206_714, s206_715, s206_715q, s206_716, y0, y1, y2, y3, x1, x2, x3, x4, x5, zs_of, List.length_cons, List.length_nil, tl_some, tl_none, zrf_some, zdrop_i, zdrop_r, zdrop_q, zdrop_n, zdrop_l, i32_12, i32_1170, i32_2, i32_3, i32_5, i32_6, i32_8, i32_36, i32_200, Int32.reduceLE, Int32.reduceLT, Int32.reduceAdd, Int32.reduceSub, Int32.reduceMul, true_and, and_true, eq_self, true_or, or_true, not_true, not_false_iff, ↓reduceIte, zuo, zuA, zu_nk, zrow_at, zrow_ne]
        refine Runs.mono hm (fun v2 h2 hv2 => ?_)
        obtain ⟨rfl, hg⟩ := hv2
        simp (decide := true) only [s206_719, s206_722, s206_723, zs_of, List.length_cons, List.length_nil, tl_some, tl_none, zrf_some, zdrop_i, zdrop_r, zdrop_q, zdrop_n, zdrop_l, i32_12, i32_1170, i32_2, i32_3, i32_5, i32_6, i32_8, i32_36, i32_200, Int32.reduceLE, Int32.reduceLT, Int32.reduceAdd, Int32.reduceSub, Int32.reduceMul, true_and, and_true, eq_self, true_or, or_true, not_true, not_false_iff, ↓reduceIte, zuo, zuA, zu_nk, zrow_at, zrow_ne]
        exact hnext h2 hg
      have b22 : Runs 206 724 [some (.ref 0), some (.ref 8), some (.ref 166), some (.int i)] [] (n, tg, ln, I, J, O) (LWQ n (k + 1)) := by
        simp (decide := true) only [s206_724, s206_724q, s206_725, s206_725q, s206_726, s206_727, s206_728, s206_729, s206_729q, s206_730, s206_730q, s206_731, s206_732, s206_733, s206_734, s206_734q, s206_735, t0, l0, x1, x2, x3, x4, x5, S.t8, zs_of, List.length_cons, List.length_nil, tl_some, tl_none, zrf_some, zdrop_i, zdrop_r, zdrop_q, zdrop_n, zdrop_l, i32_12, i32_1170, i32_2, i32_3, i32_5, i32_6, i32_8, i32_36, i32_200, Int32.reduceLE, Int32.reduceLT, Int32.reduceAdd, Int32.reduceSub, Int32.reduceMul, true_and, and_true, eq_self, true_or, or_true, not_true, not_false_iff, ↓reduceIte, zuo, zuA, zu_nk, zrow_at, zrow_ne]
        refine Runs.mono (Runs.keep (both_seen hI)) (fun v h1 hv => ?_)
        obtain ⟨⟨x, rfl, hm⟩, hk1⟩ := hv
        obtain ⟨n1, tg1, ln1, I1, J1, O1⟩ := h1
        obtain ⟨y0, y1, y2, y3⟩ := kp hk1
        simp (decide := true) only [s206_738, s206_738q, s206_739, s206_739q, s206_740, s206_741, s206_742, s206_743, s206_743q, s206_744, s206_744q, s206_745, s206_746, s206_747, s206_748, s206_748q, s206_749, y0, y1, y2, y3, x1, x2, x3, x4, x5, zs_of, List.length_cons, List.length_nil, tl_some, tl_none, zrf_some, zdrop_i, zdrop_r, zdrop_q, zdrop_n, zdrop_l, i32_12, i32_1170, i32_2, i32_3, i32_5, i32_6, i32_8, i32_36, i32_200, Int32.reduceLE, Int32.reduceLT, Int32.reduceAdd, Int32.reduceSub, Int32.reduceMul, true_and, and_true, eq_self, true_or, or_true, not_true, not_false_iff, ↓reduceIte, zuo, zuA, zu_nk, zrow_at, zrow_ne]
        refine Runs.mono hm (fun v2 h2 hv2 => ?_)
        obtain ⟨rfl, hg⟩ := hv2
        simp (decide := true) only [s206_752, s206_755, s206_756, zs_of, List.length_cons, List.length_nil, tl_some, tl_none, zrf_some, zdrop_i, zdrop_r, zdrop_q, zdrop_n, zdrop_l, i32_12, i32_1170, i32_2, i32_3, i32_5, i32_6, i32_8, i32_36, i32_200, Int32.reduceLE, Int32.reduceLT, Int32.reduceAdd, Int32.reduceSub, Int32.reduceMul, true_and, and_true, eq_self, true_or, or_true, not_true, not_false_iff, ↓reduceIte, zuo, zuA, zu_nk, zrow_at, zrow_ne]
        exact hnext h2 hg
      have b23 : Runs 206 757 [some (.ref 0), some (.ref 8), some (.ref 166), some (.int i)] [] (n, tg, ln, I, J, O) (LWQ n (k + 1)) := by
        simp (decide := true) only [s206_757, s206_757q, s206_758, t0, l0, x1, x2, x3, x4, x5, S.t8, zs_of, List.length_cons, List.length_nil, tl_some, tl_none, zrf_some, zdrop_i, zdrop_r, zdrop_q, zdrop_n, zdrop_l, i32_12, i32_1170, i32_2, i32_3, i32_5, i32_6, i32_8, i32_36, i32_200, Int32.reduceLE, Int32.reduceLT, Int32.reduceAdd, Int32.reduceSub, Int32.reduceMul, true_and, and_true, eq_self, true_or, or_true, not_true, not_false_iff, ↓reduceIte, zuo, zuA, zu_nk, zrow_at, zrow_ne]
        refine Runs.mono (Runs.keep (both_forget hI)) (fun v h1 hv => ?_)
        obtain ⟨⟨x, rfl, hm⟩, hk1⟩ := hv
        obtain ⟨n1, tg1, ln1, I1, J1, O1⟩ := h1
        obtain ⟨y0, y1, y2, y3⟩ := kp hk1
        simp (decide := true) only [s206_761, s206_761q, s206_762, y0, y1, y2, y3, x1, x2, x3, x4, x5, zs_of, List.length_cons, List.length_nil, tl_some, tl_none, zrf_some, zdrop_i, zdrop_r, zdrop_q, zdrop_n, zdrop_l, i32_12, i32_1170, i32_2, i32_3, i32_5, i32_6, i32_8, i32_36, i32_200, Int32.reduceLE, Int32.reduceLT, Int32.reduceAdd, Int32.reduceSub, Int32.reduceMul, true_and, and_true, eq_self, true_or, or_true, not_true, not_false_iff, ↓reduceIte, zuo, zuA, zu_nk, zrow_at, zrow_ne]
        refine Runs.mono hm (fun v2 h2 hv2 => ?_)
        obtain ⟨rfl, hg⟩ := hv2
        simp (decide := true) only [s206_765, s206_768, s206_769, zs_of, List.length_cons, List.length_nil, tl_some, tl_none, zrf_some, zdrop_i, zdrop_r, zdrop_q, zdrop_n, zdrop_l, i32_12, i32_1170, i32_2, i32_3, i32_5, i32_6, i32_8, i32_36, i32_200, Int32.reduceLE, Int32.reduceLT, Int32.reduceAdd, Int32.reduceSub, Int32.reduceMul, true_and, and_true, eq_self, true_or, or_true, not_true, not_false_iff, ↓reduceIte, zuo, zuA, zu_nk, zrow_at, zrow_ne]
        exact hnext h2 hg
      have b24 : Runs 206 770 [some (.ref 0), some (.ref 8), some (.ref 166), some (.int i)] [] (n, tg, ln, I, J, O) (LWQ n (k + 1)) := by
        simp (decide := true) only [s206_770, s206_770q, s206_771, t0, l0, x1, x2, x3, x4, x5, S.t8, zs_of, List.length_cons, List.length_nil, tl_some, tl_none, zrf_some, zdrop_i, zdrop_r, zdrop_q, zdrop_n, zdrop_l, i32_12, i32_1170, i32_2, i32_3, i32_5, i32_6, i32_8, i32_36, i32_200, Int32.reduceLE, Int32.reduceLT, Int32.reduceAdd, Int32.reduceSub, Int32.reduceMul, true_and, and_true, eq_self, true_or, or_true, not_true, not_false_iff, ↓reduceIte, zuo, zuA, zu_nk, zrow_at, zrow_ne]
        refine Runs.mono (Runs.keep (both_laws hI)) (fun v h1 hv => ?_)
        obtain ⟨⟨x, rfl, hm⟩, hk1⟩ := hv
        obtain ⟨n1, tg1, ln1, I1, J1, O1⟩ := h1
        obtain ⟨y0, y1, y2, y3⟩ := kp hk1
        simp (decide := true) only [s206_774, s206_774q, s206_775, y0, y1, y2, y3, x1, x2, x3, x4, x5, zs_of, List.length_cons, List.length_nil, tl_some, tl_none, zrf_some, zdrop_i, zdrop_r, zdrop_q, zdrop_n, zdrop_l, i32_12, i32_1170, i32_2, i32_3, i32_5, i32_6, i32_8, i32_36, i32_200, Int32.reduceLE, Int32.reduceLT, Int32.reduceAdd, Int32.reduceSub, Int32.reduceMul, true_and, and_true, eq_self, true_or, or_true, not_true, not_false_iff, ↓reduceIte, zuo, zuA, zu_nk, zrow_at, zrow_ne]
        refine Runs.mono hm (fun v2 h2 hv2 => ?_)
        obtain ⟨rfl, hg⟩ := hv2
        simp (decide := true) only [s206_778, s206_781, s206_782, zs_of, List.length_cons, List.length_nil, tl_some, tl_none, zrf_some, zdrop_i, zdrop_r, zdrop_q, zdrop_n, zdrop_l, i32_12, i32_1170, i32_2, i32_3, i32_5, i32_6, i32_8, i32_36, i32_200, Int32.reduceLE, Int32.reduceLT, Int32.reduceAdd, Int32.reduceSub, Int32.reduceMul, true_and, and_true, eq_self, true_or, or_true, not_true, not_false_iff, ↓reduceIte, zuo, zuA, zu_nk, zrow_at, zrow_ne]
        exact hnext h2 hg
      have b25 : Runs 206 783 [some (.ref 0), some (.ref 8), some (.ref 166), some (.int i)] [] (n, tg, ln, I, J, O) (LWQ n (k + 1)) := by
        simp (decide := true) only [s206_783, s206_783q, s206_784, s206_784q, s206_785, s206_786, s206_787, s206_788, s206_788q, s206_789, t0, l0, x1, x2, x3, x4, x5, S.t8, zs_of, List.length_cons, List.length_nil, tl_some, tl_none, zrf_some, zdrop_i, zdrop_r, zdrop_q, zdrop_n, zdrop_l, i32_12, i32_1170, i32_2, i32_3, i32_5, i32_6, i32_8, i32_36, i32_200, Int32.reduceLE, Int32.reduceLT, Int32.reduceAdd, Int32.reduceSub, Int32.reduceMul, true_and, and_true, eq_self, true_or, or_true, not_true, not_false_iff, ↓reduceIte, zuo, zuA, zu_nk, zrow_at, zrow_ne]
        refine Runs.mono (Runs.keep (both_kinds hI)) (fun v h1 hv => ?_)
        obtain ⟨⟨x, rfl, hm⟩, hk1⟩ := hv
        obtain ⟨n1, tg1, ln1, I1, J1, O1⟩ := h1
        obtain ⟨y0, y1, y2, y3⟩ := kp hk1
        simp (decide := true) only [s206_792, s206_792q, s206_793, s206_793q, s206_794, s206_795, s206_796, s206_797, s206_797q, s206_798, y0, y1, y2, y3, x1, x2, x3, x4, x5, zs_of, List.length_cons, List.length_nil, tl_some, tl_none, zrf_some, zdrop_i, zdrop_r, zdrop_q, zdrop_n, zdrop_l, i32_12, i32_1170, i32_2, i32_3, i32_5, i32_6, i32_8, i32_36, i32_200, Int32.reduceLE, Int32.reduceLT, Int32.reduceAdd, Int32.reduceSub, Int32.reduceMul, true_and, and_true, eq_self, true_or, or_true, not_true, not_false_iff, ↓reduceIte, zuo, zuA, zu_nk, zrow_at, zrow_ne]
        refine Runs.mono hm (fun v2 h2 hv2 => ?_)
        obtain ⟨rfl, hg⟩ := hv2
        simp (decide := true) only [s206_801, s206_804, s206_805, zs_of, List.length_cons, List.length_nil, tl_some, tl_none, zrf_some, zdrop_i, zdrop_r, zdrop_q, zdrop_n, zdrop_l, i32_12, i32_1170, i32_2, i32_3, i32_5, i32_6, i32_8, i32_36, i32_200, Int32.reduceLE, Int32.reduceLT, Int32.reduceAdd, Int32.reduceSub, Int32.reduceMul, true_and, and_true, eq_self, true_or, or_true, not_true, not_false_iff, ↓reduceIte, zuo, zuA, zu_nk, zrow_at, zrow_ne]
        exact hnext h2 hg
      have b26 : Runs 206 806 [some (.ref 0), some (.ref 8), some (.ref 166), some (.int i)] [] (n, tg, ln, I, J, O) (LWQ n (k + 1)) := by
        simp (decide := true) only [s206_806, s206_806q, s206_807, s206_807q, s206_808, s206_809, s206_810, s206_811, s206_811q, s206_812, s206_812q, s206_813, s206_814, s206_815, s206_816, s206_816q, s206_817, s206_817q, s206_818, s206_819, s206_820, s206_821, s206_821q, s206_822, s206_822q, s206_823, s206_824, s206_825, s206_826, s206_826q, s206_827, t0, l0, x1, x2, x3, x4, x5, S.t8, zs_of, List.length_cons, List.length_nil, tl_some, tl_none, zrf_some, zdrop_i, zdrop_r, zdrop_q, zdrop_n, zdrop_l, i32_12, i32_1170, i32_2, i32_3, i32_5, i32_6, i32_8, i32_36, i32_200, Int32.reduceLE, Int32.reduceLT, Int32.reduceAdd, Int32.reduceSub, Int32.reduceMul, true_and, and_true, eq_self, true_or, or_true, not_true, not_false_iff, ↓reduceIte, zuo, zuA, zu_nk, zrow_at, zrow_ne]
        refine Runs.mono (Runs.keep (both_door hI)) (fun v h1 hv => ?_)
        obtain ⟨⟨x, rfl, hm⟩, hk1⟩ := hv
        obtain ⟨n1, tg1, ln1, I1, J1, O1⟩ := h1
        obtain ⟨y0, y1, y2, y3⟩ := kp hk1
        simp (decide := true) only [s206_830, s206_830q, s206_831, s206_831q, s206_832, s206_833, s206_834, s206_835, s206_835q, s206_836, s206_836q, s206_837, s206_838, s206_839, s206_840, s206_840q, s206_841, s206_841q, s206_842, s206_843, s206_844, s206_845, s206_845q, s206_846, s206_846q, s206_847, s206_848, s206_849, s206_850, s206_850q, s206_851, y0, y1, y2, y3, x1, x2, x3, x4, x5, zs_of, List.length_cons, List.length_nil, tl_some, tl_none, zrf_some, zdrop_i, zdrop_r, zdrop_q, zdrop_n, zdrop_l, i32_12, i32_1170, i32_2, i32_3, i32_5, i32_6, i32_8, i32_36, i32_200, Int32.reduceLE, Int32.reduceLT, Int32.reduceAdd, Int32.reduceSub, Int32.reduceMul, true_and, and_true, eq_self, true_or, or_true, not_true, not_false_iff, ↓reduceIte, zuo, zuA, zu_nk, zrow_at, zrow_ne]
        refine Runs.mono hm (fun v2 h2 hv2 => ?_)
        obtain ⟨rfl, hg⟩ := hv2
        simp (decide := true) only [s206_854, s206_857, s206_858, zs_of, List.length_cons, List.length_nil, tl_some, tl_none, zrf_some, zdrop_i, zdrop_r, zdrop_q, zdrop_n, zdrop_l, i32_12, i32_1170, i32_2, i32_3, i32_5, i32_6, i32_8, i32_36, i32_200, Int32.reduceLE, Int32.reduceLT, Int32.reduceAdd, Int32.reduceSub, Int32.reduceMul, true_and, and_true, eq_self, true_or, or_true, not_true, not_false_iff, ↓reduceIte, zuo, zuA, zu_nk, zrow_at, zrow_ne]
        exact hnext h2 hg
      have b27 : Runs 206 859 [some (.ref 0), some (.ref 8), some (.ref 166), some (.int i)] [] (n, tg, ln, I, J, O) (LWQ n (k + 1)) := by
        simp (decide := true) only [s206_859, s206_859q, s206_860, s206_860q, s206_861, s206_862, s206_863, s206_864, s206_864q, s206_865, s206_865q, s206_866, s206_867, s206_868, s206_869, s206_869q, s206_870, t0, l0, x1, x2, x3, x4, x5, S.t8, zs_of, List.length_cons, List.length_nil, tl_some, tl_none, zrf_some, zdrop_i, zdrop_r, zdrop_q, zdrop_n, zdrop_l, i32_12, i32_1170, i32_2, i32_3, i32_5, i32_6, i32_8, i32_36, i32_200, Int32.reduceLE, Int32.reduceLT, Int32.reduceAdd, Int32.reduceSub, Int32.reduceMul, true_and, and_true, eq_self, true_or, or_true, not_true, not_false_iff, ↓reduceIte, zuo, zuA, zu_nk, zrow_at, zrow_ne]
        refine Runs.mono (Runs.keep (both_bag hI)) (fun v h1 hv => ?_)
        obtain ⟨⟨x, rfl, hm⟩, hk1⟩ := hv
        obtain ⟨n1, tg1, ln1, I1, J1, O1⟩ := h1
        obtain ⟨y0, y1, y2, y3⟩ := kp hk1
        simp (decide := true) only [s206_873, s206_873q, s206_874, s206_874q, s206_875, s206_876, s206_877, s206_878, s206_878q, s206_879, s206_879q, s206_880, s206_881, s206_882, s206_883, s206_883q, s206_884, y0, y1, y2, y3, x1, x2, x3, x4, x5, zs_of, List.length_cons, List.length_nil, tl_some, tl_none, zrf_some, zdrop_i, zdrop_r, zdrop_q, zdrop_n, zdrop_l, i32_12, i32_1170, i32_2, i32_3, i32_5, i32_6, i32_8, i32_36, i32_200, Int32.reduceLE, Int32.reduceLT, Int32.reduceAdd, Int32.reduceSub, Int32.reduceMul, true_and, and_true, eq_self, true_or, or_true, not_true, not_false_iff, ↓reduceIte, zuo, zuA, zu_nk, zrow_at, zrow_ne]
        refine Runs.mono hm (fun v2 h2 hv2 => ?_)
        obtain ⟨rfl, hg⟩ := hv2
        simp (decide := true) only [s206_887, s206_890, s206_891, zs_of, List.length_cons, List.length_nil, tl_some, tl_none, zrf_some, zdrop_i, zdrop_r, zdrop_q, zdrop_n, zdrop_l, i32_12, i32_1170, i32_2, i32_3, i32_5, i32_6, i32_8, i32_36, i32_200, Int32.reduceLE, Int32.reduceLT, Int32.reduceAdd, Int32.reduceSub, Int32.reduceMul, true_and, and_true, eq_self, true_or, or_true, not_true, not_false_iff, ↓reduceIte, zuo, zuA, zu_nk, zrow_at, zrow_ne]
        exact hnext h2 hg
      have b28 : Runs 206 892 [some (.ref 0), some (.ref 8), some (.ref 166), some (.int i)] [] (n, tg, ln, I, J, O) (LWQ n (k + 1)) := by
        simp (decide := true) only [s206_892, s206_892q, s206_893, s206_893q, s206_894, s206_895, s206_896, s206_897, s206_897q, s206_898, s206_898q, s206_899, s206_900, s206_901, s206_902, s206_902q, s206_903, s206_903q, s206_904, s206_905, s206_906, s206_907, s206_907q, s206_908, s206_908q, s206_909, s206_910, s206_911, s206_912, s206_912q, s206_913, s206_914, s206_916, s206_917, s206_917q, s206_918, s206_919, s206_920, s206_921, s206_921q, s206_922, s206_923, s206_926, s206_927, s206_928, t0, l0, x1, x2, x3, x4, x5, S.t8, zs_of, List.length_cons, List.length_nil, tl_some, tl_none, zrf_some, zdrop_i, zdrop_r, zdrop_q, zdrop_n, zdrop_l, i32_12, i32_1170, i32_2, i32_3, i32_5, i32_6, i32_8, i32_36, i32_200, Int32.reduceLE, Int32.reduceLT, Int32.reduceAdd, Int32.reduceSub, Int32.reduceMul, true_and, and_true, eq_self, true_or, or_true, not_true, not_false_iff, ↓reduceIte, zuo, zuA, zu_nk, zrow_at, zrow_ne]
        refine Runs.mono (Runs.keep (both_hold hI)) (fun v h1 hv => ?_)
        obtain ⟨⟨x, rfl, hm⟩, hk1⟩ := hv
        obtain ⟨n1, tg1, ln1, I1, J1, O1⟩ := h1
        obtain ⟨y0, y1, y2, y3⟩ := kp hk1
        simp (decide := true) only [s206_931, s206_931q, s206_932, s206_932q, s206_933, s206_934, s206_935, s206_936, s206_936q, s206_937, s206_937q, s206_938, s206_939, s206_940, s206_941, s206_941q, s206_942, s206_942q, s206_943, s206_944, s206_945, s206_946, s206_946q, s206_947, s206_947q, s206_948, s206_949, s206_950, s206_951, s206_951q, s206_952, s206_953, s206_955, s206_956, s206_956q, s206_957, s206_958, s206_959, s206_960, s206_960q, s206_961, s206_962, s206_965, s206_966, s206_967, y0, y1, y2, y3, x1, x2, x3, x4, x5, zs_of, List.length_cons, List.length_nil, tl_some, tl_none, zrf_some, zdrop_i, zdrop_r, zdrop_q, zdrop_n, zdrop_l, i32_12, i32_1170, i32_2, i32_3, i32_5, i32_6, i32_8, i32_36, i32_200, Int32.reduceLE, Int32.reduceLT, Int32.reduceAdd, Int32.reduceSub, Int32.reduceMul, true_and, and_true, eq_self, true_or, or_true, not_true, not_false_iff, ↓reduceIte, zuo, zuA, zu_nk, zrow_at, zrow_ne]
        refine Runs.mono hm (fun v2 h2 hv2 => ?_)
        obtain ⟨rfl, hg⟩ := hv2
        simp (decide := true) only [s206_970, s206_973, s206_974, zs_of, List.length_cons, List.length_nil, tl_some, tl_none, zrf_some, zdrop_i, zdrop_r, zdrop_q, zdrop_n, zdrop_l, i32_12, i32_1170, i32_2, i32_3, i32_5, i32_6, i32_8, i32_36, i32_200, Int32.reduceLE, Int32.reduceLT, Int32.reduceAdd, Int32.reduceSub, Int32.reduceMul, true_and, and_true, eq_self, true_or, or_true, not_true, not_false_iff, ↓reduceIte, zuo, zuA, zu_nk, zrow_at, zrow_ne]
        exact hnext h2 hg
      have b29 : Runs 206 975 [some (.ref 0), some (.ref 8), some (.ref 166), some (.int i)] [] (n, tg, ln, I, J, O) (LWQ n (k + 1)) := by
        simp (decide := true) only [s206_975, s206_975q, s206_976, s206_976q, s206_977, s206_978, s206_979, s206_980, s206_980q, s206_981, s206_981q, s206_982, s206_983, s206_984, s206_985, s206_985q, s206_986, t0, l0, x1, x2, x3, x4, x5, S.t8, zs_of, List.length_cons, List.length_nil, tl_some, tl_none, zrf_some, zdrop_i, zdrop_r, zdrop_q, zdrop_n, zdrop_l, i32_12, i32_1170, i32_2, i32_3, i32_5, i32_6, i32_8, i32_36, i32_200, Int32.reduceLE, Int32.reduceLT, Int32.reduceAdd, Int32.reduceSub, Int32.reduceMul, true_and, and_true, eq_self, true_or, or_true, not_true, not_false_iff, ↓reduceIte, zuo, zuA, zu_nk, zrow_at, zrow_ne]
        refine Runs.mono (Runs.keep (both_wrap hI)) (fun v h1 hv => ?_)
        obtain ⟨⟨x, rfl, hm⟩, hk1⟩ := hv
        obtain ⟨n1, tg1, ln1, I1, J1, O1⟩ := h1
        obtain ⟨y0, y1, y2, y3⟩ := kp hk1
        simp (decide := true) only [s206_989, s206_989q, s206_990, s206_990q, s206_991, s206_992, s206_993, s206_994, s206_994q, s206_995, s206_995q, s206_996, s206_997, s206_998, s206_999, s206_999q, s206_1000, y0, y1, y2, y3, x1, x2, x3, x4, x5, zs_of, List.length_cons, List.length_nil, tl_some, tl_none, zrf_some, zdrop_i, zdrop_r, zdrop_q, zdrop_n, zdrop_l, i32_12, i32_1170, i32_2, i32_3, i32_5, i32_6, i32_8, i32_36, i32_200, Int32.reduceLE, Int32.reduceLT, Int32.reduceAdd, Int32.reduceSub, Int32.reduceMul, true_and, and_true, eq_self, true_or, or_true, not_true, not_false_iff, ↓reduceIte, zuo, zuA, zu_nk, zrow_at, zrow_ne]
        refine Runs.mono hm (fun v2 h2 hv2 => ?_)
        obtain ⟨rfl, hg⟩ := hv2
        simp (decide := true) only [s206_1003, s206_1006, s206_1007, zs_of, List.length_cons, List.length_nil, tl_some, tl_none, zrf_some, zdrop_i, zdrop_r, zdrop_q, zdrop_n, zdrop_l, i32_12, i32_1170, i32_2, i32_3, i32_5, i32_6, i32_8, i32_36, i32_200, Int32.reduceLE, Int32.reduceLT, Int32.reduceAdd, Int32.reduceSub, Int32.reduceMul, true_and, and_true, eq_self, true_or, or_true, not_true, not_false_iff, ↓reduceIte, zuo, zuA, zu_nk, zrow_at, zrow_ne]
        exact hnext h2 hg
      have b30 : Runs 206 1008 [some (.ref 0), some (.ref 8), some (.ref 166), some (.int i)] [] (n, tg, ln, I, J, O) (LWQ n (k + 1)) := by
        simp (decide := true) only [s206_1008, s206_1008q, s206_1009, s206_1009q, s206_1010, s206_1011, s206_1012, s206_1013, s206_1013q, s206_1014, s206_1014q, s206_1015, s206_1016, s206_1017, s206_1018, s206_1018q, s206_1019, t0, l0, x1, x2, x3, x4, x5, S.t8, zs_of, List.length_cons, List.length_nil, tl_some, tl_none, zrf_some, zdrop_i, zdrop_r, zdrop_q, zdrop_n, zdrop_l, i32_12, i32_1170, i32_2, i32_3, i32_5, i32_6, i32_8, i32_36, i32_200, Int32.reduceLE, Int32.reduceLT, Int32.reduceAdd, Int32.reduceSub, Int32.reduceMul, true_and, and_true, eq_self, true_or, or_true, not_true, not_false_iff, ↓reduceIte, zuo, zuA, zu_nk, zrow_at, zrow_ne]
        refine Runs.mono (Runs.keep (both_open hI)) (fun v h1 hv => ?_)
        obtain ⟨⟨x, rfl, hm⟩, hk1⟩ := hv
        obtain ⟨n1, tg1, ln1, I1, J1, O1⟩ := h1
        obtain ⟨y0, y1, y2, y3⟩ := kp hk1
        simp (decide := true) only [s206_1022, s206_1022q, s206_1023, s206_1023q, s206_1024, s206_1025, s206_1026, s206_1027, s206_1027q, s206_1028, s206_1028q, s206_1029, s206_1030, s206_1031, s206_1032, s206_1032q, s206_1033, y0, y1, y2, y3, x1, x2, x3, x4, x5, zs_of, List.length_cons, List.length_nil, tl_some, tl_none, zrf_some, zdrop_i, zdrop_r, zdrop_q, zdrop_n, zdrop_l, i32_12, i32_1170, i32_2, i32_3, i32_5, i32_6, i32_8, i32_36, i32_200, Int32.reduceLE, Int32.reduceLT, Int32.reduceAdd, Int32.reduceSub, Int32.reduceMul, true_and, and_true, eq_self, true_or, or_true, not_true, not_false_iff, ↓reduceIte, zuo, zuA, zu_nk, zrow_at, zrow_ne]
        refine Runs.mono hm (fun v2 h2 hv2 => ?_)
        obtain ⟨rfl, hg⟩ := hv2
        simp (decide := true) only [s206_1036, s206_1039, s206_1040, zs_of, List.length_cons, List.length_nil, tl_some, tl_none, zrf_some, zdrop_i, zdrop_r, zdrop_q, zdrop_n, zdrop_l, i32_12, i32_1170, i32_2, i32_3, i32_5, i32_6, i32_8, i32_36, i32_200, Int32.reduceLE, Int32.reduceLT, Int32.reduceAdd, Int32.reduceSub, Int32.reduceMul, true_and, and_true, eq_self, true_or, or_true, not_true, not_false_iff, ↓reduceIte, zuo, zuA, zu_nk, zrow_at, zrow_ne]
        exact hnext h2 hg
      have b31 : Runs 206 1041 [some (.ref 0), some (.ref 8), some (.ref 166), some (.int i)] [] (n, tg, ln, I, J, O) (LWQ n (k + 1)) := by
        simp (decide := true) only [s206_1041, s206_1041q, s206_1042, s206_1042q, s206_1043, s206_1044, s206_1045, s206_1046, s206_1046q, s206_1047, s206_1047q, s206_1048, s206_1049, s206_1050, s206_1051, s206_1051q, s206_1052, s206_1052q, s206_1053, s206_1054, s206_1055, s206_1056, s206_1056q, s206_1057, t0, l0, x1, x2, x3, x4, x5, S.t8, zs_of, List.length_cons, List.length_nil, tl_some, tl_none, zrf_some, zdrop_i, zdrop_r, zdrop_q, zdrop_n, zdrop_l, i32_12, i32_1170, i32_2, i32_3, i32_5, i32_6, i32_8, i32_36, i32_200, Int32.reduceLE, Int32.reduceLT, Int32.reduceAdd, Int32.reduceSub, Int32.reduceMul, true_and, and_true, eq_self, true_or, or_true, not_true, not_false_iff, ↓reduceIte, zuo, zuA, zu_nk, zrow_at, zrow_ne]
        refine Runs.mono (Runs.keep (both_held hI)) (fun v h1 hv => ?_)
        obtain ⟨⟨x, rfl, hm⟩, hk1⟩ := hv
        obtain ⟨n1, tg1, ln1, I1, J1, O1⟩ := h1
        obtain ⟨y0, y1, y2, y3⟩ := kp hk1
        simp (decide := true) only [s206_1060, s206_1060q, s206_1061, s206_1061q, s206_1062, s206_1063, s206_1064, s206_1065, s206_1065q, s206_1066, s206_1066q, s206_1067, s206_1068, s206_1069, s206_1070, s206_1070q, s206_1071, s206_1071q, s206_1072, s206_1073, s206_1074, s206_1075, s206_1075q, s206_1076, y0, y1, y2, y3, x1, x2, x3, x4, x5, zs_of, List.length_cons, List.length_nil, tl_some, tl_none, zrf_some, zdrop_i, zdrop_r, zdrop_q, zdrop_n, zdrop_l, i32_12, i32_1170, i32_2, i32_3, i32_5, i32_6, i32_8, i32_36, i32_200, Int32.reduceLE, Int32.reduceLT, Int32.reduceAdd, Int32.reduceSub, Int32.reduceMul, true_and, and_true, eq_self, true_or, or_true, not_true, not_false_iff, ↓reduceIte, zuo, zuA, zu_nk, zrow_at, zrow_ne]
        refine Runs.mono hm (fun v2 h2 hv2 => ?_)
        obtain ⟨rfl, hg⟩ := hv2
        simp (decide := true) only [s206_1079, s206_1082, s206_1083, zs_of, List.length_cons, List.length_nil, tl_some, tl_none, zrf_some, zdrop_i, zdrop_r, zdrop_q, zdrop_n, zdrop_l, i32_12, i32_1170, i32_2, i32_3, i32_5, i32_6, i32_8, i32_36, i32_200, Int32.reduceLE, Int32.reduceLT, Int32.reduceAdd, Int32.reduceSub, Int32.reduceMul, true_and, and_true, eq_self, true_or, or_true, not_true, not_false_iff, ↓reduceIte, zuo, zuA, zu_nk, zrow_at, zrow_ne]
        exact hnext h2 hg
      have b32 : Runs 206 1084 [some (.ref 0), some (.ref 8), some (.ref 166), some (.int i)] [] (n, tg, ln, I, J, O) (LWQ n (k + 1)) := by
        simp (decide := true) only [s206_1084, s206_1084q, s206_1085, s206_1085q, s206_1086, s206_1087, s206_1088, s206_1089, s206_1089q, s206_1090, s206_1090q, s206_1091, s206_1092, s206_1093, s206_1094, s206_1094q, s206_1095, s206_1095q, s206_1096, s206_1097, s206_1098, s206_1099, s206_1099q, s206_1100, s206_1100q, s206_1101, s206_1102, s206_1103, s206_1104, s206_1104q, s206_1105, s206_1105q, s206_1106, s206_1107, s206_1108, s206_1109, s206_1109q, s206_1110, t0, l0, x1, x2, x3, x4, x5, S.t8, zs_of, List.length_cons, List.length_nil, tl_some, tl_none, zrf_some, zdrop_i, zdrop_r, zdrop_q, zdrop_n, zdrop_l, i32_12, i32_1170, i32_2, i32_3, i32_5, i32_6, i32_8, i32_36, i32_200, Int32.reduceLE, Int32.reduceLT, Int32.reduceAdd, Int32.reduceSub, Int32.reduceMul, true_and, and_true, eq_self, true_or, or_true, not_true, not_false_iff, ↓reduceIte, zuo, zuA, zu_nk, zrow_at, zrow_ne]
        refine Runs.mono (Runs.keep (both_move hI)) (fun v h1 hv => ?_)
        obtain ⟨⟨x, rfl, hm⟩, hk1⟩ := hv
        obtain ⟨n1, tg1, ln1, I1, J1, O1⟩ := h1
        obtain ⟨y0, y1, y2, y3⟩ := kp hk1
        simp (decide := true) only [s206_1113, s206_1113q, s206_1114, s206_1114q, s206_1115, s206_1116, s206_1117, s206_1118, s206_1118q, s206_1119, s206_1119q, s206_1120, s206_1121, s206_1122, s206_1123, s206_1123q, s206_1124, s206_1124q, s206_1125, s206_1126, s206_1127, s206_1128, s206_1128q, s206_1129, s206_1129q, s206_1130, s206_1131, s206_1132, s206_1133, s206_1133q, s206_1134, s206_1134q, s206_1135, s206_1136, s206_1137, s206_1138, s206_1138q, s206_1139, y0, y1, y2, y3, x1, x2, x3, x4, x5, zs_of, List.length_cons, List.length_nil, tl_some, tl_none, zrf_some, zdrop_i, zdrop_r, zdrop_q, zdrop_n, zdrop_l, i32_12, i32_1170, i32_2, i32_3, i32_5, i32_6, i32_8, i32_36, i32_200, Int32.reduceLE, Int32.reduceLT, Int32.reduceAdd, Int32.reduceSub, Int32.reduceMul, true_and, and_true, eq_self, true_or, or_true, not_true, not_false_iff, ↓reduceIte, zuo, zuA, zu_nk, zrow_at, zrow_ne]
        refine Runs.mono hm (fun v2 h2 hv2 => ?_)
        obtain ⟨rfl, hg⟩ := hv2
        simp (decide := true) only [s206_1142, s206_1145, s206_1146, zs_of, List.length_cons, List.length_nil, tl_some, tl_none, zrf_some, zdrop_i, zdrop_r, zdrop_q, zdrop_n, zdrop_l, i32_12, i32_1170, i32_2, i32_3, i32_5, i32_6, i32_8, i32_36, i32_200, Int32.reduceLE, Int32.reduceLT, Int32.reduceAdd, Int32.reduceSub, Int32.reduceMul, true_and, and_true, eq_self, true_or, or_true, not_true, not_false_iff, ↓reduceIte, zuo, zuA, zu_nk, zrow_at, zrow_ne]
        exact hnext h2 hg
      have b33 : Runs 206 1147 [some (.ref 0), some (.ref 8), some (.ref 166), some (.int i)] [] (n, tg, ln, I, J, O) (LWQ n (k + 1)) := by
        simp (decide := true) only [s206_1147, s206_1147q, s206_1148, s206_1148q, s206_1149, s206_1150, s206_1151, s206_1152, s206_1152q, s206_1153, t0, l0, x1, x2, x3, x4, x5, S.t8, zs_of, List.length_cons, List.length_nil, tl_some, tl_none, zrf_some, zdrop_i, zdrop_r, zdrop_q, zdrop_n, zdrop_l, i32_12, i32_1170, i32_2, i32_3, i32_5, i32_6, i32_8, i32_36, i32_200, Int32.reduceLE, Int32.reduceLT, Int32.reduceAdd, Int32.reduceSub, Int32.reduceMul, true_and, and_true, eq_self, true_or, or_true, not_true, not_false_iff, ↓reduceIte, zuo, zuA, zu_nk, zrow_at, zrow_ne]
        refine Runs.mono (Runs.keep (both_drop hI)) (fun v h1 hv => ?_)
        obtain ⟨⟨x, rfl, hm⟩, hk1⟩ := hv
        obtain ⟨n1, tg1, ln1, I1, J1, O1⟩ := h1
        obtain ⟨y0, y1, y2, y3⟩ := kp hk1
        simp (decide := true) only [s206_1156, s206_1156q, s206_1157, s206_1157q, s206_1158, s206_1159, s206_1160, s206_1161, s206_1161q, s206_1162, y0, y1, y2, y3, x1, x2, x3, x4, x5, zs_of, List.length_cons, List.length_nil, tl_some, tl_none, zrf_some, zdrop_i, zdrop_r, zdrop_q, zdrop_n, zdrop_l, i32_12, i32_1170, i32_2, i32_3, i32_5, i32_6, i32_8, i32_36, i32_200, Int32.reduceLE, Int32.reduceLT, Int32.reduceAdd, Int32.reduceSub, Int32.reduceMul, true_and, and_true, eq_self, true_or, or_true, not_true, not_false_iff, ↓reduceIte, zuo, zuA, zu_nk, zrow_at, zrow_ne]
        refine Runs.mono hm (fun v2 h2 hv2 => ?_)
        obtain ⟨rfl, hg⟩ := hv2
        simp (decide := true) only [s206_1165, s206_1168, s206_1169, zs_of, List.length_cons, List.length_nil, tl_some, tl_none, zrf_some, zdrop_i, zdrop_r, zdrop_q, zdrop_n, zdrop_l, i32_12, i32_1170, i32_2, i32_3, i32_5, i32_6, i32_8, i32_36, i32_200, Int32.reduceLE, Int32.reduceLT, Int32.reduceAdd, Int32.reduceSub, Int32.reduceMul, true_and, and_true, eq_self, true_or, or_true, not_true, not_false_iff, ↓reduceIte, zuo, zuA, zu_nk, zrow_at, zrow_ne]
        exact hnext h2 hg
      have b34 : Runs 206 1170 [some (.ref 0), some (.ref 8), some (.ref 166), some (.int i)] [] (n, tg, ln, I, J, O) (LWQ n (k + 1)) := by
        simp (decide := true) only [s206_1170, s206_1170q, s206_1171, s206_1171q, s206_1172, s206_1173, s206_1174, s206_1175, s206_1175q, s206_1176, t0, l0, x1, x2, x3, x4, x5, S.t8, zs_of, List.length_cons, List.length_nil, tl_some, tl_none, zrf_some, zdrop_i, zdrop_r, zdrop_q, zdrop_n, zdrop_l, i32_12, i32_1170, i32_2, i32_3, i32_5, i32_6, i32_8, i32_36, i32_200, Int32.reduceLE, Int32.reduceLT, Int32.reduceAdd, Int32.reduceSub, Int32.reduceMul, true_and, and_true, eq_self, true_or, or_true, not_true, not_false_iff, ↓reduceIte, zuo, zuA, zu_nk, zrow_at, zrow_ne]
        refine Runs.mono (Runs.keep (both_count hI)) (fun v h1 hv => ?_)
        obtain ⟨⟨x, rfl, hm⟩, hk1⟩ := hv
        obtain ⟨n1, tg1, ln1, I1, J1, O1⟩ := h1
        obtain ⟨y0, y1, y2, y3⟩ := kp hk1
        simp (decide := true) only [s206_1179, s206_1179q, s206_1180, s206_1180q, s206_1181, s206_1182, s206_1183, s206_1184, s206_1184q, s206_1185, y0, y1, y2, y3, x1, x2, x3, x4, x5, zs_of, List.length_cons, List.length_nil, tl_some, tl_none, zrf_some, zdrop_i, zdrop_r, zdrop_q, zdrop_n, zdrop_l, i32_12, i32_1170, i32_2, i32_3, i32_5, i32_6, i32_8, i32_36, i32_200, Int32.reduceLE, Int32.reduceLT, Int32.reduceAdd, Int32.reduceSub, Int32.reduceMul, true_and, and_true, eq_self, true_or, or_true, not_true, not_false_iff, ↓reduceIte, zuo, zuA, zu_nk, zrow_at, zrow_ne]
        refine Runs.mono hm (fun v2 h2 hv2 => ?_)
        obtain ⟨rfl, hg⟩ := hv2
        simp (decide := true) only [s206_1188, s206_1191, s206_1192, zs_of, List.length_cons, List.length_nil, tl_some, tl_none, zrf_some, zdrop_i, zdrop_r, zdrop_q, zdrop_n, zdrop_l, i32_12, i32_1170, i32_2, i32_3, i32_5, i32_6, i32_8, i32_36, i32_200, Int32.reduceLE, Int32.reduceLT, Int32.reduceAdd, Int32.reduceSub, Int32.reduceMul, true_and, and_true, eq_self, true_or, or_true, not_true, not_false_iff, ↓reduceIte, zuo, zuA, zu_nk, zrow_at, zrow_ne]
        exact hnext h2 hg
      have bd : Runs 206 1193 [some (.ref 0), some (.ref 8), some (.ref 166), some (.int i)] [] (n, tg, ln, I, J, O) (LWQ n (k + 1)) := hnext _ (GOOD.of hI rfl)
      rw [s206_18]
      simp (decide := true) only [s206_19, s206_19q, s206_20, s206_21, s206_23, s206_24, s206_27, s206_27q, s206_28, s206_29, s206_29q, s206_30, s206_32, t02, t0, l0, x0, c, zs_of, List.length_cons, List.length_nil, tl_some, tl_none, zrf_some, zdrop_i, zdrop_r, zdrop_q, zdrop_n, zdrop_l, i32_12, i32_1170, i32_2, i32_3, i32_5, i32_6, i32_8, i32_36, i32_200, Int32.reduceLE, Int32.reduceLT, Int32.reduceAdd, Int32.reduceSub, Int32.reduceMul, true_and, and_true, eq_self, true_or, or_true, not_true, not_false_iff, ↓reduceIte, zuo, zuA, zu_nk, zrow_at, zrow_ne]
      rw [s206_33]
      exact ite_both b0 (ite_both b1 (ite_both b2 (ite_both b3 (ite_both b4 (ite_both b5 (ite_both b6 (ite_both b7 (ite_both b8 (ite_both b9 (ite_both b10 (ite_both b11 (ite_both b12 (ite_both b13 (ite_both b14 (ite_both b15 (ite_both b16 (ite_both b17 (ite_both b18 (ite_both b19 (ite_both b20 (ite_both b21 (ite_both b22 (ite_both b23 (ite_both b24 (ite_both b25 (ite_both b26 (ite_both b27 (ite_both b28 (ite_both b29 (ite_both b30 (ite_both b31 (ite_both b32 (ite_both b33 (ite_both b34 (bd)))))))))))))))))))))))))))))))))))
end LAW
