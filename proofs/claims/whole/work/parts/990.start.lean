/-! THE LAW'S WALK OVER THE SMALL MACHINE, FROM ITS ENTRY -/
theorem law_run {L : Nat} {tg ln : Nat → Nat} {I : Nat → Int32 → Int32} {J : Nat → Int32 → Int64} {O : Nat → Int32 → Option Nat} (hL : L ≤ 3072) (h0 : Z0 L (tg, ln, I, J, O)) : Runs 206 0 [some (.ref 0), none, none, none] [] (8, tg, ln, I, J, O) (fun v h => v = some (.int 1) ∧ h.1 ≤ 700) := by
  simp (decide := true) only [s206_0, s206_3q, s206_4, znew_eq, Nat.reduceAdd, zs_of, List.length_cons, List.length_nil, tl_some, tl_none, zrf_some, zdrop_i, zdrop_r, zdrop_q, zdrop_n, zdrop_l, i32_12, i32_1170, i32_2, i32_3, i32_5, i32_6, i32_8, i32_36, i32_200, Int32.reduceLE, Int32.reduceLT, Int32.reduceAdd, Int32.reduceSub, Int32.reduceMul, true_and, and_true, eq_self, true_or, or_true, not_true, not_false_iff, ↓reduceIte, zuo, zuA, zu_nk, zrow_at, zrow_ne]
  refine i_Queue (fun tg1 ln1 I1 J1 O1 f1 hQ => ?_)
  simp (decide := true) only [s206_7, s206_8, s206_11q, s206_12, znew_eq, Nat.reduceAdd, List.nil_append, zs_of, List.length_cons, List.length_nil, tl_some, tl_none, zrf_some, zdrop_i, zdrop_r, zdrop_q, zdrop_n, zdrop_l, i32_12, i32_1170, i32_2, i32_3, i32_5, i32_6, i32_8, i32_36, i32_200, Int32.reduceLE, Int32.reduceLT, Int32.reduceAdd, Int32.reduceSub, Int32.reduceMul, true_and, and_true, eq_self, true_or, or_true, not_true, not_false_iff, ↓reduceIte, zuo, zuA, zu_nk, zrow_at, zrow_ne]
  refine i_Model (fun tg2 ln2 I2 J2 O2 f2 hM => ?_)
  obtain ⟨hI, ht, hl, -⟩ := INV.new h0 f1 hQ f2 hM
  simp (decide := true) only [s206_15, s206_16, s206_17, List.nil_append, zs_of, List.length_cons, List.length_nil, tl_some, tl_none, zrf_some, zdrop_i, zdrop_r, zdrop_q, zdrop_n, zdrop_l, i32_12, i32_1170, i32_2, i32_3, i32_5, i32_6, i32_8, i32_36, i32_200, Int32.reduceLE, Int32.reduceLT, Int32.reduceAdd, Int32.reduceSub, Int32.reduceMul, true_and, and_true, eq_self, true_or, or_true, not_true, not_false_iff, ↓reduceIte, zuo, zuA, zu_nk, zrow_at, zrow_ne]
  refine Runs.mono (law_loop hL 512 0 188 tg2 ln2 I2 J2 O2 hI ht hl (by decide) (by decide) ?_) (fun v h hv => ?_)
  · have : (0 : Int32).toInt = 0 := by decide
    omega
  · exact ⟨hv.1, hv.2⟩
