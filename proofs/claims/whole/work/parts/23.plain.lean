/-! PLAINS: a plain at p lies in the places p .. p + 9 (itself; kind, root, bids, state, line; first, its cells; second, its cells) -/
def PlSh (tg ln : Nat → Nat) (O : Nat → Int32 → Option Nat) (p : Nat) : Prop := (tg p = 5 ∧ tg (p + 1) = 20 ∧ tg (p + 2) = 20 ∧ tg (p + 3) = 20 ∧ tg (p + 4) = 20 ∧ tg (p + 5) = 20 ∧ tg (p + 6) = 4 ∧ tg (p + 7) = 20 ∧ tg (p + 8) = 4 ∧ tg (p + 9) = 20) ∧ (ln (p + 1) = 12 ∧ ln (p + 2) = 12 ∧ ln (p + 3) = 12 ∧ ln (p + 4) = 12 ∧ ln (p + 5) = 12 ∧ ln (p + 7) = 12 ∧ ln (p + 9) = 12) ∧ (O p 0 = some (p + 1) ∧ O p 1 = some (p + 2) ∧ O p 2 = some (p + 3) ∧ O p 3 = some (p + 4) ∧ O p 4 = some (p + 5) ∧ O p 9 = some (p + 6) ∧ O p 10 = some (p + 8) ∧ O (p + 6) 0 = some (p + 7) ∧ O (p + 8) 0 = some (p + 9))
/-- the place of a line -/
def lnA (p : Nat) (x : Int32) : Nat := if x = 0 then p + 6 else p + 8
theorem lnA_tg {tg ln : Nat → Nat} {O : Nat → Int32 → Option Nat} {p : Nat} (h : PlSh tg ln O p) (x : Int32) : tg (lnA p x) = 4 := by
  unfold lnA; split
  · exact h.1.2.2.2.2.2.2.1
  · exact h.1.2.2.2.2.2.2.2.2.1
theorem lnA_O {tg ln : Nat → Nat} {O : Nat → Int32 → Option Nat} {p : Nat} (h : PlSh tg ln O p) (x : Int32) : O (lnA p x) 0 = some (lnA p x + 1) := by
  unfold lnA; split
  · exact h.2.2.2.2.2.2.2.2.2.1
  · exact h.2.2.2.2.2.2.2.2.2.2
theorem lnA_tc {tg ln : Nat → Nat} {O : Nat → Int32 → Option Nat} {p : Nat} (h : PlSh tg ln O p) (x : Int32) : tg (lnA p x + 1) = 20 := by
  unfold lnA; split
  · exact h.1.2.2.2.2.2.2.2.1
  · exact h.1.2.2.2.2.2.2.2.2.2
theorem lnA_lc {tg ln : Nat → Nat} {O : Nat → Int32 → Option Nat} {p : Nat} (h : PlSh tg ln O p) (x : Int32) : ln (lnA p x + 1) = 12 := by
  unfold lnA; split
  · exact h.2.1.2.2.2.2.2.1
  · exact h.2.1.2.2.2.2.2.2
/-- numbers of a plain within their bounds -/
def PlNum (I : Nat → Int32 → Int32) (p : Nat) : Prop := (0 ≤ I p 5 ∧ I p 5 ≤ 12) ∧ (0 ≤ I (p + 6) 1 ∧ I (p + 6) 1 ≤ 12) ∧ (0 ≤ I (p + 8) 1 ∧ I (p + 8) 1 ≤ 12)
section PLAIN
variable {Q : Option Value → ZH → Prop} {n : Nat} {tg ln : Nat → Nat} {I : Nat → Int32 → Int32} {J : Nat → Int32 → Int64} {O : Nat → Int32 → Option Nat} {p a c : Nat}
theorem c_Line_isFull (ht : tg a = 4) : Runs 25 0 [some (.ref a)] [] (n, tg, ln, I, J, O) Q ↔ Q (some (.int (if 12 ≤ I a 1 then 1 else 0))) (n, tg, ln, I, J, O) := by
  simp only [s25_0, s25_0q, s25_1, s25_4, s25_6, s25_9, s25_10, s25_13, s25_14, ht, zdrop_i, zdrop_r, zdrop_n, eq_self, true_or, or_true]
  grind
theorem c_Line_clear (ht : tg a = 4) : Runs 26 0 [some (.ref a)] [] (n, tg, ln, I, J, O) Q ↔ Q none (n, tg, ln, zu I a 1 0, J, O) := by
  simp only [s26_0, s26_0q, s26_1, s26_2, s26_5, ht]
theorem c_Line_gapOf {x : Int32} {h : ZH} : Runs 22 0 [some (.int x)] [] h Q ↔ Q (some (.int (50 + x))) h := by
  simp only [s22_0, s22_2, s22_3, s22_4]
theorem c_Line_isGap {x : Int32} {h : ZH} : Runs 23 0 [some (.int x)] [] h Q ↔ Q (some (.int (if 50 ≤ x then 1 else 0))) h := by
  simp only [s23_0, s23_1, s23_3, s23_6, s23_7, s23_10, s23_11, eq_self, true_or, or_true]
  grind
theorem c_Line_append {x : Int32} (ht : tg a = 4) (hO : O a 0 = some c) (hc : tg c = 20) (hl : ln c = 12) (hac : a ≠ c) (h0 : 0 ≤ I a 1) : Runs 28 0 [some (.ref a), some (.int x)] [] (n, tg, ln, I, J, O) Q ↔ Q none (n, tg, ln, if I a 1 < 12 then zu (zu I c (I a 1) x) a 1 (I a 1 + 1) else I, J, O) := by
  have e1 : zu I c (I a 1) x a 1 = I a 1 := by unfold zu; rw [if_neg (fun z => hac z.1)]
  simp only [s28_0, s28_0q, s28_1, s28_4, s28_7, s28_7q, s28_8, s28_11, s28_11q, s28_12, s28_15, s28_16, s28_17, s28_17q, s28_18, s28_18q, s28_19, s28_22, s28_23, s28_24, s28_27, c_Line_isFull ht, ht, hO, hc, hl, zs0, tl_some, zrf_some, zdrop_i, zdrop_r, zdrop_n, i32_12, e1]
  grind
theorem c_Line_put {q x : Int32} (ht : tg a = 4) (hO : O a 0 = some c) (hc : tg c = 20) (hl : ln c = 12) (h12 : I a 1 ≤ 12) : Runs 29 0 [some (.ref a), some (.int q), some (.int x)] [] (n, tg, ln, I, J, O) Q ↔ Q none (n, tg, ln, if 0 ≤ q ∧ q < I a 1 then zu I c q x else I, J, O) := by
  simp only [s29_0, s29_0q, s29_1, s29_2, s29_5, s29_8, s29_8q, s29_9, s29_12, s29_13, s29_14, s29_15, c_Line_hasPlace ht, ht, hO, hc, hl, zs0, tl_some, zrf_some, zdrop_i, zdrop_r, zdrop_n, i32_12]
  grind
theorem c_Line_copyFrom {a2 c2 : Nat} (ht : tg a = 4) (hO : O a 0 = some c) (hc : tg c = 20) (hl : ln c = 12) (ht2 : tg a2 = 4) (hO2 : O a2 0 = some c2) (hc2 : tg c2 = 20) (hl2 : ln c2 = 12) (h1 : a2 ≠ c) : Runs 27 0 [some (.ref a), some (.ref a2)] [] (n, tg, ln, I, J, O) Q ↔ Q none (n, tg, ln, zu (zcpy I c c2 12) a 1 (I a2 1), J, O) := by
  have e1 : zcpy I c c2 12 a2 1 = I a2 1 := by unfold zcpy; rw [if_neg (fun z => h1 z.1)]
  simp only [s27_0, s27_0q, s27_1, s27_4, s27_5, s27_5q, s27_6, s27_9, s27_10, s27_12, s27_15, s27_15q, s27_16, s27_16q, s27_17, s27_20, s27_23, ht, hO, hc, hl, ht2, hO2, hc2, hl2, zs0, tl_some, zrf_some, zdrop_i, zdrop_r, zdrop_n, i32_12, e1]
  grind
theorem c_Plain_isTree {t : Int32} (h : PlSh tg ln O p) : Runs 39 0 [some (.ref p), some (.int t)] [] (n, tg, ln, I, J, O) Q ↔ Q (some (.int (if 0 ≤ t ∧ t < I p 5 then 1 else 0))) (n, tg, ln, I, J, O) := by
  have ht := h.1.1
  simp only [s39_0, s39_1, s39_4, s39_5, s39_5q, s39_6, s39_9, s39_12, s39_13, s39_16, s39_17, ht, zdrop_i, zdrop_r, zdrop_n, eq_self, true_or, or_true]
  grind
theorem c_Plain_stands {t : Int32} (h : PlSh tg ln O p) (hn : PlNum I p) : Runs 40 0 [some (.ref p), some (.int t)] [] (n, tg, ln, I, J, O) Q ↔ Q (some (.int (if (0 ≤ t ∧ t < I p 5) ∧ I (p + 4) t = 0 then 1 else 0))) (n, tg, ln, I, J, O) := by
  have ht := h.1.1
  have ho := h.2.2.2.2.2.1
  have hc := h.1.2.2.2.2.1
  have hl := h.2.1.2.2.2.1
  have hb := hn.1
  simp only [s40_0, s40_0q, s40_1, s40_2, s40_5, s40_8, s40_8q, s40_9, s40_12, s40_13, s40_14, s40_17, s40_18, s40_21, s40_22, c_Plain_isTree h, ht, ho, hc, hl, zs0, tl_some, zrf_some, zdrop_i, zdrop_r, zdrop_n, i32_12, eq_self, true_or, or_true]
  grind
theorem c_Plain_lineOf {x : Int32} (h : PlSh tg ln O p) : Runs 41 0 [some (.ref p), some (.int x)] [] (n, tg, ln, I, J, O) Q ↔ Q (some (.ref (lnA p x))) (n, tg, ln, I, J, O) := by
  have ht := h.1.1
  have h1 := h.2.2.2.2.2.2.2.1
  have h2 := h.2.2.2.2.2.2.2.2.1
  simp only [s41_0, s41_1, s41_4, s41_4q, s41_5, s41_8, s41_11, s41_11q, s41_12, s41_15, s41_15q, ht, h1, h2, zrf_some]
  unfold lnA
  grind
theorem c_Plain_hasNoPlaces (h : PlSh tg ln O p) : Runs 42 0 [some (.ref p)] [] (n, tg, ln, I, J, O) Q ↔ Q (some (.int (if I (p + 6) 1 = 0 ∧ I (p + 8) 1 = 0 then 1 else 0))) (n, tg, ln, I, J, O) := by
  have ht := h.1.1
  have h1 := h.2.2.2.2.2.2.2.1
  have h2 := h.2.2.2.2.2.2.2.2.1
  have t1 := h.1.2.2.2.2.2.2.1
  have t2 := h.1.2.2.2.2.2.2.2.2.1
  simp only [s42_0, s42_0q, s42_1, s42_4, s42_7, s42_10, s42_10q, s42_11, s42_14, s42_17, s42_20, s42_21, s42_24, s42_25, ht, h1, h2, t1, t2, zrf_some, eq_self, true_or, or_true]
  grind
theorem c_Plain_hasRoom {x : Int32} (h : PlSh tg ln O p) : Runs 45 0 [some (.ref p), some (.int x)] [] (n, tg, ln, I, J, O) Q ↔ Q (some (.int (if I p 5 < 12 ∧ I (lnA p x) 1 < 12 then 1 else 0))) (n, tg, ln, I, J, O) := by
  have ht := h.1.1
  simp only [s45_0, s45_0q, s45_1, s45_4, s45_6, s45_9, s45_9q, s45_10, s45_11, s45_14, s45_17, s45_20, s45_21, s45_24, s45_25, c_Plain_lineOf h, c_Line_isFull (lnA_tg h x), ht, lnA_tg h, zs0, tl_some, zrf_some, zdrop_i, zdrop_r, zdrop_n, eq_self, true_or, or_true]
  grind
/-- where a tree stands -/
def placeA (I : Nat → Int32 → Int32) (p : Nat) (t : Int32) : Int32 := if (0 ≤ t ∧ t < I p 5) ∧ I (p + 4) t = 0 then zfirst (I (lnA p (I (p + 5) t)) 1) (fun q => decide (I (lnA p (I (p + 5) t) + 1) q = t)) 0 else -1
theorem lnA_num (hn : PlNum I p) (x : Int32) : 0 ≤ I (lnA p x) 1 ∧ I (lnA p x) 1 ≤ 12 := by
  unfold lnA; split
  · exact hn.2.1
  · exact hn.2.2
theorem c_Plain_placeOf {t : Int32} (h : PlSh tg ln O p) (hn : PlNum I p) : Runs 43 0 [some (.ref p), some (.int t)] [] (n, tg, ln, I, J, O) Q ↔ Q (some (.int (placeA I p t))) (n, tg, ln, I, J, O) := by
  have ht := h.1.1
  have ho := h.2.2.2.2.2.2.1
  have hc := h.1.2.2.2.2.2.1
  have hl := h.2.1.2.2.2.2.1
  have hb := hn.1
  have hn2 := fun x => (lnA_num hn x).1
  have hn3 := fun x => (lnA_num hn x).2
  have hp := fun (Q : Option Value → ZH → Prop) x => @c_Line_placeOf Q n tg ln I J O (lnA p x) (lnA p x + 1) t (lnA_tg h x) (lnA_O h x) (lnA_tc h x) (lnA_lc h x) (hn2 x) (hn3 x)
  unfold placeA
  simp only [s43_0, s43_0q, s43_1, s43_2, s43_5, s43_8, s43_8q, s43_9, s43_9q, s43_10, s43_13, s43_14, s43_15, s43_18, s43_19, s43_22, s43_25, s43_26, c_Plain_stands h hn, ht, ho, hc, hl, zs0, zs2, tl_some, zrf_some, zdrop_i, zdrop_r, zdrop_n, i32_12, c_Plain_lineOf h]
  split
  next hs =>
    simp only [s43_0, s43_0q, s43_1, s43_2, s43_5, s43_8, s43_8q, s43_9, s43_9q, s43_10, s43_13, s43_14, s43_15, s43_18, s43_19, s43_22, s43_25, s43_26, if_neg (show ¬ (1 : Int32) = 0 by decide), c_Plain_lineOf h, lnA_tg h, zs0, hp, tl_some]
    grind
  next hs =>
    simp only [if_pos]
/-- by kind -/
theorem c_Kinds_pushes {x : Int32} {h : ZH} : Runs 18 0 [some (.int x)] [] h Q ↔ Q (some (.int (if x = 1 then 1 else 0))) h := by
  simp only [s18_0, s18_1, s18_2, s18_5, s18_6, s18_9, s18_10, eq_self, true_or, or_true]
  grind
theorem c_Kinds_canBePushed {x : Int32} {h : ZH} : Runs 19 0 [some (.int x)] [] h Q ↔ Q (some (.int (if x = 0 ∨ x = 1 ∨ x = 2 then 1 else 0))) h := by
  simp only [s19_0, s19_1, s19_4, s19_5, s19_6, s19_9, s19_10, s19_11, s19_14, s19_15, s19_18, s19_19, eq_self, true_or, or_true]
  grind
/-- who would push -/
def swA (I : Nat → Int32 → Int32) (p : Nat) (x y : Int32) : Bool := decide ((0 ≤ x ∧ x < I p 5) ∧ I (p + 1) x = 1 ∧ (0 ≤ y ∧ y < I p 5) ∧ (I (p + 1) y = 0 ∨ I (p + 1) y = 1 ∨ I (p + 1) y = 2) ∧ I (p + 2) y < I (p + 2) x)
theorem c_Plain_wouldPush {x y : Int32} (h : PlSh tg ln O p) (hn : PlNum I p) : Runs 53 0 [some (.ref p), some (.int x), some (.int y)] [] (n, tg, ln, I, J, O) Q ↔ Q (some (.int (if swA I p x y then 1 else 0))) (n, tg, ln, I, J, O) := by
  obtain ⟨⟨t0, t1, t2, -⟩, ⟨l1, l2, -⟩, ⟨o0, o1, -⟩⟩ := id h
  have hb := hn.1
  unfold swA
  simp only [s53_0, s53_0q, s53_1, s53_2, s53_5, s53_8, s53_8q, s53_9, s53_12, s53_13, s53_14, s53_17, s53_20, s53_20q, s53_21, s53_22, s53_25, s53_28, s53_28q, s53_29, s53_32, s53_33, s53_34, s53_37, s53_40, s53_40q, s53_41, s53_44, s53_45, s53_46, s53_46q, s53_47, s53_50, s53_51, s53_52, s53_55, s53_56, s53_59, s53_60, c_Plain_isTree h, c_Kinds_pushes, c_Kinds_canBePushed, t0, t1, t2, l1, l2, o0, o1, zs0, zs2, tl_some, zrf_some, zdrop_i, zdrop_r, zdrop_n, i32_12, eq_self, true_or, or_true, decide_eq_true_eq]
  grind
end PLAIN
