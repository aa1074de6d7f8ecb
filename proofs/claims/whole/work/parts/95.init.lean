/-! CONSTRUCTORS -/
abbrev H5 : Type := (Nat → Nat) × (Nat → Nat) × (Nat → Int32 → Int32) × (Nat → Int32 → Int64) × (Nat → Int32 → Option Nat)
/-- nothing below m has changed -/
def FRc (m : Nat) (A B : H5) : Prop := ∀ c, c < m → B.1 c = A.1 c ∧ B.2.1 c = A.2.1 c ∧ B.2.2.1 c = A.2.2.1 c ∧ B.2.2.2.1 c = A.2.2.2.1 c ∧ B.2.2.2.2 c = A.2.2.2.2 c
theorem FRc.trans {m k : Nat} {A B C : H5} (h1 : FRc m A B) (h2 : FRc k B C) (hk : m ≤ k) : FRc m A C := fun c hc => by
  obtain ⟨a1, a2, a3, a4, a5⟩ := h1 c hc
  obtain ⟨b1, b2, b3, b4, b5⟩ := h2 c (by omega)
  exact ⟨b1.trans a1, b2.trans a2, b3.trans a3, b4.trans a4, b5.trans a5⟩
/-- a new plain -/
def PlZ (A : H5) (p : Nat) : Prop := PlSh A.1 A.2.1 A.2.2.2.2 p ∧ (A.2.2.1 p 5 = 0 ∧ A.2.2.1 p 6 = 0 ∧ A.2.2.1 p 7 = 0 ∧ A.2.2.1 p 8 = 0) ∧ (A.2.2.1 (p + 6) 1 = 0 ∧ A.2.2.1 (p + 8) 1 = 0) ∧ (A.2.1 p = 0 ∧ A.2.1 (p + 6) = 0 ∧ A.2.1 (p + 8) = 0)
theorem PlZ.fr {A B : H5} {p m : Nat} (h : PlZ A p) (hf : FRc m A B) (hm : p + 10 ≤ m) : PlZ B p := by
  have f := fun k (hk : k < 10) => hf (p + k) (by omega)
  unfold PlZ PlSh at *
  have f0 := f 0 (by omega)
  have f1 := f 1 (by omega)
  have f2 := f 2 (by omega)
  have f3 := f 3 (by omega)
  have f4 := f 4 (by omega)
  have f5 := f 5 (by omega)
  have f6 := f 6 (by omega)
  have f7 := f 7 (by omega)
  have f8 := f 8 (by omega)
  have f9 := f 9 (by omega)
  simp only [Nat.add_zero] at f0
  rw [f0.1, f1.1, f2.1, f3.1, f4.1, f5.1, f6.1, f7.1, f8.1, f9.1, f1.2.1, f2.2.1, f3.2.1, f4.2.1, f5.2.1, f7.2.1, f9.2.1, f0.2.2.2.2, f6.2.2.2.2, f8.2.2.2.2, f0.2.2.1, f6.2.2.1, f8.2.2.1, f0.2.1, f6.2.1, f8.2.1]
  exact h
section INIT
variable {Q : Option Value → ZH → Prop} {n a p : Nat} {tg ln : Nat → Nat} {I : Nat → Int32 → Int32} {J : Nat → Int32 → Int64} {O : Nat → Int32 → Option Nat}
theorem c_Line_init (ht : tg a = 4) (hn : a ≠ n) : Runs 21 0 [some (.ref a)] [] (n, tg, ln, I, J, O) Q ↔ Q none (n + 1, zp tg n 20, zp ln n 12, zu (zp I n (fun _ => 0)) a 1 0, zp J n (fun _ => 0), zu (zp O n (fun _ => none)) a 0 (some n)) := by
  have ht2 : zp tg n 20 a = 4 := by rw [zpN hn]; exact ht
  simp (decide := true) only [s21_0, s21_0q, s21_1, s21_4, s21_4q, s21_5, s21_7, s21_9, s21_9q, s21_12, s21_12q, s21_13, s21_14, s21_17, znew_eq, ht2, zs_of, List.length_cons, List.length_nil, tl_some, tl_none, zrf_some, zdrop_i, zdrop_r, zdrop_q, zdrop_n, zdrop_l, i32_12, i32_1170, i32_2, i32_3, i32_5, i32_6, i32_8, i32_36, i32_200, Int32.reduceLE, Int32.reduceLT, Int32.reduceAdd, Int32.reduceSub, Int32.reduceMul, true_and, and_true, eq_self, true_or, or_true, not_true, not_false_iff, ↓reduceIte, zuo, zuA, zu_nk, zrow_at, zrow_ne]
theorem i_Plain (hq : ∀ tg' ln' I' J' O', FRc p (tg, ln, I, J, O) (tg', ln', I', J', O') → PlZ (tg', ln', I', J', O') p → Q none (p + 10, tg', ln', I', J', O')) : Runs 36 0 [some (.ref p)] [] (p + 1, zp tg p 5, zp ln p 0, zp I p (fun _ => 0), zp J p (fun _ => 0), zp O p (fun _ => none)) Q := by
  have e1 : p ≠ p + 1 := by omega
  have e2 : p ≠ p + 2 := by omega
  have e3 : p ≠ p + 3 := by omega
  have e4 : p ≠ p + 4 := by omega
  have e5 : p ≠ p + 5 := by omega
  have e6 : p ≠ p + 6 := by omega
  have e7 : p ≠ p + 7 := by omega
  have e8 : p ≠ p + 8 := by omega
  have e9 : p ≠ p + 9 := by omega
  have e67 : p + 6 ≠ p + 7 := by omega
  have e68 : p + 6 ≠ p + 8 := by omega
  have e69 : p + 6 ≠ p + 9 := by omega
  have e89 : p + 8 ≠ p + 9 := by omega
  simp (decide := true) only [s36_0, s36_0q, s36_1, s36_4, s36_4q, s36_5, s36_7, s36_9, s36_9q, s36_12, s36_12q, s36_13, s36_15, s36_17, s36_17q, s36_20, s36_20q, s36_21, s36_23, s36_25, s36_25q, s36_28, s36_28q, s36_29, s36_31, s36_33, s36_33q, s36_36, s36_36q, s36_37, s36_39, s36_41, s36_41q, s36_44, s36_44q, s36_45, s36_46, s36_49, s36_49q, s36_50, s36_51, s36_54, s36_54q, s36_55, s36_56, s36_59, s36_59q, s36_60, s36_61, s36_64, s36_64q, s36_65, s36_68, s36_68q, s36_69, s36_72, s36_72q, s36_75, s36_75q, s36_76, s36_79, s36_79q, s36_80, s36_83, s36_83q, s36_86, znew_eq, c_Line_init, Nat.add_assoc, Nat.reduceAdd, zpN, zpA, e1, e2, e3, e4, e5, e6, e7, e8, e9, e67, e68, e69, e89, ne_eq, zs_of, List.length_cons, List.length_nil, tl_some, tl_none, zrf_some, zdrop_i, zdrop_r, zdrop_q, zdrop_n, zdrop_l, i32_12, i32_1170, i32_2, i32_3, i32_5, i32_6, i32_8, i32_36, i32_200, Int32.reduceLE, Int32.reduceLT, Int32.reduceAdd, Int32.reduceSub, Int32.reduceMul, true_and, and_true, eq_self, true_or, or_true, not_true, not_false_iff, ↓reduceIte, zuo, zuA, zu_nk, zrow_at, zrow_ne]
  refine hq _ _ _ _ _ (fun c hc => ?_) ?_
  · have b0 : c ≠ p := by omega
    have b1 : ∀ k, c ≠ p + k := fun k => by omega
    dsimp only
    refine ⟨?_, ?_, ?_, ?_, ?_⟩
    · simp only [zpN, b0, b1, ne_eq, not_false_eq_true]
    · simp only [zpN, b0, b1, ne_eq, not_false_eq_true]
    · simp only [zpN, zo_ne, b0, b1, ne_eq, not_false_eq_true]
    · simp only [zpN, b0, b1, ne_eq, not_false_eq_true]
    · simp only [zpN, zo_ne, b0, b1, ne_eq, not_false_eq_true]
  · unfold PlZ PlSh
    dsimp only
    simp (disch := first | omega | decide) only [zpN, zpA, zo_ne, zo_at, zo_nk, and_self]
theorem i_Text (hq : ∀ tg' ln' I' J' O', FRc p (tg, ln, I, J, O) (tg', ln', I', J', O') → ((tg' p = 8 ∧ tg' (p + 1) = 20) ∧ (ln' p = 0 ∧ ln' (p + 1) = 200) ∧ O' p 0 = some (p + 1) ∧ I' p 1 = 0) → Q none (p + 2, tg', ln', I', J', O')) : Runs 76 0 [some (.ref p)] [] (p + 1, zp tg p 8, zp ln p 0, zp I p (fun _ => 0), zp J p (fun _ => 0), zp O p (fun _ => none)) Q := by
  have e1 : p ≠ p + 1 := by omega
  have e2 : p ≠ p + 2 := by omega
  have e3 : p ≠ p + 3 := by omega
  have e4 : p ≠ p + 4 := by omega
  have e5 : p ≠ p + 5 := by omega
  have e6 : p ≠ p + 6 := by omega
  have e7 : p ≠ p + 7 := by omega
  have e8 : p ≠ p + 8 := by omega
  have e9 : p ≠ p + 9 := by omega
  have e67 : p + 6 ≠ p + 7 := by omega
  have e68 : p + 6 ≠ p + 8 := by omega
  have e69 : p + 6 ≠ p + 9 := by omega
  have e89 : p + 8 ≠ p + 9 := by omega
  simp (decide := true) only [s76_0, s76_0q, s76_1, s76_4, s76_4q, s76_5, s76_8, s76_10, s76_10q, s76_13, s76_13q, s76_14, s76_15, s76_18, znew_eq, Nat.add_assoc, Nat.reduceAdd, zpN, zpA, e1, e2, e3, e4, e5, e6, e7, e8, e9, e67, e68, e69, e89, ne_eq, zs_of, List.length_cons, List.length_nil, tl_some, tl_none, zrf_some, zdrop_i, zdrop_r, zdrop_q, zdrop_n, zdrop_l, i32_12, i32_1170, i32_2, i32_3, i32_5, i32_6, i32_8, i32_36, i32_200, Int32.reduceLE, Int32.reduceLT, Int32.reduceAdd, Int32.reduceSub, Int32.reduceMul, true_and, and_true, eq_self, true_or, or_true, not_true, not_false_iff, ↓reduceIte, zuo, zuA, zu_nk, zrow_at, zrow_ne]
  refine hq _ _ _ _ _ (fun c hc => ?_) ?_
  · have b0 : c ≠ p := by omega
    have b1 : ∀ k, c ≠ p + k := fun k => by omega
    dsimp only
    simp only [zpN, zo_ne, b0, b1, ne_eq, not_false_eq_true, and_self]
  · simp (disch := first | omega | decide) only [zpN, zpA, zo_ne, zo_at, zo_nk, and_self]
theorem i_Sights (hq : ∀ tg' ln' I' J' O', FRc p (tg, ln, I, J, O) (tg', ln', I', J', O') → ((tg' p = 7 ∧ tg' (p + 1) = 20 ∧ tg' (p + 2) = 20) ∧ (ln' p = 0 ∧ ln' (p + 1) = 6 ∧ ln' (p + 2) = 6) ∧ (O' p 0 = some (p + 1) ∧ O' p 1 = some (p + 2)) ∧ I' p 2 = 0) → Q none (p + 3, tg', ln', I', J', O')) : Runs 72 0 [some (.ref p)] [] (p + 1, zp tg p 7, zp ln p 0, zp I p (fun _ => 0), zp J p (fun _ => 0), zp O p (fun _ => none)) Q := by
  have e1 : p ≠ p + 1 := by omega
  have e2 : p ≠ p + 2 := by omega
  have e3 : p ≠ p + 3 := by omega
  have e4 : p ≠ p + 4 := by omega
  have e5 : p ≠ p + 5 := by omega
  have e6 : p ≠ p + 6 := by omega
  have e7 : p ≠ p + 7 := by omega
  have e8 : p ≠ p + 8 := by omega
  have e9 : p ≠ p + 9 := by omega
  have e67 : p + 6 ≠ p + 7 := by omega
  have e68 : p + 6 ≠ p + 8 := by omega
  have e69 : p + 6 ≠ p + 9 := by omega
  have e89 : p + 8 ≠ p + 9 := by omega
  simp (decide := true) only [s72_0, s72_0q, s72_1, s72_4, s72_4q, s72_5, s72_7, s72_9, s72_9q, s72_12, s72_12q, s72_13, s72_15, s72_17, s72_17q, s72_20, s72_20q, s72_21, s72_22, s72_25, znew_eq, Nat.add_assoc, Nat.reduceAdd, zpN, zpA, e1, e2, e3, e4, e5, e6, e7, e8, e9, e67, e68, e69, e89, ne_eq, zs_of, List.length_cons, List.length_nil, tl_some, tl_none, zrf_some, zdrop_i, zdrop_r, zdrop_q, zdrop_n, zdrop_l, i32_12, i32_1170, i32_2, i32_3, i32_5, i32_6, i32_8, i32_36, i32_200, Int32.reduceLE, Int32.reduceLT, Int32.reduceAdd, Int32.reduceSub, Int32.reduceMul, true_and, and_true, eq_self, true_or, or_true, not_true, not_false_iff, ↓reduceIte, zuo, zuA, zu_nk, zrow_at, zrow_ne]
  refine hq _ _ _ _ _ (fun c hc => ?_) ?_
  · have b0 : c ≠ p := by omega
    have b1 : ∀ k, c ≠ p + k := fun k => by omega
    dsimp only
    simp only [zpN, zo_ne, b0, b1, ne_eq, not_false_eq_true, and_self]
  · simp (disch := first | omega | decide) only [zpN, zpA, zo_ne, zo_at, zo_nk, and_self]
theorem i_Bag (hq : ∀ tg' ln' I' J' O', FRc p (tg, ln, I, J, O) (tg', ln', I', J', O') → ((tg' p = 1 ∧ tg' (p + 1) = 25) ∧ (ln' p = 0 ∧ ln' (p + 1) = 12) ∧ (O' p 0 = some (p + 1) ∧ ∀ i, O' (p + 1) i = none) ∧ I' p 1 = -1) → Q none (p + 2, tg', ln', I', J', O')) : Runs 0 0 [some (.ref p)] [] (p + 1, zp tg p 1, zp ln p 0, zp I p (fun _ => 0), zp J p (fun _ => 0), zp O p (fun _ => none)) Q := by
  have e1 : p ≠ p + 1 := by omega
  have e2 : p ≠ p + 2 := by omega
  have e3 : p ≠ p + 3 := by omega
  have e4 : p ≠ p + 4 := by omega
  have e5 : p ≠ p + 5 := by omega
  have e6 : p ≠ p + 6 := by omega
  have e7 : p ≠ p + 7 := by omega
  have e8 : p ≠ p + 8 := by omega
  have e9 : p ≠ p + 9 := by omega
  have e67 : p + 6 ≠ p + 7 := by omega
  have e68 : p + 6 ≠ p + 8 := by omega
  have e69 : p + 6 ≠ p + 9 := by omega
  have e89 : p + 8 ≠ p + 9 := by omega
  simp (decide := true) only [s0_0, s0_0q, s0_1, s0_4, s0_4q, s0_5, s0_7, s0_10, s0_10q, s0_13, s0_13q, s0_14, s0_15, s0_18, znew_eq, Nat.add_assoc, Nat.reduceAdd, zpN, zpA, e1, e2, e3, e4, e5, e6, e7, e8, e9, e67, e68, e69, e89, ne_eq, zs_of, List.length_cons, List.length_nil, tl_some, tl_none, zrf_some, zdrop_i, zdrop_r, zdrop_q, zdrop_n, zdrop_l, i32_12, i32_1170, i32_2, i32_3, i32_5, i32_6, i32_8, i32_36, i32_200, Int32.reduceLE, Int32.reduceLT, Int32.reduceAdd, Int32.reduceSub, Int32.reduceMul, true_and, and_true, eq_self, true_or, or_true, not_true, not_false_iff, ↓reduceIte, zuo, zuA, zu_nk, zrow_at, zrow_ne]
  refine hq _ _ _ _ _ (fun c hc => ?_) ?_
  · have b0 : c ≠ p := by omega
    have b1 : ∀ k, c ≠ p + k := fun k => by omega
    dsimp only
    simp only [zpN, zo_ne, b0, b1, ne_eq, not_false_eq_true, and_self]
  · simp (disch := first | omega | decide) only [zpN, zpA, zo_ne, zo_at, zo_nk, and_self, implies_true]
end INIT
