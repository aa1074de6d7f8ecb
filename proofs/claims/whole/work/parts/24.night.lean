section NIGHT
variable {Q : Option Value → ZH → Prop} {n : Nat} {tg ln : Nat → Nat} {I : Nat → Int32 → Int32} {J : Nat → Int32 → Int64} {O : Nat → Int32 → Option Nat} {p a c : Nat}
/-- how many bids a kind needs -/
def needA (k : Int32) : Int32 := if k = 0 then 1 else if k = 1 then 1 else if k = 2 then 2 else if k = 4 then 3 else 0
theorem c_Kinds_bidsNeeded {x : Int32} {h : ZH} : Runs 17 0 [some (.int x)] [] h Q ↔ Q (some (.int (needA x))) h := by
  simp only [s17_0, s17_1, s17_36, s17_37, s17_38, s17_39, s17_40, s17_41, s17_42, s17_43]
  unfold needA
  grind
/-- a row of cells in which those that push have pushed -/
def zrow (I : Nat → Int32 → Int32) (c : Nat) (g : Int32 → Int32) : Nat → Int32 → Int32 := fun b k => if b = c then g k else I b k
def zswap (f : Int32 → Int32) (q : Int32) : Int32 → Int32 := fun k => if k = q - 1 then f q else if k = q then f (q - 1) else f k
def pushA (hi : Int32) (sw : Int32 → Int32 → Bool) (f : Int32 → Int32) : Int32 → Int32 := zfor hi (fun q f => if sw (f q) (f (q - 1)) then zswap f q else f) 1 f
theorem zrow_self (c : Nat) : zrow I c (I c) = I := by
  funext b k; unfold zrow; grind
theorem c_Plain_pushIn {x : Int32} (h : PlSh tg ln O p) (hn : PlNum I p) : Runs 52 0 [some (.ref p), some (.ref (lnA p x)), none, none, none] [] (n, tg, ln, I, J, O) Q ↔ Q none (n, tg, ln, zrow I (lnA p x + 1) (pushA (I (lnA p x) 1) (swA I p) (I (lnA p x + 1))), J, O) := by
  obtain ⟨⟨t0, t1, t2, -⟩, ⟨l1, l2, -⟩, ⟨o0, o1, -⟩⟩ := id h
  have ta := lnA_tg h x
  have tc := lnA_tc h x
  have lc := lnA_lc h x
  have oa := lnA_O h x
  have hm := lnA_num hn x
  have hpl : lnA p x = p + 6 ∨ lnA p x = p + 8 := by unfold lnA; split <;> simp
  generalize lnA p x = a at *
  have loop : ∀ q, ∀ f : Int32 → Int32, 1 ≤ q → ∀ y z, (Runs 52 2 [some (.ref p), some (.ref a), some (.int q), y, z] [] (n, tg, ln, zrow I (a + 1) f, J, O) Q ↔ Q none (n, tg, ln, zrow I (a + 1) (zfor (I a 1) (fun q f => if swA I p (f q) (f (q - 1)) then zswap f q else f) q f), J, O)) := by
    have ea : ∀ f, zrow I (a + 1) f a 1 = I a 1 := fun f => by unfold zrow; rw [if_neg (by omega)]
    have ec : ∀ f q, zrow I (a + 1) f (a + 1) q = f q := fun f q => by unfold zrow; rw [if_pos rfl]
    have en : ∀ f, PlNum (zrow I (a + 1) f) p := fun f => by
      unfold PlNum zrow at *
      rw [if_neg (by omega), if_neg (by omega), if_neg (by omega)]
      exact hn
    have es : ∀ f u v, swA (zrow I (a + 1) f) p u v = swA I p u v := fun f u v => by
      unfold swA zrow
      simp only [if_neg (show ¬ p = a + 1 by omega), if_neg (show ¬ p + 1 = a + 1 by omega), if_neg (show ¬ p + 2 = a + 1 by omega)]
    refine zup_ind (I a 1) (fun q hq f h1 y z => ?_) (fun q hq ih f h1 y z => ?_)
    · rw [s52_2]
      simp only [s52_0, s52_1, s52_3, s52_3q, s52_4, s52_7, s52_10, s52_10q, s52_11, s52_14, s52_15, s52_16, s52_17, s52_17q, s52_18, s52_21, s52_22, s52_23, s52_24, s52_25, s52_27, s52_27q, s52_28, s52_29, s52_31, s52_34, s52_37, s52_37q, s52_38, s52_39, s52_40, s52_41, s52_42, s52_45, s52_45q, s52_46, s52_47, s52_49, s52_52, s52_55, s52_58, ta, zdrop_i, zdrop_r, zdrop_n, ea, zfor_end hq]
      grind
    · rw [s52_2]
      have e2 : ∀ u v, zu (zu (zrow I (a + 1) f) (a + 1) (q - 1) u) (a + 1) q v = zrow I (a + 1) (fun k => if k = q then v else if k = q - 1 then u else f k) := fun u v => by
        funext b k; unfold zu zrow; grind
      have e3 : ∀ u, zu (zrow I (a + 1) f) (a + 1) (q - 1) u = zrow I (a + 1) (fun k => if k = q - 1 then u else f k) := fun u => by
        funext b k; unfold zu zrow; grind
      have hput := fun (Q : Option Value → ZH → Prop) (g : Int32 → Int32) (q x : Int32) => @c_Line_put Q n tg ln (zrow I (a + 1) g) J O a (a + 1) q x ta oa tc lc (by rw [ea]; exact hm.2)
      have hwp := fun (Q : Option Value → ZH → Prop) (g : Int32 → Int32) (x y : Int32) => @c_Plain_wouldPush Q n tg ln (zrow I (a + 1) g) J O p x y h (en g)
      have b1 : (0 ≤ q - 1 ∧ q - 1 < I a 1) := by grind
      have b2 : (0 ≤ q ∧ q < I a 1) := by grind
      simp only [s52_0, s52_1, s52_3, s52_3q, s52_4, s52_7, s52_10, s52_10q, s52_11, s52_14, s52_15, s52_16, s52_17, s52_17q, s52_18, s52_21, s52_22, s52_23, s52_24, s52_25, s52_27, s52_27q, s52_28, s52_29, s52_31, s52_34, s52_37, s52_37q, s52_38, s52_39, s52_40, s52_41, s52_42, s52_45, s52_45q, s52_46, s52_47, s52_49, s52_52, s52_55, s52_58, ta, tc, lc, oa, t0, zs0, zs2, tl_some, tl_none, zrf_some, zdrop_i, zdrop_r, zdrop_n, i32_12, ea, ec, hwp, es, hput, if_pos b1, if_pos b2, e3, zfor_go hq]
      have i1 := ih f (by grind)
      have i2 := ih (zswap f q) (by grind)
      have e4 : zu (zrow I (a + 1) (fun k => if k = q - 1 then f q else f k)) (a + 1) q (f (q - 1)) = zrow I (a + 1) (zswap f q) := by
        funext b k; unfold zu zrow zswap; grind
      simp only [e4, i1, i2]
      grind
  have l0 := loop 1 (I (a + 1)) (by decide) none none
  rw [zrow_self] at l0
  simp only [s52_0, s52_1, s52_3, s52_3q, s52_4, s52_7, s52_10, s52_10q, s52_11, s52_14, s52_15, s52_16, s52_17, s52_17q, s52_18, s52_21, s52_22, s52_23, s52_24, s52_25, s52_27, s52_27q, s52_28, s52_29, s52_31, s52_34, s52_37, s52_37q, s52_38, s52_39, s52_40, s52_41, s52_42, s52_45, s52_45q, s52_46, s52_47, s52_49, s52_52, s52_55, s52_58, zdrop_i, zdrop_r, zdrop_n]
  exact l0
def isT (I : Nat → Int32 → Int32) (p : Nat) (x : Int32) : Prop := 0 ≤ x ∧ x < I p 5
def frA (I : Nat → Int32 → Int32) (p a : Nat) : Int32 := if I a 1 = 0 then -1 else if 0 ≤ I (a + 1) 0 ∧ I (a + 1) 0 < I p 5 then I (p + 2) (I (a + 1) 0) else -1
theorem c_Plain_firstRoot {x : Int32} (h : PlSh tg ln O p) (hn : PlNum I p) : Runs 55 0 [some (.ref p), some (.ref (lnA p x)), none] [] (n, tg, ln, I, J, O) Q ↔ Q (some (.int (frA I p (lnA p x)))) (n, tg, ln, I, J, O) := by
  obtain ⟨⟨t0, t1, t2, -⟩, ⟨l1, l2, -⟩, ⟨o0, o1, -⟩⟩ := id h
  have ta := lnA_tg h x
  have tc := lnA_tc h x
  have lc := lnA_lc h x
  have oa := lnA_O h x
  have hm := lnA_num hn x
  have hb := hn.1
  unfold frA
  simp only [s55_0, s55_0q, s55_1, s55_4, s55_7, s55_8, s55_9, s55_9q, s55_10, s55_13, s55_14, s55_15, s55_16, s55_16q, s55_17, s55_18, s55_21, s55_24, s55_24q, s55_25, s55_28, s55_29, s55_30, s55_33, s55_34, c_Plain_isTree h, t0, t1, t2, l1, l2, o0, o1, ta, tc, lc, oa, zs0, zs2, tl_some, tl_none, zrf_some, zdrop_i, zdrop_r, zdrop_n, i32_12]
  grind
/-- the line that has its way -/
def wayA (I : Nat → Int32 → Int32) (p : Nat) : Int32 := if I (p + 6) 1 = 0 ∧ I (p + 8) 1 = 0 then -1 else if I p 6 = 0 then (if 0 < I (lnA p (I p 7)) 1 then I p 7 else 1 - I p 7) else if I p 6 = 1 then (if I (p + 6) 1 < I (p + 8) 1 then 1 else 0) else (if frA I p (p + 6) < frA I p (p + 8) then 1 else 0)
theorem c_Plain_way (h : PlSh tg ln O p) (hn : PlNum I p) : Runs 54 0 [some (.ref p)] [] (n, tg, ln, I, J, O) Q ↔ Q (some (.int (wayA I p))) (n, tg, ln, I, J, O) := by
  obtain ⟨⟨t0, t1, t2, t3, t4, t5, t6, t7, t8, t9⟩, -, ⟨o0, o1, o2, o3, o4, o9, o10, o6, o8⟩⟩ := id h
  have ta := lnA_tg h
  have f0 := fun (Q : Option Value → ZH → Prop) => @c_Plain_firstRoot Q n tg ln I J O p 0 h hn
  have f1 := fun (Q : Option Value → ZH → Prop) => @c_Plain_firstRoot Q n tg ln I J O p 1 h hn
  rw [show lnA p 0 = p + 6 from rfl] at f0
  rw [show lnA p 1 = p + 8 from rfl] at f1
  unfold wayA
  simp only [s54_0, s54_0q, s54_1, s54_4, s54_7, s54_8, s54_9, s54_9q, s54_10, s54_13, s54_16, s54_16q, s54_17, s54_17q, s54_18, s54_21, s54_24, s54_27, s54_30, s54_30q, s54_31, s54_34, s54_37, s54_38, s54_38q, s54_39, s54_42, s54_43, s54_44, s54_44q, s54_45, s54_48, s54_49, s54_52, s54_52q, s54_53, s54_56, s54_59, s54_59q, s54_60, s54_63, s54_66, s54_69, s54_70, s54_73, s54_74, s54_75, s54_75q, s54_76, s54_76q, s54_77, s54_80, s54_80q, s54_83, s54_83q, s54_84, s54_84q, s54_85, s54_88, s54_88q, s54_91, s54_94, s54_95, s54_98, s54_99, c_Plain_hasNoPlaces h, c_Plain_lineOf h, f0, f1, t0, t6, t8, o9, o10, ta, zs0, zs1, zs2, tl_some, tl_none, zrf_some, zdrop_i, zdrop_r, zdrop_n]
  grind
def bidQ (I : Nat → Int32 → Int32) (p a : Nat) (q : Int32) : Bool := !(decide (0 ≤ I (a + 1) q ∧ I (a + 1) q < I p 5)) || decide (0 < needA (I (p + 1) (I (a + 1) q)))
def bidA (I : Nat → Int32 → Int32) (p a : Nat) (q : Int32) : Int32 := if zfirst (I a 1) (bidQ I p a) q = -1 then -1 else if 0 ≤ I (a + 1) (zfirst (I a 1) (bidQ I p a) q) ∧ I (a + 1) (zfirst (I a 1) (bidQ I p a) q) < I p 5 then zfirst (I a 1) (bidQ I p a) q else -1
theorem c_Plain_placeToBid {x : Int32} (h : PlSh tg ln O p) (hn : PlNum I p) : Runs 57 0 [some (.ref p), some (.ref (lnA p x)), none, none] [] (n, tg, ln, I, J, O) Q ↔ Q (some (.int (bidA I p (lnA p x) 0))) (n, tg, ln, I, J, O) := by
  obtain ⟨⟨t0, t1, t2, -⟩, ⟨l1, l2, -⟩, ⟨o0, o1, -⟩⟩ := id h
  have ta := lnA_tg h x
  have tc := lnA_tc h x
  have lc := lnA_lc h x
  have oa := lnA_O h x
  have hm := lnA_num hn x
  have hb := hn.1
  generalize lnA p x = a at *
  have loop : ∀ q, 0 ≤ q → ∀ y, (Runs 57 2 [some (.ref p), some (.ref a), some (.int q), y] [] (n, tg, ln, I, J, O) Q ↔ Q (some (.int (bidA I p a q))) (n, tg, ln, I, J, O)) := by
    refine zup_ind (I a 1) (fun q hq h1 y => ?_) (fun q hq ih h1 y => ?_)
    · rw [s57_2]
      unfold bidA
      simp only [s57_0, s57_1, s57_3, s57_3q, s57_4, s57_7, s57_10, s57_10q, s57_11, s57_14, s57_15, s57_16, s57_17, s57_17q, s57_18, s57_19, s57_22, s57_25, s57_26, s57_27, s57_27q, s57_28, s57_31, s57_32, s57_33, s57_36, s57_39, s57_40, s57_41, s57_44, s57_47, s57_48, ta, zdrop_i, zdrop_r, zdrop_n, zfirst_end hq]
      grind
    · rw [s57_2]
      have i1 := ih (by grind)
      unfold bidA at i1 ⊢
      simp only [s57_0, s57_1, s57_3, s57_3q, s57_4, s57_7, s57_10, s57_10q, s57_11, s57_14, s57_15, s57_16, s57_17, s57_17q, s57_18, s57_19, s57_22, s57_25, s57_26, s57_27, s57_27q, s57_28, s57_31, s57_32, s57_33, s57_36, s57_39, s57_40, s57_41, s57_44, s57_47, s57_48, c_Plain_isTree h, c_Kinds_bidsNeeded, t0, t1, l1, o0, ta, tc, lc, oa, zs0, zs2, tl_some, tl_none, zrf_some, zdrop_i, zdrop_r, zdrop_n, i32_12, zfirst_go hq]
      unfold bidQ at i1 ⊢
      grind
  simp only [s57_0, s57_1, s57_3, s57_3q, s57_4, s57_7, s57_10, s57_10q, s57_11, s57_14, s57_15, s57_16, s57_17, s57_17q, s57_18, s57_19, s57_22, s57_25, s57_26, s57_27, s57_27q, s57_28, s57_31, s57_32, s57_33, s57_36, s57_39, s57_40, s57_41, s57_44, s57_47, s57_48, zdrop_i, zdrop_r, zdrop_n]
  exact loop 0 (by decide) none
end NIGHT
