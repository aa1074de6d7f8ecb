section PLAINB
variable {Q : Option Value → ZH → Prop} {n : Nat} {tg ln : Nat → Nat} {I : Nat → Int32 → Int32} {J : Nat → Int32 → Int64} {O : Nat → Int32 → Option Nat} {p a c : Nat}
def setA (I : Nat → Int32 → Int32) (p : Nat) (w : Int32) : Int32 := zfor (I p 5) (fun t s => if I (p + 4) t = w then s ||| (1 <<< (t &&& 31)) else s) 0 0
theorem c_Plain_setOf {w : Int32} (h : PlSh tg ln O p) (hn : PlNum I p) : Runs 44 0 [some (.ref p), some (.int w), none, none] [] (n, tg, ln, I, J, O) Q ↔ Q (some (.int (setA I p w))) (n, tg, ln, I, J, O) := by
  obtain ⟨⟨t0, t1, t2, t3, t4, t5, -⟩, ⟨l1, l2, l3, l4, l5, -⟩, ⟨o0, o1, o2, o3, o4, -⟩⟩ := id h
  have hb := hn.1
  have loop : ∀ q, 0 ≤ q → ∀ s, (Runs 44 4 [some (.ref p), some (.int w), some (.int s), some (.int q)] [] (n, tg, ln, I, J, O) Q ↔ Q (some (.int (zfor (I p 5) (fun t s => if I (p + 4) t = w then s ||| (1 <<< (t &&& 31)) else s) q s))) (n, tg, ln, I, J, O)) := by
    refine zup_ind (I p 5) (fun q hq h1 s => ?_) (fun q hq ih h1 s => ?_)
    · rw [s44_4]
      simp only [s44_0, s44_1, s44_2, s44_3, s44_5, s44_5q, s44_6, s44_9, s44_12, s44_12q, s44_13, s44_16, s44_17, s44_18, s44_19, s44_22, s44_23, s44_24, s44_25, s44_26, s44_27, s44_28, s44_31, s44_34, s44_35, t0, zdrop_i, zdrop_r, zdrop_n, zfor_end hq]
      grind
    · rw [s44_4]
      have i1 := ih (by grind)
      simp only [s44_0, s44_1, s44_2, s44_3, s44_5, s44_5q, s44_6, s44_9, s44_12, s44_12q, s44_13, s44_16, s44_17, s44_18, s44_19, s44_22, s44_23, s44_24, s44_25, s44_26, s44_27, s44_28, s44_31, s44_34, s44_35, t0, t4, l4, o3, zs0, zs2, tl_some, tl_none, zrf_some, zdrop_i, zdrop_r, zdrop_n, i32_12, zfor_go hq, i1]
      grind
  unfold setA
  simp only [s44_0, s44_1, s44_2, s44_3, s44_5, s44_5q, s44_6, s44_9, s44_12, s44_12q, s44_13, s44_16, s44_17, s44_18, s44_19, s44_22, s44_23, s44_24, s44_25, s44_26, s44_27, s44_28, s44_31, s44_34, s44_35, zdrop_i, zdrop_r, zdrop_n]
  exact loop 0 (by decide) 0
/-- one cell more -/
def apA (I : Nat → Int32 → Int32) (a : Nat) (x : Int32) : Nat → Int32 → Int32 := zu (zu I (a + 1) (I a 1) x) a 1 (I a 1 + 1)
def plM (I : Nat → Int32 → Int32) (p : Nat) (x kd rt : Int32) : Nat → Int32 → Int32 := zu (apA (zu (zu (zu (zu (zu I (p + 1) (I p 5) kd) (p + 2) (I p 5) rt) (p + 3) (I p 5) 0) (p + 4) (I p 5) 0) (p + 5) (I p 5) x) (lnA p x) (I p 5)) p 5 (I p 5 + 1)
theorem c_Plain_plant {x kd rt : Int32} (h : PlSh tg ln O p) (hn : PlNum I p) (hr : I p 5 < 12 ∧ I (lnA p x) 1 < 12) : Runs 46 0 [some (.ref p), some (.int x), some (.int kd), some (.int rt), none] [] (n, tg, ln, I, J, O) Q ↔ Q (some (.int (I p 5))) (n, tg, ln, plM I p x kd rt, J, O) := by
  obtain ⟨⟨t0, t1, t2, t3, t4, t5, -⟩, ⟨l1, l2, l3, l4, l5, -⟩, ⟨o0, o1, o2, o3, o4, -⟩⟩ := id h
  have ta := lnA_tg h x
  have hb := hn.1
  have hm := lnA_num hn x
  have hpl : lnA p x = p + 6 ∨ lnA p x = p + 8 := by unfold lnA; split <;> simp
  have hlo := fun (Q : Option Value → ZH → Prop) (I2 : Nat → Int32 → Int32) => @c_Plain_lineOf Q n tg ln I2 J O p x h
  have hhr := fun (Q : Option Value → ZH → Prop) => @c_Plain_hasRoom Q n tg ln I J O p x h
  have hap := fun (Q : Option Value → ZH → Prop) (I2 : Nat → Int32 → Int32) (t : Int32) (e1 : I2 (lnA p x) 1 = I (lnA p x) 1) => @c_Line_append Q n tg ln I2 J O (lnA p x) (lnA p x + 1) t (lnA_tg h x) (lnA_O h x) (lnA_tc h x) (lnA_lc h x) (by omega) (by rw [e1]; exact hm.1)
  unfold plM apA
  generalize lnA p x = a at *
  have e1 : zu (zu (zu (zu (zu I (p + 1) (I p 5) kd) (p + 2) (I p 5) rt) (p + 3) (I p 5) 0) (p + 4) (I p 5) 0) (p + 5) (I p 5) x a 1 = I a 1 := by unfold zu; grind
  have e5 : ∀ u v, zu (zu (zu (zu (zu (zu (zu I (p + 1) (I p 5) kd) (p + 2) (I p 5) rt) (p + 3) (I p 5) 0) (p + 4) (I p 5) 0) (p + 5) (I p 5) x) (a + 1) u v) a 1 (I a 1 + 1) p 5 = I p 5 := fun u v => by unfold zu; grind
  have ha2 := fun Q => hap Q _ (I p 5) e1
  simp only [s46_0, s46_0q, s46_1, s46_2, s46_5, s46_8, s46_9, s46_10, s46_10q, s46_11, s46_14, s46_16, s46_16q, s46_17, s46_20, s46_22, s46_23, s46_24, s46_24q, s46_25, s46_28, s46_30, s46_31, s46_32, s46_32q, s46_33, s46_36, s46_38, s46_39, s46_40, s46_40q, s46_41, s46_44, s46_46, s46_47, s46_48, s46_48q, s46_49, s46_52, s46_54, s46_55, s46_56, s46_56q, s46_57, s46_58, s46_61, s46_63, s46_66, s46_66q, s46_67, s46_67q, s46_68, s46_71, s46_72, s46_73, s46_76, s46_78, hhr, hlo, if_pos hr, if_neg (show ¬ (1 : Int32) = 0 by decide), if_pos (show ¬ (1 : Int32) = 0 by decide), t0, t1, t2, t3, t4, t5, l1, l2, l3, l4, l5, o0, o1, o2, o3, o4, ta, zs0, zs1, zs2, tl_some, tl_none, zrf_some, zdrop_i, zdrop_r, zdrop_n, i32_12, ha2, e1, if_pos hr.2, e5]
  grind
def hmM (I : Nat → Int32 → Int32) (p : Nat) (t : Int32) : Nat → Int32 → Int32 := if placeA I p t = -1 then I else zu (zu I (lnA p (I (p + 5) t) + 1) (placeA I p t) (50 + t)) (p + 4) t 2
theorem placeA_spec {t : Int32} : placeA I p t = -1 ∨ (0 ≤ placeA I p t ∧ placeA I p t < I (lnA p (I (p + 5) t)) 1 ∧ I (lnA p (I (p + 5) t) + 1) (placeA I p t) = t ∧ (0 ≤ t ∧ t < I p 5) ∧ I (p + 4) t = 0) := by
  have := @zfirst_spec (I (lnA p (I (p + 5) t)) 1) (fun q => decide (I (lnA p (I (p + 5) t) + 1) q = t)) 0
  unfold placeA
  grind
theorem c_Plain_goHome {t : Int32} (h : PlSh tg ln O p) (hn : PlNum I p) : Runs 47 0 [some (.ref p), some (.int t), none] [] (n, tg, ln, I, J, O) Q ↔ Q (some (.int (placeA I p t))) (n, tg, ln, hmM I p t, J, O) := by
  obtain ⟨⟨t0, t1, t2, t3, t4, t5, -⟩, ⟨l1, l2, l3, l4, l5, -⟩, ⟨o0, o1, o2, o3, o4, -⟩⟩ := id h
  have hb := hn.1
  have hpo := fun (Q : Option Value → ZH → Prop) => @c_Plain_placeOf Q n tg ln I J O p t h hn
  have hlo := fun (Q : Option Value → ZH → Prop) (x : Int32) => @c_Plain_lineOf Q n tg ln I J O p x h
  have hsp := @placeA_spec I p t
  have ta := lnA_tg h (I (p + 5) t)
  have hm := lnA_num hn (I (p + 5) t)
  have hpt := fun (Q : Option Value → ZH → Prop) q v => @c_Line_put Q n tg ln I J O (lnA p (I (p + 5) t)) (lnA p (I (p + 5) t) + 1) q v (lnA_tg h _) (lnA_O h _) (lnA_tc h _) (lnA_lc h _) hm.2
  unfold hmM
  by_cases h1 : placeA I p t = -1
  · simp only [s47_0, s47_0q, s47_1, s47_2, s47_5, s47_6, s47_7, s47_8, s47_11, s47_12, s47_13, s47_13q, s47_14, s47_14q, s47_15, s47_18, s47_19, s47_20, s47_23, s47_24, s47_25, s47_28, s47_31, s47_31q, s47_32, s47_35, s47_36, s47_37, s47_38, s47_39, hpo, h1, t0, zs0, tl_some, zdrop_i, zdrop_r, zdrop_n]
    grind
  · obtain ⟨b1, b2, b3, b4, b5⟩ := hsp.resolve_left h1
    have bq : 0 ≤ placeA I p t ∧ placeA I p t < I (lnA p (I (p + 5) t)) 1 := ⟨b1, b2⟩
    simp only [s47_0, s47_0q, s47_1, s47_2, s47_5, s47_6, s47_7, s47_8, s47_11, s47_12, s47_13, s47_13q, s47_14, s47_14q, s47_15, s47_18, s47_19, s47_20, s47_23, s47_24, s47_25, s47_28, s47_31, s47_31q, s47_32, s47_35, s47_36, s47_37, s47_38, s47_39, hpo, hlo, c_Line_gapOf, hpt, if_pos bq, t0, t5, t4, l4, l5, o3, o4, ta, zs0, zs1, zs2, zs3, tl_some, tl_none, zrf_some, zdrop_i, zdrop_r, zdrop_n, i32_12]
    grind
end PLAINB
