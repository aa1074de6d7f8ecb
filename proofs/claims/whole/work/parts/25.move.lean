theorem zfirst_spec {hi : Int32} {c : Int32 → Bool} : ∀ p, zfirst hi c p = -1 ∨ (p ≤ zfirst hi c p ∧ zfirst hi c p < hi ∧ c (zfirst hi c p) = true) := by
  refine zup_ind hi (fun p hp => Or.inl (zfirst_end hp)) (fun p hp ih => ?_)
  rw [zfirst_go hp]
  by_cases h : c p = true
  · rw [if_pos h]
    exact Or.inr ⟨Int32.le_refl p, hp, h⟩
  · rw [if_neg h]
    grind
section MOVE
variable {Q : Option Value → ZH → Prop} {n : Nat} {tg ln : Nat → Nat} {I : Nat → Int32 → Int32} {J : Nat → Int32 → Int64} {O : Nat → Int32 → Option Nat} {p a c : Nat}
theorem bidA_spec : bidA I p a 0 = -1 ∨ (0 ≤ bidA I p a 0 ∧ bidA I p a 0 < I a 1 ∧ 0 ≤ I (a + 1) (bidA I p a 0) ∧ I (a + 1) (bidA I p a 0) < I p 5) := by
  have := @zfirst_spec (I a 1) (bidQ I p a) 0
  unfold bidA
  grind
/-- a line without a place -/
def rmA (I : Nat → Int32 → Int32) (a : Nat) (q : Int32) : Nat → Int32 → Int32 := zu (zsh I (a + 1) q (I a 1 - 1)) a 1 (I a 1 - 1)
def mvM (I : Nat → Int32 → Int32) (p a : Nat) : Nat → Int32 → Int32 :=
  if 0 < I a 1 ∧ 50 ≤ I (a + 1) 0 then rmA I a 0 else if bidA I p a 0 = -1 then I else
  if I (p + 3) (I (a + 1) (bidA I p a 0)) + 1 < needA (I (p + 1) (I (a + 1) (bidA I p a 0))) then zu I (p + 3) (I (a + 1) (bidA I p a 0)) (I (p + 3) (I (a + 1) (bidA I p a 0)) + 1)
  else zu (rmA (zu I (p + 3) (I (a + 1) (bidA I p a 0)) (I (p + 3) (I (a + 1) (bidA I p a 0)) + 1)) a (bidA I p a 0)) (p + 4) (I (a + 1) (bidA I p a 0)) 1
def mvR (I : Nat → Int32 → Int32) (p a : Nat) : Int32 :=
  if 0 < I a 1 ∧ 50 ≤ I (a + 1) 0 then 99 else if bidA I p a 0 = -1 then 99 else
  if I (p + 3) (I (a + 1) (bidA I p a 0)) + 1 < needA (I (p + 1) (I (a + 1) (bidA I p a 0))) then 99 else I (a + 1) (bidA I p a 0)
theorem c_Plain_moveUp {x : Int32} (h : PlSh tg ln O p) (hn : PlNum I p) : Runs 56 0 [some (.ref p), some (.ref (lnA p x)), none, none] [] (n, tg, ln, I, J, O) Q ↔ Q (some (.int (mvR I p (lnA p x)))) (n, tg, ln, mvM I p (lnA p x), J, O) := by
  obtain ⟨⟨t0, t1, t2, t3, t4, t5, -⟩, ⟨l1, l2, l3, l4, l5, -⟩, ⟨o0, o1, o2, o3, o4, -⟩⟩ := id h
  have ta := lnA_tg h x
  have tc := lnA_tc h x
  have lc := lnA_lc h x
  have oa := lnA_O h x
  have hm := lnA_num hn x
  have hb := hn.1
  have hbid := fun (Q : Option Value → ZH → Prop) => @c_Plain_placeToBid Q n tg ln I J O p x h hn
  have hpl : lnA p x = p + 6 ∨ lnA p x = p + 8 := by unfold lnA; split <;> simp
  have hsp := @bidA_spec I p (lnA p x)
  generalize lnA p x = a at *
  have hrm := fun (Q : Option Value → ZH → Prop) (I2 : Nat → Int32 → Int32) (q : Int32) (e1 : I2 a 1 = I a 1) (h1 : 0 ≤ q) (h2 : q < I a 1) => @c_Line_remove Q n tg ln I2 J O a (a + 1) q ta oa tc lc (by omega) (by rw [e1]; exact hm.1) (by rw [e1]; exact hm.2) h1 (by rw [e1]; exact h2)
  unfold mvM mvR
  by_cases h1 : 0 < I a 1 ∧ 50 ≤ I (a + 1) 0
  · have r1 := fun Q => hrm Q I 0 rfl (by decide) h1.1
    simp only [if_pos h1]
    simp only [s56_0, s56_0q, s56_1, s56_4, s56_7, s56_7q, s56_8, s56_11, s56_12, s56_13, s56_16, s56_19, s56_19q, s56_20, s56_21, s56_24, s56_26, s56_27, s56_27q, s56_28, s56_28q, s56_29, s56_29q, s56_32, s56_33, s56_34, s56_35, s56_38, s56_40, s56_41, s56_41q, s56_42, s56_45, s56_46, s56_47, s56_48, s56_48q, s56_49, s56_52, s56_53, s56_54, s56_55, s56_56, s56_57, s56_58, s56_58q, s56_59, s56_62, s56_63, s56_64, s56_64q, s56_65, s56_68, s56_69, s56_70, s56_73, s56_76, s56_78, s56_79, s56_79q, s56_80, s56_81, s56_84, s56_84q, s56_85, s56_88, s56_89, s56_90, s56_91, s56_92, c_Line_isGap, ta, tc, lc, oa, zs0, zs2, tl_some, tl_none, zrf_some, zdrop_i, zdrop_r, zdrop_n, i32_12, if_neg (show ¬ I a 1 ≤ 0 by grind), if_pos h1.2, if_neg (show ¬ (1 : Int32) = 0 by decide), r1]
    unfold rmA
    grind
  · simp only [if_neg h1]
    by_cases h2 : bidA I p a 0 = -1
    · simp only [if_pos h2]
      simp only [s56_0, s56_0q, s56_1, s56_4, s56_7, s56_7q, s56_8, s56_11, s56_12, s56_13, s56_16, s56_19, s56_19q, s56_20, s56_21, s56_24, s56_26, s56_27, s56_27q, s56_28, s56_28q, s56_29, s56_29q, s56_32, s56_33, s56_34, s56_35, s56_38, s56_40, s56_41, s56_41q, s56_42, s56_45, s56_46, s56_47, s56_48, s56_48q, s56_49, s56_52, s56_53, s56_54, s56_55, s56_56, s56_57, s56_58, s56_58q, s56_59, s56_62, s56_63, s56_64, s56_64q, s56_65, s56_68, s56_69, s56_70, s56_73, s56_76, s56_78, s56_79, s56_79q, s56_80, s56_81, s56_84, s56_84q, s56_85, s56_88, s56_89, s56_90, s56_91, s56_92, c_Line_isGap, t0, ta, tc, lc, oa, zs0, zs2, tl_some, tl_none, zrf_some, zdrop_i, zdrop_r, zdrop_n, i32_12, hbid, h2]
      grind
    · simp only [if_neg h2]
      obtain ⟨b1, b2, b3, b4⟩ := hsp.resolve_left h2
      generalize hq : bidA I p a 0 = q at *
      generalize htr : I (a + 1) q = t at *
      have e1 : zu I (p + 3) t (I (p + 3) t + 1) a 1 = I a 1 := by unfold zu; grind
      have e2 : zu I (p + 3) t (I (p + 3) t + 1) (p + 3) t = I (p + 3) t + 1 := by unfold zu; grind
      have e3 : zu I (p + 3) t (I (p + 3) t + 1) (p + 1) t = I (p + 1) t := by unfold zu; grind
      have r1 := fun Q => hrm Q (zu I (p + 3) t (I (p + 3) t + 1)) q e1 b1 b2
      simp only [s56_0, s56_0q, s56_1, s56_4, s56_7, s56_7q, s56_8, s56_11, s56_12, s56_13, s56_16, s56_19, s56_19q, s56_20, s56_21, s56_24, s56_26, s56_27, s56_27q, s56_28, s56_28q, s56_29, s56_29q, s56_32, s56_33, s56_34, s56_35, s56_38, s56_40, s56_41, s56_41q, s56_42, s56_45, s56_46, s56_47, s56_48, s56_48q, s56_49, s56_52, s56_53, s56_54, s56_55, s56_56, s56_57, s56_58, s56_58q, s56_59, s56_62, s56_63, s56_64, s56_64q, s56_65, s56_68, s56_69, s56_70, s56_73, s56_76, s56_78, s56_79, s56_79q, s56_80, s56_81, s56_84, s56_84q, s56_85, s56_88, s56_89, s56_90, s56_91, s56_92, c_Line_isGap, c_Kinds_bidsNeeded, t0, t1, t3, t4, l1, l3, l4, o0, o2, o3, ta, tc, lc, oa, zs0, zs1, zs2, tl_some, tl_none, zrf_some, zdrop_i, zdrop_r, zdrop_n, i32_12, hbid, hq, htr, e2, e3, r1]
      unfold rmA
      grind
/-- a night: what is written, who is called -/
def pushM (I : Nat → Int32 → Int32) (p a : Nat) : Nat → Int32 → Int32 := zrow I (a + 1) (pushA (I a 1) (swA I p) (I (a + 1)))
def ntP (I : Nat → Int32 → Int32) (p : Nat) : Nat → Int32 → Int32 := pushM (pushM I p (p + 6)) p (p + 8)
def ntM (I : Nat → Int32 → Int32) (p : Nat) : Nat → Int32 → Int32 :=
  zu (if wayA (ntP I p) p = -1 then ntP I p else if I p 6 = 0 then zu (mvM (ntP I p) p (lnA p (wayA (ntP I p) p))) p 7 (1 - wayA (ntP I p) p) else mvM (ntP I p) p (lnA p (wayA (ntP I p) p))) p 8 (I p 8 + 1)
def ntR (I : Nat → Int32 → Int32) (p : Nat) : Int32 := if wayA (ntP I p) p = -1 then 99 else mvR (ntP I p) p (lnA p (wayA (ntP I p) p))
theorem pushM_o {a b : Nat} (hb : b ≠ a + 1) : pushM I p a b = I b := by
  unfold pushM zrow
  funext k
  rw [if_neg hb]
theorem mvM_o {a b : Nat} {k : Int32} (h1 : b ≠ a) (h2 : b ≠ a + 1) (h3 : b ≠ p + 3) (h4 : b ≠ p + 4) : mvM I p a b k = I b k := by
  have hz : ∀ (I : Nat → Int32 → Int32) q, rmA I a q b k = I b k := fun I q => by unfold rmA zu zsh; grind
  have hu : ∀ (I : Nat → Int32 → Int32) (d : Nat) j v, b ≠ d → zu I d j v b k = I b k := fun I d j v hd => by unfold zu; rw [if_neg (fun z => hd z.1)]
  unfold mvM
  split
  · exact hz _ _
  split
  · rfl
  split
  · exact hu _ _ _ _ h3
  · rw [hu _ _ _ _ h4, hz, hu _ _ _ _ h3]
theorem PlNum.push {a : Nat} (hn : PlNum I p) (ha : a = p + 6 ∨ a = p + 8) : PlNum (pushM I p a) p := by
  unfold PlNum at *
  rw [pushM_o (by omega), pushM_o (by omega), pushM_o (by omega)]
  exact hn
theorem c_Plain_passNight (h : PlSh tg ln O p) (hn : PlNum I p) : Runs 51 0 [some (.ref p), none, none] [] (n, tg, ln, I, J, O) Q ↔ Q (some (.int (ntR I p))) (n, tg, ln, ntM I p, J, O) := by
  obtain ⟨⟨t0, t1, t2, t3, t4, t5, t6, t7, t8, t9⟩, -, ⟨o0, o1, o2, o3, o4, o9, o10, o6, o8⟩⟩ := id h
  have n1 : PlNum (pushM I p (p + 6)) p := hn.push (Or.inl rfl)
  have n2 : PlNum (ntP I p) p := n1.push (Or.inr rfl)
  have p0 := fun (Q : Option Value → ZH → Prop) => @c_Plain_pushIn Q n tg ln I J O p 0 h hn
  have p1 := fun (Q : Option Value → ZH → Prop) => @c_Plain_pushIn Q n tg ln (pushM I p (p + 6)) J O p 1 h n1
  rw [show lnA p 0 = p + 6 from rfl] at p0
  rw [show lnA p 1 = p + 8 from rfl] at p1
  have p0 : ∀ Q, (Runs 52 0 [some (.ref p), some (.ref (p + 6)), none, none, none] [] (n, tg, ln, I, J, O) Q ↔ Q none (n, tg, ln, pushM I p (p + 6), J, O)) := p0
  have p1 : ∀ Q, (Runs 52 0 [some (.ref p), some (.ref (p + 8)), none, none, none] [] (n, tg, ln, pushM I p (p + 6), J, O) Q ↔ Q none (n, tg, ln, ntP I p, J, O)) := p1
  have w0 := fun (Q : Option Value → ZH → Prop) => @c_Plain_way Q n tg ln (ntP I p) J O p h n2
  have m0 := fun (Q : Option Value → ZH → Prop) x => @c_Plain_moveUp Q n tg ln (ntP I p) J O p x h n2
  have e6 : ntP I p p = I p := by unfold ntP; rw [pushM_o (by omega), pushM_o (by omega)]
  have em : ∀ x k, mvM (ntP I p) p (lnA p x) p k = I p k := fun x k => by
    rw [mvM_o (by unfold lnA; split <;> omega) (by unfold lnA; split <;> omega) (by omega) (by omega), e6]
  have e8 : ∀ x v, zu (mvM (ntP I p) p (lnA p x)) p 7 v p 8 = I p 8 := fun x v => by
    unfold zu
    rw [if_neg (fun z => absurd z.2 (by decide)), em]
  unfold ntM ntR
  simp only [s51_0, s51_0q, s51_1, s51_1q, s51_2, s51_5, s51_5q, s51_8, s51_8q, s51_9, s51_9q, s51_10, s51_13, s51_13q, s51_16, s51_18, s51_19, s51_19q, s51_20, s51_23, s51_24, s51_25, s51_26, s51_29, s51_29q, s51_30, s51_30q, s51_31, s51_32, s51_35, s51_35q, s51_38, s51_39, s51_40, s51_41, s51_44, s51_44q, s51_45, s51_48, s51_51, s51_51q, s51_52, s51_53, s51_54, s51_55, s51_58, s51_58q, s51_59, s51_59q, s51_60, s51_63, s51_64, s51_65, s51_68, s51_69, c_Plain_lineOf h, p0, p1, w0, m0, t0, o9, o10, lnA_tg h, zs0, zs1, zs2, tl_some, tl_none, zrf_some, zdrop_i, zdrop_r, zdrop_n, e6, em, e8]
  grind
end MOVE
