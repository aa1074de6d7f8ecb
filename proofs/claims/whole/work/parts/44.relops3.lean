theorem PR0.tree {I : Nat → Int32 → Int32} {p : Nat} {F : Int32 → Int32} (hn : PlNum I p) (hT : I p 5 < 12) (ha : I (p + 1) (I p 5) = F (30 + I p 5) ∧ I (p + 2) (I p 5) = F (42 + I p 5) ∧ I (p + 3) (I p 5) = F (66 + I p 5) ∧ I (p + 4) (I p 5) = F (54 + I p 5) ∧ I (p + 5) (I p 5) = F (78 + I p 5)) (h : PR0 I p F) : PR0 (zu I p 5 (I p 5 + 1)) p (zset F 0 (F 0 + 1)) := by
  obtain ⟨⟨g1, g2, g3, g4⟩, h2, h3⟩ := h
  have hT2 := hn.1
  refine ⟨?_, fun l hl => ?_, fun s s0 s1 => ?_⟩
  · rw [zuA, zset_at, zset_ne (by decide), zset_ne (by decide), zset_ne (by decide), zu_nk (by decide), zu_nk (by decide), zu_nk (by decide), g1]
    exact ⟨rfl, g2, g3, g4⟩
  · have hc := @lnA_cases p l
    have hm := lnA_num hn l
    obtain ⟨a1, a2⟩ := h2 l hl
    rw [zuo (by omega), zuo (by omega), zset_ne (by clear h2 h3 hn a1 a2 ha hm; grind)]
    refine ⟨a1, fun k k0 k1 => ?_⟩
    have k12 : k < 12 := by clear h2 h3 hn a1 a2 ha; grind
    rw [zset_ne (by clear h2 h3 hn a1 a2 ha hm k1; rcases hl with rfl | rfl <;> simp only [e12_0, e12_1] <;> grind)]
    exact a2 k k0 k1
  · rw [zuA] at s1
    have s12 : s < 12 := by clear h2 h3 hn ha; grind
    rw [zuo (by omega), zuo (by omega), zuo (by omega), zuo (by omega), zuo (by omega), zset_ne (by clear h2 h3 hn ha; grind), zset_ne (by clear h2 h3 hn ha; grind), zset_ne (by clear h2 h3 hn ha; grind), zset_ne (by clear h2 h3 hn ha; grind), zset_ne (by clear h2 h3 hn ha; grind)]
    by_cases hs : s = I p 5
    · rw [hs]; exact ha
    · exact h3 s s0 (by clear h2 h3 hn ha; grind)
/-- a new tree in the reference's row -/
def grM (f : Int32 → Int32) (b l kd rt : Int32) : Int32 → Int32 := zset (apM (zset (zset (zset (zset (zset f (b + 30 + f b) kd) (b + 42 + f b) rt) (b + 54 + f b) 0) (b + 66 + f b) 0) (b + 78 + f b) l) b l (f b)) b (f b + 1)
theorem PlNum.sc {I : Nat → Int32 → Int32} {p : Nat} {k v : Int32} (hk : k ≠ 5) (hn : PlNum I p) : PlNum (zu I p k v) p := by
  unfold PlNum
  rw [zu_nk (Ne.symm hk), zuo (by omega), zuo (by omega)]
  exact hn
theorem PR.plant {I : Nat → Int32 → Int32} {p : Nat} {f : Int32 → Int32} {b l kd rt : Int32} (hl : l = 0 ∨ l = 1) (hn : PlNum I p) (hr : I p 5 < 12 ∧ I (lnA p l) 1 < 12) (h : PR I p f b) : PR (plM I p l kd rt) p (grM f b l kd rt) b := by
  have hT := hn.1
  have hc := @lnA_cases p l
  have eT : f b = I p 5 := h.1.1.symm
  have tr : 0 ≤ I p 5 ∧ I p 5 < 12 := ⟨hT.1, hr.1⟩
  unfold plM grM
  rw [eT]
  have h1 := PR.attr (c := 1) (o := 30) (v := kd) (by simp) tr hn h
  have n1 := hn.attr (c := 1) (t := I p 5) (v := kd) (by omega)
  have h2 := PR.attr (c := 2) (o := 42) (v := rt) (by simp) tr n1 h1
  have n2 := n1.attr (c := 2) (t := I p 5) (v := rt) (by omega)
  have h3 := PR.attr (c := 4) (o := 54) (v := 0) (by simp) tr n2 h2
  have n3 := n2.attr (c := 4) (t := I p 5) (v := 0) (by omega)
  have h4 := PR.attr (c := 3) (o := 66) (v := 0) (by simp) tr n3 h3
  have n4 := n3.attr (c := 3) (t := I p 5) (v := 0) (by omega)
  rw [zu_comm (by omega)] at h4 n4
  have h5 := PR.attr (c := 5) (o := 78) (v := l) (by simp) tr n4 h4
  have n5 := n4.attr (c := 5) (t := I p 5) (v := l) (by omega)
  have a1 : zu (zu (zu (zu (zu I (p + 1) (I p 5) kd) (p + 2) (I p 5) rt) (p + 3) (I p 5) 0) (p + 4) (I p 5) 0) (p + 5) (I p 5) l (p + 1) (I p 5) = kd := by rw [zuo (by omega), zuo (by omega), zuo (by omega), zuo (by omega), zuA]
  have a2 : zu (zu (zu (zu (zu I (p + 1) (I p 5) kd) (p + 2) (I p 5) rt) (p + 3) (I p 5) 0) (p + 4) (I p 5) 0) (p + 5) (I p 5) l (p + 2) (I p 5) = rt := by rw [zuo (by omega), zuo (by omega), zuo (by omega), zuA]
  have a3 : zu (zu (zu (zu (zu I (p + 1) (I p 5) kd) (p + 2) (I p 5) rt) (p + 3) (I p 5) 0) (p + 4) (I p 5) 0) (p + 5) (I p 5) l (p + 3) (I p 5) = 0 := by rw [zuo (by omega), zuo (by omega), zuA]
  have a4 : zu (zu (zu (zu (zu I (p + 1) (I p 5) kd) (p + 2) (I p 5) rt) (p + 3) (I p 5) 0) (p + 4) (I p 5) 0) (p + 5) (I p 5) l (p + 4) (I p 5) = 0 := by rw [zuo (by omega), zuA]
  have a5 : zu (zu (zu (zu (zu I (p + 1) (I p 5) kd) (p + 2) (I p 5) rt) (p + 3) (I p 5) 0) (p + 4) (I p 5) 0) (p + 5) (I p 5) l (p + 5) (I p 5) = l := by rw [zuA]
  have a0 : zu (zu (zu (zu (zu I (p + 1) (I p 5) kd) (p + 2) (I p 5) rt) (p + 3) (I p 5) 0) (p + 4) (I p 5) 0) (p + 5) (I p 5) l p = I p := by rw [zuo (by omega), zuo (by omega), zuo (by omega), zuo (by omega), zuo (by omega)]
  have aL : zu (zu (zu (zu (zu I (p + 1) (I p 5) kd) (p + 2) (I p 5) rt) (p + 3) (I p 5) 0) (p + 4) (I p 5) 0) (p + 5) (I p 5) l (lnA p l) = I (lnA p l) := by rw [zuo (by omega), zuo (by omega), zuo (by omega), zuo (by omega), zuo (by omega)]
  have m1 : ∀ j, 30 ≤ j → j < 90 → apM (zset (zset (zset (zset (zset f (b + 30 + I p 5) kd) (b + 42 + I p 5) rt) (b + 54 + I p 5) 0) (b + 66 + I p 5) 0) (b + 78 + I p 5) l) b l (I p 5) (b + j) = zset (zset (zset (zset (zset f (b + 30 + I p 5) kd) (b + 42 + I p 5) rt) (b + 54 + I p 5) 0) (b + 66 + I p 5) 0) (b + 78 + I p 5) l (b + j) := fun j j0 j1 => by
    have hL := (h5.2.1 l hl).1
    have hm := lnA_num hn l
    rw [aL] at hL
    generalize zset (zset (zset (zset (zset f (b + 30 + I p 5) kd) (b + 42 + I p 5) rt) (b + 54 + I p 5) 0) (b + 66 + I p 5) 0) (b + 78 + I p 5) l = f' at *
    unfold apM
    rw [← hL, addA b 4 l, show b + 6 + 12 * l + I (lnA p l) 1 = b + (6 + 12 * l + I (lnA p l) 1) by simp only [addA], zset_ne, zset_ne]
    · clear h h1 h2 h3 h4 h5 n1 n2 n3 n4 n5 hL a1 a2 a3 a4 a5 a0 aL hn
      generalize I (lnA p l) 1 = z at *
      intro e
      have e2 : j = 6 + 12 * l + z := by clear hr hl tr hc j0 j1 hT; grind
      clear e
      rcases hl with rfl | rfl <;> simp only [e12_0, e12_1] at e2 <;> grind
    · clear h h1 h2 h3 h4 h5 n1 n2 n3 n4 n5 hL a1 a2 a3 a4 a5 a0 aL hn hm
      grind
  generalize hTT : I p 5 = T at *
  have dT : ∀ c d : Int32, (30 ≤ c ∧ c ≤ 78) → (30 ≤ d ∧ d ≤ 78) → c ≠ d → b + (c + T) ≠ b + d + T := fun c d hc hd hne e => hne (by clear h h1 h2 h3 h4 h5 n1 n2 n3 n4 n5 m1 a1 a2 a3 a4 a5 a0 aL hn; grind)
  have b1 : zset (zset (zset (zset (zset f (b + 30 + T) kd) (b + 42 + T) rt) (b + 54 + T) 0) (b + 66 + T) 0) (b + 78 + T) l (b + (30 + T)) = kd := by
    rw [zset_ne (dT 30 78 (by decide) (by decide) (by decide)), zset_ne (dT 30 66 (by decide) (by decide) (by decide)), zset_ne (dT 30 54 (by decide) (by decide) (by decide)), zset_ne (dT 30 42 (by decide) (by decide) (by decide)), ← addA, zset_at]
  have b2 : zset (zset (zset (zset (zset f (b + 30 + T) kd) (b + 42 + T) rt) (b + 54 + T) 0) (b + 66 + T) 0) (b + 78 + T) l (b + (42 + T)) = rt := by
    rw [zset_ne (dT 42 78 (by decide) (by decide) (by decide)), zset_ne (dT 42 66 (by decide) (by decide) (by decide)), zset_ne (dT 42 54 (by decide) (by decide) (by decide)), ← addA, zset_at]
  have b4 : zset (zset (zset (zset (zset f (b + 30 + T) kd) (b + 42 + T) rt) (b + 54 + T) 0) (b + 66 + T) 0) (b + 78 + T) l (b + (54 + T)) = 0 := by
    rw [zset_ne (dT 54 78 (by decide) (by decide) (by decide)), zset_ne (dT 54 66 (by decide) (by decide) (by decide)), ← addA, zset_at]
  have b3 : zset (zset (zset (zset (zset f (b + 30 + T) kd) (b + 42 + T) rt) (b + 54 + T) 0) (b + 66 + T) 0) (b + 78 + T) l (b + (66 + T)) = 0 := by
    rw [zset_ne (dT 66 78 (by decide) (by decide) (by decide)), ← addA, zset_at]
  have b5 : zset (zset (zset (zset (zset f (b + 30 + T) kd) (b + 42 + T) rt) (b + 54 + T) 0) (b + 66 + T) 0) (b + 78 + T) l (b + (78 + T)) = l := by
    rw [← addA, zset_at]
  have r30 : ∀ c : Int32, (30 ≤ c ∧ c ≤ 78) → 30 ≤ c + T ∧ c + T < 90 := fun c hc => by clear h h1 h2 h3 h4 h5 n1 n2 n3 n4 n5 m1 a1 a2 a3 a4 a5 a0 aL hn dT b1 b2 b3 b4 b5; grind
  generalize hI : zu (zu (zu (zu (zu I (p + 1) (T) kd) (p + 2) (T) rt) (p + 3) (T) 0) (p + 4) (T) 0) (p + 5) (T) l = I' at *
  generalize hF : zset (zset (zset (zset (zset f (b + 30 + T) kd) (b + 42 + T) rt) (b + 54 + T) 0) (b + 66 + T) 0) (b + 78 + T) l = f' at *
  have hr' : I' (lnA p l) 1 < 12 := by rw [aL]; exact hr.2
  have h6 := PR.ap (x := T) hl hr' n5 h5
  have n6 := n5.ap (x := T) hr'
  have c0 : apA I' (lnA p l) T p 5 = T := by rw [apA_o (by omega) (by omega), a0, hTT]
  have ca : ∀ c, c ≤ 5 → apA I' (lnA p l) T (p + c) = I' (p + c) := fun c hc5 => apA_o (by omega) (by omega)
  have h7 := PR0.tree n6 (by rw [c0]; exact tr.2) (by
    rw [c0, ca 1 (by omega), ca 2 (by omega), ca 3 (by omega), ca 4 (by omega), ca 5 (by omega), a1, a2, a3, a4, a5]
    refine ⟨?_, ?_, ?_, ?_, ?_⟩
    · rw [m1 _ (r30 30 (by decide)).1 (r30 30 (by decide)).2, b1]
    · rw [m1 _ (r30 42 (by decide)).1 (r30 42 (by decide)).2, b2]
    · rw [m1 _ (r30 66 (by decide)).1 (r30 66 (by decide)).2, b3]
    · rw [m1 _ (r30 54 (by decide)).1 (r30 54 (by decide)).2, b4]
    · rw [m1 _ (r30 78 (by decide)).1 (r30 78 (by decide)).2, b5]) (PR_iff.mp h6)
  rw [PR_iff]
  have e6 : apM f' b l T b = T := by rw [← h6.1.1, c0]
  rw [c0, ← zset_sh, i32_add0, e6] at h7
  exact h7
