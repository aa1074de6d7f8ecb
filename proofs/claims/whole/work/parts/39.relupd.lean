/-- the same, told from the stretch's own beginning -/
def PR0 (I : Nat → Int32 → Int32) (p : Nat) (F : Int32 → Int32) : Prop := (I p 5 = F 0 ∧ I p 6 = F 1 ∧ I p 8 = F 2 ∧ I p 7 = F 3) ∧ (∀ l, l = 0 ∨ l = 1 → I (lnA p l) 1 = F (4 + l) ∧ ∀ k, 0 ≤ k → k < I (lnA p l) 1 → I (lnA p l + 1) k = F (6 + 12 * l + k)) ∧ ∀ t, 0 ≤ t → t < I p 5 → I (p + 1) t = F (30 + t) ∧ I (p + 2) t = F (42 + t) ∧ I (p + 3) t = F (66 + t) ∧ I (p + 4) t = F (54 + t) ∧ I (p + 5) t = F (78 + t)
theorem i32_add0 (b : Int32) : b + 0 = b := by grind
theorem PR_iff {I : Nat → Int32 → Int32} {p : Nat} {f : Int32 → Int32} {b : Int32} : PR I p f b ↔ PR0 I p (fun j => f (b + j)) := by
  unfold PR PR0
  simp only [addA, i32_add0]
theorem zset_sh {f : Int32 → Int32} {b j v : Int32} : (fun k => zset f (b + j) v (b + k)) = zset (fun k => f (b + k)) j v := by
  funext k
  unfold zset
  by_cases h : k = j
  · rw [if_pos (by rw [h]), if_pos h]
  · rw [if_neg (by grind), if_neg h]
theorem zuo {I : Nat → Int32 → Int32} {a c : Nat} {k v : Int32} (h : c ≠ a) : zu I a k v c = I c := by
  funext j
  unfold zu
  rw [if_neg (fun z => h z.1)]
theorem zuA {I : Nat → Int32 → Int32} {a : Nat} {k v : Int32} : zu I a k v a k = v := by
  unfold zu
  rw [if_pos ⟨rfl, rfl⟩]
theorem zu_nk {I : Nat → Int32 → Int32} {a : Nat} {k v j : Int32} (h : j ≠ k) : zu I a k v a j = I a j := by
  unfold zu
  rw [if_neg (fun z => h z.2)]
theorem e12_0 : (12 : Int32) * 0 = 0 := rfl
theorem e12_1 : (12 : Int32) * 1 = 12 := rfl
/-- a tree's number changes -/
theorem PR0.attr {I : Nat → Int32 → Int32} {p c : Nat} {F : Int32 → Int32} {o t v : Int32} (hco : (c = 1 ∧ o = 30) ∨ (c = 2 ∧ o = 42) ∨ (c = 3 ∧ o = 66) ∨ (c = 4 ∧ o = 54) ∨ (c = 5 ∧ o = 78)) (ht : 0 ≤ t ∧ t < 12) (hn : PlNum I p) (h : PR0 I p F) : PR0 (zu I (p + c) t v) p (zset F (o + t) v) := by
  have hc : 1 ≤ c ∧ c ≤ 5 := by omega
  have ho : 30 ≤ o ∧ o ≤ 78 := by clear h hn; grind
  have e0 : zu I (p + c) t v p = I p := zuo (by omega)
  obtain ⟨h1, h2, h3⟩ := h
  refine ⟨?_, fun l hl => ?_, fun s s0 s1 => ?_⟩
  · rw [e0, zset_ne (by clear h1 h2 h3 hn; grind), zset_ne (by clear h1 h2 h3 hn; grind), zset_ne (by clear h1 h2 h3 hn; grind), zset_ne (by clear h1 h2 h3 hn; grind)]
    exact h1
  · have hl2 := @lnA_cases p l
    have hm := lnA_num hn l
    obtain ⟨a1, a2⟩ := h2 l hl
    rw [zuo (by omega), zuo (by omega), zset_ne (by clear h1 h2 h3 hn a1 a2 hm; grind)]
    refine ⟨a1, fun k k0 k1 => ?_⟩
    have k12 : k < 12 := by clear h1 h2 h3 hn a1 a2; grind
    rw [zset_ne (by clear h1 h2 h3 hn a1 a2 hm k1; rcases hl with rfl | rfl <;> simp only [e12_0, e12_1] <;> grind)]
    exact a2 k k0 k1
  · rw [e0] at s1
    have hT := hn.1
    have s12 : s < 12 := by clear h1 h2 h3 hn; grind
    obtain ⟨b1, b2, b3, b4, b5⟩ := h3 s s0 s1
    have key : ∀ (d : Nat) (q : Int32), ((d = 1 ∧ q = 30) ∨ (d = 2 ∧ q = 42) ∨ (d = 3 ∧ q = 66) ∨ (d = 4 ∧ q = 54) ∨ (d = 5 ∧ q = 78)) → I (p + d) s = F (q + s) → zu I (p + c) t v (p + d) s = zset F (o + t) v (q + s) := fun d q hd he => by
      by_cases hdc : d = c ∧ s = t
      · obtain ⟨rfl, rfl⟩ := hdc
        have : q = o := by clear h1 h2 h3 hn b1 b2 b3 b4 b5; grind
        subst this
        rw [zuA, zset_at]
      · rw [zset_ne (by clear h1 h2 h3 hn b1 b2 b3 b4 b5 he; grind), ← he]
        unfold zu
        rw [if_neg (fun z => hdc ⟨by omega, z.2⟩)]
    exact ⟨key 1 30 (by simp) b1, key 2 42 (by simp) b2, key 3 66 (by simp) b3, key 4 54 (by simp) b4, key 5 78 (by simp) b5⟩
/-- a number of the plain itself changes -/
theorem PR0.scal {I : Nat → Int32 → Int32} {p : Nat} {F : Int32 → Int32} {c o v : Int32} (hco : (c = 6 ∧ o = 1) ∨ (c = 8 ∧ o = 2) ∨ (c = 7 ∧ o = 3)) (hn : PlNum I p) (h : PR0 I p F) : PR0 (zu I p c v) p (zset F o v) := by
  obtain ⟨⟨g1, g2, g3, g4⟩, h2, h3⟩ := h
  have e5 : zu I p c v p 5 = I p 5 := zu_nk (by clear h2 h3 hn g1 g2 g3 g4; grind)
  refine ⟨?_, fun l hl => ?_, fun s s0 s1 => ?_⟩
  · rw [e5, zset_ne (k := 0) (by clear h2 h3 hn g1 g2 g3 g4; grind)]
    refine ⟨g1, ?_⟩
    rcases hco with ⟨rfl, rfl⟩ | ⟨rfl, rfl⟩ | ⟨rfl, rfl⟩
    · rw [zuA, zset_at, zu_nk (by decide), zu_nk (by decide), zset_ne (by decide), zset_ne (by decide)]
      exact ⟨rfl, g3, g4⟩
    · rw [zuA, zset_at, zu_nk (by decide), zu_nk (by decide), zset_ne (by decide), zset_ne (by decide)]
      exact ⟨g2, rfl, g4⟩
    · rw [zuA, zset_at, zu_nk (by decide), zu_nk (by decide), zset_ne (by decide), zset_ne (by decide)]
      exact ⟨g2, g3, rfl⟩
  · have hl2 := @lnA_cases p l
    have hm := lnA_num hn l
    obtain ⟨a1, a2⟩ := h2 l hl
    rw [zuo (by omega), zuo (by omega), zset_ne (by clear h2 h3 hn a1 a2 hm g1 g2 g3 g4; grind)]
    refine ⟨a1, fun k k0 k1 => ?_⟩
    have k12 : k < 12 := by clear h2 h3 hn a1 a2 g1 g2 g3 g4; grind
    rw [zset_ne (by clear h2 h3 hn a1 a2 hm k1 g1 g2 g3 g4; rcases hl with rfl | rfl <;> simp only [e12_0, e12_1] <;> grind)]
    exact a2 k k0 k1
  · rw [e5] at s1
    have hT := hn.1
    have s12 : s < 12 := by clear h2 h3 hn; grind
    rw [zuo (by omega), zuo (by omega), zuo (by omega), zuo (by omega), zuo (by omega), zset_ne (by clear h2 h3 hn g1 g2 g3 g4 e5; grind), zset_ne (by clear h2 h3 hn g1 g2 g3 g4 e5; grind), zset_ne (by clear h2 h3 hn g1 g2 g3 g4 e5; grind), zset_ne (by clear h2 h3 hn g1 g2 g3 g4 e5; grind), zset_ne (by clear h2 h3 hn g1 g2 g3 g4 e5; grind)]
    exact h3 s s0 s1
/-- a cell changes -/
theorem PR0.cell {I : Nat → Int32 → Int32} {p : Nat} {F : Int32 → Int32} {l q v : Int32} (hl : l = 0 ∨ l = 1) (hq : 0 ≤ q ∧ q < 12) (hn : PlNum I p) (h : PR0 I p F) : PR0 (zu I (lnA p l + 1) q v) p (zset F (6 + 12 * l + q) v) := by
  obtain ⟨h1, h2, h3⟩ := h
  have hc := @lnA_cases p l
  have e0 : zu I (lnA p l + 1) q v p = I p := zuo (by omega)
  have ne : ∀ j, (0 ≤ j ∧ j < 6) ∨ (30 ≤ j ∧ j < 90) → j ≠ 6 + 12 * l + q := fun j hj => by
    clear h1 h2 h3 hn
    rcases hl with rfl | rfl <;> simp only [e12_0, e12_1] <;> grind
  refine ⟨?_, fun l2 hl2 => ?_, fun s s0 s1 => ?_⟩
  · rw [e0, zset_ne (ne 0 (by decide)), zset_ne (ne 1 (by decide)), zset_ne (ne 2 (by decide)), zset_ne (ne 3 (by decide))]
    exact h1
  · have hc2 := @lnA_cases p l2
    have hm := lnA_num hn l2
    obtain ⟨a1, a2⟩ := h2 l2 hl2
    rw [zuo (by omega), zset_ne (ne (4 + l2) (by clear h1 h2 h3 hn a1 a2 ne hm; grind))]
    refine ⟨a1, fun k k0 k1 => ?_⟩
    have k12 : k < 12 := by clear h1 h2 h3 hn a1 a2 ne; grind
    by_cases he : l2 = l
    · subst he
      by_cases hk : k = q
      · subst hk
        rw [zuA, zset_at]
      · rw [zu_nk hk, zset_ne (by clear h1 h2 h3 hn a1 a2 ne; grind)]
        exact a2 k k0 k1
    · rw [zuo (lnA_ne hl2 hl he).2.2, zset_ne (by clear h1 h2 h3 hn a1 a2 hm ne k1; rcases hl with rfl | rfl <;> rcases hl2 with rfl | rfl <;> simp only [e12_0, e12_1] <;> grind)]
      exact a2 k k0 k1
  · rw [e0] at s1
    have hT := hn.1
    have s12 : s < 12 := by clear h1 h2 h3 hn ne; grind
    rw [zuo (by omega), zuo (by omega), zuo (by omega), zuo (by omega), zuo (by omega), zset_ne (ne _ (by clear h1 h2 h3 hn ne; grind)), zset_ne (ne _ (by clear h1 h2 h3 hn ne; grind)), zset_ne (ne _ (by clear h1 h2 h3 hn ne; grind)), zset_ne (ne _ (by clear h1 h2 h3 hn ne; grind)), zset_ne (ne _ (by clear h1 h2 h3 hn ne; grind))]
    exact h3 s s0 s1
/-- a cell more -/
theorem PR0.ap {I : Nat → Int32 → Int32} {p : Nat} {F : Int32 → Int32} {l x : Int32} (hl : l = 0 ∨ l = 1) (hr : I (lnA p l) 1 < 12) (hn : PlNum I p) (h : PR0 I p F) : PR0 (apA I (lnA p l) x) p (zset (zset F (6 + 12 * l + F (4 + l)) x) (4 + l) (F (4 + l) + 1)) := by
  have hc := @lnA_cases p l
  have hml := lnA_num hn l
  have eL := (h.2.1 l hl).1
  have h' := PR0.cell (v := x) hl ⟨hml.1, hr⟩ hn h
  rw [eL] at h'
  unfold apA
  rw [← eL] at h' ⊢
  have n' : zu I (lnA p l + 1) (I (lnA p l) 1) x (lnA p l) = I (lnA p l) := zuo (by omega)
  generalize hI : zu I (lnA p l + 1) (I (lnA p l) 1) x = I' at *
  generalize hF : zset F (6 + 12 * l + I (lnA p l) 1) x = F' at *
  obtain ⟨h1, h2, h3⟩ := h'
  have hT : I' p = I p := by rw [← hI]; exact zuo (by omega)
  have hl6 : ∀ l2, I' (lnA p l2) = I (lnA p l2) := fun l2 => by
    have := @lnA_cases p l2
    rw [← hI]; exact zuo (by omega)
  refine ⟨?_, fun l2 hl2 => ?_, fun s s0 s1 => ?_⟩
  · rw [zuo (by omega), zset_ne (by clear h1 h2 h3 h hn; grind), zset_ne (by clear h1 h2 h3 h hn; grind), zset_ne (by clear h1 h2 h3 h hn; grind), zset_ne (by clear h1 h2 h3 h hn; grind)]
    exact h1
  · have hc2 := @lnA_cases p l2
    obtain ⟨a1, a2⟩ := h2 l2 hl2
    have hm := lnA_num hn l2
    rw [zuo (c := lnA p l2 + 1) (by omega)]
    by_cases he : l2 = l
    · subst he
      rw [zuA, zset_at]
      refine ⟨rfl, fun k k0 k1 => ?_⟩
      have k12 : k < 12 := by clear h1 h2 h3 h hn a1 a2 hl6; grind
      rw [zset_ne (by clear h1 h2 h3 h hn a1 a2 hl6 hm hml k1; rcases hl2 with rfl | rfl <;> simp only [e12_0, e12_1] <;> grind)]
      by_cases hk : k = I (lnA p l2) 1
      · rw [hk, ← hI, ← hF, zuA, zset_at]
      · refine a2 k k0 ?_
        rw [n']
        clear h1 h2 h3 h hn a1 a2 hl6
        grind
    · have hx := (lnA_ne (p := p) hl2 hl he).1
      rw [zuo hx, zset_ne (by clear h1 h2 h3 h hn a1 a2; grind)]
      refine ⟨a1, fun k k0 k1 => ?_⟩
      have k12 : k < 12 := by rw [hl6] at k1; clear h1 h2 h3 h hn a1 a2 hl6; grind
      rw [zset_ne (by clear h1 h2 h3 h hn a1 a2 hm k1; rcases hl with rfl | rfl <;> rcases hl2 with rfl | rfl <;> simp only [e12_0, e12_1] <;> grind)]
      exact a2 k k0 k1
  · rw [zuo (by omega)] at s1
    have hT2 := hn.1
    have s12 : s < 12 := by rw [hT] at s1; clear h1 h2 h3 h hn; grind
    rw [zuo (by omega), zuo (by omega), zuo (by omega), zuo (by omega), zuo (by omega), zset_ne (by clear h1 h2 h3 h hn; grind), zset_ne (by clear h1 h2 h3 h hn; grind), zset_ne (by clear h1 h2 h3 h hn; grind), zset_ne (by clear h1 h2 h3 h hn; grind), zset_ne (by clear h1 h2 h3 h hn; grind)]
    exact h3 s s0 s1
