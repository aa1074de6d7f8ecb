theorem zfirst_none {hi : Int32} {c : Int32 → Bool} : ∀ p, (∀ k, p ≤ k → k < hi → c k = false) → zfirst hi c p = -1 := by
  refine zup_ind hi (fun p hp _ => zfirst_end hp) (fun p hp ih h => ?_)
  rw [zfirst_go hp, h p (Int32.le_refl p) hp, if_neg (by decide)]
  exact ih (fun k k0 k1 => h k (by clear ih h; grind) k1)
theorem zfirst_ex {hi k : Int32} {c : Int32 → Bool} (hk : c k = true) : ∀ p, 0 ≤ p → p ≤ k → k < hi → zfirst hi c p ≠ -1 := by
  refine zup_ind hi (fun p hp h0 h1 h2 => absurd (by clear hk; grind : p < hi) hp) (fun p hp ih h0 h1 h2 => ?_)
  rw [zfirst_go hp]
  by_cases hc : c p = true
  · rw [if_pos hc]
    clear ih; grind
  · rw [if_neg hc]
    have hpk : p ≠ k := fun z => hc (by rw [z]; exact hk)
    exact ih (by clear ih hk; grind) (by clear ih hk; grind) h2
theorem zfirst_at {hi q : Int32} {c : Int32 → Bool} (h0 : 0 ≤ q) (h1 : q < hi) (hq : c q = true) (hu : ∀ k, 0 ≤ k → k < hi → c k = true → k = q) : zfirst hi c 0 = q := by
  rcases @zfirst_spec hi c 0 with h | ⟨a1, a2, a3⟩
  · exact absurd h (zfirst_ex hq 0 (by decide) h0 h1)
  · exact hu _ a1 a2 a3
def lkA (I : Nat → Int32 → Int32) (p : Nat) (l x : Int32) : Int32 := zfirst (I (lnA p l) 1) (fun q => decide (I (lnA p l + 1) q = x)) 0
theorem flAM {I : Nat → Int32 → Int32} {p : Nat} {f : Int32 → Int32} {b l x : Int32} (hl : l = 0 ∨ l = 1) (h : PR I p f b) : flM f b l x 0 = lkA I p l x := by
  obtain ⟨a1, a2⟩ := h.2.1 l hl
  unfold flM lkA
  rw [← a1]
  exact zfirst_congr 0 (fun k k0 k1 => by rw [a2 k k0 k1])
theorem lkA_none {I : Nat → Int32 → Int32} {p : Nat} {l x : Int32} (h : ∀ k, 0 ≤ k → k < I (lnA p l) 1 → I (lnA p l + 1) k ≠ x) : lkA I p l x = -1 := by
  unfold lkA
  exact zfirst_none 0 (fun k k0 k1 => decide_eq_false (h k k0 k1))
theorem lkA_at {I : Nat → Int32 → Int32} {p : Nat} {l q x : Int32} (hr : rowOK I p l (I (lnA p l) 1) (I (lnA p l + 1))) (h0 : 0 ≤ q) (h1 : q < I (lnA p l) 1) (hq : I (lnA p l + 1) q = x) (hx : x ≠ 90) : lkA I p l x = q := by
  unfold lkA
  refine zfirst_at h0 h1 (decide_eq_true hq) (fun k k0 k1 hk => ?_)
  have hk := of_decide_eq_true hk
  exact hr.2.1 k q k0 k1 h0 h1 (by rw [hk, hq]) (by rw [hk]; exact hx)
theorem lkA_spec {I : Nat → Int32 → Int32} {p : Nat} {l x : Int32} : lkA I p l x = -1 ∨ (0 ≤ lkA I p l x ∧ lkA I p l x < I (lnA p l) 1 ∧ I (lnA p l + 1) (lkA I p l x) = x) := by
  rcases @zfirst_spec (I (lnA p l) 1) (fun q => decide (I (lnA p l + 1) q = x)) 0 with h | ⟨a1, a2, a3⟩
  · exact Or.inl h
  · exact Or.inr ⟨a1, a2, of_decide_eq_true a3⟩
theorem lkA_absent {I : Nat → Int32 → Int32} {p : Nat} {l x k : Int32} (h : lkA I p l x = -1) (h0 : 0 ≤ k) (h1 : k < I (lnA p l) 1) : I (lnA p l + 1) k ≠ x := fun z => zfirst_ex (hi := I (lnA p l) 1) (c := fun q => decide (I (lnA p l + 1) q = x)) (decide_eq_true z) 0 (by decide) h0 h1 h
theorem l01 {l l2 : Int32} (hl : l = 0 ∨ l = 1) (hl2 : l2 = 0 ∨ l2 = 1) (h : l2 ≠ l) : l = 0 ∧ l2 = 1 ∨ l = 1 ∧ l2 = 0 := by
  rcases hl with rfl | rfl <;> rcases hl2 with rfl | rfl
  · exact absurd rfl h
  · exact Or.inl ⟨rfl, rfl⟩
  · exact Or.inr ⟨rfl, rfl⟩
  · exact absurd rfl h
/-- what both lines say together -/
theorem findAM {I : Nat → Int32 → Int32} {p : Nat} {f : Int32 → Int32} {b l x : Int32} (hl : l = 0 ∨ l = 1) (h : PR I p f b) (ho : ∀ l2, l2 = 0 ∨ l2 = 1 → l2 ≠ l → lkA I p l2 x = -1) : findM f b x = if lkA I p l x = -1 then -1 else 100 * l + lkA I p l x := by
  unfold findM
  rw [flAM (Or.inl rfl) h, flAM (Or.inr rfl) h]
  rcases hl with rfl | rfl
  · rw [ho 1 (Or.inr rfl) (by decide), if_pos rfl]
  · rw [ho 0 (Or.inl rfl) (by decide), if_pos rfl]
theorem q12 {q : Int32} (h0 : 0 ≤ q) (h1 : q < 12) : q = 0 ∨ q = 1 ∨ q = 2 ∨ q = 3 ∨ q = 4 ∨ q = 5 ∨ q = 6 ∨ q = 7 ∨ q = 8 ∨ q = 9 ∨ q = 10 ∨ q = 11 := by grind
theorem d100 {l q : Int32} (hl : l = 0 ∨ l = 1) (h0 : 0 ≤ q) (h1 : q < 12) : (100 * l + q) / 100 = l ∧ 100 * l + q - (100 * l + q) / 100 * 100 = q ∧ ¬ 100 * l + q = -1 := by
  rcases hl with rfl | rfl <;> rcases q12 h0 h1 with rfl | rfl | rfl | rfl | rfl | rfl | rfl | rfl | rfl | rfl | rfl | rfl <;> decide
theorem placeA_lk {I : Nat → Int32 → Int32} {p : Nat} {t : Int32} (ht : 0 ≤ t ∧ t < I p 5) (hs : I (p + 4) t = 0) : placeA I p t = lkA I p (I (p + 5) t) t := by
  unfold placeA lkA
  rw [if_pos ⟨ht, hs⟩]
theorem PInv.tree {I : Nat → Int32 → Int32} {p : Nat} {t : Int32} (hi : PInv I p) (ht : 0 ≤ t ∧ t < I p 5) : t < 12 ∧ (I (p + 5) t = 0 ∨ I (p + 5) t = 1) := ⟨by have := hi.1.1; clear hi; grind, (hi.2.2.1 t ht.1 ht.2).2.2⟩
/-- one that stands: its place is found -/
theorem find_st {I : Nat → Int32 → Int32} {p : Nat} {f : Int32 → Int32} {b t : Int32} (hi : PInv I p) (h : PR I p f b) (ht : 0 ≤ t ∧ t < I p 5) (hs : I (p + 4) t = 0) : findM f b t = 100 * I (p + 5) t + placeA I p t ∧ (0 ≤ placeA I p t ∧ placeA I p t < I (lnA p (I (p + 5) t)) 1 ∧ placeA I p t < 12 ∧ ¬ placeA I p t = -1) ∧ I (lnA p (I (p + 5) t) + 1) (placeA I p t) = t := by
  obtain ⟨t12, hl⟩ := hi.tree ht
  have hT := hi.1.1
  have hm := lnA_num hi.1 (I (p + 5) t)
  obtain ⟨k, k0, k1, k2⟩ := (hi.2.2.2 _ hl).2.2 t ht.1 ht.2 hs rfl
  have hlk := lkA_at (hi.2.2.2 _ hl) k0 k1 k2 (by clear hi h k2 k1 hm hl; grind)
  rw [placeA_lk ht hs, hlk, findAM hl h (fun l2 hl2 hne => lkA_none (fun j j0 j1 e => hne (by
    have hc := (hi.2.2.2 l2 hl2).1 j j0 j1
    rw [e] at hc
    exact (cellOK_is hT t12 hc).2.2.symm))), hlk]
  have kn : ¬ k = -1 := by clear hi h k2 hlk hm hl; grind
  rw [if_neg kn]
  exact ⟨rfl, ⟨k0, k1, by clear hi h k2 hlk hl; grind, kn⟩, k2⟩
theorem find_no {I : Nat → Int32 → Int32} {p : Nat} {f : Int32 → Int32} {b t : Int32} (hi : PInv I p) (h : PR I p f b) (ht : 0 ≤ t ∧ t < I p 5) (hs : ¬ I (p + 4) t = 0) : findM f b t = -1 ∧ placeA I p t = -1 := by
  obtain ⟨t12, hl⟩ := hi.tree ht
  have hT := hi.1.1
  have no : ∀ l2, l2 = 0 ∨ l2 = 1 → lkA I p l2 t = -1 := fun l2 hl2 => lkA_none (fun j j0 j1 e => hs (by
    have hc := (hi.2.2.2 l2 hl2).1 j j0 j1
    rw [e] at hc
    exact (cellOK_is hT t12 hc).2.1))
  refine ⟨?_, ?_⟩
  · rw [findAM hl h (fun l2 hl2 _ => no l2 hl2), no _ hl, if_pos rfl]
  · unfold placeA
    rw [if_neg (fun z => hs z.2)]
theorem cellOK_own {I : Nat → Int32 → Int32} {p : Nat} {l t : Int32} (hT : 0 ≤ I p 5 ∧ I p 5 ≤ 12) (ht : 0 ≤ t ∧ t < 12) (h : cellOK I p l (50 + t)) : I (p + 4) t = 2 ∧ I (p + 5) t = l := by
  unfold cellOK at h
  rw [show 50 + t - 50 = t by grind] at h
  generalize I p 5 = T at *
  generalize I (p + 4) (50 + t) = u1 at *
  generalize I (p + 5) (50 + t) = u2 at *
  generalize I (p + 4) t = u3 at *
  generalize I (p + 5) t = u4 at *
  grind
/-- its own gap -/
theorem gapA_lk {I : Nat → Int32 → Int32} {p : Nat} {t : Int32} : gapA I p t = lkA I p (I (p + 5) t) (50 + t) := rfl
theorem find_gap {I : Nat → Int32 → Int32} {p : Nat} {f : Int32 → Int32} {b t : Int32} (hi : PInv I p) (h : PR I p f b) (ht : 0 ≤ t ∧ t < I p 5) : findM f b (50 + t) = if gapA I p t = -1 then -1 else 100 * I (p + 5) t + gapA I p t := by
  obtain ⟨t12, hl⟩ := hi.tree ht
  have hT := hi.1.1
  rw [gapA_lk]
  exact findAM hl h (fun l2 hl2 hne => lkA_none (fun j j0 j1 e => hne (by
    have hc := (hi.2.2.2 l2 hl2).1 j j0 j1
    rw [e] at hc
    exact (cellOK_own hT ⟨ht.1, t12⟩ hc).2.symm)))
theorem zset_same {f : Int32 → Int32} {j v : Int32} (h : f j = v) : zset f j v = f := by
  funext k
  unfold zset
  by_cases hk : k = j
  · rw [if_pos hk, hk, h]
  · rw [if_neg hk]
theorem zset_comm {f : Int32 → Int32} {j k v w : Int32} (h : j ≠ k) : zset (zset f j v) k w = zset (zset f k w) j v := by
  funext i
  unfold zset
  by_cases h1 : i = k
  · rw [if_pos h1, if_neg (fun z => h (by rw [← z, h1])), if_pos h1]
  · rw [if_neg h1]
    by_cases h2 : i = j
    · rw [if_pos h2, if_pos h2]
    · rw [if_neg h2, if_neg h2, if_neg h1]
theorem zu_comm {I : Nat → Int32 → Int32} {a c : Nat} {j k v w : Int32} (h : a ≠ c) : zu (zu I a j v) c k w = zu (zu I c k w) a j v := by
  funext b i
  unfold zu
  by_cases h1 : b = c ∧ i = k
  · rw [if_pos h1, if_neg (fun z => h (by rw [← z.1, h1.1])), if_pos h1]
  · rw [if_neg h1]
    by_cases h2 : b = a ∧ i = j
    · rw [if_pos h2, if_pos h2]
    · rw [if_neg h2, if_neg h2, if_neg h1]
theorem apA_zu {I : Nat → Int32 → Int32} {a c : Nat} {k v x : Int32} (h1 : c ≠ a) (h2 : c ≠ a + 1) : apA (zu I c k v) a x = zu (apA I a x) c k v := by
  unfold apA
  rw [zuo (a := c) (c := a) (Ne.symm h1), zu_comm h2, zu_comm (c := a) h1]
/-- one goes home -/
def ghM (f : Int32 → Int32) (b t : Int32) : Int32 → Int32 := zset (zset (zset f (b + 6 + 12 * (findM f b t / 100) + (findM f b t - findM f b t / 100 * 100)) (50 + t)) (b + 54 + t) 2) (b + 78 + t) (findM f b t / 100)
theorem PlNum.attr {I : Nat → Int32 → Int32} {p c : Nat} {t v : Int32} (hc : (1 ≤ c ∧ c ≤ 5) ∨ c = 7 ∨ c = 9) (hn : PlNum I p) : PlNum (zu I (p + c) t v) p := by
  unfold PlNum
  rw [zuo (by omega), zuo (by omega), zuo (by omega)]
  exact hn
theorem PlNum.cell {I : Nat → Int32 → Int32} {p : Nat} {l q v : Int32} (hn : PlNum I p) : PlNum (zu I (lnA p l + 1) q v) p := by
  have hc := @lnA_cases p l
  unfold PlNum
  rw [zuo (by omega), zuo (by omega), zuo (by omega)]
  exact hn
theorem PR.home {I : Nat → Int32 → Int32} {p : Nat} {f : Int32 → Int32} {b t : Int32} (hi : PInv I p) (h : PR I p f b) (ht : 0 ≤ t ∧ t < I p 5) (hs : I (p + 4) t = 0) : PR (hmM I p t) p (ghM f b t) b := by
  obtain ⟨t12, hl⟩ := hi.tree ht
  obtain ⟨g1, ⟨g2, g3, g4, g5⟩, g6⟩ := find_st hi h ht hs
  have e5 := (h.2.2 t ht.1 ht.2).2.2.2.2
  have hc := @lnA_cases p (I (p + 5) t)
  obtain ⟨k1, k2, -⟩ := d100 hl g2 g4
  unfold hmM ghM
  rw [if_neg g5, g1, k2, k1]
  have h1 := PR.cell (v := 50 + t) hl ⟨g2, g4⟩ hi.1 h
  have h2 := PR.attr (c := 4) (o := 54) (v := 2) (by simp) ⟨ht.1, t12⟩ hi.1.cell h1
  rw [zset_same (j := b + 78 + t)]
  · exact h2
  · have := (h2.2.2 t ht.1 (by rw [zuo (by omega), zuo (by omega)]; exact ht.2)).2.2.2.2
    rw [← this, zuo (by omega), zuo (by omega)]
/-- a cell of a row changes, and its tree's state with it -/
theorem PInv.swapCell {I : Nat → Int32 → Int32} {p : Nat} {t q x y s s2 : Int32} (hi : PInv I p) (ht : 0 ≤ t ∧ t < I p 5) (hs : I (p + 4) t = s) (hq : 0 ≤ q ∧ q < I (lnA p (I (p + 5) t)) 1) (hx : I (lnA p (I (p + 5) t) + 1) q = x) (hxy : (x = t ∧ s = 0 ∧ y = 50 + t ∧ s2 = 2) ∨ (x = 50 + t ∧ s = 2 ∧ y = t ∧ s2 = 0)) : PInv (zu (zu I (lnA p (I (p + 5) t) + 1) q y) (p + 4) t s2) p := by
  obtain ⟨t12, hl⟩ := hi.tree ht
  have hT := hi.1.1
  generalize hlq : I (p + 5) t = l at *
  have hc := @lnA_cases p l
  have o : ∀ c, c ≠ lnA p l + 1 → c ≠ p + 4 → zu (zu I (lnA p l + 1) q y) (p + 4) t s2 c = I c := fun c h1 h2 => by rw [zuo h2, zuo h1]
  have e0 := o p (by omega) (by omega)
  have e1 := o (p + 1) (by omega) (by omega)
  have e5 := o (p + 5) (by omega) (by omega)
  have e4 : ∀ r, r ≠ t → zu (zu I (lnA p l + 1) q y) (p + 4) t s2 (p + 4) r = I (p + 4) r := fun r hr => by rw [zu_nk hr, zuo (by omega)]
  have e4t : zu (zu I (lnA p l + 1) q y) (p + 4) t s2 (p + 4) t = s2 := zuA
  have h5 : zu (zu I (lnA p l + 1) q y) (p + 4) t s2 p 5 = I p 5 := by rw [e0]
  have ecq : zu (zu I (lnA p l + 1) q y) (p + 4) t s2 (lnA p l + 1) q = y := by rw [zuo (by omega), zuA]
  have ecn : ∀ k, k ≠ q → zu (zu I (lnA p l + 1) q y) (p + 4) t s2 (lnA p l + 1) k = I (lnA p l + 1) k := fun k hk => by rw [zuo (by omega), zu_nk hk]
  generalize hI : zu (zu I (lnA p l + 1) q y) (p + 4) t s2 = I' at *
  have xn : x ≠ 90 := by clear hi hI o e0 e1 e5 e4 e4t h5 ecq ecn; grind
  have yn : y ≠ 90 := by clear hi hI o e0 e1 e5 e4 e4t h5 ecq ecn; grind
  -- another cell speaks of another tree
  have oth : ∀ l2, l2 = 0 ∨ l2 = 1 → ∀ k, 0 ≤ k → k < I (lnA p l2) 1 → ¬ (l2 = l ∧ k = q) → I (lnA p l2 + 1) k ≠ t ∧ I (lnA p l2 + 1) k - 50 ≠ t := fun l2 hl2 k k0 k1 hkq => by
    have hk := (hi.2.2.2 l2 hl2).1 k k0 k1
    have hu := (hi.2.2.2 l2 hl2).2.1
    rcases hxy with ⟨rfl, rfl, _, _⟩ | ⟨rfl, rfl, _, _⟩
    · refine ⟨fun z => ?_, cellOK_gap hT ht (by rw [hs]; decide) hk⟩
      rw [z] at hk
      have hl2' : l2 = l := (cellOK_is hT t12 hk).2.2.symm.trans hlq
      subst hl2'
      exact hkq ⟨rfl, hu k q k0 k1 hq.1 hq.2 (by rw [z, hx]) (by rw [z]; exact xn)⟩
    · refine ⟨fun z => ?_, fun z => ?_⟩
      · rw [z] at hk
        have := (cellOK_is hT t12 hk).2.1
        rw [hs] at this
        exact absurd this (by decide)
      · have z2 : I (lnA p l2 + 1) k = 50 + t := by rw [← z]; grind
        rw [z2] at hk
        have hl2' : l2 = l := (cellOK_own hT ⟨ht.1, t12⟩ hk).2.symm.trans hlq
        subst hl2'
        exact hkq ⟨rfl, hu k q k0 k1 hq.1 hq.2 (by rw [z2, hx]) (by rw [z2]; exact xn)⟩
  have hyc : cellOK I' p l y := by
    unfold cellOK
    rw [h5, e5]
    rcases hxy with ⟨rfl, rfl, rfl, rfl⟩ | ⟨rfl, rfl, rfl, rfl⟩
    · right; right
      rw [show 50 + x - 50 = x by grind, e4t, hlq]
      exact ⟨by clear hi hI o e0 e1 e5 e4 e4t h5 ecq ecn oth; grind, by clear hi hI o e0 e1 e5 e4 e4t h5 ecq ecn oth; grind, rfl, rfl⟩
    · left
      exact ⟨ht.1, ht.2, e4t, hlq⟩
  have yt : y = t ∨ y = 50 + t := by rcases hxy with ⟨_, _, z, _⟩ | ⟨_, _, z, _⟩ <;> simp [z]
  refine ⟨?_, by rw [e0]; exact hi.2.1, fun r r0 r1 => ?_, fun l2 hl2 => ?_⟩
  · have := hi.1
    unfold PlNum at *
    rw [e0, o (p + 6) (by omega) (by omega), o (p + 8) (by omega) (by omega)]
    exact this
  · rw [e0] at r1
    obtain ⟨b1, b2, b3⟩ := hi.2.2.1 r r0 r1
    rw [e1, e5]
    refine ⟨b1, ?_, b3⟩
    by_cases hr : r = t
    · rw [hr, e4t]
      rcases hxy with ⟨_, _, _, rfl⟩ | ⟨_, _, _, rfl⟩ <;> simp
    · rw [e4 r hr]
      exact b2
  · have hc2 := @lnA_cases p l2
    have hr := hi.2.2.2 l2 hl2
    rw [o (lnA p l2) (by omega) (by omega)]
    by_cases he : l2 = l
    · subst he
      refine ⟨fun k k0 k1 => ?_, fun i j i0 i1 j0 j1 e hn => ?_, fun r r0 r1 r2 r3 => ?_⟩
      · by_cases hk : k = q
        · rw [hk, ecq]
          exact hyc
        · rw [ecn k hk]
          obtain ⟨n1, n2⟩ := oth l2 hl2 k k0 k1 (fun z => hk z.2)
          exact cellOK.st h5 e5 e4 n1 n2 (hr.1 k k0 k1)
      · have no : ∀ k, 0 ≤ k → k < I (lnA p l2) 1 → k ≠ q → I (lnA p l2 + 1) k ≠ y := fun k k0 k1 hk z => by
          obtain ⟨n1, n2⟩ := oth l2 hl2 k k0 k1 (fun z => hk z.2)
          rcases yt with rfl | rfl
          · exact n1 z
          · exact n2 (by rw [z]; grind)
        by_cases h1 : i = q
        · by_cases h2 : j = q
          · rw [h1, h2]
          · rw [h1, ecq, ecn j h2] at e
            exact absurd e.symm (no j j0 j1 h2)
        · by_cases h2 : j = q
          · rw [h2, ecq, ecn i h1] at e
            exact absurd e (no i i0 i1 h1)
          · rw [ecn i h1, ecn j h2] at e
            rw [ecn i h1] at hn
            exact hr.2.1 i j i0 i1 j0 j1 e hn
      · rw [h5] at r1
        rw [e5] at r3
        by_cases hrt : r = t
        · subst hrt
          rw [e4t] at r2
          rcases hxy with ⟨_, _, _, rfl⟩ | ⟨_, _, rfl, _⟩
          · exact absurd r2 (by decide)
          · exact ⟨q, hq.1, hq.2, ecq⟩
        · rw [e4 r hrt] at r2
          obtain ⟨k, a1, a2, a3⟩ := hr.2.2 r r0 r1 r2 r3
          have hk : k ≠ q := fun z => by
            rw [z, hx] at a3
            rcases hxy with ⟨rfl, _⟩ | ⟨rfl, _⟩
            · exact hrt a3.symm
            · clear hi hI o e0 e1 e5 e4 e4t h5 ecq ecn oth hr; grind
          exact ⟨k, a1, a2, by rw [ecn k hk]; exact a3⟩
    · rw [o (lnA p l2 + 1) (lnA_ne hl2 hl he).2.2 (by omega)]
      refine ⟨fun k k0 k1 => ?_, hr.2.1, fun r r0 r1 r2 r3 => ?_⟩
      · obtain ⟨n1, n2⟩ := oth l2 hl2 k k0 k1 (fun z => he z.1)
        exact cellOK.st h5 e5 e4 n1 n2 (hr.1 k k0 k1)
      · rw [h5] at r1
        rw [e5] at r3
        have hrt : r ≠ t := fun z => he (by rw [← r3, z, hlq])
        rw [e4 r hrt] at r2
        exact hr.2.2 r r0 r1 r2 r3
theorem PInv.home {I : Nat → Int32 → Int32} {p : Nat} {t : Int32} (hi : PInv I p) (ht : 0 ≤ t ∧ t < I p 5) (hs : I (p + 4) t = 0) : PInv (hmM I p t) p := by
  unfold hmM
  split
  · exact hi
  next h1 =>
    obtain ⟨b1, b2, b3, -⟩ := (@placeA_spec I p t).resolve_left h1
    exact hi.swapCell ht hs ⟨b1, b2⟩ b3 (Or.inl ⟨rfl, rfl, rfl, rfl⟩)
