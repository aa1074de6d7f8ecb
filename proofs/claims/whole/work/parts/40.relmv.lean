/-- only what is told of a plain counts -/
theorem PInv.same {I I2 : Nat → Int32 → Int32} {p : Nat} (h : ∀ c, p ≤ c → c < p + 10 → c ≠ p + 2 → c ≠ p + 3 → I2 c = I c) (hi : PInv I p) : PInv I2 p := by
  have e0 := h p (by omega) (by omega) (by omega) (by omega)
  have e1 := h (p + 1) (by omega) (by omega) (by omega) (by omega)
  have e4 := h (p + 4) (by omega) (by omega) (by omega) (by omega)
  have e5 := h (p + 5) (by omega) (by omega) (by omega) (by omega)
  have e6 := h (p + 6) (by omega) (by omega) (by omega) (by omega)
  have e8 := h (p + 8) (by omega) (by omega) (by omega) (by omega)
  refine ⟨?_, by rw [e0]; exact hi.2.1, by rw [e0, e1, e4, e5]; exact hi.2.2.1, fun l hl => ?_⟩
  · unfold PlNum
    rw [e0, e6, e8]
    exact hi.1
  · have hc := @lnA_cases p l
    rw [h (lnA p l) (by omega) (by omega) (by omega) (by omega), h (lnA p l + 1) (by omega) (by omega) (by omega) (by omega)]
    exact rowOK_congr (by rw [e0]) e4 e5 (hi.2.2.2 l hl)
theorem cellOK.st {I I2 : Nat → Int32 → Int32} {p : Nat} {l x t : Int32} (h5 : I2 p 5 = I p 5) (hl : I2 (p + 5) = I (p + 5)) (hs : ∀ s, s ≠ t → I2 (p + 4) s = I (p + 4) s) (hx : x ≠ t) (hx2 : x - 50 ≠ t) (h : cellOK I p l x) : cellOK I2 p l x := by
  unfold cellOK at *
  rw [h5, hl, hs x hx, hs _ hx2]
  exact h
theorem cellOK_gap {I : Nat → Int32 → Int32} {p : Nat} {l x t : Int32} (hT : 0 ≤ I p 5 ∧ I p 5 ≤ 12) (ht : 0 ≤ t ∧ t < I p 5) (hn : ¬ I (p + 4) t = 2) (h : cellOK I p l x) : x - 50 ≠ t := by
  rintro rfl
  unfold cellOK at h
  generalize I p 5 = T at *
  generalize I (p + 4) x = u1 at *
  generalize I (p + 5) x = u2 at *
  generalize I (p + 4) (x - 50) = u3 at *
  generalize I (p + 5) (x - 50) = u4 at *
  grind
theorem cellOK_is {I : Nat → Int32 → Int32} {p : Nat} {l x : Int32} (hT : 0 ≤ I p 5 ∧ I p 5 ≤ 12) (hx : x < 12) (h : cellOK I p l x) : (0 ≤ x ∧ x < I p 5) ∧ I (p + 4) x = 0 ∧ I (p + 5) x = l := by
  unfold cellOK at h
  generalize I p 5 = T at *
  generalize I (p + 4) x = u1 at *
  generalize I (p + 5) x = u2 at *
  generalize I (p + 4) (x - 50) = u3 at *
  generalize I (p + 5) (x - 50) = u4 at *
  grind
theorem cellOK_50 {I : Nat → Int32 → Int32} {p : Nat} {l x : Int32} (hT : 0 ≤ I p 5 ∧ I p 5 ≤ 12) (hx : ¬ x < 12) (h : cellOK I p l x) : 50 ≤ x := by
  unfold cellOK at h
  generalize I p 5 = T at *
  generalize I (p + 4) x = u1 at *
  generalize I (p + 5) x = u2 at *
  generalize I (p + 4) (x - 50) = u3 at *
  generalize I (p + 5) (x - 50) = u4 at *
  grind
/-- a gap goes -/
theorem PInv.rmGap {I : Nat → Int32 → Int32} {p : Nat} {l q : Int32} (hl : l = 0 ∨ l = 1) (hq : 0 ≤ q ∧ q < I (lnA p l) 1) (hg : 50 ≤ I (lnA p l + 1) q) (hi : PInv I p) : PInv (rmA I (lnA p l) q) p := by
  have hc := @lnA_cases p l
  have hn := hi.1
  have hT := hn.1
  have hm := lnA_num hn l
  have o : ∀ c, c ≠ lnA p l → c ≠ lnA p l + 1 → rmA I (lnA p l) q c = I c := fun c h1 h2 => rmA_o h1 h2
  have e0 := o p (by omega) (by omega)
  have e1 := o (p + 1) (by omega) (by omega)
  have e4 := o (p + 4) (by omega) (by omega)
  have e5 := o (p + 5) (by omega) (by omega)
  refine ⟨hn.rm hq, by rw [e0]; exact hi.2.1, by rw [e0, e1, e4, e5]; exact hi.2.2.1, fun l2 hl2 => ?_⟩
  refine rowOK_congr (by rw [e0]) e4 e5 ?_
  have hr := hi.2.2.2 l2 hl2
  by_cases he : l2 = l
  · subst he
    obtain ⟨rA, rB, rC⟩ := rowOK.rm hm.2 hq.1 hq.2 (fun k => @rmA_cells I (lnA p l2) q k) hr
    rw [rmA_len]
    refine ⟨fun k k0 k1 => ?_, rB, fun t t0 t1 t2 t3 => ?_⟩
    · obtain ⟨k2, a1, a2, -, a4⟩ := rA k k0 k1
      rw [a4]
      exact hr.1 k2 a1 a2
    · obtain ⟨k2, a1, a2, a3⟩ := hr.2.2 t t0 t1 t2 t3
      obtain ⟨k, b1, b2, b3⟩ := rC k2 a1 a2 (fun z => by rw [z] at a3; rw [a3] at hg; clear hr hi rA rB rC hn; grind)
      exact ⟨k, b1, b2, by rw [b3, a3]⟩
  · have hx := lnA_ne (p := p) hl2 hl he
    have hx2 := lnA_ne (p := p) hl hl2 (Ne.symm he)
    rw [o _ hx.1 hx.2.1, o _ (Ne.symm hx2.2.1) hx.2.2]
    exact hr
/-- one that is called goes -/
theorem PInv.rmTree {I : Nat → Int32 → Int32} {p : Nat} {l q t : Int32} (hl : l = 0 ∨ l = 1) (hq : 0 ≤ q ∧ q < I (lnA p l) 1) (ht : I (lnA p l + 1) q = t) (hg : t < 12) (hi : PInv I p) : PInv (zu (rmA I (lnA p l) q) (p + 4) t 1) p := by
  have hc := @lnA_cases p l
  have hn := hi.1
  have hT := hn.1
  have hm := lnA_num hn l
  obtain ⟨htr, hts, htl⟩ := cellOK_is hT (x := t) hg (by rw [← ht]; exact (hi.2.2.2 l hl).1 q hq.1 hq.2)
  have o : ∀ c, c ≠ lnA p l → c ≠ lnA p l + 1 → c ≠ p + 4 → zu (rmA I (lnA p l) q) (p + 4) t 1 c = I c := fun c h1 h2 h3 => by rw [zuo h3]; exact rmA_o h1 h2
  have oL : ∀ c, c ≠ p + 4 → zu (rmA I (lnA p l) q) (p + 4) t 1 c = rmA I (lnA p l) q c := fun c h3 => zuo h3
  have e0 := o p (by omega) (by omega) (by omega)
  have e1 := o (p + 1) (by omega) (by omega) (by omega)
  have e5 := o (p + 5) (by omega) (by omega) (by omega)
  have e4 : ∀ s, s ≠ t → zu (rmA I (lnA p l) q) (p + 4) t 1 (p + 4) s = I (p + 4) s := fun s hs => by
    rw [zu_nk hs, rmA_o (by omega) (by omega)]
  have e4t : zu (rmA I (lnA p l) q) (p + 4) t 1 (p + 4) t = 1 := zuA
  refine ⟨?_, by rw [e0]; exact hi.2.1, fun s s0 s1 => ?_, fun l2 hl2 => ?_⟩
  · have hrm := hn.rm hq
    unfold PlNum at *
    rw [oL p (by omega), oL (p + 6) (by omega), oL (p + 8) (by omega)]
    exact hrm
  · rw [e0] at s1
    obtain ⟨b1, b2, b3⟩ := hi.2.2.1 s s0 s1
    rw [e1, e5]
    refine ⟨b1, ?_, b3⟩
    by_cases hs : s = t
    · subst hs
      exact Or.inr (Or.inl e4t)
    · rw [e4 s hs]
      exact b2
  · have hc2 := @lnA_cases p l2
    have hr := hi.2.2.2 l2 hl2
    rw [oL _ (by omega), oL _ (by omega)]
    have h5 : zu (rmA I (lnA p l) q) (p + 4) t 1 p 5 = I p 5 := by rw [e0]
    have ng : ¬ I (p + 4) t = 2 := by rw [hts]; decide
    by_cases he : l2 = l
    · subst he
      obtain ⟨rA, rB, rC⟩ := rowOK.rm hm.2 hq.1 hq.2 (fun k => @rmA_cells I (lnA p l2) q k) hr
      rw [rmA_len]
      refine ⟨fun k k0 k1 => ?_, rB, fun s s0 s1 s2 s3 => ?_⟩
      · obtain ⟨k2, a1, a2, a3, a4⟩ := rA k k0 k1
        rw [a4]
        have hk := hr.1 k2 a1 a2
        refine cellOK.st h5 e5 e4 (fun z => a3 (hr.2.1 k2 q a1 a2 hq.1 hq.2 (by rw [z, ht]) (by rw [z]; clear hr hi rA rB rC hn e4 o oL hk; grind))) (cellOK_gap hT htr ng hk) hk
      · have hst : s ≠ t := fun z => by rw [z, e4t] at s2; exact absurd s2 (by decide)
        rw [h5] at s1
        rw [e4 s hst] at s2
        rw [e5] at s3
        obtain ⟨k2, a1, a2, a3⟩ := hr.2.2 s s0 s1 s2 s3
        obtain ⟨k, b1, b2, b3⟩ := rC k2 a1 a2 (fun z => by rw [z, ht] at a3; exact hst a3.symm)
        exact ⟨k, b1, b2, by rw [b3, a3]⟩
    · have hx := lnA_ne (p := p) hl2 hl he
      have hx2 := lnA_ne (p := p) hl hl2 (Ne.symm he)
      rw [rmA_o hx.1 hx.2.1, rmA_o (Ne.symm hx2.2.1) hx.2.2]
      refine ⟨fun k k0 k1 => ?_, hr.2.1, fun s s0 s1 s2 s3 => ?_⟩
      · have hk := hr.1 k k0 k1
        refine cellOK.st h5 e5 e4 (fun z => ?_) (cellOK_gap hT htr ng hk) hk
        rw [z] at hk
        exact he ((cellOK_is hT hg hk).2.2.symm.trans htl)
      · have hst : s ≠ t := fun z => by rw [z, e4t] at s2; exact absurd s2 (by decide)
        rw [h5] at s1
        rw [e4 s hst] at s2
        rw [e5] at s3
        exact hr.2.2 s s0 s1 s2 s3
theorem rmA_zu {I : Nat → Int32 → Int32} {a c : Nat} {q k v : Int32} (h1 : c ≠ a) (h2 : c ≠ a + 1) : rmA (zu I c k v) a q = zu (rmA I a q) c k v := by
  funext b j
  have e1 : zu I c k v a 1 = I a 1 := by rw [zuo (Ne.symm h1)]
  have e2 : zu I c k v (a + 1) = I (a + 1) := zuo (Ne.symm h2)
  unfold rmA
  rw [e1]
  by_cases hb : b = c
  · subst hb
    have : zu (zsh (zu I b k v) (a + 1) q (I a 1 - 1)) a 1 (I a 1 - 1) b = zu I b k v b := by
      rw [zuo h1]
      funext j
      unfold zsh
      rw [if_neg (fun z => h2 z.1)]
    rw [this]
    unfold zu zsh
    by_cases hj : j = k
    · rw [if_pos ⟨rfl, hj⟩, if_pos ⟨rfl, hj⟩]
    · rw [if_neg (fun z => hj z.2), if_neg (fun z => hj z.2), if_neg (fun z => h1 z.1), if_neg (fun z => h2 z.1)]
  · rw [zuo hb]
    unfold zsh
    rw [e2]
    unfold zu
    dsimp only
    rw [if_neg (c := b = c ∧ j = k) (fun z => hb z.1)]
/-- a line moves: both sides do the same -/
theorem mvAM {I : Nat → Int32 → Int32} {p : Nat} {f : Int32 → Int32} {b l : Int32} (hb : 0 ≤ b ∧ b ≤ 1080) (hl : l = 0 ∨ l = 1) (hi : PInv I p) (h : PR I p f b) : mvR I p (lnA p l) = mwR f b l ∧ PR (mvM I p (lnA p l)) p (mwM f b l) b ∧ PInv (mvM I p (lnA p l)) p := by
  have hn := hi.1
  have hT := hn.1
  have hm := lnA_num hn l
  have hc := @lnA_cases p l
  obtain ⟨a1, a2⟩ := h.2.1 l hl
  have hr := hi.2.2.2 l hl
  have hz : zfirst (I (lnA p l) 1) (bidQ I p (lnA p l)) 0 = stM f b l 0 := by
    unfold stM
    rw [← a1]
    refine zfirst_congr 0 (fun k k0 k1 => ?_)
    have hk := hr.1 k k0 k1
    have ek := cellOK_tree hT hk
    unfold bidQ
    rw [← a2 k k0 k1]
    by_cases hx : I (lnA p l + 1) k < 12
    · have ht := ek.mpr hx
      have e30 := (h.2.2 _ ht.1 ht.2).1
      have hkd := (hi.2.2.1 _ ht.1 ht.2).1
      rw [← e30]
      generalize I (p + 1) (I (lnA p l + 1) k) = kd at *
      have hnd : decide (0 < needA kd) = !(decide (kd = 3)) := by
        clear h hi hn hr a2
        unfold needA
        grind
      rw [hnd, decide_eq_true ht]
      simp only [hx, true_and, Bool.not_true, Bool.false_or]
    · have ht : ¬ (0 ≤ I (lnA p l + 1) k ∧ I (lnA p l + 1) k < I p 5) := fun z => hx (ek.mp z)
      rw [decide_eq_false ht]
      simp only [hx, false_and, decide_false, Bool.not_false, Bool.true_or]
  have hsp := @stM_spec f b l
  unfold mvR mvM mwR mwM bidA
  rw [hz]
  by_cases h0 : f (b + 4 + l) = 0
  · have h0' : ¬ (0 < I (lnA p l) 1 ∧ 50 ≤ I (lnA p l + 1) 0) := fun z => by rw [a1, h0] at z; exact absurd z.1 (by decide)
    have hs : stM f b l 0 = -1 := by
      unfold stM
      rw [h0]
      exact zfirst_end (by decide)
    simp only [if_neg h0', if_pos h0, if_pos hs, if_true]
    exact ⟨trivial, h, hi⟩
  · have z1 : 0 < I (lnA p l) 1 := by rw [← a1] at h0; clear a2 hi h hr; grind
    have hx0 := hr.1 0 (by decide) z1
    have e0 := a2 0 (by decide) z1
    simp only [if_neg h0]
    by_cases h1 : 11 < f (b + 6 + 12 * l + 0)
    · have hg : 50 ≤ I (lnA p l + 1) 0 := cellOK_50 hT (by rw [e0]; clear a2 hi h hr hx0; grind) hx0
      simp only [if_pos h1, if_pos (And.intro z1 hg)]
      exact ⟨trivial, h.rm hb hl hn ⟨by decide, z1⟩, hi.rmGap hl ⟨by decide, z1⟩ hg⟩
    · have hg : ¬ (0 < I (lnA p l) 1 ∧ 50 ≤ I (lnA p l + 1) 0) := fun z => by rw [e0] at z; clear a2 hi h hr hx0; grind
      simp only [if_neg h1, if_neg hg]
      by_cases h2 : stM f b l 0 = -1
      · simp only [if_pos h2, if_true]
        exact ⟨trivial, h, hi⟩
      · obtain ⟨s0, s1, s2⟩ := hsp.resolve_left h2
        simp only [if_neg h2]
        generalize stM f b l 0 = q at *
        rw [← a1] at s1
        have hxq := hr.1 q s0 s1
        have eq := a2 q s0 s1
        rw [← eq]
        have et := cellOK_tree hT hxq
        by_cases h3 : 11 < I (lnA p l + 1) q
        · have ht : ¬ (0 ≤ I (lnA p l + 1) q ∧ I (lnA p l + 1) q < I p 5) := fun z => by have := et.mp z; clear a2 hi h hr hx0; grind
          simp only [if_pos h3, if_neg ht, if_true]
          exact ⟨trivial, h, hi⟩
        · have ht12 : I (lnA p l + 1) q < 12 := by clear a2 hi h hr hx0 hxq; grind
          have ht := et.mpr ht12
          simp only [if_neg h3, if_pos ht, if_neg h2]
          generalize htt : I (lnA p l + 1) q = t at *
          obtain ⟨k1, k2, k3, k4, k5⟩ := h.2.2 t ht.1 ht.2
          have hkd := (hi.2.2.1 t ht.1 ht.2).1
          have hne : needA (I (p + 1) t) = needM (I (p + 1) t) := by
            generalize I (p + 1) t = kd at *
            clear h hi hn hr a2 k1
            unfold needA needM
            grind
          rw [← k1, ← k3, hne]
          have hbid : PR (zu I (p + 3) t (I (p + 3) t + 1)) p (zset f (b + 66 + t) (I (p + 3) t + 1)) b := by
            rw [PR_iff] at h ⊢
            rw [addA, zset_sh]
            exact PR0.attr (by simp) ⟨ht.1, ht12⟩ hn h
          have ibid : PInv (zu I (p + 3) t (I (p + 3) t + 1)) p := PInv.same (fun c _ _ _ h3 => zuo h3) hi
          by_cases h4 : I (p + 3) t + 1 < needM (I (p + 1) t)
          · simp only [if_pos h4]
            exact ⟨trivial, hbid, ibid⟩
          · simp only [if_neg h4]
            generalize hI : zu I (p + 3) t (I (p + 3) t + 1) = I' at *
            generalize hF : zset f (b + 66 + t) (I (p + 3) t + 1) = f' at *
            have hq' : 0 ≤ q ∧ q < I' (lnA p l) 1 := by rw [← hI, zuo (by omega)]; exact ⟨s0, s1⟩
            have htt' : I' (lnA p l + 1) q = t := by rw [← hI, zuo (by omega)]; exact htt
            refine ⟨trivial, ?_, ibid.rmTree hl hq' htt' ht12⟩
            have hst : PR (zu I' (p + 4) t 1) p (zset f' (b + 54 + t) 1) b := by
              rw [PR_iff] at hbid ⊢
              rw [addA, zset_sh]
              exact PR0.attr (by simp) ⟨ht.1, ht12⟩ ibid.1 hbid
            rw [← rmA_zu (by omega) (by omega)]
            refine PR.rm hb hl ?_ ?_ hst
            · have := ibid.1
              unfold PlNum at *
              rw [zuo (by omega), zuo (by omega), zuo (by omega)]
              exact this
            · rw [zuo (by omega)]
              exact hq'
