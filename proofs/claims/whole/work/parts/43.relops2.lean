theorem rowOK.ap {I' : Nat → Int32 → Int32} {p : Nat} {l hi x : Int32} {g g' : Int32 → Int32} (h0 : 0 ≤ hi) (h12 : hi < 12) (hg : ∀ k, k ≠ hi → g' k = g k) (hx : g' hi = x) (hc : ∀ k, 0 ≤ k → k < hi → cellOK I' p l (g k)) (hcx : cellOK I' p l x) (hu : ∀ i j, 0 ≤ i → i < hi → 0 ≤ j → j < hi → g i = g j → g i ≠ 90 → i = j) (hd : x = 90 ∨ ∀ k, 0 ≤ k → k < hi → g k ≠ x) (hcm : ∀ s, 0 ≤ s → s < I' p 5 → I' (p + 4) s = 0 → I' (p + 5) s = l → s = x ∨ ∃ k, 0 ≤ k ∧ k < hi ∧ g k = s) : rowOK I' p l (hi + 1) g' := by
  have lt : ∀ k, k < hi + 1 → k ≠ hi → k < hi := fun k k1 k2 => by clear hg hx hc hcx hu hd hcm; grind
  have h1 : hi < hi + 1 := by clear hg hx hc hcx hu hd hcm lt; grind
  refine ⟨fun k k0 k1 => ?_, fun i j i0 i1 j0 j1 e hn => ?_, fun s s0 s1 s2 s3 => ?_⟩
  · by_cases hk : k = hi
    · rw [hk, hx]; exact hcx
    · rw [hg k hk]; exact hc k k0 (lt k k1 hk)
  · by_cases e1 : i = hi
    · by_cases e2 : j = hi
      · rw [e1, e2]
      · rw [e1, hx, hg j e2] at e
        rw [e1, hx] at hn
        exact absurd e.symm (hd.resolve_left hn j j0 (lt j j1 e2))
    · by_cases e2 : j = hi
      · rw [e2, hx, hg i e1] at e
        rw [hg i e1, e] at hn
        exact absurd e (hd.resolve_left hn i i0 (lt i i1 e1))
      · rw [hg i e1, hg j e2] at e
        rw [hg i e1] at hn
        exact hu i j i0 (lt i i1 e1) j0 (lt j j1 e2) e hn
  · rcases hcm s s0 s1 s2 s3 with rfl | ⟨k, k0, k1, k2⟩
    · exact ⟨hi, h0, h1, hx⟩
    · have hk : k ≠ hi := fun z => by rw [z] at k1; exact Int32.lt_irrefl k1
      exact ⟨k, k0, Int32.lt_trans k1 h1, by rw [hg k hk, k2]⟩
theorem apA_len {I : Nat → Int32 → Int32} {a : Nat} {x : Int32} : apA I a x a 1 = I a 1 + 1 := by unfold apA; exact zuA
theorem apA_at {I : Nat → Int32 → Int32} {a : Nat} {x : Int32} : apA I a x (a + 1) (I a 1) = x := by unfold apA; rw [zuo (by omega)]; exact zuA
theorem apA_nk {I : Nat → Int32 → Int32} {a : Nat} {x k : Int32} (h : k ≠ I a 1) : apA I a x (a + 1) k = I (a + 1) k := by unfold apA; rw [zuo (by omega)]; exact zu_nk h
theorem apA_o {I : Nat → Int32 → Int32} {a c : Nat} {x : Int32} (h1 : c ≠ a) (h2 : c ≠ a + 1) : apA I a x c = I c := by unfold apA; rw [zuo h1, zuo h2]
theorem lt12_1 {z : Int32} (h0 : 0 ≤ z) (h : z < 12) : 0 ≤ z + 1 ∧ z + 1 ≤ 12 := by grind
theorem PlNum.ap {I : Nat → Int32 → Int32} {p : Nat} {l x : Int32} (hn : PlNum I p) (hr : I (lnA p l) 1 < 12) : PlNum (apA I (lnA p l) x) p := by
  have hc := @lnA_cases p l
  have hm := lnA_num hn l
  have b12 := lt12_1 hm.1 hr
  refine PlNum.eqv (by rw [apA_o (by omega) (by omega)]) ?_ ?_ hn
  · rcases hc with hc | hc
    · rw [hc] at b12 ⊢
      rw [apA_len]
      exact b12
    · rw [apA_o (by omega) (by omega)]
      exact hn.2.1
  · rcases hc with hc | hc
    · rw [apA_o (by omega) (by omega)]
      exact hn.2.2
    · rw [hc] at b12 ⊢
      rw [apA_len]
      exact b12
/-- a free gap more -/
theorem PInv.apGap {I : Nat → Int32 → Int32} {p : Nat} {l : Int32} (hl : l = 0 ∨ l = 1) (hr : I (lnA p l) 1 < 12) (hi : PInv I p) : PInv (apA I (lnA p l) 90) p := by
  have hc := @lnA_cases p l
  have hm := lnA_num hi.1 l
  have o : ∀ c, c ≠ lnA p l → c ≠ lnA p l + 1 → apA I (lnA p l) 90 c = I c := fun c h1 h2 => apA_o h1 h2
  have e0 := o p (by omega) (by omega)
  have e1 := o (p + 1) (by omega) (by omega)
  have e4 := o (p + 4) (by omega) (by omega)
  have e5 := o (p + 5) (by omega) (by omega)
  refine ⟨hi.1.ap hr, by rw [e0]; exact hi.2.1, by rw [e0, e1, e4, e5]; exact hi.2.2.1, fun l2 hl2 => ?_⟩
  refine rowOK_congr (by rw [e0]) e4 e5 ?_
  have hw := hi.2.2.2 l2 hl2
  by_cases he : l2 = l
  · subst he
    rw [apA_len]
    exact rowOK.ap hm.1 hr (fun k hk => apA_nk hk) apA_at hw.1 (Or.inr (Or.inl rfl)) hw.2.1 (Or.inl rfl) (fun s s0 s1 s2 s3 => Or.inr (hw.2.2 s s0 s1 s2 s3))
  · have hx := lnA_ne (p := p) hl2 hl he
    have hx2 := lnA_ne (p := p) hl hl2 (Ne.symm he)
    rw [o _ hx.1 hx.2.1, o _ (Ne.symm hx2.2.1) hx.2.2]
    exact hw
/-- one comes back behind all others -/
theorem PInv.apBack {I : Nat → Int32 → Int32} {p : Nat} {t : Int32} (hi : PInv I p) (ht : 0 ≤ t ∧ t < I p 5) (hs : I (p + 4) t = 2) (hr : I (lnA p (I (p + 5) t)) 1 < 12) (hg : gapA I p t = -1) : PInv (zu (zu (apA I (lnA p (I (p + 5) t)) t) (p + 3) t 0) (p + 4) t 0) p := by
  obtain ⟨t12, hl⟩ := hi.tree ht
  have hT := hi.1.1
  rw [gapA_lk] at hg
  generalize hlq : I (p + 5) t = l at *
  have hc := @lnA_cases p l
  have hm := lnA_num hi.1 l
  have oL : ∀ c, c ≠ p + 3 → c ≠ p + 4 → zu (zu (apA I (lnA p l) t) (p + 3) t 0) (p + 4) t 0 c = apA I (lnA p l) t c := fun c h3 h4 => by rw [zuo h4, zuo h3]
  have o : ∀ c, c ≠ lnA p l → c ≠ lnA p l + 1 → c ≠ p + 3 → c ≠ p + 4 → zu (zu (apA I (lnA p l) t) (p + 3) t 0) (p + 4) t 0 c = I c := fun c h1 h2 h3 h4 => by rw [oL c h3 h4]; exact apA_o h1 h2
  have e0 := o p (by omega) (by omega) (by omega) (by omega)
  have e1 := o (p + 1) (by omega) (by omega) (by omega) (by omega)
  have e5 := o (p + 5) (by omega) (by omega) (by omega) (by omega)
  have e4 : ∀ r, r ≠ t → zu (zu (apA I (lnA p l) t) (p + 3) t 0) (p + 4) t 0 (p + 4) r = I (p + 4) r := fun r hr => by rw [zu_nk hr, zuo (by omega), apA_o (by omega) (by omega)]
  have e4t : zu (zu (apA I (lnA p l) t) (p + 3) t 0) (p + 4) t 0 (p + 4) t = 0 := zuA
  have h5 : zu (zu (apA I (lnA p l) t) (p + 3) t 0) (p + 4) t 0 p 5 = I p 5 := by rw [e0]
  have hn' : PlNum (zu (zu (apA I (lnA p l) t) (p + 3) t 0) (p + 4) t 0) p := ((hi.1.ap hr).attr (by omega)).attr (by omega)
  generalize zu (zu (apA I (lnA p l) t) (p + 3) t 0) (p + 4) t 0 = I' at *
  have oth : ∀ l2, l2 = 0 ∨ l2 = 1 → ∀ k, 0 ≤ k → k < I (lnA p l2) 1 → I (lnA p l2 + 1) k ≠ t ∧ I (lnA p l2 + 1) k - 50 ≠ t := fun l2 hl2 k k0 k1 => by
    have hk := (hi.2.2.2 l2 hl2).1 k k0 k1
    refine ⟨fun z => ?_, fun z => ?_⟩
    · rw [z] at hk
      have := (cellOK_is hT t12 hk).2.1
      rw [hs] at this
      exact absurd this (by decide)
    · have z2 : I (lnA p l2 + 1) k = 50 + t := by rw [← z]; grind
      have hk2 := hk
      rw [z2] at hk2
      have hl2' : l2 = l := (cellOK_own hT ⟨ht.1, t12⟩ hk2).2.symm.trans hlq
      subst hl2'
      exact lkA_absent hg k0 k1 z2
  refine ⟨hn', by rw [e0]; exact hi.2.1, fun r r0 r1 => ?_, fun l2 hl2 => ?_⟩
  · rw [e0] at r1
    obtain ⟨b1, b2, b3⟩ := hi.2.2.1 r r0 r1
    rw [e1, e5]
    refine ⟨b1, ?_, b3⟩
    by_cases hrt : r = t
    · rw [hrt]; exact Or.inl e4t
    · rw [e4 r hrt]; exact b2
  · have hc2 := @lnA_cases p l2
    have hw := hi.2.2.2 l2 hl2
    rw [oL _ (by omega) (by omega), oL _ (by omega) (by omega)]
    by_cases he : l2 = l
    · subst he
      rw [apA_len]
      refine rowOK.ap hm.1 hr (fun k hk => apA_nk hk) apA_at (fun k k0 k1 => ?_) ?_ hw.2.1 (Or.inr (fun k k0 k1 => (oth l2 hl2 k k0 k1).1)) (fun s s0 s1 s2 s3 => ?_)
      · obtain ⟨n1, n2⟩ := oth l2 hl2 k k0 k1
        exact cellOK.st h5 e5 e4 n1 n2 (hw.1 k k0 k1)
      · left
        rw [h5, e5]
        exact ⟨ht.1, ht.2, e4t, hlq⟩
      · by_cases hst : s = t
        · exact Or.inl hst
        · rw [h5] at s1
          rw [e4 s hst] at s2
          rw [e5] at s3
          exact Or.inr (hw.2.2 s s0 s1 s2 s3)
    · have hx := lnA_ne (p := p) hl2 hl he
      have hx2 := lnA_ne (p := p) hl hl2 (Ne.symm he)
      rw [apA_o hx.1 hx.2.1, apA_o (Ne.symm hx2.2.1) hx.2.2]
      refine ⟨fun k k0 k1 => ?_, hw.2.1, fun s s0 s1 s2 s3 => ?_⟩
      · obtain ⟨n1, n2⟩ := oth l2 hl2 k k0 k1
        exact cellOK.st h5 e5 e4 n1 n2 (hw.1 k k0 k1)
      · rw [h5] at s1
        rw [e5] at s3
        have hst : s ≠ t := fun z => he (by rw [← s3, z, hlq])
        rw [e4 s hst] at s2
        exact hw.2.2 s s0 s1 s2 s3
theorem PInv.back {I : Nat → Int32 → Int32} {p : Nat} {t : Int32} (hi : PInv I p) (ht : 0 ≤ t ∧ t < I p 5) (hs : I (p + 4) t = 2) (hcn : canA I p t) : PInv (bkM I p t) p := by
  unfold bkM
  by_cases h1 : gapA I p t = -1
  · rw [if_pos h1]
    exact hi.apBack ht hs (hcn.resolve_left (fun z => z h1)) h1
  · rw [if_neg h1]
    obtain ⟨b1, b2, b3⟩ := (@gapA_spec I p t).resolve_left h1
    exact hi.swapCell ht hs ⟨b1, b2⟩ b3 (Or.inr ⟨rfl, rfl, rfl, rfl⟩)
/-- the reference's way back -/
def bkF (f : Int32 → Int32) (b t l g : Int32) : Int32 → Int32 := if g = -1 then apM (zset (zset f (b + 54 + t) 0) (b + 66 + t) 0) b l t else zset (zset f (b + 54 + t) 0) (b + 6 + 12 * l + g) t
theorem PR.back {I : Nat → Int32 → Int32} {p : Nat} {f : Int32 → Int32} {b t : Int32} (hi : PInv I p) (h : PR I p f b) (ht : 0 ≤ t ∧ t < I p 5) (hcn : canA I p t) : PR (bkM I p t) p (bkF f b t (I (p + 5) t) (gapA I p t)) b := by
  obtain ⟨t12, hl⟩ := hi.tree ht
  have hc := @lnA_cases p (I (p + 5) t)
  have hm := lnA_num hi.1 (I (p + 5) t)
  have h1 := PR.attr (c := 4) (o := 54) (v := 0) (by simp) ⟨ht.1, t12⟩ hi.1 h
  unfold bkM bkF
  by_cases hg : gapA I p t = -1
  · rw [if_pos hg, if_pos hg]
    have h2 := PR.attr (c := 3) (o := 66) (v := 0) (by simp) ⟨ht.1, t12⟩ (hi.1.attr (by omega)) h1
    have h3 := PR.ap (x := t) hl (by rw [zuo (by omega), zuo (by omega)]; exact hcn.resolve_left (fun z => z hg)) ((hi.1.attr (by omega)).attr (by omega)) h2
    rw [apA_zu (by omega) (by omega), apA_zu (by omega) (by omega), zu_comm (by omega)] at h3
    exact h3
  · rw [if_neg hg, if_neg hg]
    obtain ⟨b1, b2, b3⟩ := (@gapA_spec I p t).resolve_left hg
    have h2 := PR.cell (v := t) hl ⟨b1, by clear h h1 hi b3 hcn; grind⟩ (hi.1.attr (by omega)) h1
    rw [zu_comm (by omega)] at h2
    exact h2
/-- where it stands then -/
theorem placeA_back {I : Nat → Int32 → Int32} {p : Nat} {t : Int32} (hi : PInv I p) (ht : 0 ≤ t ∧ t < I p 5) (hs : I (p + 4) t = 2) (hcn : canA I p t) : placeA (bkM I p t) p t = if gapA I p t = -1 then I (lnA p (I (p + 5) t)) 1 else gapA I p t := by
  obtain ⟨t12, hl⟩ := hi.tree ht
  have hc := @lnA_cases p (I (p + 5) t)
  have hm := lnA_num hi.1 (I (p + 5) t)
  have hb := hi.back ht hs hcn
  have e0 : bkM I p t p = I p := by
    unfold bkM
    rw [zuo (by omega)]
    split
    · rw [zuo (by omega), apA_o (by omega) (by omega)]
    · rw [zuo (by omega)]
  have e5 : bkM I p t (p + 5) = I (p + 5) := by
    unfold bkM
    rw [zuo (by omega)]
    split
    · rw [zuo (by omega), apA_o (by omega) (by omega)]
    · rw [zuo (by omega)]
  have e4 : bkM I p t (p + 4) t = 0 := by unfold bkM; exact zuA
  rw [placeA_lk (by rw [e0]; exact ht) e4, e5]
  have tn : t ≠ 90 := by clear hi hb; grind
  by_cases hg : gapA I p t = -1
  · rw [if_pos hg]
    have eL : bkM I p t (lnA p (I (p + 5) t)) 1 = I (lnA p (I (p + 5) t)) 1 + 1 := by
      unfold bkM
      rw [if_pos hg, zuo (by omega), zuo (by omega), apA_len]
    have eC : bkM I p t (lnA p (I (p + 5) t) + 1) (I (lnA p (I (p + 5) t)) 1) = t := by
      unfold bkM
      rw [if_pos hg, zuo (by omega), zuo (by omega), apA_at]
    exact lkA_at (hb.2.2.2 _ hl) hm.1 (by rw [eL]; clear hi hb eC eL hcn; grind) eC tn
  · rw [if_neg hg]
    obtain ⟨b1, b2, b3⟩ := (@gapA_spec I p t).resolve_left hg
    have eL : bkM I p t (lnA p (I (p + 5) t)) = I (lnA p (I (p + 5) t)) := by
      unfold bkM
      rw [if_neg hg, zuo (by omega), zuo (by omega)]
    have eC : bkM I p t (lnA p (I (p + 5) t) + 1) (gapA I p t) = t := by
      unfold bkM
      rw [if_neg hg, zuo (by omega), zuA]
    exact lkA_at (hb.2.2.2 _ hl) b1 (by rw [eL]; exact b2) eC tn
/-- one is felled -/
theorem PInv.kind {I : Nat → Int32 → Int32} {p : Nat} {t v : Int32} (hv : 0 ≤ v ∧ v ≤ 4) (hi : PInv I p) : PInv (zu I (p + 1) t v) p := by
  have o : ∀ c, c ≠ p + 1 → zu I (p + 1) t v c = I c := fun c hc => zuo hc
  have e0 := o p (by omega)
  have e4 := o (p + 4) (by omega)
  have e5 := o (p + 5) (by omega)
  refine ⟨hi.1.attr (by omega), by rw [e0]; exact hi.2.1, fun s s0 s1 => ?_, fun l hl => ?_⟩
  · rw [e0] at s1
    obtain ⟨b1, b2, b3⟩ := hi.2.2.1 s s0 s1
    rw [e4, e5]
    refine ⟨?_, b2, b3⟩
    by_cases hs : s = t
    · rw [hs, zuA]; exact hv
    · rw [zu_nk hs]; exact b1
  · have hc := @lnA_cases p l
    rw [o _ (by omega), o _ (by omega)]
    exact rowOK_congr (by rw [e0]) e4 e5 (hi.2.2.2 l hl)
theorem PInv.bids {I : Nat → Int32 → Int32} {p : Nat} {t v : Int32} (hi : PInv I p) : PInv (zu I (p + 3) t v) p := PInv.same (fun _ _ _ _ h3 => zuo h3) hi
