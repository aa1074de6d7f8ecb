theorem zfirst_congr {hi : Int32} {c1 c2 : Int32 → Bool} : ∀ p, (∀ k, p ≤ k → k < hi → c1 k = c2 k) → zfirst hi c1 p = zfirst hi c2 p := by
  refine zup_ind hi (fun p hp _ => ?_) (fun p hp ih h => ?_)
  · rw [zfirst_end hp, zfirst_end hp]
  · rw [zfirst_go hp, zfirst_go hp, h p (Int32.le_refl p) hp, ih (fun k k0 k1 => h k (by clear ih h; grind) k1)]
theorem rmA_cells {I : Nat → Int32 → Int32} {a : Nat} {q k : Int32} : rmA I a q (a + 1) k = if q ≤ k ∧ k < I a 1 - 1 then I (a + 1) (k + 1) else I (a + 1) k := by
  unfold rmA zu zsh
  rw [if_neg (fun z => absurd z.1 (by omega))]
  by_cases h : q ≤ k ∧ k < I a 1 - 1
  · rw [if_pos ⟨rfl, h⟩, if_pos h]
  · rw [if_neg (fun z => h z.2), if_neg h]
theorem rmA_len {I : Nat → Int32 → Int32} {a : Nat} {q : Int32} : rmA I a q a 1 = I a 1 - 1 := by
  unfold rmA zu
  rw [if_pos ⟨rfl, rfl⟩]
theorem rmA_o {I : Nat → Int32 → Int32} {a c : Nat} {q : Int32} (h1 : c ≠ a) (h2 : c ≠ a + 1) : rmA I a q c = I c := by
  funext k
  unfold rmA zu zsh
  rw [if_neg (fun z => h1 z.1), if_neg (fun z => h2 z.1)]
theorem PlNum.rm {I : Nat → Int32 → Int32} {p : Nat} {l q : Int32} (hn : PlNum I p) (hq : 0 ≤ q ∧ q < I (lnA p l) 1) : PlNum (rmA I (lnA p l) q) p := by
  have hc := @lnA_cases p l
  obtain ⟨h5, h6, h8⟩ := id hn
  refine PlNum.eqv (by rw [rmA_o (by omega) (by omega)]) ?_ ?_ hn
  · rcases hc with hc | hc
    · rw [hc] at hq ⊢
      rw [rmA_len]
      clear hn hc
      generalize I (p + 6) 1 = z at *
      grind
    · rw [rmA_o (by omega) (by omega)]
      exact h6
  · rcases hc with hc | hc
    · rw [rmA_o (by omega) (by omega)]
      exact h8
    · rw [hc] at hq ⊢
      rw [rmA_len]
      clear hn hc
      generalize I (p + 8) 1 = z at *
      grind
/-- taking a place out of a row that is in order -/
theorem rowOK.rm {I : Nat → Int32 → Int32} {p : Nat} {l hi q : Int32} {g g2 : Int32 → Int32} (hh : hi ≤ 12) (h0 : 0 ≤ q) (h1 : q < hi) (he : ∀ k, g2 k = if q ≤ k ∧ k < hi - 1 then g (k + 1) else g k) (h : rowOK I p l hi g) : (∀ k, 0 ≤ k → k < hi - 1 → ∃ k2, 0 ≤ k2 ∧ k2 < hi ∧ k2 ≠ q ∧ g2 k = g k2) ∧ (∀ i j, 0 ≤ i → i < hi - 1 → 0 ≤ j → j < hi - 1 → g2 i = g2 j → g2 i ≠ 90 → i = j) ∧ (∀ k2, 0 ≤ k2 → k2 < hi → k2 ≠ q → ∃ k, 0 ≤ k ∧ k < hi - 1 ∧ g2 k = g k2) := by
  obtain ⟨-, c, -⟩ := h
  have src : ∀ k, 0 ≤ k → k < hi - 1 → ∃ k2, (0 ≤ k2 ∧ k2 < hi ∧ k2 ≠ q ∧ g2 k = g k2) ∧ (k2 = k ∧ k < q ∨ k2 = k + 1 ∧ q ≤ k) := fun k k0 k1 => by
    rw [he k]
    by_cases hk : q ≤ k
    · rw [if_pos ⟨hk, k1⟩]
      exact ⟨k + 1, ⟨by clear he c; grind, by clear he c; grind, by clear he c; grind, rfl⟩, Or.inr ⟨rfl, hk⟩⟩
    · rw [if_neg (fun z => hk z.1)]
      exact ⟨k, ⟨k0, by clear he c; grind, by clear he c; grind, rfl⟩, Or.inl ⟨rfl, Int32.not_le.mp hk⟩⟩
  refine ⟨fun k k0 k1 => ?_, fun i j i0 i1 j0 j1 e hn => ?_, fun k2 k0 k1 kn => ?_⟩
  · obtain ⟨k2, a, -⟩ := src k k0 k1
    exact ⟨k2, a⟩
  · obtain ⟨i2, ⟨a1, a2, a3, a4⟩, a5⟩ := src i i0 i1
    obtain ⟨j2, ⟨b1, b2, b3, b4⟩, b5⟩ := src j j0 j1
    rw [a4, b4] at e
    rw [a4] at hn
    have e2 := c i2 j2 a1 a2 b1 b2 e hn
    clear src c he e hn a4 b4 a1 a2 a3 b1 b2 b3
    subst e2
    rcases a5 with ⟨a5, a6⟩ | ⟨a5, a6⟩ <;> rcases b5 with ⟨b5, b6⟩ | ⟨b5, b6⟩
    · rw [← a5, ← b5]
    · exfalso
      rw [a5] at b5
      subst b5
      grind
    · exfalso
      rw [b5] at a5
      subst a5
      grind
    · rw [a5] at b5
      grind
  · by_cases hk : k2 < q
    · exact ⟨k2, k0, by clear src c he; grind, by rw [he, if_neg (by clear src c he; grind)]⟩
    · refine ⟨k2 - 1, by clear src c he; grind, by clear src c he; grind, ?_⟩
      rw [he, if_pos (by clear src c he; grind), show k2 - 1 + 1 = k2 by grind]
theorem PR.rm {I : Nat → Int32 → Int32} {p : Nat} {f : Int32 → Int32} {b l q : Int32} (hb : 0 ≤ b ∧ b ≤ 1080) (hl : l = 0 ∨ l = 1) (hn : PlNum I p) (hq : 0 ≤ q ∧ q < I (lnA p l) 1) (h : PR I p f b) : PR (rmA I (lnA p l) q) p (toM f b l q) b := by
  have hc := @lnA_cases p l
  obtain ⟨d0, d1, d2, d3⟩ := ixd hb hl
  have o : ∀ c, c ≠ lnA p l → c ≠ lnA p l + 1 → rmA I (lnA p l) q c = I c := fun c h1 h2 => rmA_o h1 h2
  have e0 := o p (by omega) (by omega)
  have hml := lnA_num hn l
  have w : ∀ c, (0 ≤ c ∧ c ≤ 5) ∨ (30 ≤ c ∧ c < 90) → c ≠ 4 + l → toM f b l q (b + c) = f (b + c) := fun c hc hne => by
    unfold toM
    rw [zsl_out (ixo hb hl hc), zset_ne (by clear h hn; grind)]
  have w0 : toM f b l q b = f b := by
    have := w 0 (by decide) (by clear w h hn; grind)
    rwa [show b + 0 = b by grind] at this
  refine ⟨?_, fun l2 hl2 => ?_, fun t t0 t1 => ?_⟩
  · rw [e0, w0, w 1 (by decide) (by clear w h hn; grind), w 2 (by decide) (by clear w h hn; grind), w 3 (by decide) (by clear w h hn; grind)]
    exact h.1
  · have hc2 := @lnA_cases p l2
    obtain ⟨a1, a2⟩ := h.2.1 l2 hl2
    by_cases he : l2 = l
    · subst he
      have e4 : toM f b l2 q (b + 4 + l2) = f (b + 4 + l2) - 1 := by
        unfold toM
        rw [zsl_out (Or.inl d2), zset_at]
      rw [rmA_len, e4, a1]
      refine ⟨rfl, fun k k0 k1 => ?_⟩
      rw [← a1] at k1
      have k12 : k < 12 := by clear w h hn a2; grind
      rw [rmA_cells]
      unfold toM
      rw [zsl_in ⟨d0, by clear w h hn a2; grind⟩ (by decide) k0 k12, ← a1]
      by_cases hk : q ≤ k ∧ k < I (lnA p l2) 1 - 1
      · rw [if_pos hk]
        show _ = (if q ≤ k ∧ k < I (lnA p l2) 1 - 1 then f (b + 6 + 12 * l2 + k + 1) else f (b + 6 + 12 * l2 + k))
        rw [if_pos hk, a2 (k + 1) (by clear w h hn a2; grind) (by clear w h hn a2; grind), show b + 6 + 12 * l2 + (k + 1) = b + 6 + 12 * l2 + k + 1 by grind]
      · rw [if_neg hk]
        show _ = (if q ≤ k ∧ k < I (lnA p l2) 1 - 1 then f (b + 6 + 12 * l2 + k + 1) else f (b + 6 + 12 * l2 + k))
        rw [if_neg hk, a2 k k0 (by clear w h hn a2; grind)]
    · have hx := lnA_ne (p := p) hl2 hl he
      have hx2 := lnA_ne (p := p) hl hl2 (Ne.symm he)
      have w4 : toM f b l q (b + 4 + l2) = f (b + 4 + l2) := by rw [addA]; exact w _ (by clear w h hn a2; grind) (by clear w h hn a2; grind)
      rw [o (lnA p l2) hx.1 hx.2.1, w4]
      refine ⟨a1, fun k k0 k1 => ?_⟩
      have hm2 := lnA_num hn l2
      have k12 : k < 12 := by clear w h hn a2; grind
      have e9 : toM f b l q (b + 6 + 12 * l2 + k) = f (b + 6 + 12 * l2 + k) := by
        unfold toM
        rw [zsl_out (ixo2 hb hl hl2 he ⟨k0, k12⟩)]
        obtain ⟨c0, c1, c2, c3⟩ := ixd hb hl2
        refine zset_ne ?_
        clear w h hn a2
        rcases hl with rfl | rfl <;> rcases hl2 with rfl | rfl <;> simp only [show (12 : Int32) * 0 = 0 from rfl, show (12 : Int32) * 1 = 12 from rfl] at * <;> grind
      rw [o (lnA p l2 + 1) (Ne.symm hx2.2.1) hx.2.2, e9]
      exact a2 k k0 k1
  · rw [e0] at t1
    have hT := hn.1
    have t12 : t < 12 := by clear w h hn; grind
    rw [o (p + 1) (by omega) (by omega), o (p + 2) (by omega) (by omega), o (p + 3) (by omega) (by omega), o (p + 4) (by omega) (by omega), o (p + 5) (by omega) (by omega), addA b 30 t, addA b 42 t, addA b 66 t, addA b 54 t, addA b 78 t, w (30 + t) (by clear w h hn; grind) (by clear w h hn; grind), w (42 + t) (by clear w h hn; grind) (by clear w h hn; grind), w (66 + t) (by clear w h hn; grind) (by clear w h hn; grind), w (54 + t) (by clear w h hn; grind) (by clear w h hn; grind), w (78 + t) (by clear w h hn; grind) (by clear w h hn; grind), ← addA b 30 t, ← addA b 42 t, ← addA b 66 t, ← addA b 54 t, ← addA b 78 t]
    exact h.2.2 t t0 t1
