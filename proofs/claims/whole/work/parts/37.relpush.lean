theorem cellOK_congr {I I1 : Nat → Int32 → Int32} {p : Nat} {l x : Int32} (h5 : I1 p 5 = I p 5) (hs : I1 (p + 4) = I (p + 4)) (hl : I1 (p + 5) = I (p + 5)) : cellOK I1 p l x ↔ cellOK I p l x := by unfold cellOK; rw [h5, hs, hl]
theorem rowOK_congr {I I1 : Nat → Int32 → Int32} {p : Nat} {l hi : Int32} {g : Int32 → Int32} (h5 : I1 p 5 = I p 5) (hs : I1 (p + 4) = I (p + 4)) (hl : I1 (p + 5) = I (p + 5)) (h : rowOK I p l hi g) : rowOK I1 p l hi g := by
  unfold rowOK at *
  rw [h5, hs, hl]
  exact ⟨fun k k0 k1 => (cellOK_congr h5 hs hl).mpr (h.1 k k0 k1), h.2⟩
theorem lnA_ne {p : Nat} {x y : Int32} (hx : x = 0 ∨ x = 1) (hy : y = 0 ∨ y = 1) (h : x ≠ y) : lnA p x ≠ lnA p y ∧ lnA p x ≠ lnA p y + 1 ∧ lnA p x + 1 ≠ lnA p y + 1 := by
  rcases hx with rfl | rfl <;> rcases hy with rfl | rfl
  · exact absurd rfl h
  · show p + 6 ≠ p + 8 ∧ p + 6 ≠ p + 8 + 1 ∧ p + 6 + 1 ≠ p + 8 + 1
    omega
  · show p + 8 ≠ p + 6 ∧ p + 8 ≠ p + 6 + 1 ∧ p + 8 + 1 ≠ p + 6 + 1
    omega
  · exact absurd rfl h
theorem pushM_at {I : Nat → Int32 → Int32} {p a : Nat} : pushM I p a (a + 1) = pushA (I a 1) (swA I p) (I (a + 1)) := by
  unfold pushM
  exact zrow_at
/-- the places of a stretch: which lie apart -/
theorem ixo {b l c : Int32} (hb : 0 ≤ b ∧ b ≤ 1080) (hl : l = 0 ∨ l = 1) (hc : (0 ≤ c ∧ c ≤ 5) ∨ (30 ≤ c ∧ c < 90)) : b + c < b + 6 + 12 * l ∨ b + 6 + 12 * l + 12 ≤ b + c := by
  rcases hl with rfl | rfl
  · rw [show (12 : Int32) * 0 = 0 from rfl]; grind
  · rw [show (12 : Int32) * 1 = 12 from rfl]; grind
theorem ixo2 {b l l2 k : Int32} (hb : 0 ≤ b ∧ b ≤ 1080) (hl : l = 0 ∨ l = 1) (hl2 : l2 = 0 ∨ l2 = 1) (hne : l2 ≠ l) (hk : 0 ≤ k ∧ k < 12) : b + 6 + 12 * l2 + k < b + 6 + 12 * l ∨ b + 6 + 12 * l + 12 ≤ b + 6 + 12 * l2 + k := by
  rcases hl with rfl | rfl <;> rcases hl2 with rfl | rfl
  · exact absurd rfl hne
  · rw [show (12 : Int32) * 0 = 0 from rfl, show (12 : Int32) * 1 = 12 from rfl]; grind
  · rw [show (12 : Int32) * 0 = 0 from rfl, show (12 : Int32) * 1 = 12 from rfl]; grind
  · exact absurd rfl hne
theorem addA (b c t : Int32) : b + c + t = b + (c + t) := by grind
theorem PInv.push {I : Nat → Int32 → Int32} {p : Nat} {l : Int32} (hl : l = 0 ∨ l = 1) (hi : PInv I p) : PInv (pushM I p (lnA p l)) p := by
  have hc := @lnA_cases p l
  have o : ∀ c, c ≠ lnA p l + 1 → pushM I p (lnA p l) c = I c := fun c h => pushM_o h
  have e0 := o p (by omega)
  have e1 := o (p + 1) (by omega)
  have e4 := o (p + 4) (by omega)
  have e5 := o (p + 5) (by omega)
  refine ⟨hi.1.push hc, by rw [e0]; exact hi.2.1, by rw [e0, e1, e4, e5]; exact hi.2.2.1, fun l2 hl2 => ?_⟩
  refine rowOK_congr (by rw [e0]) e4 e5 ?_
  have hc2 := @lnA_cases p l2
  rw [o (lnA p l2) (by omega)]
  by_cases he : l2 = l
  · subst he
    rw [pushM_at]
    exact pushA_ind (R := rowOK I p l2 (I (lnA p l2) 1)) (fun g q h1 h2 hg => hg.swap h1 h2) (hi.2.2.2 l2 hl2)
  · rw [o (lnA p l2 + 1) (lnA_ne hl2 hl he).2.2]
    exact hi.2.2.2 l2 hl2
theorem PR.push {I : Nat → Int32 → Int32} {p : Nat} {f : Int32 → Int32} {b l : Int32} (hb : 0 ≤ b ∧ b ≤ 1080) (hl : l = 0 ∨ l = 1) (hi : PInv I p) (h : PR I p f b) : PR (pushM I p (lnA p l)) p (puM f b l) b := by
  have hc := @lnA_cases p l
  have o : ∀ c, c ≠ lnA p l + 1 → pushM I p (lnA p l) c = I c := fun c h => pushM_o h
  have e0 := o p (by omega)
  have w : ∀ c, (0 ≤ c ∧ c ≤ 5) ∨ (30 ≤ c ∧ c < 90) → puM f b l (b + c) = f (b + c) := fun c hc => puM_o (ixo hb hl hc)
  have w0 : puM f b l b = f b := by
    have := w 0 (by decide)
    rwa [show b + 0 = b by grind] at this
  refine ⟨?_, fun l2 hl2 => ?_, fun t t0 t1 => ?_⟩
  · rw [e0, w0, w 1 (by decide), w 2 (by decide), w 3 (by decide)]
    exact h.1
  · have hc2 := @lnA_cases p l2
    obtain ⟨a1, a2⟩ := h.2.1 l2 hl2
    have hn := lnA_num hi.1 l2
    have w4 : puM f b l (b + 4 + l2) = f (b + 4 + l2) := by rw [addA]; exact w _ (by clear h hi w; grind)
    rw [o (lnA p l2) (by omega), w4]
    refine ⟨a1, fun k k0 k1 => ?_⟩
    have k12 : k < 12 := by clear h hi w a2; grind
    by_cases he : l2 = l
    · subst he
      obtain ⟨d0, d1, -, -⟩ := ixd hb hl
      rw [pushM_at]
      unfold puM
      rw [zsl_in ⟨d0, by clear h hi w a2; grind⟩ (by decide) k0 k12, ← a1]
      exact pushA_eq (P := cellOK I p l2) (fun x y hx hy => swAM h hi hx hy) (hi.2.2.2 l2 hl2).1 a2 k k0 k1
    · rw [o (lnA p l2 + 1) (lnA_ne hl2 hl he).2.2, puM_o (ixo2 hb hl hl2 he ⟨k0, k12⟩)]
      exact a2 k k0 k1
  · rw [e0] at t1
    have hT := hi.1.1
    have t12 : t < 12 := by clear h hi w; grind
    rw [o (p + 1) (by omega), o (p + 2) (by omega), o (p + 3) (by omega), o (p + 4) (by omega), o (p + 5) (by omega), addA b 30 t, addA b 42 t, addA b 66 t, addA b 54 t, addA b 78 t, w (30 + t) (by clear h hi w; grind), w (42 + t) (by clear h hi w; grind), w (66 + t) (by clear h hi w; grind), w (54 + t) (by clear h hi w; grind), w (78 + t) (by clear h hi w; grind), ← addA b 30 t, ← addA b 42 t, ← addA b 66 t, ← addA b 54 t, ← addA b 78 t]
    exact h.2.2 t t0 t1
theorem frAM {I : Nat → Int32 → Int32} {p : Nat} {f : Int32 → Int32} {b l : Int32} (hl : l = 0 ∨ l = 1) (hi : PInv I p) (h : PR I p f b) : frA I p (lnA p l) = frM f b l := by
  obtain ⟨a1, a2⟩ := h.2.1 l hl
  have hn := lnA_num hi.1 l
  have hT := hi.1.1
  unfold frA frM
  rw [← a1]
  by_cases h0 : I (lnA p l) 1 = 0
  · rw [if_pos h0, if_pos h0]
  · rw [if_neg h0, if_neg h0]
    have z1 : 0 < I (lnA p l) 1 := by clear a2 hi h; grind
    have hx := (hi.2.2.2 l hl).1 0 (by decide) z1
    rw [← a2 0 (by decide) z1]
    have ex := cellOK_tree hT hx
    by_cases cx : I (lnA p l + 1) 0 < 12
    · have tx := ex.mpr cx
      rw [if_pos tx, if_neg (by clear a2 hi h hx ex; grind)]
      exact (h.2.2 _ tx.1 tx.2).2.1
    · rw [if_neg (fun z => cx (ex.mp z)), if_pos (by clear a2 hi h hx ex; grind)]
theorem wayAM {I : Nat → Int32 → Int32} {p : Nat} {f : Int32 → Int32} {b : Int32} (hi : PInv I p) (h : PR I p f b) : wayA I p = wayM f b := by
  have r0 := frAM (Or.inl rfl) hi h
  have r1 := frAM (Or.inr rfl) hi h
  rw [show lnA p 0 = p + 6 from rfl] at r0
  rw [show lnA p 1 = p + 8 from rfl] at r1
  have s0 := (h.2.1 0 (Or.inl rfl)).1
  have s1 := (h.2.1 1 (Or.inr rfl)).1
  rw [show lnA p 0 = p + 6 from rfl, show b + 4 + 0 = b + 4 by grind] at s0
  rw [show lnA p 1 = p + 8 from rfl] at s1
  have st := (h.2.1 (I p 7) hi.2.1.2).1
  obtain ⟨g1, g2, g3, g4⟩ := h.1
  have n0 := hi.1.2.1
  have n1 := hi.1.2.2
  unfold wayA wayM
  rw [r0, r1, st, s0, s1, g2, g4]
  rw [s0] at n0
  rw [s1] at n1
  clear h hi r0 r1 st s0 s1 g1 g2 g3 g4
  generalize f (b + 4 + f (b + 3)) = z1
  generalize f (b + 3) = z2 at *
  generalize f (b + 4 + 1) = z3 at *
  generalize f (b + 4) = z4 at *
  generalize f (b + 1) = z5
  generalize frM f b 0 = z6
  generalize frM f b 1 = z7
  have e : (z4 + z3 = 0) ↔ (z4 = 0 ∧ z3 = 0) := by grind
  simp only [e]
