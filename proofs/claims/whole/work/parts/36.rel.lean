/-! CLASS AND REFERENCE: a plain at p of the class, a stretch of 90 at b of the reference's row -/
theorem pushA_ind {R : (Int32 → Int32) → Prop} {hi : Int32} {sw : Int32 → Int32 → Bool} {f : Int32 → Int32} (hR : ∀ g q, 1 ≤ q → q < hi → R g → R (zswap g q)) (hf : R f) : R (pushA hi sw f) := by
  have key : ∀ q, 1 ≤ q → ∀ g : Int32 → Int32, R g → R (zfor hi (fun q f => if sw (f q) (f (q - 1)) then zswap f q else f) q g) := by
    refine zup_ind hi (fun q hq _ g hg => ?_) (fun q hq ih h1 g hg => ?_)
    · rw [zfor_end hq]; exact hg
    · rw [zfor_go hq]
      refine ih (by clear ih hR hg hf; grind) _ ?_
      split
      · exact hR g q h1 hq hg
      · exact hg
  exact key 1 (by decide) f hf
theorem pushA_eq {P : Int32 → Prop} {hi : Int32} {s1 s2 : Int32 → Int32 → Bool} {f g : Int32 → Int32} (hs : ∀ x y, P x → P y → s1 x y = s2 x y) (hP : ∀ k, 0 ≤ k → k < hi → P (f k)) (hfg : ∀ k, 0 ≤ k → k < hi → f k = g k) : ∀ k, 0 ≤ k → k < hi → pushA hi s1 f k = pushA hi s2 g k := by
  have key : ∀ q, 1 ≤ q → ∀ f g : Int32 → Int32, (∀ k, 0 ≤ k → k < hi → P (f k)) → (∀ k, 0 ≤ k → k < hi → f k = g k) → ∀ k, 0 ≤ k → k < hi → zfor hi (fun q f => if s1 (f q) (f (q - 1)) then zswap f q else f) q f k = zfor hi (fun q f => if s2 (f q) (f (q - 1)) then zswap f q else f) q g k := by
    refine zup_ind hi (fun q hq _ f g _ hfg => ?_) (fun q hq ih h1 f g hP hfg => ?_)
    · rw [zfor_end hq, zfor_end hq]; exact hfg
    · rw [zfor_go hq, zfor_go hq]
      have q0 : 0 ≤ q := by clear ih hP hfg hs; grind
      have r0 : 0 ≤ q - 1 := by clear ih hP hfg hs; grind
      have r1 : q - 1 < hi := by clear ih hP hfg hs; grind
      have e1 := hfg q q0 hq
      have e2 := hfg (q - 1) r0 r1
      have e3 := hs (f q) (f (q - 1)) (hP q q0 hq) (hP (q - 1) r0 r1)
      have p1 := hP q q0 hq
      have p2 := hP (q - 1) r0 r1
      rw [← e1, ← e2, ← e3]
      refine ih (by clear ih hP hfg hs; grind) _ _ (fun k k0 k1 => ?_) (fun k k0 k1 => ?_)
      · have := hP k k0 k1
        split
        · unfold zswap
          split
          · exact p1
          split
          · exact p2
          · exact this
        · exact this
      · have := hfg k k0 k1
        split
        · unfold zswap
          split
          · exact e1
          split
          · exact e2
          · exact this
        · exact this
  exact key 1 (by decide) f g hP hfg
def cellOK (I : Nat → Int32 → Int32) (p : Nat) (l x : Int32) : Prop := (0 ≤ x ∧ x < I p 5 ∧ I (p + 4) x = 0 ∧ I (p + 5) x = l) ∨ x = 90 ∨ (50 ≤ x ∧ x < 50 + I p 5 ∧ I (p + 4) (x - 50) = 2 ∧ I (p + 5) (x - 50) = l)
/-- a line of a plain is in order -/
def rowOK (I : Nat → Int32 → Int32) (p : Nat) (l hi : Int32) (g : Int32 → Int32) : Prop := (∀ k, 0 ≤ k → k < hi → cellOK I p l (g k)) ∧ (∀ i j, 0 ≤ i → i < hi → 0 ≤ j → j < hi → g i = g j → g i ≠ 90 → i = j) ∧ (∀ t, 0 ≤ t → t < I p 5 → I (p + 4) t = 0 → I (p + 5) t = l → ∃ k, 0 ≤ k ∧ k < hi ∧ g k = t)
theorem rowOK.swap {I : Nat → Int32 → Int32} {p : Nat} {l hi q : Int32} {g : Int32 → Int32} (h1 : 1 ≤ q) (h2 : q < hi) (h : rowOK I p l hi g) : rowOK I p l hi (zswap g q) := by
  obtain ⟨a, c, d⟩ := h
  have q0 : 0 ≤ q := by clear a c d; grind
  have r0 : 0 ≤ q - 1 := by clear a c d; grind
  have r1 : q - 1 < hi := by clear a c d; grind
  have rn : q - 1 ≠ q := by clear a c d; grind
  -- where a place comes from
  have hs : ∀ k, 0 ≤ k → k < hi → ∃ k2, 0 ≤ k2 ∧ k2 < hi ∧ zswap g q k = g k2 ∧ (k = q - 1 ∧ k2 = q ∨ k = q ∧ k2 = q - 1 ∨ (k ≠ q ∧ k ≠ q - 1) ∧ k2 = k) := fun k k0 k1 => by
    unfold zswap
    by_cases e1 : k = q - 1
    · exact ⟨q, q0, h2, if_pos e1, Or.inl ⟨e1, rfl⟩⟩
    · rw [if_neg e1]
      by_cases e2 : k = q
      · exact ⟨q - 1, r0, r1, if_pos e2, Or.inr (Or.inl ⟨e2, rfl⟩)⟩
      · exact ⟨k, k0, k1, if_neg e2, Or.inr (Or.inr ⟨⟨e2, e1⟩, rfl⟩)⟩
  refine ⟨fun k k0 k1 => ?_, fun i j i0 i1 j0 j1 he hn => ?_, fun t t0 t1 t2 t3 => ?_⟩
  · obtain ⟨k2, a1, a2, a3, -⟩ := hs k k0 k1
    rw [a3]
    exact a k2 a1 a2
  · obtain ⟨i2, a1, a2, a3, a4⟩ := hs i i0 i1
    obtain ⟨j2, b1, b2, b3, b4⟩ := hs j j0 j1
    rw [a3, b3] at he
    rw [a3] at hn
    have e := c i2 j2 a1 a2 b1 b2 he hn
    clear hs a c d
    grind
  · obtain ⟨k, a1, a2, a3⟩ := d t t0 t1 t2 t3
    by_cases e1 : k = q - 1
    · exact ⟨q, q0, h2, by unfold zswap; rw [if_neg (Ne.symm rn), if_pos rfl, ← e1]; exact a3⟩
    · by_cases e2 : k = q
      · exact ⟨q - 1, r0, r1, by unfold zswap; rw [if_pos rfl, ← e2]; exact a3⟩
      · exact ⟨k, a1, a2, by unfold zswap; rw [if_neg e1, if_neg e2]; exact a3⟩
/-- a plain is in order -/
def PInv (I : Nat → Int32 → Int32) (p : Nat) : Prop := PlNum I p ∧ ((I p 6 = 0 ∨ I p 6 = 1 ∨ I p 6 = 2) ∧ (I p 7 = 0 ∨ I p 7 = 1)) ∧ (∀ t, 0 ≤ t → t < I p 5 → (0 ≤ I (p + 1) t ∧ I (p + 1) t ≤ 4) ∧ (I (p + 4) t = 0 ∨ I (p + 4) t = 1 ∨ I (p + 4) t = 2) ∧ (I (p + 5) t = 0 ∨ I (p + 5) t = 1)) ∧ ∀ l, l = 0 ∨ l = 1 → rowOK I p l (I (lnA p l) 1) (I (lnA p l + 1))
/-- both sides tell the same plain -/
def PR (I : Nat → Int32 → Int32) (p : Nat) (f : Int32 → Int32) (b : Int32) : Prop := (I p 5 = f b ∧ I p 6 = f (b + 1) ∧ I p 8 = f (b + 2) ∧ I p 7 = f (b + 3)) ∧ (∀ l, l = 0 ∨ l = 1 → I (lnA p l) 1 = f (b + 4 + l) ∧ ∀ k, 0 ≤ k → k < I (lnA p l) 1 → I (lnA p l + 1) k = f (b + 6 + 12 * l + k)) ∧ ∀ t, 0 ≤ t → t < I p 5 → I (p + 1) t = f (b + 30 + t) ∧ I (p + 2) t = f (b + 42 + t) ∧ I (p + 3) t = f (b + 66 + t) ∧ I (p + 4) t = f (b + 54 + t) ∧ I (p + 5) t = f (b + 78 + t)
theorem cellOK_tree {I : Nat → Int32 → Int32} {p : Nat} {l x : Int32} (hT : 0 ≤ I p 5 ∧ I p 5 ≤ 12) (h : cellOK I p l x) : (0 ≤ x ∧ x < I p 5) ↔ x < 12 := by
  unfold cellOK at h
  generalize I p 5 = T at *
  generalize I (p + 4) x = u1 at *
  generalize I (p + 5) x = u2 at *
  generalize I (p + 4) (x - 50) = u3 at *
  generalize I (p + 5) (x - 50) = u4 at *
  grind
theorem cellOK_nn {I : Nat → Int32 → Int32} {p : Nat} {l x : Int32} (h : cellOK I p l x) : 0 ≤ x := by
  unfold cellOK at h
  generalize I p 5 = T at *
  generalize I (p + 4) x = u1 at *
  generalize I (p + 5) x = u2 at *
  generalize I (p + 4) (x - 50) = u3 at *
  generalize I (p + 5) (x - 50) = u4 at *
  grind
theorem PR.num {I : Nat → Int32 → Int32} {p : Nat} {f : Int32 → Int32} {b : Int32} (h : PR I p f b) (hi : PInv I p) : MNum f b := by
  intro l hl
  obtain ⟨e1, e2⟩ := h.2.1 l hl
  have hn := lnA_num hi.1 l
  rw [← e1]
  refine ⟨hn, fun k k0 k1 => ?_⟩
  rw [← e2 k k0 k1]
  exact cellOK_nn ((hi.2.2.2 l hl).1 k k0 k1)
theorem swAM {I : Nat → Int32 → Int32} {p : Nat} {f : Int32 → Int32} {b l x y : Int32} (h : PR I p f b) (hi : PInv I p) (hx : cellOK I p l x) (hy : cellOK I p l y) : swA I p x y = swM f b x y := by
  have hT := hi.1.1
  have ex := cellOK_tree hT hx
  have ey := cellOK_tree hT hy
  unfold swA swM
  congr 1
  apply propext
  by_cases cx : x < 12
  · by_cases cy : y < 12
    · have tx := ex.mpr cx
      have ty := ey.mpr cy
      obtain ⟨a1, a2, -⟩ := h.2.2 x tx.1 tx.2
      obtain ⟨b1, b2, -⟩ := h.2.2 y ty.1 ty.2
      obtain ⟨k1, -⟩ := hi.2.2.1 y ty.1 ty.2
      rw [← a1, ← a2, ← b1, ← b2]
      clear h hi hx hy a1 a2 b1 b2
      generalize I (p + 1) x = u1 at *
      generalize I (p + 1) y = u2 at *
      generalize I (p + 2) x = u3 at *
      generalize I (p + 2) y = u4 at *
      grind
    · constructor
      · rintro ⟨-, -, z, -⟩; exact absurd (ey.mp z) cy
      · rintro ⟨-, z, -⟩; exact absurd z cy
  · constructor
    · rintro ⟨z, -⟩; exact absurd (ex.mp z) cx
    · rintro ⟨z, -⟩; exact absurd z cx
