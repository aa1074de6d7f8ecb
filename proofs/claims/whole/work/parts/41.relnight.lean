/-- nothing but a plain; nothing but a stretch -/
def PFr (I2 I : Nat → Int32 → Int32) (p : Nat) : Prop := ∀ c, c < p ∨ p + 10 ≤ c → I2 c = I c
def MFr (g f : Int32 → Int32) (b : Int32) : Prop := ∀ j, j < b ∨ b + 90 ≤ j → g j = f j
theorem PFr.refl {I : Nat → Int32 → Int32} {p : Nat} : PFr I I p := fun _ _ => rfl
theorem PFr.trans {I1 I2 I3 : Nat → Int32 → Int32} {p : Nat} (h1 : PFr I1 I2 p) (h2 : PFr I2 I3 p) : PFr I1 I3 p := fun c hc => (h1 c hc).trans (h2 c hc)
theorem MFr.refl {f : Int32 → Int32} {b : Int32} : MFr f f b := fun _ _ => rfl
theorem MFr.trans {f1 f2 f3 : Int32 → Int32} {b : Int32} (h1 : MFr f1 f2 b) (h2 : MFr f2 f3 b) : MFr f1 f3 b := fun c hc => (h1 c hc).trans (h2 c hc)
theorem PFr.zu {I I1 : Nat → Int32 → Int32} {p a : Nat} {k v : Int32} (ha : p ≤ a ∧ a < p + 10) (h : PFr I I1 p) : PFr (zu I a k v) I1 p := fun c hc => by
  rw [zuo (by omega)]; exact h c hc
theorem PFr.rm {I I1 : Nat → Int32 → Int32} {p a : Nat} {q : Int32} (ha : p ≤ a ∧ a + 1 < p + 10) (h : PFr I I1 p) : PFr (rmA I a q) I1 p := fun c hc => by
  rw [rmA_o (by omega) (by omega)]; exact h c hc
theorem MFr.set {f f1 : Int32 → Int32} {b j v : Int32} (hb : 0 ≤ b ∧ b ≤ 1080) (hj : 0 ≤ j ∧ j < 90) (h : MFr f f1 b) : MFr (zset f (b + j) v) f1 b := fun c hc => by
  rw [zset_ne (by clear h; grind)]; exact h c hc
theorem MFr.sl {f f1 g : Int32 → Int32} {b j w : Int32} (hb : 0 ≤ b ∧ b ≤ 1080) (hj : 0 ≤ j ∧ j ≤ 90) (hw : 0 ≤ w ∧ w ≤ 90) (hjw : j + w ≤ 90) (h : MFr f f1 b) : MFr (zsl f (b + j) w g) f1 b := fun c hc => by
  have hs : b + j + w ≤ b + 90 := by
    have h0 : 0 ≤ j + w := by clear h hc hb hjw; grind
    rw [addA]
    generalize j + w = s at *
    clear h hc hj hw
    grind
  have h1 : c < b ∨ b + j + w ≤ c := hc.imp id (fun z => Int32.le_trans hs z)
  rw [zsl_out (h1.imp (fun z => by clear h hc hs h1 hw hjw; grind) id)]; exact h c hc
theorem mvM_fr {I : Nat → Int32 → Int32} {p : Nat} {l : Int32} : PFr (mvM I p (lnA p l)) I p := by
  have hc := @lnA_cases p l
  unfold mvM
  split
  · exact PFr.rm (by omega) PFr.refl
  split
  · exact PFr.refl
  split
  · exact PFr.zu (by omega) PFr.refl
  · exact PFr.zu (by omega) (PFr.rm (by omega) (PFr.zu (by omega) PFr.refl))
theorem toM_fr {f f1 : Int32 → Int32} {b l q : Int32} (hb : 0 ≤ b ∧ b ≤ 1080) (hl : l = 0 ∨ l = 1) (h : MFr f f1 b) : MFr (toM f b l q) f1 b := by
  unfold toM
  rw [addA b 4 l, addA b 6 (12 * l)]
  refine MFr.sl hb ?_ (by decide) ?_ (MFr.set hb ?_ h)
  · rcases hl with rfl | rfl <;> decide
  · rcases hl with rfl | rfl <;> decide
  · rcases hl with rfl | rfl <;> decide
theorem mwM_fr {f : Int32 → Int32} {b l : Int32} (hb : 0 ≤ b ∧ b ≤ 1080) (hl : l = 0 ∨ l = 1) (hn : MNum f b) : MFr (mwM f b l) f b := by
  have hs := @stM_spec f b l
  unfold mwM
  split
  · exact MFr.refl
  split
  · exact toM_fr hb hl MFr.refl
  split
  · exact MFr.refl
  next h3 =>
  split
  · exact MFr.refl
  next h4 =>
  obtain ⟨s0, s1, -⟩ := hs.resolve_left h3
  have hc := (hn l hl).2 _ s0 s1
  generalize f (b + 6 + 12 * l + stM f b l 0) = t at *
  rw [addA b 66 t, addA b 54 t]
  have h66 : (0 : Int32) ≤ 66 + t ∧ 66 + t < 90 := by clear hn hs s0 s1; grind
  have h54 : (0 : Int32) ≤ 54 + t ∧ 54 + t < 90 := by clear hn hs s0 s1; grind
  split
  · exact MFr.set hb h66 MFr.refl
  · exact toM_fr hb hl (MFr.set hb h54 (MFr.set hb h66 MFr.refl))
theorem PInv.scal {I : Nat → Int32 → Int32} {p : Nat} {k v : Int32} (hk : (k = 6 ∧ (v = 0 ∨ v = 1 ∨ v = 2)) ∨ (k = 7 ∧ (v = 0 ∨ v = 1)) ∨ k = 8) (hi : PInv I p) : PInv (zu I p k v) p := by
  have e : ∀ c, c ≠ p → zu I p k v c = I c := fun c hc => zuo hc
  have e5 : zu I p k v p 5 = I p 5 := zu_nk (by clear hi e; grind)
  refine ⟨?_, ?_, ?_, fun l hl => ?_⟩
  · unfold PlNum
    rw [e5, e _ (by omega), e _ (by omega)]
    exact hi.1
  · obtain ⟨g1, g2⟩ := hi.2.1
    rcases hk with ⟨rfl, hv⟩ | ⟨rfl, hv⟩ | rfl
    · rw [zuA, zu_nk (by decide)]; exact ⟨hv, g2⟩
    · rw [zuA, zu_nk (by decide)]; exact ⟨g1, hv⟩
    · rw [zu_nk (by decide), zu_nk (by decide)]; exact ⟨g1, g2⟩
  · rw [e5, e _ (by omega), e _ (by omega), e _ (by omega)]
    exact hi.2.2.1
  · have hc := @lnA_cases p l
    rw [e (lnA p l) (by omega), e (lnA p l + 1) (by omega)]
    exact rowOK_congr e5 (e _ (by omega)) (e _ (by omega)) (hi.2.2.2 l hl)
theorem PR.scal {I : Nat → Int32 → Int32} {p : Nat} {f : Int32 → Int32} {b c o v : Int32} (hco : (c = 6 ∧ o = 1) ∨ (c = 8 ∧ o = 2) ∨ (c = 7 ∧ o = 3)) (hn : PlNum I p) (h : PR I p f b) : PR (zu I p c v) p (zset f (b + o) v) b := by
  rw [PR_iff] at h ⊢
  rw [zset_sh]
  exact PR0.scal hco hn h
theorem PR.attr {I : Nat → Int32 → Int32} {p c : Nat} {f : Int32 → Int32} {b o t v : Int32} (hco : (c = 1 ∧ o = 30) ∨ (c = 2 ∧ o = 42) ∨ (c = 3 ∧ o = 66) ∨ (c = 4 ∧ o = 54) ∨ (c = 5 ∧ o = 78)) (ht : 0 ≤ t ∧ t < 12) (hn : PlNum I p) (h : PR I p f b) : PR (zu I (p + c) t v) p (zset f (b + o + t) v) b := by
  rw [PR_iff] at h ⊢
  rw [addA, zset_sh]
  exact PR0.attr hco ht hn h
theorem PR.cell {I : Nat → Int32 → Int32} {p : Nat} {f : Int32 → Int32} {b l q v : Int32} (hl : l = 0 ∨ l = 1) (hq : 0 ≤ q ∧ q < 12) (hn : PlNum I p) (h : PR I p f b) : PR (zu I (lnA p l + 1) q v) p (zset f (b + 6 + 12 * l + q) v) b := by
  rw [PR_iff] at h ⊢
  rw [show b + 6 + 12 * l + q = b + (6 + 12 * l + q) by simp only [addA], zset_sh]
  exact PR0.cell hl hq hn h
def apM (f : Int32 → Int32) (b l x : Int32) : Int32 → Int32 := zset (zset f (b + 6 + 12 * l + f (b + 4 + l)) x) (b + 4 + l) (f (b + 4 + l) + 1)
theorem PR.ap {I : Nat → Int32 → Int32} {p : Nat} {f : Int32 → Int32} {b l x : Int32} (hl : l = 0 ∨ l = 1) (hr : I (lnA p l) 1 < 12) (hn : PlNum I p) (h : PR I p f b) : PR (apA I (lnA p l) x) p (apM f b l x) b := by
  rw [PR_iff] at h ⊢
  unfold apM
  rw [addA b 4 l, show b + 6 + 12 * l + f (b + (4 + l)) = b + (6 + 12 * l + f (b + (4 + l))) by simp only [addA], zset_sh, zset_sh]
  exact PR0.ap hl hr hn h
/-- a night: both sides do the same -/
theorem ntAM {I : Nat → Int32 → Int32} {p : Nat} {f : Int32 → Int32} {b : Int32} (hb : 0 ≤ b ∧ b ≤ 1080) (hi : PInv I p) (h : PR I p f b) : ntR I p = paR f b ∧ PR (ntM I p) p (paM f b) b ∧ PInv (ntM I p) p := by
  have i1 := PInv.push (l := 0) (Or.inl rfl) hi
  have r1 := PR.push hb (l := 0) (Or.inl rfl) hi h
  have i2 := PInv.push (l := 1) (Or.inr rfl) i1
  have r2 := PR.push hb (l := 1) (Or.inr rfl) i1 r1
  have i2 : PInv (ntP I p) p := i2
  have r2 : PR (ntP I p) p (ppM f b) b := r2
  have hw := wayAM i2 r2
  have e6 : ntP I p p = I p := by unfold ntP; rw [pushM_o (by omega), pushM_o (by omega)]
  have ht : ppM f b (b + 3) = 0 ∨ ppM f b (b + 3) = 1 := by rw [← r2.1.2.2.2]; exact i2.2.1.2
  have hor := @wayM_or (ppM f b) b ht
  unfold ntR ntM paR paM phM pgM
  rw [hw]
  by_cases hz : wayM (ppM f b) b = -1
  · simp only [hz, not_true, and_false, if_false, if_true]
    refine ⟨trivial, ?_, i2.scal (Or.inr (Or.inr rfl))⟩
    rw [← r2.1.2.2.1, e6]
    exact r2.scal (by simp) i2.1
  · have hl := hor.resolve_left hz
    simp only [hz, not_false_iff, and_true, if_false]
    obtain ⟨m1, m2, m3⟩ := mvAM hb hl i2 r2
    have hc := @lnA_cases p (wayM (ppM f b) b)
    have e0 : ∀ k, mvM (ntP I p) p (lnA p (wayM (ppM f b) b)) p k = I p k := fun k => by rw [mvM_o (by omega) (by omega) (by omega) (by omega), e6]
    generalize wayM (ppM f b) b = l at *
    generalize mvM (ntP I p) p (lnA p l) = I' at *
    generalize mwM (ppM f b) b l = f' at *
    rw [← m2.1.2.1, e0 6]
    by_cases h6 : I p 6 = 0
    · simp only [if_pos h6]
      have m4 : PR (zu I' p 7 (1 - l)) p (zset f' (b + 3) (1 - l)) b := m2.scal (by simp) m3.1
      have m5 : PInv (zu I' p 7 (1 - l)) p := m3.scal (Or.inr (Or.inl ⟨rfl, by rcases hl with rfl | rfl <;> decide⟩))
      refine ⟨m1, ?_, m5.scal (Or.inr (Or.inr rfl))⟩
      rw [← m4.1.2.2.1, zu_nk (by decide), e0 8]
      exact m4.scal (by simp) m5.1
    · simp only [if_neg h6]
      refine ⟨m1, ?_, m3.scal (Or.inr (Or.inr rfl))⟩
      rw [← m2.1.2.2.1, e0 8]
      exact m2.scal (by simp) m3.1
theorem ntM_fr {I : Nat → Int32 → Int32} {p : Nat} : PFr (ntM I p) I p := by
  have h2 : PFr (ntP I p) I p := fun c hc => by unfold ntP; rw [pushM_o (by omega), pushM_o (by omega)]
  unfold ntM
  refine PFr.zu (by omega) ?_
  split
  · exact h2
  split
  · exact PFr.zu (by omega) (mvM_fr.trans h2)
  · exact mvM_fr.trans h2
theorem ntM_8 {I : Nat → Int32 → Int32} {p : Nat} : ntM I p p 8 = I p 8 + 1 := by unfold ntM; exact zuA
theorem paM_fr {f : Int32 → Int32} {b : Int32} (hb : 0 ≤ b ∧ b ≤ 1080) (hn : MNum f b) (ht : f (b + 3) = 0 ∨ f (b + 3) = 1) : MFr (paM f b) f b := by
  have n1 := MNum.push hb (Or.inl rfl) hn
  have n2 : MNum (ppM f b) b := MNum.push hb (Or.inr rfl) n1
  have h2 : MFr (ppM f b) f b := by
    unfold ppM puM
    rw [addA b 6 (12 * 1), addA b 6 (12 * 0)]
    exact MFr.sl hb (by decide) (by decide) (by decide) (MFr.sl hb (by decide) (by decide) (by decide) MFr.refl)
  have e3 : ppM f b (b + 3) = f (b + 3) := by
    unfold ppM
    rw [puM_o (Or.inl (by rw [show (12 : Int32) * 1 = 12 from rfl]; clear hn n1 n2 h2; grind)), puM_o (Or.inl (by rw [show (12 : Int32) * 0 = 0 from rfl]; clear hn n1 n2 h2; grind))]
  have hor := @wayM_or (ppM f b) b (by rw [e3]; exact ht)
  have h3 : MFr (pgM f b) f b := by
    unfold pgM
    split
    · exact h2
    next hz => exact (mwM_fr hb (hor.resolve_left hz) n2).trans h2
  have h4 : MFr (phM f b) f b := by
    unfold phM
    split
    · exact MFr.set hb (by decide) h3
    · exact h3
  unfold paM
  exact MFr.set hb (by decide) h4
