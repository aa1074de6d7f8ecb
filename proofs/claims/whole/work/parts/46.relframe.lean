theorem Tr.self {I2 I : Nat → Int32 → Int32} {p : Nat} (h : ∀ c, p ≤ c → c < p + 10 → I2 c = I c) : Tr I2 p I p := by
  have e := fun j (hj : j < 10) => h (p + j) (by omega) (by omega)
  have e0 := h p (by omega) (by omega)
  refine ⟨⟨by rw [e0], by rw [e0], by rw [e0], by rw [e0]⟩, ⟨by rw [e 6 (by omega)], by rw [e 8 (by omega)]⟩, fun k _ _ => ⟨by rw [e 1 (by omega)], by rw [e 2 (by omega)], by rw [e 3 (by omega)], by rw [e 4 (by omega)], by rw [e 5 (by omega)], by rw [e 7 (by omega)], by rw [e 9 (by omega)]⟩⟩
theorem PFr.tr {I2 I : Nat → Int32 → Int32} {p q : Nat} (h : PFr I2 I q) (hd : p + 10 ≤ q ∨ q + 10 ≤ p) : Tr I2 p I p := Tr.self (fun c h0 h1 => h c (by omega))
theorem PR.frM {I : Nat → Int32 → Int32} {p : Nat} {f g : Int32 → Int32} {b b2 : Int32} (hn : PlNum I p) (he : ∀ j, 0 ≤ j → j < 90 → g (b2 + j) = f (b + j)) (h : PR I p f b) : PR I p g b2 := by
  rw [PR_iff] at h ⊢
  have hT := hn.1
  refine ⟨?_, fun l hl => ?_, fun t t0 t1 => ?_⟩
  · dsimp only
    rw [he 0 (by decide) (by decide), he 1 (by decide) (by decide), he 2 (by decide) (by decide), he 3 (by decide) (by decide)]
    exact h.1
  · have hm := lnA_num hn l
    obtain ⟨a1, a2⟩ := h.2.1 l hl
    dsimp only at a1 a2 ⊢
    rw [he (4 + l) (by clear h he a1 a2 hn hm; grind) (by clear h he a1 a2 hn hm; grind)]
    refine ⟨a1, fun k k0 k1 => ?_⟩
    have k12 : k < 12 := by clear h he a1 a2 hn; grind
    rw [he (6 + 12 * l + k) (by clear h he a1 a2 hn hm k1; rcases hl with rfl | rfl <;> simp only [e12_0, e12_1] <;> grind) (by clear h he a1 a2 hn hm k1; rcases hl with rfl | rfl <;> simp only [e12_0, e12_1] <;> grind)]
    exact a2 k k0 k1
  · have t12 : t < 12 := by clear h he hn; grind
    dsimp only
    rw [he (30 + t) (by clear h he hn t1 hT; grind) (by clear h he hn t1 hT; grind), he (42 + t) (by clear h he hn t1 hT; grind) (by clear h he hn t1 hT; grind), he (66 + t) (by clear h he hn t1 hT; grind) (by clear h he hn t1 hT; grind), he (54 + t) (by clear h he hn t1 hT; grind) (by clear h he hn t1 hT; grind), he (78 + t) (by clear h he hn t1 hT; grind) (by clear h he hn t1 hT; grind)]
    exact h.2.2 t t0 t1
/-- the stretches lie at these places -/
def isB (b : Int32) : Prop := 0 ≤ b ∧ b ≤ 1080
theorem MFr.off {g f : Int32 → Int32} {b b2 : Int32} (hb : 0 ≤ b ∧ b ≤ 1080) (hb2 : 0 ≤ b2 ∧ b2 ≤ 1080) (hd : b + 90 ≤ b2 ∨ b2 + 90 ≤ b) (h : MFr g f b2) : ∀ j, 0 ≤ j → j < 90 → g (b + j) = f (b + j) := fun j j0 j1 => h (b + j) (by clear h; grind)
theorem PR.apart {I : Nat → Int32 → Int32} {p : Nat} {f g : Int32 → Int32} {b b2 : Int32} (hb : 0 ≤ b ∧ b ≤ 1080) (hb2 : 0 ≤ b2 ∧ b2 ≤ 1080) (hd : b + 90 ≤ b2 ∨ b2 + 90 ≤ b) (hf : MFr g f b2) (hn : PlNum I p) (h : PR I p f b) : PR I p g b := h.frM hn (hf.off hb hb2 hd)
/-- a stretch copied upon another -/
def cyM (f : Int32 → Int32) (bf bt : Int32) : Int32 → Int32 := zsl f bt 90 (fun k => f (bf + k))
theorem cyM_at {f : Int32 → Int32} {bf bt : Int32} (hb : 0 ≤ bt ∧ bt ≤ 1080) : ∀ j, 0 ≤ j → j < 90 → cyM f bf bt (bt + j) = f (bf + j) := fun j j0 j1 => by
  unfold cyM
  rw [zsl_in ⟨hb.1, by clear j0 j1; grind⟩ (by decide) j0 j1]
theorem cyM_fr {f : Int32 → Int32} {bf bt : Int32} (hb : 0 ≤ bt ∧ bt ≤ 1080) : MFr (cyM f bf bt) f bt := fun j hj => by
  unfold cyM
  exact zsl_out (by clear hb; exact hj)
theorem PR.copy {I : Nat → Int32 → Int32} {p q : Nat} {f : Int32 → Int32} {bf bt : Int32} (hb : 0 ≤ bt ∧ bt ≤ 1080) (hd : p + 10 ≤ q ∨ q + 10 ≤ p) (hn : PlNum I q) (h : PR I q f bf) : PR (cpM I p q) p (cyM f bf bt) bt := by
  have ht := cpM_tr (I := I) hd
  exact (ht.pr hn h).frM (ht.num hn) (cyM_at hb)
theorem apM_fr {f f1 : Int32 → Int32} {b l x : Int32} (hb : 0 ≤ b ∧ b ≤ 1080) (hl : l = 0 ∨ l = 1) (hs : 0 ≤ f (b + 4 + l) ∧ f (b + 4 + l) ≤ 12) (h : MFr f f1 b) : MFr (apM f b l x) f1 b := by
  unfold apM
  generalize f (b + 4 + l) = z at *
  rw [show b + 6 + 12 * l + z = b + (6 + 12 * l + z) by simp only [addA], addA b 4 l]
  refine MFr.set hb ?_ (MFr.set hb ?_ h)
  · rcases hl with rfl | rfl <;> decide
  · clear h
    rcases hl with rfl | rfl <;> simp only [e12_0, e12_1] <;> grind
theorem grM_fr {f : Int32 → Int32} {b l kd rt : Int32} (hb : 0 ≤ b ∧ b ≤ 1080) (hl : l = 0 ∨ l = 1) (hT : 0 ≤ f b ∧ f b < 12) (hs : 0 ≤ f (b + 4 + l) ∧ f (b + 4 + l) ≤ 12) : MFr (grM f b l kd rt) f b := by
  have r30 : ∀ c : Int32, (30 ≤ c ∧ c ≤ 78) → 0 ≤ c + f b ∧ c + f b < 90 := fun c hc => by clear hs; grind
  have e4 : zset (zset (zset (zset (zset f (b + 30 + f b) kd) (b + 42 + f b) rt) (b + 54 + f b) 0) (b + 66 + f b) 0) (b + 78 + f b) l (b + 4 + l) = f (b + 4 + l) := by
    rw [zset_ne (@ixne b 78 (f b) l hb (by decide) hT hl), zset_ne (@ixne b 66 (f b) l hb (by decide) hT hl), zset_ne (@ixne b 54 (f b) l hb (by decide) hT hl), zset_ne (@ixne b 42 (f b) l hb (by decide) hT hl), zset_ne (@ixne b 30 (f b) l hb (by decide) hT hl)]
  unfold grM
  rw [show ∀ (F : Int32 → Int32) v, zset F b v = zset F (b + 0) v from fun F v => by rw [i32_add0]]
  refine MFr.set hb (by decide) (apM_fr hb hl (by rw [e4]; exact hs) ?_)
  rw [addA b 30, addA b 42, addA b 54, addA b 66, addA b 78]
  exact MFr.set hb (r30 78 (by decide)) (MFr.set hb (r30 66 (by decide)) (MFr.set hb (r30 54 (by decide)) (MFr.set hb (r30 42 (by decide)) (MFr.set hb (r30 30 (by decide)) MFr.refl))))
theorem ghM_fr {I : Nat → Int32 → Int32} {p : Nat} {f : Int32 → Int32} {b t : Int32} (hb : 0 ≤ b ∧ b ≤ 1080) (hi : PInv I p) (h : PR I p f b) (ht : 0 ≤ t ∧ t < I p 5) (hs : I (p + 4) t = 0) : MFr (ghM f b t) f b := by
  obtain ⟨t12, hl⟩ := hi.tree ht
  obtain ⟨g1, ⟨g2, g3, g4, g5⟩, g6⟩ := find_st hi h ht hs
  obtain ⟨k1, k2, -⟩ := d100 hl g2 g4
  unfold ghM
  rw [g1, k2, k1, addA b 54, addA b 78]
  generalize placeA I p t = q at *
  generalize I (p + 5) t = l at *
  rw [show b + 6 + 12 * l + q = b + (6 + 12 * l + q) by simp only [addA]]
  clear h hi g1 g3 g6 k1 k2 hs
  refine MFr.set hb (by grind) (MFr.set hb (by grind) (MFr.set hb ?_ MFr.refl))
  rcases hl with rfl | rfl <;> simp only [e12_0, e12_1] <;> grind
theorem bkF_fr {f : Int32 → Int32} {b t l g : Int32} (hb : 0 ≤ b ∧ b ≤ 1080) (ht : 0 ≤ t ∧ t < 12) (hl : l = 0 ∨ l = 1) (hs : 0 ≤ f (b + 4 + l) ∧ f (b + 4 + l) ≤ 12) (hg : g = -1 ∨ (0 ≤ g ∧ g < 12)) : MFr (bkF f b t l g) f b := by
  have e4 : zset (zset f (b + 54 + t) 0) (b + 66 + t) 0 (b + 4 + l) = f (b + 4 + l) := by
    rw [zset_ne (@ixne b 66 t l hb (by decide) ht hl), zset_ne (@ixne b 54 t l hb (by decide) ht hl)]
  have h54 : (0 : Int32) ≤ 54 + t ∧ 54 + t < 90 := by clear e4 hs hg; grind
  have h66 : (0 : Int32) ≤ 66 + t ∧ 66 + t < 90 := by clear e4 hs hg; grind
  unfold bkF
  split
  · refine apM_fr hb hl (by rw [e4]; exact hs) ?_
    rw [addA b 54, addA b 66]
    exact MFr.set hb h66 (MFr.set hb h54 MFr.refl)
  next hg1 =>
    have hg2 := hg.resolve_left hg1
    rw [addA b 54, show b + 6 + 12 * l + g = b + (6 + 12 * l + g) by simp only [addA]]
    refine MFr.set hb ?_ (MFr.set hb h54 MFr.refl)
    clear hs e4 h54 h66 hg hg1
    rcases hl with rfl | rfl <;> simp only [e12_0, e12_1] <;> grind
theorem plM_fr {I : Nat → Int32 → Int32} {p : Nat} {l kd rt : Int32} : PFr (plM I p l kd rt) I p := fun c hc => by
  have := @lnA_cases p l
  unfold plM
  rw [zuo (by omega), apA_o (by omega) (by omega), zuo (by omega), zuo (by omega), zuo (by omega), zuo (by omega), zuo (by omega)]
theorem hmM_fr {I : Nat → Int32 → Int32} {p : Nat} {t : Int32} : PFr (hmM I p t) I p := fun c hc => by
  have := @lnA_cases p (I (p + 5) t)
  unfold hmM
  split
  · rfl
  · rw [zuo (by omega), zuo (by omega)]
theorem bkM_fr {I : Nat → Int32 → Int32} {p : Nat} {t : Int32} : PFr (bkM I p t) I p := fun c hc => by
  have := @lnA_cases p (I (p + 5) t)
  unfold bkM
  rw [zuo (by omega)]
  split
  · rw [zuo (by omega), apA_o (by omega) (by omega)]
  · rw [zuo (by omega)]
theorem apA_fr {I : Nat → Int32 → Int32} {p : Nat} {l x : Int32} : PFr (apA I (lnA p l) x) I p := fun c hc => by
  have := @lnA_cases p l
  rw [apA_o (by omega) (by omega)]
theorem clM_fr {I : Nat → Int32 → Int32} {p : Nat} : PFr (clM I p) I p := fun c hc => by
  unfold clM
  rw [zuo (by omega), zuo (by omega), zuo (by omega), zuo (by omega), zuo (by omega), zuo (by omega)]
/-- nothing told yet -/
theorem clM_at {I : Nat → Int32 → Int32} {p : Nat} : (clM I p p 5 = 0 ∧ clM I p p 6 = 0 ∧ clM I p p 7 = 0 ∧ clM I p p 8 = 0) ∧ ∀ l, clM I p (lnA p l) 1 = 0 := by
  refine ⟨⟨?_, ?_, ?_, ?_⟩, fun l => ?_⟩
  · unfold clM; rw [zu_nk (by decide), zu_nk (by decide), zu_nk (by decide), zuA]
  · unfold clM; rw [zu_nk (by decide), zu_nk (by decide), zuA]
  · unfold clM; rw [zu_nk (by decide), zuA]
  · unfold clM; rw [zuA]
  · unfold clM lnA
    split
    · rw [zuo (by omega), zuo (by omega), zuo (by omega), zuo (by omega), zuo (by omega), zuA]
    · rw [zuo (by omega), zuo (by omega), zuo (by omega), zuo (by omega), zuA]
theorem PInv.zero {I : Nat → Int32 → Int32} {p : Nat} (h : (I p 5 = 0 ∧ I p 6 = 0 ∧ I p 7 = 0 ∧ I p 8 = 0) ∧ ∀ l, I (lnA p l) 1 = 0) : PInv I p := by
  obtain ⟨⟨h5, h6, h7, h8⟩, hl⟩ := h
  have n0 : ∀ k : Int32, 0 ≤ k → k < 0 → False := fun k h0 h1 => by grind
  refine ⟨⟨by rw [h5]; decide, ?_, ?_⟩, by rw [h6, h7]; simp, fun t t0 t1 => by rw [h5] at t1; exact (n0 t t0 t1).elim, fun l _ => ?_⟩
  · have := hl 0
    rw [show lnA p 0 = p + 6 from rfl] at this
    rw [this]; decide
  · have := hl 1
    rw [show lnA p 1 = p + 8 from rfl] at this
    rw [this]; decide
  · rw [hl l]
    exact ⟨fun k k0 k1 => (n0 k k0 k1).elim, fun i j i0 i1 => (n0 i i0 i1).elim, fun t t0 t1 => by rw [h5] at t1; exact (n0 t t0 t1).elim⟩
theorem PR.zero {I : Nat → Int32 → Int32} {p : Nat} {f : Int32 → Int32} {b : Int32} (h : (I p 5 = 0 ∧ I p 6 = 0 ∧ I p 7 = 0 ∧ I p 8 = 0) ∧ ∀ l, I (lnA p l) 1 = 0) (hf : ∀ j, 0 ≤ j → j < 6 → f (b + j) = 0) : PR I p f b := by
  obtain ⟨⟨h5, h6, h7, h8⟩, hl⟩ := h
  have n0 : ∀ k : Int32, 0 ≤ k → k < 0 → False := fun k h0 h1 => by grind
  rw [PR_iff]
  refine ⟨?_, fun l hl1 => ?_, fun t t0 t1 => by rw [h5] at t1; exact (n0 t t0 t1).elim⟩
  · dsimp only
    rw [hf 0 (by decide) (by decide), hf 1 (by decide) (by decide), hf 2 (by decide) (by decide), hf 3 (by decide) (by decide), h5, h6, h7, h8]
    simp
  · dsimp only
    rw [hl l, hf (4 + l) (by clear hf hl; grind) (by clear hf hl; grind)]
    exact ⟨rfl, fun k k0 k1 => (n0 k k0 k1).elim⟩
