theorem PInv.plant {I : Nat → Int32 → Int32} {p : Nat} {l kd rt : Int32} (hl : l = 0 ∨ l = 1) (hk : 0 ≤ kd ∧ kd ≤ 4) (hr : I p 5 < 12 ∧ I (lnA p l) 1 < 12) (hi : PInv I p) : PInv (plM I p l kd rt) p := by
  have hT := hi.1.1
  have hc := @lnA_cases p l
  have hm := lnA_num hi.1 l
  have tr : 0 ≤ I p 5 ∧ I p 5 < 12 := ⟨hT.1, hr.1⟩
  have t1 := lt12_1 hT.1 hr.1
  have e05 : plM I p l kd rt p 5 = I p 5 + 1 := by unfold plM; exact zuA
  have e0 : ∀ k, k ≠ 5 → plM I p l kd rt p k = I p k := fun k hk => by
    unfold plM
    rw [zu_nk hk, apA_o (by omega) (by omega), zuo (by omega), zuo (by omega), zuo (by omega), zuo (by omega), zuo (by omega)]
  have e1 : ∀ k, plM I p l kd rt (p + 1) k = if k = I p 5 then kd else I (p + 1) k := fun k => by
    unfold plM
    rw [zuo (by omega), apA_o (by omega) (by omega), zuo (by omega), zuo (by omega), zuo (by omega), zuo (by omega)]
    split
    next z => rw [z, zuA]
    next z => rw [zu_nk z]
  have e4 : ∀ k, plM I p l kd rt (p + 4) k = if k = I p 5 then 0 else I (p + 4) k := fun k => by
    unfold plM
    rw [zuo (by omega), apA_o (by omega) (by omega), zuo (by omega)]
    split
    next z => rw [z, zuA]
    next z => rw [zu_nk z, zuo (by omega), zuo (by omega), zuo (by omega)]
  have e5 : ∀ k, plM I p l kd rt (p + 5) k = if k = I p 5 then l else I (p + 5) k := fun k => by
    unfold plM
    rw [zuo (by omega), apA_o (by omega) (by omega)]
    split
    next z => rw [z, zuA]
    next z => rw [zu_nk z, zuo (by omega), zuo (by omega), zuo (by omega), zuo (by omega)]
  have eB : ∀ c, p + 6 ≤ c → zu (zu (zu (zu (zu I (p + 1) (I p 5) kd) (p + 2) (I p 5) rt) (p + 3) (I p 5) 0) (p + 4) (I p 5) 0) (p + 5) (I p 5) l c = I c := fun c hc => by rw [zuo (by omega), zuo (by omega), zuo (by omega), zuo (by omega), zuo (by omega)]
  have eL : plM I p l kd rt (lnA p l) 1 = I (lnA p l) 1 + 1 := by
    unfold plM
    rw [zuo (by omega), apA_len, eB _ (by omega)]
  have eCa : plM I p l kd rt (lnA p l + 1) (I (lnA p l) 1) = I p 5 := by
    unfold plM
    rw [zuo (by omega)]
    have := @apA_at (zu (zu (zu (zu (zu I (p + 1) (I p 5) kd) (p + 2) (I p 5) rt) (p + 3) (I p 5) 0) (p + 4) (I p 5) 0) (p + 5) (I p 5) l) (lnA p l) (I p 5)
    rwa [eB _ (by omega)] at this
  have eCn : ∀ k, k ≠ I (lnA p l) 1 → plM I p l kd rt (lnA p l + 1) k = I (lnA p l + 1) k := fun k hk => by
    unfold plM
    rw [zuo (by omega), apA_nk (by rw [eB _ (by omega)]; exact hk), eB _ (by omega)]
  have oL : ∀ c, p + 6 ≤ c → c ≠ lnA p l → c ≠ lnA p l + 1 → plM I p l kd rt c = I c := fun c h6 h1 h2 => by
    unfold plM
    rw [zuo (by omega), apA_o h1 h2, eB c h6]
  generalize plM I p l kd rt = I' at *
  have old : ∀ s, 0 ≤ s → s < I p 5 → s ≠ I p 5 := fun s s0 s1 z => by rw [z] at s1; exact Int32.lt_irrefl s1
  have cok : ∀ l2 x, cellOK I p l2 x → cellOK I' p l2 x ∧ x ≠ I p 5 := fun l2 x hx => by
    have hx0 := hx
    unfold cellOK at hx ⊢
    rw [e05]
    rcases hx with ⟨x0, x1, x2, x3⟩ | x9 | ⟨x0, x1, x2, x3⟩
    · have xn := old x x0 x1
      refine ⟨Or.inl ⟨x0, ?_, by rw [e4, if_neg xn]; exact x2, by rw [e5, if_neg xn]; exact x3⟩, xn⟩
      clear hi e0 e1 e4 e5 eB eL eCa eCn oL old x2 x3
      grind
    · refine ⟨Or.inr (Or.inl x9), ?_⟩
      clear hi e0 e1 e4 e5 eB eL eCa eCn oL old
      grind
    · have xn : x - 50 ≠ I p 5 := by
        clear hi e0 e1 e4 e5 eB eL eCa eCn oL old x2 x3 hx0
        grind
      refine ⟨Or.inr (Or.inr ⟨x0, ?_, by rw [e4, if_neg xn]; exact x2, by rw [e5, if_neg xn]; exact x3⟩), ?_⟩
      · clear hi e0 e1 e4 e5 eB eL eCa eCn oL old x2 x3
        grind
      · clear hi e0 e1 e4 e5 eB eL eCa eCn oL old x2 x3
        grind
  have lt1 : ∀ s, s < I p 5 + 1 → s ≠ I p 5 → s < I p 5 := fun s h1 h2 => by
    clear hi e0 e1 e4 e5 eB eL eCa eCn oL old cok
    grind
  refine ⟨⟨by rw [e05]; exact t1, ?_, ?_⟩, ?_, fun s s0 s1 => ?_, fun l2 hl2 => ?_⟩
  · have b12 := lt12_1 hm.1 hr.2
    rcases hc with hc | hc
    · rw [hc] at eL b12
      rw [eL]; exact b12
    · rw [oL (p + 6) (by omega) (by omega) (by omega)]
      exact hi.1.2.1
  · have b12 := lt12_1 hm.1 hr.2
    rcases hc with hc | hc
    · rw [oL (p + 8) (by omega) (by omega) (by omega)]
      exact hi.1.2.2
    · rw [hc] at eL b12
      rw [eL]; exact b12
  · rw [e0 6 (by decide), e0 7 (by decide)]
    exact hi.2.1
  · rw [e05] at s1
    rw [e1, e4, e5]
    by_cases hs : s = I p 5
    · rw [if_pos hs, if_pos hs, if_pos hs]
      exact ⟨hk, Or.inl rfl, hl⟩
    · rw [if_neg hs, if_neg hs, if_neg hs]
      exact hi.2.2.1 s s0 (lt1 s s1 hs)
  · have hw := hi.2.2.2 l2 hl2
    have hc2 := @lnA_cases p l2
    by_cases he : l2 = l
    · subst he
      rw [eL]
      refine rowOK.ap hm.1 hr.2 eCn eCa (fun k k0 k1 => (cok l2 _ (hw.1 k k0 k1)).1) ?_ hw.2.1 (Or.inr (fun k k0 k1 => (cok l2 _ (hw.1 k k0 k1)).2)) (fun s s0 s1 s2 s3 => ?_)
      · left
        rw [e05, e4, e5, if_pos rfl, if_pos rfl]
        exact ⟨tr.1, by clear hi e0 e1 e4 e5 eB eL eCa eCn oL old cok lt1; grind, rfl, rfl⟩
      · by_cases hs : s = I p 5
        · exact Or.inl hs
        · rw [e05] at s1
          rw [e4, if_neg hs] at s2
          rw [e5, if_neg hs] at s3
          exact Or.inr (hw.2.2 s s0 (lt1 s s1 hs) s2 s3)
    · have hx := lnA_ne (p := p) hl2 hl he
      have hx2 := lnA_ne (p := p) hl hl2 (Ne.symm he)
      rw [oL _ (by omega) hx.1 hx.2.1, oL _ (by omega) (Ne.symm hx2.2.1) hx.2.2]
      refine ⟨fun k k0 k1 => (cok l2 _ (hw.1 k k0 k1)).1, hw.2.1, fun s s0 s1 s2 s3 => ?_⟩
      rw [e05] at s1
      by_cases hs : s = I p 5
      · rw [e5, if_pos hs] at s3
        exact absurd s3.symm he
      · rw [e4, if_neg hs] at s2
        rw [e5, if_neg hs] at s3
        exact hw.2.2 s s0 (lt1 s s1 hs) s2 s3
/-- one plain told at another place -/
def Tr (I2 : Nat → Int32 → Int32) (p : Nat) (I : Nat → Int32 → Int32) (q : Nat) : Prop := (I2 p 5 = I q 5 ∧ I2 p 6 = I q 6 ∧ I2 p 7 = I q 7 ∧ I2 p 8 = I q 8) ∧ (I2 (p + 6) 1 = I (q + 6) 1 ∧ I2 (p + 8) 1 = I (q + 8) 1) ∧ ∀ k, 0 ≤ k → k < 12 → I2 (p + 1) k = I (q + 1) k ∧ I2 (p + 2) k = I (q + 2) k ∧ I2 (p + 3) k = I (q + 3) k ∧ I2 (p + 4) k = I (q + 4) k ∧ I2 (p + 5) k = I (q + 5) k ∧ I2 (p + 7) k = I (q + 7) k ∧ I2 (p + 9) k = I (q + 9) k
theorem Tr.len {I2 I : Nat → Int32 → Int32} {p q : Nat} {l : Int32} (h : Tr I2 p I q) : I2 (lnA p l) 1 = I (lnA q l) 1 := by
  unfold lnA
  split
  · exact h.2.1.1
  · exact h.2.1.2
theorem Tr.cells {I2 I : Nat → Int32 → Int32} {p q : Nat} {l k : Int32} (h : Tr I2 p I q) (h0 : 0 ≤ k) (h1 : k < 12) : I2 (lnA p l + 1) k = I (lnA q l + 1) k := by
  obtain ⟨-, -, -, -, -, h7, h9⟩ := h.2.2 k h0 h1
  unfold lnA
  split
  · exact h7
  · exact h9
theorem Tr.pr {I2 I : Nat → Int32 → Int32} {p q : Nat} {f : Int32 → Int32} {b : Int32} (h : Tr I2 p I q) (hn : PlNum I q) (hr : PR I q f b) : PR I2 p f b := by
  obtain ⟨⟨a5, a6, a7, a8⟩, -, a3⟩ := id h
  refine ⟨by rw [a5, a6, a7, a8]; exact hr.1, fun l hl => ?_, fun t t0 t1 => ?_⟩
  · obtain ⟨b1, b2⟩ := hr.2.1 l hl
    have hm := lnA_num hn l
    rw [h.len]
    refine ⟨b1, fun k k0 k1 => ?_⟩
    rw [h.cells k0 (by clear hr h b2 a3; grind)]
    exact b2 k k0 k1
  · rw [a5] at t1
    have hT := hn.1
    obtain ⟨c1, c2, c3, c4, c5, -⟩ := a3 t t0 (by clear hr h a3; grind)
    rw [c1, c2, c3, c4, c5]
    exact hr.2.2 t t0 t1
theorem Tr.cok {I2 I : Nat → Int32 → Int32} {p q : Nat} {l x : Int32} (h : Tr I2 p I q) (hn : PlNum I q) (hc : cellOK I q l x) : cellOK I2 p l x := by
  obtain ⟨⟨a5, -⟩, -, a3⟩ := id h
  have hT := hn.1
  unfold cellOK at *
  rw [a5]
  rcases hc with ⟨x0, x1, x2, x3⟩ | x9 | ⟨x0, x1, x2, x3⟩
  · obtain ⟨-, -, -, c4, c5, -⟩ := a3 x x0 (by clear h a3 x2 x3; grind)
    rw [c4, c5]
    exact Or.inl ⟨x0, x1, x2, x3⟩
  · exact Or.inr (Or.inl x9)
  · obtain ⟨-, -, -, c4, c5, -⟩ := a3 (x - 50) (by clear h a3 x2 x3; grind) (by clear h a3 x2 x3; grind)
    rw [c4, c5]
    exact Or.inr (Or.inr ⟨x0, x1, x2, x3⟩)
theorem Tr.num {I2 I : Nat → Int32 → Int32} {p q : Nat} (h : Tr I2 p I q) (hn : PlNum I q) : PlNum I2 p := by
  unfold PlNum
  rw [h.1.1, h.2.1.1, h.2.1.2]
  exact hn
theorem Tr.inv {I2 I : Nat → Int32 → Int32} {p q : Nat} (h : Tr I2 p I q) (hi : PInv I q) : PInv I2 p := by
  obtain ⟨⟨a5, a6, a7, a8⟩, -, a3⟩ := id h
  have hT := hi.1.1
  refine ⟨h.num hi.1, by rw [a6, a7]; exact hi.2.1, fun t t0 t1 => ?_, fun l hl => ?_⟩
  · rw [a5] at t1
    obtain ⟨c1, c2, c3, c4, c5, -⟩ := a3 t t0 (by clear hi h a3; grind)
    rw [c1, c4, c5]
    exact hi.2.2.1 t t0 t1
  · have hm := lnA_num hi.1 l
    obtain ⟨w1, w2, w3⟩ := hi.2.2.2 l hl
    have hlt : ∀ k, k < I (lnA q l) 1 → k < 12 := fun k k1 => by clear hi h a3 w1 w2 w3; grind
    rw [h.len]
    refine ⟨fun k k0 k1 => ?_, fun i j i0 i1 j0 j1 e hn => ?_, fun s s0 s1 s2 s3 => ?_⟩
    · rw [h.cells k0 (hlt k k1)]
      exact h.cok hi.1 (w1 k k0 k1)
    · rw [h.cells i0 (hlt i i1), h.cells j0 (hlt j j1)] at e
      rw [h.cells i0 (hlt i i1)] at hn
      exact w2 i j i0 i1 j0 j1 e hn
    · rw [a5] at s1
      obtain ⟨-, -, -, c4, c5, -⟩ := a3 s s0 (by clear hi h a3 w1 w2 w3 hlt s2 s3; grind)
      rw [c4] at s2
      rw [c5] at s3
      obtain ⟨k, k0, k1, k2⟩ := w3 s s0 s1 s2 s3
      exact ⟨k, k0, k1, by rw [h.cells k0 (hlt k k1)]; exact k2⟩
theorem zcpy_o {I : Nat → Int32 → Int32} {a b c : Nat} {n : Int32} (h : c ≠ a) : zcpy I a b n c = I c := by
  funext j
  unfold zcpy
  rw [if_neg (fun z => h z.1)]
theorem zcpy_at {I : Nat → Int32 → Int32} {a b : Nat} {n k : Int32} (h0 : 0 ≤ k) (h1 : k < n) : zcpy I a b n a k = I b k := by
  unfold zcpy
  rw [if_pos ⟨rfl, h0, h1⟩]
theorem cpM_tr {I : Nat → Int32 → Int32} {p q : Nat} (hd : p + 10 ≤ q ∨ q + 10 ≤ p) : Tr (cpM I p q) p I q := by
  unfold cpM
  refine ⟨⟨?_, ?_, ?_, ?_⟩, ⟨?_, ?_⟩, fun k k0 k1 => ⟨?_, ?_, ?_, ?_, ?_, ?_, ?_⟩⟩
  · rw [zuo (by omega), zcpy_o (by omega), zuo (by omega), zcpy_o (by omega), zu_nk (by decide), zu_nk (by decide), zu_nk (by decide), zuA]
  · rw [zuo (by omega), zcpy_o (by omega), zuo (by omega), zcpy_o (by omega), zu_nk (by decide), zu_nk (by decide), zuA]
  · rw [zuo (by omega), zcpy_o (by omega), zuo (by omega), zcpy_o (by omega), zu_nk (by decide), zuA]
  · rw [zuo (by omega), zcpy_o (by omega), zuo (by omega), zcpy_o (by omega), zuA]
  · rw [zuo (by omega), zcpy_o (by omega), zuA]
  · rw [zuA]
  · rw [zuo (by omega), zcpy_o (by omega), zuo (by omega), zcpy_o (by omega), zuo (by omega), zuo (by omega), zuo (by omega), zuo (by omega), zcpy_o (by omega), zcpy_o (by omega), zcpy_o (by omega), zcpy_o (by omega), zcpy_at k0 k1]
  · rw [zuo (by omega), zcpy_o (by omega), zuo (by omega), zcpy_o (by omega), zuo (by omega), zuo (by omega), zuo (by omega), zuo (by omega), zcpy_o (by omega), zcpy_o (by omega), zcpy_o (by omega), zcpy_at k0 k1, zcpy_o (by omega)]
  · rw [zuo (by omega), zcpy_o (by omega), zuo (by omega), zcpy_o (by omega), zuo (by omega), zuo (by omega), zuo (by omega), zuo (by omega), zcpy_o (by omega), zcpy_o (by omega), zcpy_at k0 k1, zcpy_o (by omega), zcpy_o (by omega)]
  · rw [zuo (by omega), zcpy_o (by omega), zuo (by omega), zcpy_o (by omega), zuo (by omega), zuo (by omega), zuo (by omega), zuo (by omega), zcpy_o (by omega), zcpy_at k0 k1, zcpy_o (by omega), zcpy_o (by omega), zcpy_o (by omega)]
  · rw [zuo (by omega), zcpy_o (by omega), zuo (by omega), zcpy_o (by omega), zuo (by omega), zuo (by omega), zuo (by omega), zuo (by omega), zcpy_at k0 k1, zcpy_o (by omega), zcpy_o (by omega), zcpy_o (by omega), zcpy_o (by omega)]
  · rw [zuo (by omega), zcpy_o (by omega), zuo (by omega), zcpy_at k0 k1, zuo (by omega), zuo (by omega), zuo (by omega), zuo (by omega), zcpy_o (by omega), zcpy_o (by omega), zcpy_o (by omega), zcpy_o (by omega), zcpy_o (by omega)]
  · rw [zuo (by omega), zcpy_at k0 k1, zuo (by omega), zcpy_o (by omega), zuo (by omega), zuo (by omega), zuo (by omega), zuo (by omega), zcpy_o (by omega), zcpy_o (by omega), zcpy_o (by omega), zcpy_o (by omega), zcpy_o (by omega)]
theorem cpM_fr {I : Nat → Int32 → Int32} {p q : Nat} : PFr (cpM I p q) I p := fun c hc => by
  unfold cpM
  rw [zuo (by omega), zcpy_o (by omega), zuo (by omega), zcpy_o (by omega), zuo (by omega), zuo (by omega), zuo (by omega), zuo (by omega), zcpy_o (by omega), zcpy_o (by omega), zcpy_o (by omega), zcpy_o (by omega), zcpy_o (by omega)]
