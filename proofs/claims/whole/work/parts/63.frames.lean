section FRB
variable {n : Nat} {tg ln : Nat → Nat} {I I2 : Nat → Int32 → Int32} {J : Nat → Int32 → Int64} {O : Nat → Int32 → Option Nat}
theorem GOOD.of (h : INV n tg ln I2 J O) (h0 : I2 0 = I 0) : GOOD n tg ln I (n, tg, ln, I2, J, O) := ⟨h, ⟨Nat.le_refl _, Nat.le_succ _⟩, rfl, rfl, h0⟩
theorem INV.S (h : INV n tg ln I J O) : SH tg ln O := h.1.1
theorem INV.now (h : INV n tg ln I J O) : PP I 9 0 := h.2.1
theorem INV.told (h : INV n tg ln I J O) : PP I 19 90 := h.2.2.1
theorem INV.hist (h : INV n tg ln I J O) : HistOK I := h.2.2.2.1
theorem INV.kept (h : INV n tg ln I J O) : KeptOK I := h.2.2.2.2.1
theorem INV.text (h : INV n tg ln I J O) : TextOK I := h.2.2.2.2.2.1
theorem INV.seen (h : INV n tg ln I J O) : SeenOK I := h.2.2.2.2.2.2.1
theorem INV.bags (h : INV n tg ln I J O) : BagsOK n tg I J O := h.2.2.2.2.2.2.2.1
theorem INV.words (h : INV n tg ln I J O) : WordsOK tg ln I := h.2.2.2.2.2.2.2.2
theorem PP.z {p : Nat} (h : PP I p 0) : PR0 I p (I 157) := by
  have := PR_iff.mp h.2
  have e : (fun j => I 157 (0 + j)) = I 157 := by
    funext j
    rw [show (0 : Int32) + j = j by grind]
  rwa [e] at this
theorem INV.setText (h : INV n tg ln I J O) (hc : ∀ c, c ≠ 39 → c ≠ 40 → c ≠ 156 → c ≠ 159 → I2 c = I c) (hk : ∀ k, k ≠ 4 → I2 156 k = I 156 k) (hT : TextOK I2) : INV n tg ln I2 J O := by
  obtain ⟨a, b, c, d, e, f, g, i, j⟩ := h
  have w := fun c (h : c ≠ 39 ∧ c ≠ 40 ∧ c ≠ 156 ∧ c ≠ 159) => hc c h.1 h.2.1 h.2.2.1 h.2.2.2
  have w7 := w 157 (by decide)
  exact ⟨a, b.fr (fun q _ _ => w q (by omega)) (fun _ _ _ => by rw [w7]), c.fr (fun q _ _ => w q (by omega)) (fun _ _ _ => by rw [w7]), d.fr (fun q _ _ => w q (by omega)) (w 42 (by decide)) (hk 1 (by decide)) (fun _ _ _ => by rw [w7]), e.fr (fun q _ _ => w q (by omega)) (w 158 (by decide)) (fun _ _ _ => by rw [w7]), hT, g.fr (w 146 (by decide)) (w 147 (by decide)) (w 148 (by decide)) (hk 5 (by decide)) (w 160 (by decide)) (w 161 (by decide)), i.fr (fun q _ _ => w q (by omega)) (w 162 (by decide)) (w 163 (by decide)) (w 164 (by decide)) (fun q _ => w q (by omega)), j.fr (fun q _ => w q (by omega)) (fun q _ _ => w q (by omega))⟩
theorem INV.setSeen (h : INV n tg ln I J O) (hc : ∀ c, c ≠ 146 → c ≠ 147 → c ≠ 148 → c ≠ 156 → c ≠ 160 → c ≠ 161 → I2 c = I c) (hk : ∀ k, k ≠ 5 → I2 156 k = I 156 k) (hT : SeenOK I2) : INV n tg ln I2 J O := by
  obtain ⟨a, b, c, d, e, f, g, i, j⟩ := h
  have w := fun c (h : c ≠ 146 ∧ c ≠ 147 ∧ c ≠ 148 ∧ c ≠ 156 ∧ c ≠ 160 ∧ c ≠ 161) => hc c h.1 h.2.1 h.2.2.1 h.2.2.2.1 h.2.2.2.2.1 h.2.2.2.2.2
  have w7 := w 157 (by decide)
  exact ⟨a, b.fr (fun q _ _ => w q (by omega)) (fun _ _ _ => by rw [w7]), c.fr (fun q _ _ => w q (by omega)) (fun _ _ _ => by rw [w7]), d.fr (fun q _ _ => w q (by omega)) (w 42 (by decide)) (hk 1 (by decide)) (fun _ _ _ => by rw [w7]), e.fr (fun q _ _ => w q (by omega)) (w 158 (by decide)) (fun _ _ _ => by rw [w7]), f.fr (w 39 (by decide)) (w 40 (by decide)) (hk 4 (by decide)) (w 159 (by decide)), hT, i.fr (fun q _ _ => w q (by omega)) (w 162 (by decide)) (w 163 (by decide)) (w 164 (by decide)) (fun q _ => w q (by omega)), j.fr (fun q _ => w q (by omega)) (fun q _ _ => w q (by omega))⟩
/-- what is only thought of changes nothing that counts -/
def Scr (I2 I : Nat → Int32 → Int32) : Prop := (∀ c, ¬ (29 ≤ c ∧ c < 39) → c ≠ 41 → c ≠ 156 → c ≠ 157 → c ≠ 166 → c ≠ 167 → I2 c = I c) ∧ (I2 156 1 = I 156 1 ∧ I2 156 4 = I 156 4 ∧ I2 156 5 = I 156 5) ∧ ∀ j, 0 ≤ j → j < 1080 → I2 157 j = I 157 j
theorem INV.scr (h : INV n tg ln I J O) (hs : Scr I2 I) : INV n tg ln I2 J O := by
  obtain ⟨a, b, c, d, e, f, g, i, j⟩ := h
  obtain ⟨hc, ⟨k1, k4, k5⟩, hr⟩ := hs
  have w := fun c (h : ¬ (29 ≤ c ∧ c < 39) ∧ c ≠ 41 ∧ c ≠ 156 ∧ c ≠ 157 ∧ c ≠ 166 ∧ c ≠ 167) => hc c h.1 h.2.1 h.2.2.1 h.2.2.2.1 h.2.2.2.2.1 h.2.2.2.2.2
  exact ⟨a, b.fr (fun q _ _ => w q (by omega)) (fun j j0 j1 => hr _ (by clear hr; grind) (by clear hr; grind)), c.fr (fun q _ _ => w q (by omega)) (fun j j0 j1 => hr _ (by clear hr; grind) (by clear hr; grind)), d.fr (fun q _ _ => w q (by omega)) (w 42 (by omega)) k1 (fun j j0 j1 => hr _ (by clear hr; grind) (by clear hr; grind)), e.fr (fun q _ _ => w q (by omega)) (w 158 (by omega)) (fun j j0 j1 => hr _ (by clear hr; grind) (by clear hr; grind)), f.fr (w 39 (by omega)) (w 40 (by omega)) k4 (w 159 (by omega)), g.fr (w 146 (by omega)) (w 147 (by omega)) (w 148 (by omega)) k5 (w 160 (by omega)) (w 161 (by omega)), i.fr (fun q _ _ => w q (by omega)) (w 162 (by omega)) (w 163 (by omega)) (w 164 (by omega)) (fun q _ => w q (by omega)), j.fr (fun q _ => w q (by omega)) (fun q _ _ => w q (by omega))⟩
theorem Scr.refl : Scr I I := ⟨fun _ _ _ _ _ _ _ => rfl, ⟨rfl, rfl, rfl⟩, fun _ _ _ => rfl⟩
theorem Scr.trans {I3 : Nat → Int32 → Int32} (h1 : Scr I3 I2) (h2 : Scr I2 I) : Scr I3 I := ⟨fun c a b d e f g => (h1.1 c a b d e f g).trans (h2.1 c a b d e f g), ⟨h1.2.1.1.trans h2.2.1.1, h1.2.1.2.1.trans h2.2.1.2.1, h1.2.1.2.2.trans h2.2.1.2.2⟩, fun j a b => (h1.2.2 j a b).trans (h2.2.2 j a b)⟩
theorem Scr.pfr (h : PFr I2 I 29) : Scr I2 I := by
  have w := fun c (hc : c < 29 ∨ 39 ≤ c) => h c (by omega)
  refine ⟨fun c a _ _ _ _ _ => w c (by omega), ?_, ?_⟩
  · rw [w 156 (by omega)]; exact ⟨rfl, rfl, rfl⟩
  · rw [w 157 (by omega)]; exact fun _ _ _ => rfl
theorem Scr.row {g : Int32 → Int32} (h : MFr g (I 157) 1080) : Scr (zrow I 157 g) I := by
  refine ⟨fun c _ _ _ h7 _ _ => zrow_ne h7, ?_, ?_⟩
  · rw [zrow_ne (by decide)]; exact ⟨rfl, rfl, rfl⟩
  · rw [zrow_at]; exact fun j j0 j1 => h j (Or.inl j1)
theorem Scr.zero (h : Scr I2 I) : I2 0 = I 0 := h.1 0 (by omega) (by omega) (by omega) (by omega) (by omega) (by omega)
end FRB
/-- a pair of calls: the class's, then the reference's -/
def BOTH (mq mm : Nat) (lq lm : List (Option Value)) (n : Nat) (tg ln : Nat → Nat) (I : Nat → Int32 → Int32) (J : Nat → Int32 → Int64) (O : Nat → Int32 → Option Nat) : Prop := Runs mq 0 lq [] (n, tg, ln, I, J, O) (fun v h1 => ∃ x : Int32, v = some (.int x) ∧ Runs mm 0 lm [] h1 (fun v2 h2 => v2 = some (.int x) ∧ GOOD n tg ln I h2))
theorem ex_some {x : Int32} {P : Int32 → Prop} : (∃ y : Int32, some (Value.int x) = some (Value.int y) ∧ P y) ↔ P x := by
  constructor
  · rintro ⟨y, h, hp⟩
    cases h
    exact hp
  · intro h
    exact ⟨x, rfl, h⟩
