section FRB
variable {n : Nat} {tg ln : Nat → Nat} {I I2 : Nat → Int32 → Int32} {J : Nat → Int32 → Int64} {O : Nat → Int32 → Option Nat}
theorem GOOD.of (h : INV n tg ln I2 J O) (h0 : I2 0 = I 0) : GOOD n tg ln I (n, tg, ln, I2, J, O) := ⟨h, ⟨Nat.le_refl _, Nat.le_succ _⟩, rfl, rfl, h0⟩
theorem INV.S (h : INV n tg ln I J O) : SH tg ln O := h.1.1
theorem INV.now (h : INV n tg ln I J O) : PP I 9 0 := h.2.1
theorem INV.told (h : INV n tg ln I J O) : PP I 32 90 := h.2.2.1
theorem INV.hist (h : INV n tg ln I J O) : HistOK I := h.2.2.2.1
theorem INV.kept (h : INV n tg ln I J O) : KeptOK I := h.2.2.2.2.1
theorem INV.text (h : INV n tg ln I J O) : TextOK I := h.2.2.2.2.2.1
theorem INV.seen (h : INV n tg ln I J O) : SeenOK I := h.2.2.2.2.2.2.1
theorem INV.bags (h : INV n tg ln I J O) : BagsOK n tg I J O := h.2.2.2.2.2.2.2.1
theorem INV.words (h : INV n tg ln I J O) : WordsOK tg ln I := h.2.2.2.2.2.2.2.2
theorem PP.z {p : Nat} (h : PP I p 0) : PR0 I p (I 167) := by
  have := PR_iff.mp h.2
  have e : (fun j => I 167 (0 + j)) = I 167 := by
    funext j
    rw [show (0 : Int32) + j = j by grind]
  rwa [e] at this
theorem INV.setText (h : INV n tg ln I J O) (hc : ∀ c, c ≠ 30 → c ≠ 31 → c ≠ 166 → c ≠ 169 → I2 c = I c) (hk : ∀ k, k ≠ 4 → I2 166 k = I 166 k) (hT : TextOK I2) : INV n tg ln I2 J O := by
  obtain ⟨a, b, c, d, e, f, g, i, j⟩ := h
  have w := fun c (h : c ≠ 30 ∧ c ≠ 31 ∧ c ≠ 166 ∧ c ≠ 169) => hc c h.1 h.2.1 h.2.2.1 h.2.2.2
  have w7 := w 167 (by decide)
  exact ⟨a, b.fr (fun q _ _ => w q (by omega)) (fun _ _ _ => by rw [w7]), c.fr (fun q _ _ => w q (by omega)) (fun _ _ _ => by rw [w7]), d.fr (fun q _ _ => w q (by omega)) (w 52 (by decide)) (hk 1 (by decide)) (fun _ _ _ => by rw [w7]), e.fr (fun q _ _ => w q (by omega)) (w 168 (by decide)) (fun _ _ _ => by rw [w7]), hT, g.fr (w 156 (by decide)) (w 157 (by decide)) (w 158 (by decide)) (hk 5 (by decide)) (w 170 (by decide)) (w 171 (by decide)), i.fr (fun q _ _ => w q (by omega)) (w 172 (by decide)) (w 173 (by decide)) (w 174 (by decide)) (fun q _ => w q (by omega)), j.fr (fun q _ => w q (by omega)) (fun q _ _ => w q (by omega))⟩
theorem INV.setSeen (h : INV n tg ln I J O) (hc : ∀ c, c ≠ 156 → c ≠ 157 → c ≠ 158 → c ≠ 166 → c ≠ 170 → c ≠ 171 → I2 c = I c) (hk : ∀ k, k ≠ 5 → I2 166 k = I 166 k) (hT : SeenOK I2) : INV n tg ln I2 J O := by
  obtain ⟨a, b, c, d, e, f, g, i, j⟩ := h
  have w := fun c (h : c ≠ 156 ∧ c ≠ 157 ∧ c ≠ 158 ∧ c ≠ 166 ∧ c ≠ 170 ∧ c ≠ 171) => hc c h.1 h.2.1 h.2.2.1 h.2.2.2.1 h.2.2.2.2.1 h.2.2.2.2.2
  have w7 := w 167 (by decide)
  exact ⟨a, b.fr (fun q _ _ => w q (by omega)) (fun _ _ _ => by rw [w7]), c.fr (fun q _ _ => w q (by omega)) (fun _ _ _ => by rw [w7]), d.fr (fun q _ _ => w q (by omega)) (w 52 (by decide)) (hk 1 (by decide)) (fun _ _ _ => by rw [w7]), e.fr (fun q _ _ => w q (by omega)) (w 168 (by decide)) (fun _ _ _ => by rw [w7]), f.fr (w 30 (by decide)) (w 31 (by decide)) (hk 4 (by decide)) (w 169 (by decide)), hT, i.fr (fun q _ _ => w q (by omega)) (w 172 (by decide)) (w 173 (by decide)) (w 174 (by decide)) (fun q _ => w q (by omega)), j.fr (fun q _ => w q (by omega)) (fun q _ _ => w q (by omega))⟩
/-- what is only thought of changes nothing that counts -/
def Scr (I2 I : Nat → Int32 → Int32) : Prop := (∀ c, ¬ (19 ≤ c ∧ c < 29 ∨ 42 ≤ c ∧ c < 52) → c ≠ 29 → c ≠ 166 → c ≠ 167 → c ≠ 176 → c ≠ 177 → I2 c = I c) ∧ (I2 166 1 = I 166 1 ∧ I2 166 4 = I 166 4 ∧ I2 166 5 = I 166 5) ∧ ∀ j, 0 ≤ j → j < 1080 → I2 167 j = I 167 j
theorem INV.scr (h : INV n tg ln I J O) (hs : Scr I2 I) : INV n tg ln I2 J O := by
  obtain ⟨a, b, c, d, e, f, g, i, j⟩ := h
  obtain ⟨hc, ⟨k1, k4, k5⟩, hr⟩ := hs
  have w := fun c (h : ¬ (19 ≤ c ∧ c < 29 ∨ 42 ≤ c ∧ c < 52) ∧ c ≠ 29 ∧ c ≠ 166 ∧ c ≠ 167 ∧ c ≠ 176 ∧ c ≠ 177) => hc c h.1 h.2.1 h.2.2.1 h.2.2.2.1 h.2.2.2.2.1 h.2.2.2.2.2
  exact ⟨a, b.fr (fun q _ _ => w q (by omega)) (fun j j0 j1 => hr _ (by clear hr; grind) (by clear hr; grind)), c.fr (fun q _ _ => w q (by omega)) (fun j j0 j1 => hr _ (by clear hr; grind) (by clear hr; grind)), d.fr (fun q _ _ => w q (by omega)) (w 52 (by omega)) k1 (fun j j0 j1 => hr _ (by clear hr; grind) (by clear hr; grind)), e.fr (fun q _ _ => w q (by omega)) (w 168 (by omega)) (fun j j0 j1 => hr _ (by clear hr; grind) (by clear hr; grind)), f.fr (w 30 (by omega)) (w 31 (by omega)) k4 (w 169 (by omega)), g.fr (w 156 (by omega)) (w 157 (by omega)) (w 158 (by omega)) k5 (w 170 (by omega)) (w 171 (by omega)), i.fr (fun q _ _ => w q (by omega)) (w 172 (by omega)) (w 173 (by omega)) (w 174 (by omega)) (fun q _ => w q (by omega)), j.fr (fun q _ => w q (by omega)) (fun q _ _ => w q (by omega))⟩
theorem Scr.refl : Scr I I := ⟨fun _ _ _ _ _ _ _ => rfl, ⟨rfl, rfl, rfl⟩, fun _ _ _ => rfl⟩
theorem Scr.trans {I3 : Nat → Int32 → Int32} (h1 : Scr I3 I2) (h2 : Scr I2 I) : Scr I3 I := ⟨fun c a b d e f g => (h1.1 c a b d e f g).trans (h2.1 c a b d e f g), ⟨h1.2.1.1.trans h2.2.1.1, h1.2.1.2.1.trans h2.2.1.2.1, h1.2.1.2.2.trans h2.2.1.2.2⟩, fun j a b => (h1.2.2 j a b).trans (h2.2.2 j a b)⟩
theorem Scr.pfr (h : PFr I2 I 19) : Scr I2 I := by
  have w := fun c (hc : c < 19 ∨ 29 ≤ c) => h c (by omega)
  refine ⟨fun c a _ _ _ _ _ => w c (by omega), ?_, ?_⟩
  · rw [w 166 (by omega)]; exact ⟨rfl, rfl, rfl⟩
  · rw [w 167 (by omega)]; exact fun _ _ _ => rfl
theorem Scr.row {g : Int32 → Int32} (h : MFr g (I 167) 1080) : Scr (zrow I 167 g) I := by
  refine ⟨fun c _ _ _ h7 _ _ => zrow_ne h7, ?_, ?_⟩
  · rw [zrow_ne (by decide)]; exact ⟨rfl, rfl, rfl⟩
  · rw [zrow_at]; exact fun j j0 j1 => h j (Or.inl j1)
theorem Scr.zero (h : Scr I2 I) : I2 0 = I 0 := h.1 0 (by omega) (by omega) (by omega) (by omega) (by omega) (by omega)
end FRB
/-- a pair of calls: the class's, then the reference's -/
def BOTH (mq mm : Nat) (lq lm : List (Option Value)) (n : Nat) (tg ln : Nat → Nat) (I : Nat → Int32 → Int32) (J : Nat → Int32 → Int64) (O : Nat → Int32 → Option Nat) : Prop := Runs mq 0 lq [] (n, tg, ln, I, J, O) (fun v h1 => ∃ x : Int32, v = some (.int x) ∧ Runs mm 0 lm [] h1 (fun v2 h2 => v2 = some (.int x) ∧ GOOD n tg ln I h2))
theorem ex_some {x : Int32} {P : Int32 → Prop} : (∃ y : Int32, some (Value.int x) = some (Value.int y) ∧ P y) ↔ P x := by
  constructor
  · rintro ⟨y, h, hp⟩
    cases h
    exact hp
  · intro h
    exact ⟨x, rfl, h⟩
