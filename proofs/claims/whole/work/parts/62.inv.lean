/-! THE INVARIANT between class and reference -/
def NI (I : Nat → Int32 → Int32) (p : Nat) : Prop := PInv I p ∧ 0 ≤ I p 8 ∧ I p 8 ≤ 999
def PP (I : Nat → Int32 → Int32) (p : Nat) (b : Int32) : Prop := NI I p ∧ PR I p (I 167) b
def wr (k : Int32) : Int32 := if k < 0 then k + 8 else k
def HistOK (I : Nat → Int32 → Int32) : Prop := (I 52 2 = I 166 1 ∧ 0 ≤ I 166 1 ∧ I 166 1 ≤ 8) ∧ (0 ≤ I 52 1 ∧ I 52 1 < 8) ∧ ∀ i, 0 ≤ i → i < I 166 1 → PP I (rgA (wr (I 52 1 - I 166 1 + i))) (180 + 90 * i)
def KeptOK (I : Nat → Int32 → Int32) : Prop := ∀ k, k = 0 ∨ k = 1 → I 155 k = I 168 k ∧ (I 168 k = 0 ∨ I 168 k = 1) ∧ (I 168 k = 1 → PP I (kpA k) (900 + 90 * k))
def TextOK (I : Nat → Int32 → Int32) : Prop := (I 30 1 = I 166 4 ∧ 0 ≤ I 166 4 ∧ I 166 4 ≤ 200) ∧ ∀ k, 0 ≤ k → k < I 166 4 → I 31 k = I 169 k ∧ 0 ≤ I 169 k ∧ I 169 k ≤ 255
def SeenOK (I : Nat → Int32 → Int32) : Prop := (I 156 2 = I 166 5 ∧ 0 ≤ I 166 5 ∧ I 166 5 ≤ 6) ∧ ∀ k, 0 ≤ k → k < I 166 5 → I 157 k = I 170 k ∧ I 158 k = I 171 k
/-- a holder of depth d: what the innermost holds -/
def Hd (n : Nat) (tg : Nat → Nat) (I : Nat → Int32 → Int32) (J : Nat → Int32 → Int64) (O : Nat → Int32 → Option Nat) (w : Int32) (v : Int64) : Nat → Nat → Int32 → Prop
  | 0, _, _ => False
  | k + 1, a, d => (tg a = 3 ∧ 188 ≤ a ∧ a < n ∧ I a 3 = d) ∧ ((d = 1 ∧ O a 2 = none ∧ I a 0 = w ∧ J a 1 = v ∧ (w = 0 ∨ w = 1)) ∨ (2 ≤ d ∧ d ≤ 4 ∧ I a 0 = 2 ∧ ∃ c, O a 2 = some c ∧ Hd n tg I J O w v k c (d - 1)))
def HR (n : Nat) (tg : Nat → Nat) (I : Nat → Int32 → Int32) (J : Nat → Int32 → Int64) (O : Nat → Int32 → Option Nat) (r : Option Nat) (d w : Int32) (v : Int64) : Prop := (r = none ∧ d = 0) ∨ ∃ a, r = some a ∧ Hd n tg I J O w v 4 a d
def BagsOK (n : Nat) (tg : Nat → Nat) (I : Nat → Int32 → Int32) (J : Nat → Int32 → Int64) (O : Nat → Int32 → Option Nat) : Prop := ∀ b, 0 ≤ b ∧ b < 3 → (I (bgA b) 1 = I 172 b ∧ -1 ≤ I 172 b ∧ I 172 b ≤ 12) ∧ ∀ i, 0 ≤ i → i < 12 → HR n tg I J O (O (bgA b + 1) i) (I 173 (12 * b + i)) (I 174 (12 * b + i)) (J 175 (12 * b + i))
/-- the seven words, as texts and as rows of the reference -/
def WordsOK (tg ln : Nat → Nat) (I : Nat → Int32 → Int32) : Prop := (∀ i, i < 7 → tg (i + 1) = 31 ∧ ln (i + 1) = zslen i ∧ ∀ j, j < zslen i → I (i + 1) (nI j) = zsch i j) ∧ (I 178 0 = 112 ∧ I 178 1 = 108 ∧ I 178 2 = 97 ∧ I 178 3 = 105 ∧ I 178 4 = 110) ∧ (I 179 0 = 112 ∧ I 179 1 = 111 ∧ I 179 2 = 112 ∧ I 179 3 = 108 ∧ I 179 4 = 97 ∧ I 179 5 = 114) ∧ (I 180 0 = 112 ∧ I 180 1 = 117 ∧ I 180 2 = 115 ∧ I 180 3 = 104 ∧ I 180 4 = 101 ∧ I 180 5 = 114) ∧ (I 181 0 = 111 ∧ I 181 1 = 108 ∧ I 181 2 = 100) ∧ (I 182 0 = 115 ∧ I 182 1 = 116 ∧ I 182 2 = 117 ∧ I 182 3 = 109 ∧ I 182 4 = 112) ∧ (I 183 0 = 103 ∧ I 183 1 = 97 ∧ I 183 2 = 112) ∧ (I 184 0 = 108 ∧ I 184 1 = 97 ∧ I 184 2 = 119)
def INV (n : Nat) (tg ln : Nat → Nat) (I : Nat → Int32 → Int32) (J : Nat → Int32 → Int64) (O : Nat → Int32 → Option Nat) : Prop := (SH tg ln O ∧ 188 ≤ n) ∧ PP I 9 0 ∧ PP I 32 90 ∧ HistOK I ∧ KeptOK I ∧ TextOK I ∧ SeenOK I ∧ BagsOK n tg I J O ∧ WordsOK tg ln I
/-- behind a pair of calls -/
def GOOD (n : Nat) (tg ln : Nat → Nat) (I : Nat → Int32 → Int32) (h : ZH) : Prop := INV h.1 h.2.1 h.2.2.1 h.2.2.2.1 h.2.2.2.2.1 h.2.2.2.2.2 ∧ (n ≤ h.1 ∧ h.1 ≤ n + 1) ∧ h.2.1 0 = tg 0 ∧ h.2.2.1 0 = ln 0 ∧ h.2.2.2.1 0 = I 0
section FRAMES
variable {n : Nat} {tg ln : Nat → Nat} {I I2 : Nat → Int32 → Int32} {J : Nat → Int32 → Int64} {O : Nat → Int32 → Option Nat}
theorem PP.fr {p : Nat} {b : Int32} (h : PP I p b) (h1 : ∀ c, p ≤ c → c < p + 10 → I2 c = I c) (h2 : ∀ j, 0 ≤ j → j < 90 → I2 167 (b + j) = I 167 (b + j)) : PP I2 p b := by
  obtain ⟨⟨a1, a2⟩, a3⟩ := h
  have ht : Tr I2 p I p := Tr.self h1
  refine ⟨⟨ht.inv a1, by rw [h1 p (Nat.le_refl _) (by omega)]; exact a2⟩, ?_⟩
  exact PR.frM (b := b) (ht.num a1.1) h2 (ht.pr a1.1 a3)
theorem HistOK.fr (h : HistOK I) (h1 : ∀ c, 54 ≤ c → c < 134 → I2 c = I c) (h0 : I2 52 = I 52) (hu : I2 166 1 = I 166 1) (h2 : ∀ j, 180 ≤ j → j < 900 → I2 167 j = I 167 j) : HistOK I2 := by
  obtain ⟨a, b, c⟩ := h
  refine ⟨by rw [h0, hu]; exact a, by rw [h0]; exact b, fun i i0 i1 => ?_⟩
  rw [hu] at i1
  rw [h0, hu]
  have hk : 0 ≤ wr (I 52 1 - I 166 1 + i) ∧ wr (I 52 1 - I 166 1 + i) < 8 := by
    clear c h1 h2
    unfold wr
    grind
  have hf := rgA_far hk
  refine (c i i0 i1).fr (fun q q0 q1 => h1 q (by omega) (by omega)) (fun j j0 j1 => h2 _ ?_ ?_)
  · clear c h1 h2; grind
  · clear c h1 h2; grind
theorem KeptOK.fr (h : KeptOK I) (h1 : ∀ c, 135 ≤ c → c < 156 → I2 c = I c) (h0 : I2 168 = I 168) (h2 : ∀ j, 900 ≤ j → j < 1080 → I2 167 j = I 167 j) : KeptOK I2 := by
  intro k hk
  obtain ⟨a, b, c⟩ := h k hk
  rw [h0, h1 155 (by omega) (by omega)]
  refine ⟨a, b, fun hz => ?_⟩
  have hk2 : 135 ≤ kpA k ∧ kpA k + 10 ≤ 155 := by unfold kpA; split <;> omega
  refine (c hz).fr (fun q q0 q1 => h1 q (by omega) (by omega)) (fun j j0 j1 => h2 _ ?_ ?_)
  · clear c h1 h2; grind
  · clear c h1 h2; grind
theorem TextOK.fr (h : TextOK I) (h1 : I2 30 = I 30) (h2 : I2 31 = I 31) (h3 : I2 166 4 = I 166 4) (h4 : I2 169 = I 169) : TextOK I2 := by
  unfold TextOK at *
  rw [h1, h2, h3, h4]
  exact h
theorem SeenOK.fr (h : SeenOK I) (h1 : I2 156 = I 156) (h2 : I2 157 = I 157) (h3 : I2 158 = I 158) (h4 : I2 166 5 = I 166 5) (h5 : I2 170 = I 170) (h6 : I2 171 = I 171) : SeenOK I2 := by
  unfold SeenOK at *
  rw [h1, h2, h3, h4, h5, h6]
  exact h
theorem Hd.fr {n2 : Nat} {tg2 : Nat → Nat} {J2 : Nat → Int32 → Int64} {O2 : Nat → Int32 → Option Nat} {w : Int32} {v : Int64} (hn : n ≤ n2) (ht : ∀ a, 188 ≤ a → a < n → tg2 a = tg a) (hi : ∀ a, 188 ≤ a → a < n → I2 a = I a) (hj : ∀ a, 188 ≤ a → a < n → J2 a = J a) (ho : ∀ a, 188 ≤ a → a < n → O2 a = O a) : ∀ k a d, Hd n tg I J O w v k a d → Hd n2 tg2 I2 J2 O2 w v k a d := by
  intro k
  induction k with
  | zero => intro a d h; exact h
  | succ k ih =>
    intro a d h
    obtain ⟨⟨h1, h2, h3, h4⟩, h5⟩ := h
    refine ⟨⟨by rw [ht a h2 h3]; exact h1, h2, by omega, by rw [hi a h2 h3]; exact h4⟩, ?_⟩
    rw [hi a h2 h3, hj a h2 h3, ho a h2 h3]
    rcases h5 with h5 | ⟨h5, h6, h7, c, h8, h9⟩
    · exact Or.inl h5
    · exact Or.inr ⟨h5, h6, h7, c, h8, ih c _ h9⟩
theorem HR.fr {n2 : Nat} {tg2 : Nat → Nat} {J2 : Nat → Int32 → Int64} {O2 : Nat → Int32 → Option Nat} {r : Option Nat} {d w : Int32} {v : Int64} (hn : n ≤ n2) (ht : ∀ a, 188 ≤ a → a < n → tg2 a = tg a) (hi : ∀ a, 188 ≤ a → a < n → I2 a = I a) (hj : ∀ a, 188 ≤ a → a < n → J2 a = J a) (ho : ∀ a, 188 ≤ a → a < n → O2 a = O a) (h : HR n tg I J O r d w v) : HR n2 tg2 I2 J2 O2 r d w v := by
  rcases h with h | ⟨a, h1, h2⟩
  · exact Or.inl h
  · exact Or.inr ⟨a, h1, Hd.fr hn ht hi hj ho 4 a d h2⟩
theorem bgA_cases {b : Int32} (h : 0 ≤ b ∧ b < 3) : bgA b = 160 ∨ bgA b = 162 ∨ bgA b = 164 := by
  unfold bgA
  split
  · exact Or.inl rfl
  split
  · exact Or.inr (Or.inl rfl)
  · exact Or.inr (Or.inr rfl)
theorem BagsOK.fr (h : BagsOK n tg I J O) (h1 : ∀ c, 160 ≤ c → c < 166 → I2 c = I c) (h2 : I2 172 = I 172) (h3 : I2 173 = I 173) (h4 : I2 174 = I 174) (h5 : ∀ a, 188 ≤ a → I2 a = I a) : BagsOK n tg I2 J O := by
  intro b hb
  have hc := bgA_cases hb
  obtain ⟨a1, a2⟩ := h b hb
  rw [h1 (bgA b) (by omega) (by omega), h2, h3, h4]
  exact ⟨a1, fun i i0 i1 => (a2 i i0 i1).fr (Nat.le_refl n) (fun _ _ _ => rfl) (fun a ha _ => h5 a ha) (fun _ _ _ => rfl) (fun _ _ _ => rfl)⟩
theorem WordsOK.fr (h : WordsOK tg ln I) (h1 : ∀ c, c < 8 → I2 c = I c) (h2 : ∀ c, 178 ≤ c → c < 185 → I2 c = I c) : WordsOK tg ln I2 := by
  unfold WordsOK at *
  rw [h2 178 (by omega) (by omega), h2 179 (by omega) (by omega), h2 180 (by omega) (by omega), h2 181 (by omega) (by omega), h2 182 (by omega) (by omega), h2 183 (by omega) (by omega), h2 184 (by omega) (by omega)]
  exact ⟨fun i hi => by rw [h1 (i + 1) (by omega)]; exact h.1 i hi, h.2⟩
end FRAMES
