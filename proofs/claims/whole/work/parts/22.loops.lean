/-! loops that count upwards -/
theorem zi1 {p hi : Int32} (h : p < hi) : (p + 1).toInt = p.toInt + 1 := by
  have h1 := Int32.lt_iff_toInt_lt.mp h
  have h2 := Int32.toInt_lt hi
  have h3 := Int32.le_toInt p
  rw [Int32.toInt_add]
  exact Int.bmod_eq_of_le (by simp at *; omega) (by simp at *; omega)
theorem zup_ind {P : Int32 → Prop} (hi : Int32) (h1 : ∀ p, ¬ p < hi → P p) (h2 : ∀ p, p < hi → P (p + 1) → P p) : ∀ p, P p := by
  have key : ∀ (k : Nat) (p : Int32), (hi.toInt - p.toInt).toNat = k → P p := by
    intro k
    induction k with
    | zero =>
      intro p hp
      exact h1 p (fun h => by
        have := Int32.lt_iff_toInt_lt.mp h
        omega)
    | succ k ih =>
      intro p hp
      have hlt : p < hi := Int32.lt_iff_toInt_lt.mpr (by omega)
      exact h2 p hlt (ih (p + 1) (by rw [zi1 hlt]; omega))
  exact fun p => key _ p rfl
/-- a fold over p, p + 1 .. below hi -/
def zforN {σ : Type} (f : Int32 → σ → σ) : Nat → Int32 → σ → σ
  | 0, _, s => s
  | k + 1, p, s => zforN f k (p + 1) (f p s)
def zfor {σ : Type} (hi : Int32) (f : Int32 → σ → σ) (p : Int32) (s : σ) : σ := zforN f (hi.toInt - p.toInt).toNat p s
theorem zfor_go {σ : Type} {hi : Int32} {f : Int32 → σ → σ} {p : Int32} {s : σ} (h : p < hi) : zfor hi f p s = zfor hi f (p + 1) (f p s) := by
  unfold zfor
  have h1 := Int32.lt_iff_toInt_lt.mp h
  rw [show (hi.toInt - p.toInt).toNat = (hi.toInt - (p + 1).toInt).toNat + 1 by rw [zi1 h]; omega]
  rfl
theorem zfor_end {σ : Type} {hi : Int32} {f : Int32 → σ → σ} {p : Int32} {s : σ} (h : ¬ p < hi) : zfor hi f p s = s := by
  unfold zfor
  rw [show (hi.toInt - p.toInt).toNat = 0 by
    have := mt Int32.lt_iff_toInt_lt.mpr h
    omega]
  rfl
/-- the first of p, p + 1 .. below hi with c; -1 -/
def zfirstN (c : Int32 → Bool) : Nat → Int32 → Int32
  | 0, _ => -1
  | k + 1, p => if c p then p else zfirstN c k (p + 1)
def zfirst (hi : Int32) (c : Int32 → Bool) (p : Int32) : Int32 := zfirstN c (hi.toInt - p.toInt).toNat p
theorem zfirst_go {hi : Int32} {c : Int32 → Bool} {p : Int32} (h : p < hi) : zfirst hi c p = if c p then p else zfirst hi c (p + 1) := by
  unfold zfirst
  have h1 := Int32.lt_iff_toInt_lt.mp h
  rw [show (hi.toInt - p.toInt).toNat = (hi.toInt - (p + 1).toInt).toNat + 1 by rw [zi1 h]; omega]
  rfl
theorem zfirst_end {hi : Int32} {c : Int32 → Bool} {p : Int32} (h : ¬ p < hi) : zfirst hi c p = -1 := by
  unfold zfirst
  rw [show (hi.toInt - p.toInt).toNat = 0 by
    have := mt Int32.lt_iff_toInt_lt.mpr h
    omega]
  rfl
theorem zs0 : zsumc [] ≤ 8 := by decide
theorem zs1 (x : Int32) : zsumc [.int x] ≤ 8 := by simp [zsumc, Value.category]
theorem zs2 (x : Nat) : zsumc [.ref x] ≤ 8 := by simp [zsumc, Value.category]
theorem zs3 (x : Int32) (y : Nat) : zsumc [.int x, .ref y] ≤ 8 := by simp [zsumc, Value.category]
theorem zs4 (x y : Int32) : zsumc [.int x, .int y] ≤ 8 := by simp [zsumc, Value.category]
theorem zs5 (x y : Nat) : zsumc [.ref x, .ref y] ≤ 8 := by simp [zsumc, Value.category]
theorem i32_12 : Int32.ofNat 12 = 12 := rfl
theorem tl_some (v : Value) (st : List Value) : (some v).toList ++ st = v :: st := rfl
theorem tl_none (st : List Value) : (none : Option Value).toList ++ st = st := rfl
theorem zdrop_i (x : Int32) : zdrop (some (.int x)) = some (.int x) := rfl
theorem zdrop_r (x : Nat) : zdrop (some (.ref x)) = some (.ref x) := rfl
theorem zdrop_q (x : Option Nat) : zdrop (some (zrf x)) = some (zrf x) := by cases x <;> rfl
theorem zdrop_n : zdrop none = none := rfl
section LINE
variable {Q : Option Value → ZH → Prop} {n : Nat} {tg ln : Nat → Nat} {I : Nat → Int32 → Int32} {J : Nat → Int32 → Int64} {O : Nat → Int32 → Option Nat} {a c : Nat}
/-- hasPlace -/
theorem c_Line_hasPlace {p : Int32} (ht : tg a = 4) : Runs 24 0 [some (.ref a), some (.int p)] [] (n, tg, ln, I, J, O) Q ↔ Q (some (.int (if 0 ≤ p ∧ p < I a 1 then 1 else 0))) (n, tg, ln, I, J, O) := by
  simp only [s24_0, s24_1, s24_4, s24_5, s24_5q, s24_6, s24_9, s24_12, s24_13, s24_16, s24_17, ht, zdrop_i, zdrop_r, zdrop_n, eq_self, true_or, or_true]
  grind
theorem c_Line_placeOf {t : Int32} (ht : tg a = 4) (hO : O a 0 = some c) (hc : tg c = 20) (hl : ln c = 12) (h0 : 0 ≤ I a 1) (h12 : I a 1 ≤ 12) : Runs 31 0 [some (.ref a), some (.int t), none] [] (n, tg, ln, I, J, O) Q ↔ Q (some (.int (zfirst (I a 1) (fun p => decide (I c p = t)) 0))) (n, tg, ln, I, J, O) := by
  have loop : ∀ p, 0 ≤ p → (Runs 31 2 [some (.ref a), some (.int t), some (.int p)] [] (n, tg, ln, I, J, O) Q ↔ Q (some (.int (zfirst (I a 1) (fun p => decide (I c p = t)) p))) (n, tg, ln, I, J, O)) := by
    refine zup_ind (I a 1) (fun p hp h1 => ?_) (fun p hp ih h1 => ?_)
    · rw [s31_2]
      simp only [s31_0, s31_1, s31_3, s31_3q, s31_4, s31_7, s31_10, s31_10q, s31_11, s31_14, s31_15, s31_16, s31_17, s31_20, s31_21, s31_22, s31_25, s31_28, s31_29, ht, hO, hc, hl, zrf_some, zdrop_i, zdrop_r, zdrop_n, i32_12, zfirst_end hp]
      grind
    · have ih := ih (by grind)
      rw [s31_2]
      simp only [s31_0, s31_1, s31_3, s31_3q, s31_4, s31_7, s31_10, s31_10q, s31_11, s31_14, s31_15, s31_16, s31_17, s31_20, s31_21, s31_22, s31_25, s31_28, s31_29, ht, hO, hc, hl, zrf_some, zdrop_i, zdrop_r, zdrop_n, i32_12, zfirst_go hp]
      grind
  simp only [s31_0, s31_1, s31_3, s31_3q, s31_4, s31_7, s31_10, s31_10q, s31_11, s31_14, s31_15, s31_16, s31_17, s31_20, s31_21, s31_22, s31_25, s31_28, s31_29, zdrop_i, zdrop_r, zdrop_n]
  exact loop 0 (by decide)
/-- what is left of a row when a place goes -/
def zsh (I : Nat → Int32 → Int32) (c : Nat) (lo hi : Int32) : Nat → Int32 → Int32 := fun b k => if b = c ∧ lo ≤ k ∧ k < hi then I c (k + 1) else I b k
theorem c_Line_remove {p : Int32} (ht : tg a = 4) (hO : O a 0 = some c) (hc : tg c = 20) (hl : ln c = 12) (hac : a ≠ c) (h0 : 0 ≤ I a 1) (h12 : I a 1 ≤ 12) (hp0 : 0 ≤ p) (hp1 : p < I a 1) : Runs 30 0 [some (.ref a), some (.int p), none] [] (n, tg, ln, I, J, O) Q ↔ Q none (n, tg, ln, zu (zsh I c p (I a 1 - 1)) a 1 (I a 1 - 1), J, O) := by
  have loop : ∀ q, p < q → q ≤ I a 1 → (Runs 30 13 [some (.ref a), some (.int p), some (.int q)] [] (n, tg, ln, zsh I c p (q - 1), J, O) Q ↔ Q none (n, tg, ln, zu (zsh I c p (I a 1 - 1)) a 1 (I a 1 - 1), J, O)) := by
    have ea : ∀ q, zsh I c p q a 1 = I a 1 := fun q => by unfold zsh; rw [if_neg (fun z => hac z.1)]
    refine zup_ind (I a 1) (fun q hq h1 h2 => ?_) (fun q hq ih h1 h2 => ?_)
    · obtain rfl : q = I a 1 := by grind
      rw [s30_13]
      simp only [s30_0, s30_0q, s30_1, s30_2, s30_5, s30_8, s30_9, s30_10, s30_11, s30_12, s30_14, s30_14q, s30_15, s30_18, s30_21, s30_21q, s30_22, s30_25, s30_26, s30_27, s30_28, s30_28q, s30_29, s30_32, s30_33, s30_34, s30_35, s30_38, s30_41, s30_41q, s30_42, s30_42q, s30_43, s30_46, s30_47, s30_48, s30_51, ht, hO, hc, hl, zrf_some, zdrop_i, zdrop_r, zdrop_n, i32_12, ea]
      grind
    · have ih := ih (by grind) (by grind)
      have e2 : zu (zsh I c p (q - 1)) c (q - 1) (zsh I c p (q - 1) c q) = zsh I c p (q + 1 - 1) := by
        funext b k
        unfold zu zsh
        grind
      rw [s30_13]
      simp only [s30_0, s30_0q, s30_1, s30_2, s30_5, s30_8, s30_9, s30_10, s30_11, s30_12, s30_14, s30_14q, s30_15, s30_18, s30_21, s30_21q, s30_22, s30_25, s30_26, s30_27, s30_28, s30_28q, s30_29, s30_32, s30_33, s30_34, s30_35, s30_38, s30_41, s30_41q, s30_42, s30_42q, s30_43, s30_46, s30_47, s30_48, s30_51, ht, hO, hc, hl, zrf_some, zdrop_i, zdrop_r, zdrop_n, i32_12, ea, e2]
      grind
  have e1 : zsh I c p (p + 1 - 1) = I := by
    funext b k
    unfold zsh
    grind
  have hl2 := loop (p + 1) (by grind) (by grind)
  rw [e1] at hl2
  simp only [s30_0, s30_0q, s30_1, s30_2, s30_5, s30_8, s30_9, s30_10, s30_11, s30_12, s30_14, s30_14q, s30_15, s30_18, s30_21, s30_21q, s30_22, s30_25, s30_26, s30_27, s30_28, s30_28q, s30_29, s30_32, s30_33, s30_34, s30_35, s30_38, s30_41, s30_41q, s30_42, s30_42q, s30_43, s30_46, s30_47, s30_48, s30_51, c_Line_hasPlace ht, ht, zs0, tl_some, zdrop_i, zdrop_r, zdrop_n, if_pos (And.intro hp0 hp1), if_pos (show ¬ (1 : Int32) = 0 by decide), hl2]
end LINE
