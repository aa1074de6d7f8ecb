section ZROWS
variable {ls : List (Option Value)} {st : List Value} {h : ZH} {Q : Option Value → ZH → Prop} {n : Nat} {tg ln : Nat → Nat} {I : Nat → Int32 → Int32} {J : Nat → Int32 → Int64} {O : Nat → Int32 → Option Nat} {i j i0 i1 i2 i3 i4 : Int32} {u w u0 u1 u2 u3 : Int64} {a b b0 b1 b2 : Nat} {r r0 r1 r2 : Option Nat}
variable {x0 x1 x2 x3 x4 x5 x6 x7 x8 x9 x10 x11 x12 x13 x14 x15 x16 x17 x18 x19 : Option Value}
theorem s205_0 : Runs 205 0 ls st (n, tg, ln, I, J, O) Q ↔ Runs 205 3 ls (.ref n :: st) (znew (n, tg, ln, I, J, O) 9 0) Q := R_new rfl rfl
theorem s205_3 : Runs 205 3 ls (.int i :: st) h Q ↔ Runs 205 4 ls (.int i :: .int i :: st) h Q := R_dupi rfl
theorem s205_3q : Runs 205 3 ls (.ref a :: st) h Q ↔ Runs 205 4 ls (.ref a :: .ref a :: st) h Q := R_dupr rfl
theorem s205_4 (hs : zsumc st ≤ 8) : Runs 205 4 ls (.ref a :: st) h Q ↔ Runs 79 0 [some (.ref a)] [] h (fun v h2 => Runs 205 7 ls (v.toList ++ st) h2 Q) := R_calli (a := a) (rest := st) rfl rfl rfl rfl rfl rfl rfl rfl hs
theorem s205_7 : Runs 205 7 [x0, x1, x2, x3] (.ref a :: st) h Q ↔ Runs 205 8 [zdrop x0, some (.ref a), x2, x3] st h Q := R_astn rfl rfl rfl
theorem s205_7q : Runs 205 7 [x0, x1, x2, x3] (zrf r :: st) h Q ↔ Runs 205 8 [zdrop x0, some (zrf r), x2, x3] st h Q := R_astnq rfl rfl rfl
theorem s205_8 : Runs 205 8 ls st (n, tg, ln, I, J, O) Q ↔ Runs 205 11 ls (.ref n :: st) (znew (n, tg, ln, I, J, O) 10 0) Q := R_new rfl rfl
theorem s205_11 : Runs 205 11 ls (.int i :: st) h Q ↔ Runs 205 12 ls (.int i :: .int i :: st) h Q := R_dupi rfl
theorem s205_11q : Runs 205 11 ls (.ref a :: st) h Q ↔ Runs 205 12 ls (.ref a :: .ref a :: st) h Q := R_dupr rfl
theorem s205_12 (hs : zsumc st ≤ 8) : Runs 205 12 ls (.ref a :: st) h Q ↔ Runs 125 0 [some (.ref a)] [] h (fun v h2 => Runs 205 15 ls (v.toList ++ st) h2 Q) := R_calli (a := a) (rest := st) rfl rfl rfl rfl rfl rfl rfl rfl hs
theorem s205_15 : Runs 205 15 [x0, x1, x2, x3] (.ref a :: st) h Q ↔ Runs 205 16 [x0, zdrop x1, some (.ref a), x3] st h Q := R_astn rfl rfl rfl
theorem s205_15q : Runs 205 15 [x0, x1, x2, x3] (zrf r :: st) h Q ↔ Runs 205 16 [x0, zdrop x1, some (zrf r), x3] st h Q := R_astnq rfl rfl rfl
theorem s205_16 : Runs 205 16 ls st h Q ↔ Runs 205 17 ls (.int 0 :: st) h Q := R_iconst rfl rfl
theorem s205_17 : Runs 205 17 [x0, x1, x2, x3] (.int i :: st) h Q ↔ Runs 205 18 [x0, x1, zdrop x2, some (.int i)] st h Q := R_istn rfl rfl rfl
theorem s205_18 : Runs 205 18 [x0, x1, x2, some (.int i)] st h Q ↔ Runs 205 19 [x0, x1, x2, some (.int i)] (.int i :: st) h Q := R_ildn rfl rfl
theorem s205_19 : Runs 205 19 [some (.ref a), x1, x2, x3] st h Q ↔ Runs 205 20 [some (.ref a), x1, x2, x3] (.ref a :: st) h Q := R_aldn rfl rfl
theorem s205_19q : Runs 205 19 [some (zrf r), x1, x2, x3] st h Q ↔ Runs 205 20 [some (zrf r), x1, x2, x3] (zrf r :: st) h Q := R_aldnq rfl rfl
theorem s205_20 (ht : tg a = 20 ∨ tg a = 30) : Runs 205 20 ls (.ref a :: st) (n, tg, ln, I, J, O) Q ↔ Runs 205 21 ls (.int (Int32.ofNat (ln a)) :: st) (n, tg, ln, I, J, O) Q := R_alen rfl ht
theorem s205_21 : Runs 205 21 ls st h Q ↔ Runs 205 23 ls (.int 6 :: st) h Q := R_bipush rfl (by decide)
theorem s205_23 : Runs 205 23 ls (.int j :: .int i :: st) h Q ↔ Runs 205 24 ls (.int (i - j) :: st) h Q := R_isub rfl
theorem s205_24 : Runs 205 24 ls (.int j :: .int i :: st) h Q ↔ if j < i then Runs 205 1199 ls st h Q else Runs 205 27 ls st h Q := R_icgt rfl rfl
theorem s205_27 : Runs 205 27 [some (.ref a), x1, x2, x3] st h Q ↔ Runs 205 28 [some (.ref a), x1, x2, x3] (.ref a :: st) h Q := R_aldn rfl rfl
theorem s205_27q : Runs 205 27 [some (zrf r), x1, x2, x3] st h Q ↔ Runs 205 28 [some (zrf r), x1, x2, x3] (zrf r :: st) h Q := R_aldnq rfl rfl
theorem s205_28 : Runs 205 28 [x0, x1, x2, some (.int i)] st h Q ↔ Runs 205 29 [x0, x1, x2, some (.int i)] (.int i :: st) h Q := R_ildn rfl rfl
theorem s205_29 (ht : tg a = 20) : Runs 205 29 ls (.int i :: .ref a :: st) (n, tg, ln, I, J, O) Q ↔ ((0 ≤ i ∧ i < Int32.ofNat (ln a)) ∧ Runs 205 30 ls (.int (I a i) :: st) (n, tg, ln, I, J, O) Q) := R_iald rfl ht
theorem s205_29q (ht : tg a = 30) : Runs 205 29 ls (.int i :: .ref a :: st) (n, tg, ln, I, J, O) Q ↔ ((0 ≤ i ∧ i < Int32.ofNat (ln a)) ∧ Runs 205 30 ls (.int (I a i) :: st) (n, tg, ln, I, J, O) Q) := R_iald0 rfl ht
theorem s205_30 : Runs 205 30 ls st h Q ↔ Runs 205 32 ls (.int 63 :: st) h Q := R_bipush rfl (by decide)
theorem s205_32 : Runs 205 32 ls (.int j :: .int i :: st) h Q ↔ Runs 205 33 ls (.int (i &&& j) :: st) h Q := R_iand rfl
theorem s205_33 : Runs 205 33 ls (.int i :: st) h Q ↔ if i = 0 then Runs 205 188 ls st h Q else if i = 1 then Runs 205 211 ls st h Q else if i = 2 then Runs 205 224 ls st h Q else if i = 3 then Runs 205 237 ls st h Q else if i = 4 then Runs 205 250 ls st h Q else if i = 5 then Runs 205 283 ls st h Q else if i = 6 then Runs 205 316 ls st h Q else if i = 7 then Runs 205 349 ls st h Q else if i = 8 then Runs 205 362 ls st h Q else if i = 9 then Runs 205 405 ls st h Q else if i = 10 then Runs 205 428 ls st h Q else if i = 11 then Runs 205 451 ls st h Q else if i = 12 then Runs 205 474 ls st h Q else if i = 13 then Runs 205 497 ls st h Q else if i = 14 then Runs 205 510 ls st h Q else if i = 15 then Runs 205 533 ls st h Q else if i = 16 then Runs 205 556 ls st h Q else if i = 17 then Runs 205 579 ls st h Q else if i = 18 then Runs 205 612 ls st h Q else if i = 19 then Runs 205 635 ls st h Q else if i = 20 then Runs 205 668 ls st h Q else if i = 21 then Runs 205 701 ls st h Q else if i = 22 then Runs 205 724 ls st h Q else if i = 23 then Runs 205 757 ls st h Q else if i = 24 then Runs 205 770 ls st h Q else if i = 25 then Runs 205 783 ls st h Q else if i = 26 then Runs 205 806 ls st h Q else if i = 27 then Runs 205 859 ls st h Q else if i = 28 then Runs 205 892 ls st h Q else if i = 29 then Runs 205 975 ls st h Q else if i = 30 then Runs 205 1008 ls st h Q else if i = 31 then Runs 205 1041 ls st h Q else if i = 32 then Runs 205 1084 ls st h Q else if i = 33 then Runs 205 1147 ls st h Q else if i = 34 then Runs 205 1170 ls st h Q else Runs 205 1193 ls st h Q := by
  by_cases h0 : i = 0
  · rw [if_pos h0]; subst h0; exact R_tabI rfl (by decide) rfl rfl
  rw [if_neg h0]
  by_cases h1 : i = 1
  · rw [if_pos h1]; subst h1; exact R_tabI rfl (by decide) rfl rfl
  rw [if_neg h1]
  by_cases h2 : i = 2
  · rw [if_pos h2]; subst h2; exact R_tabI rfl (by decide) rfl rfl
  rw [if_neg h2]
  by_cases h3 : i = 3
  · rw [if_pos h3]; subst h3; exact R_tabI rfl (by decide) rfl rfl
  rw [if_neg h3]
  by_cases h4 : i = 4
  · rw [if_pos h4]; subst h4; exact R_tabI rfl (by decide) rfl rfl
  rw [if_neg h4]
  by_cases h5 : i = 5
  · rw [if_pos h5]; subst h5; exact R_tabI rfl (by decide) rfl rfl
  rw [if_neg h5]
  by_cases h6 : i = 6
  · rw [if_pos h6]; subst h6; exact R_tabI rfl (by decide) rfl rfl
  rw [if_neg h6]
  by_cases h7 : i = 7
  · rw [if_pos h7]; subst h7; exact R_tabI rfl (by decide) rfl rfl
  rw [if_neg h7]
  by_cases h8 : i = 8
  · rw [if_pos h8]; subst h8; exact R_tabI rfl (by decide) rfl rfl
  rw [if_neg h8]
  by_cases h9 : i = 9
  · rw [if_pos h9]; subst h9; exact R_tabI rfl (by decide) rfl rfl
  rw [if_neg h9]
  by_cases h10 : i = 10
  · rw [if_pos h10]; subst h10; exact R_tabI rfl (by decide) rfl rfl
  rw [if_neg h10]
  by_cases h11 : i = 11
  · rw [if_pos h11]; subst h11; exact R_tabI rfl (by decide) rfl rfl
  rw [if_neg h11]
  by_cases h12 : i = 12
  · rw [if_pos h12]; subst h12; exact R_tabI rfl (by decide) rfl rfl
  rw [if_neg h12]
  by_cases h13 : i = 13
  · rw [if_pos h13]; subst h13; exact R_tabI rfl (by decide) rfl rfl
  rw [if_neg h13]
  by_cases h14 : i = 14
  · rw [if_pos h14]; subst h14; exact R_tabI rfl (by decide) rfl rfl
  rw [if_neg h14]
  by_cases h15 : i = 15
  · rw [if_pos h15]; subst h15; exact R_tabI rfl (by decide) rfl rfl
  rw [if_neg h15]
  by_cases h16 : i = 16
  · rw [if_pos h16]; subst h16; exact R_tabI rfl (by decide) rfl rfl
  rw [if_neg h16]
  by_cases h17 : i = 17
  · rw [if_pos h17]; subst h17; exact R_tabI rfl (by decide) rfl rfl
  rw [if_neg h17]
  by_cases h18 : i = 18
  · rw [if_pos h18]; subst h18; exact R_tabI rfl (by decide) rfl rfl
  rw [if_neg h18]
  by_cases h19 : i = 19
  · rw [if_pos h19]; subst h19; exact R_tabI rfl (by decide) rfl rfl
  rw [if_neg h19]
  by_cases h20 : i = 20
  · rw [if_pos h20]; subst h20; exact R_tabI rfl (by decide) rfl rfl
  rw [if_neg h20]
  by_cases h21 : i = 21
  · rw [if_pos h21]; subst h21; exact R_tabI rfl (by decide) rfl rfl
  rw [if_neg h21]
  by_cases h22 : i = 22
  · rw [if_pos h22]; subst h22; exact R_tabI rfl (by decide) rfl rfl
  rw [if_neg h22]
  by_cases h23 : i = 23
  · rw [if_pos h23]; subst h23; exact R_tabI rfl (by decide) rfl rfl
  rw [if_neg h23]
  by_cases h24 : i = 24
  · rw [if_pos h24]; subst h24; exact R_tabI rfl (by decide) rfl rfl
  rw [if_neg h24]
  by_cases h25 : i = 25
  · rw [if_pos h25]; subst h25; exact R_tabI rfl (by decide) rfl rfl
  rw [if_neg h25]
  by_cases h26 : i = 26
  · rw [if_pos h26]; subst h26; exact R_tabI rfl (by decide) rfl rfl
  rw [if_neg h26]
  by_cases h27 : i = 27
  · rw [if_pos h27]; subst h27; exact R_tabI rfl (by decide) rfl rfl
  rw [if_neg h27]
  by_cases h28 : i = 28
  · rw [if_pos h28]; subst h28; exact R_tabI rfl (by decide) rfl rfl
  rw [if_neg h28]
  by_cases h29 : i = 29
  · rw [if_pos h29]; subst h29; exact R_tabI rfl (by decide) rfl rfl
  rw [if_neg h29]
  by_cases h30 : i = 30
  · rw [if_pos h30]; subst h30; exact R_tabI rfl (by decide) rfl rfl
  rw [if_neg h30]
  by_cases h31 : i = 31
  · rw [if_pos h31]; subst h31; exact R_tabI rfl (by decide) rfl rfl
  rw [if_neg h31]
  by_cases h32 : i = 32
  · rw [if_pos h32]; subst h32; exact R_tabI rfl (by decide) rfl rfl
  rw [if_neg h32]
  by_cases h33 : i = 33
  · rw [if_pos h33]; subst h33; exact R_tabI rfl (by decide) rfl rfl
  rw [if_neg h33]
  by_cases h34 : i = 34
  · rw [if_pos h34]; subst h34; exact R_tabI rfl (by decide) rfl rfl
  rw [if_neg h34]
  exact R_tabO rfl (zout 34 i (by decide) (fun v hv => match v, hv with
    | 0, _ => h0
    | 1, _ => h1
    | 2, _ => h2
    | 3, _ => h3
    | 4, _ => h4
    | 5, _ => h5
    | 6, _ => h6
    | 7, _ => h7
    | 8, _ => h8
    | 9, _ => h9
    | 10, _ => h10
    | 11, _ => h11
    | 12, _ => h12
    | 13, _ => h13
    | 14, _ => h14
    | 15, _ => h15
    | 16, _ => h16
    | 17, _ => h17
    | 18, _ => h18
    | 19, _ => h19
    | 20, _ => h20
    | 21, _ => h21
    | 22, _ => h22
    | 23, _ => h23
    | 24, _ => h24
    | 25, _ => h25
    | 26, _ => h26
    | 27, _ => h27
    | 28, _ => h28
    | 29, _ => h29
    | 30, _ => h30
    | 31, _ => h31
    | 32, _ => h32
    | 33, _ => h33
    | 34, _ => h34
    | z + 35, hv => absurd hv (by omega))) rfl
theorem s205_188 : Runs 205 188 [x0, some (.ref a), x2, x3] st h Q ↔ Runs 205 189 [x0, some (.ref a), x2, x3] (.ref a :: st) h Q := R_aldn rfl rfl
theorem s205_188q : Runs 205 188 [x0, some (zrf r), x2, x3] st h Q ↔ Runs 205 189 [x0, some (zrf r), x2, x3] (zrf r :: st) h Q := R_aldnq rfl rfl
theorem s205_189 : Runs 205 189 [some (.ref a), x1, x2, x3] st h Q ↔ Runs 205 190 [some (.ref a), x1, x2, x3] (.ref a :: st) h Q := R_aldn rfl rfl
theorem s205_189q : Runs 205 189 [some (zrf r), x1, x2, x3] st h Q ↔ Runs 205 190 [some (zrf r), x1, x2, x3] (zrf r :: st) h Q := R_aldnq rfl rfl
theorem s205_190 : Runs 205 190 [x0, x1, x2, some (.int i)] st h Q ↔ Runs 205 191 [x0, x1, x2, some (.int i)] (.int i :: st) h Q := R_ildn rfl rfl
theorem s205_191 : Runs 205 191 ls st h Q ↔ Runs 205 192 ls (.int 1 :: st) h Q := R_iconst rfl rfl
theorem s205_192 : Runs 205 192 ls (.int j :: .int i :: st) h Q ↔ Runs 205 193 ls (.int (i + j) :: st) h Q := R_iadd rfl
theorem s205_193 (ht : tg a = 20) : Runs 205 193 ls (.int i :: .ref a :: st) (n, tg, ln, I, J, O) Q ↔ ((0 ≤ i ∧ i < Int32.ofNat (ln a)) ∧ Runs 205 194 ls (.int (I a i) :: st) (n, tg, ln, I, J, O) Q) := R_iald rfl ht
theorem s205_193q (ht : tg a = 30) : Runs 205 193 ls (.int i :: .ref a :: st) (n, tg, ln, I, J, O) Q ↔ ((0 ≤ i ∧ i < Int32.ofNat (ln a)) ∧ Runs 205 194 ls (.int (I a i) :: st) (n, tg, ln, I, J, O) Q) := R_iald0 rfl ht
theorem s205_194 (ht : tg a = 9) (hs : zsumc st ≤ 8) : Runs 205 194 ls (.int i0 :: .ref a :: st) (n, tg, ln, I, J, O) Q ↔ Runs 80 0 [some (.ref a), some (.int i0)] [] (n, tg, ln, I, J, O) (fun v h2 => Runs 205 197 ls (v.toList ++ st) h2 Q) := R_callv (a := a) (rest := st) rfl rfl rfl rfl rfl rfl rfl ht hs
theorem s205_197 : Runs 205 197 [x0, x1, some (.ref a), x3] st h Q ↔ Runs 205 198 [x0, x1, some (.ref a), x3] (.ref a :: st) h Q := R_aldn rfl rfl
theorem s205_197q : Runs 205 197 [x0, x1, some (zrf r), x3] st h Q ↔ Runs 205 198 [x0, x1, some (zrf r), x3] (zrf r :: st) h Q := R_aldnq rfl rfl
theorem s205_198 : Runs 205 198 [some (.ref a), x1, x2, x3] st h Q ↔ Runs 205 199 [some (.ref a), x1, x2, x3] (.ref a :: st) h Q := R_aldn rfl rfl
theorem s205_198q : Runs 205 198 [some (zrf r), x1, x2, x3] st h Q ↔ Runs 205 199 [some (zrf r), x1, x2, x3] (zrf r :: st) h Q := R_aldnq rfl rfl
theorem s205_199 : Runs 205 199 [x0, x1, x2, some (.int i)] st h Q ↔ Runs 205 200 [x0, x1, x2, some (.int i)] (.int i :: st) h Q := R_ildn rfl rfl
theorem s205_200 : Runs 205 200 ls st h Q ↔ Runs 205 201 ls (.int 1 :: st) h Q := R_iconst rfl rfl
theorem s205_201 : Runs 205 201 ls (.int j :: .int i :: st) h Q ↔ Runs 205 202 ls (.int (i + j) :: st) h Q := R_iadd rfl
theorem s205_202 (ht : tg a = 20) : Runs 205 202 ls (.int i :: .ref a :: st) (n, tg, ln, I, J, O) Q ↔ ((0 ≤ i ∧ i < Int32.ofNat (ln a)) ∧ Runs 205 203 ls (.int (I a i) :: st) (n, tg, ln, I, J, O) Q) := R_iald rfl ht
theorem s205_202q (ht : tg a = 30) : Runs 205 202 ls (.int i :: .ref a :: st) (n, tg, ln, I, J, O) Q ↔ ((0 ≤ i ∧ i < Int32.ofNat (ln a)) ∧ Runs 205 203 ls (.int (I a i) :: st) (n, tg, ln, I, J, O) Q) := R_iald0 rfl ht
theorem s205_203 (ht : tg a = 10) (hs : zsumc st ≤ 8) : Runs 205 203 ls (.int i0 :: .ref a :: st) (n, tg, ln, I, J, O) Q ↔ Runs 129 0 [some (.ref a), some (.int i0)] [] (n, tg, ln, I, J, O) (fun v h2 => Runs 205 206 ls (v.toList ++ st) h2 Q) := R_callv (a := a) (rest := st) rfl rfl rfl rfl rfl rfl rfl ht hs
theorem s205_206 : Runs 205 206 ls (.int j :: .int i :: st) h Q ↔ if i = j then Runs 205 1193 ls st h Q else Runs 205 209 ls st h Q := R_iceq rfl rfl
theorem s205_209 : Runs 205 209 ls st h Q ↔ Runs 205 210 ls (.int 0 :: st) h Q := R_iconst rfl rfl
theorem s205_210 (hx : i = 0 ∨ i = 1) : Runs 205 210 ls [.int i] h Q ↔ Q (some (.int i)) h := R_zret rfl rfl hx
theorem s205_211 : Runs 205 211 [x0, some (.ref a), x2, x3] st h Q ↔ Runs 205 212 [x0, some (.ref a), x2, x3] (.ref a :: st) h Q := R_aldn rfl rfl
theorem s205_211q : Runs 205 211 [x0, some (zrf r), x2, x3] st h Q ↔ Runs 205 212 [x0, some (zrf r), x2, x3] (zrf r :: st) h Q := R_aldnq rfl rfl
theorem s205_212 (ht : tg a = 9) (hs : zsumc st ≤ 8) : Runs 205 212 ls (.ref a :: st) (n, tg, ln, I, J, O) Q ↔ Runs 81 0 [some (.ref a), none] [] (n, tg, ln, I, J, O) (fun v h2 => Runs 205 215 ls (v.toList ++ st) h2 Q) := R_callv (a := a) (rest := st) rfl rfl rfl rfl rfl rfl rfl ht hs
theorem s205_215 : Runs 205 215 [x0, x1, some (.ref a), x3] st h Q ↔ Runs 205 216 [x0, x1, some (.ref a), x3] (.ref a :: st) h Q := R_aldn rfl rfl
theorem s205_215q : Runs 205 215 [x0, x1, some (zrf r), x3] st h Q ↔ Runs 205 216 [x0, x1, some (zrf r), x3] (zrf r :: st) h Q := R_aldnq rfl rfl
theorem s205_216 (ht : tg a = 10) (hs : zsumc st ≤ 8) : Runs 205 216 ls (.ref a :: st) (n, tg, ln, I, J, O) Q ↔ Runs 130 0 [some (.ref a), none] [] (n, tg, ln, I, J, O) (fun v h2 => Runs 205 219 ls (v.toList ++ st) h2 Q) := R_callv (a := a) (rest := st) rfl rfl rfl rfl rfl rfl rfl ht hs
theorem s205_219 : Runs 205 219 ls (.int j :: .int i :: st) h Q ↔ if i = j then Runs 205 1193 ls st h Q else Runs 205 222 ls st h Q := R_iceq rfl rfl
theorem s205_222 : Runs 205 222 ls st h Q ↔ Runs 205 223 ls (.int 0 :: st) h Q := R_iconst rfl rfl
theorem s205_223 (hx : i = 0 ∨ i = 1) : Runs 205 223 ls [.int i] h Q ↔ Q (some (.int i)) h := R_zret rfl rfl hx
theorem s205_224 : Runs 205 224 [x0, some (.ref a), x2, x3] st h Q ↔ Runs 205 225 [x0, some (.ref a), x2, x3] (.ref a :: st) h Q := R_aldn rfl rfl
theorem s205_224q : Runs 205 224 [x0, some (zrf r), x2, x3] st h Q ↔ Runs 205 225 [x0, some (zrf r), x2, x3] (zrf r :: st) h Q := R_aldnq rfl rfl
theorem s205_225 (ht : tg a = 9) (hs : zsumc st ≤ 8) : Runs 205 225 ls (.ref a :: st) (n, tg, ln, I, J, O) Q ↔ Runs 82 0 [some (.ref a)] [] (n, tg, ln, I, J, O) (fun v h2 => Runs 205 228 ls (v.toList ++ st) h2 Q) := R_callv (a := a) (rest := st) rfl rfl rfl rfl rfl rfl rfl ht hs
theorem s205_228 : Runs 205 228 [x0, x1, some (.ref a), x3] st h Q ↔ Runs 205 229 [x0, x1, some (.ref a), x3] (.ref a :: st) h Q := R_aldn rfl rfl
theorem s205_228q : Runs 205 228 [x0, x1, some (zrf r), x3] st h Q ↔ Runs 205 229 [x0, x1, some (zrf r), x3] (zrf r :: st) h Q := R_aldnq rfl rfl
theorem s205_229 (ht : tg a = 10) (hs : zsumc st ≤ 8) : Runs 205 229 ls (.ref a :: st) (n, tg, ln, I, J, O) Q ↔ Runs 147 0 [some (.ref a)] [] (n, tg, ln, I, J, O) (fun v h2 => Runs 205 232 ls (v.toList ++ st) h2 Q) := R_callv (a := a) (rest := st) rfl rfl rfl rfl rfl rfl rfl ht hs
theorem s205_232 : Runs 205 232 ls (.int j :: .int i :: st) h Q ↔ if i = j then Runs 205 1193 ls st h Q else Runs 205 235 ls st h Q := R_iceq rfl rfl
theorem s205_235 : Runs 205 235 ls st h Q ↔ Runs 205 236 ls (.int 0 :: st) h Q := R_iconst rfl rfl
theorem s205_236 (hx : i = 0 ∨ i = 1) : Runs 205 236 ls [.int i] h Q ↔ Q (some (.int i)) h := R_zret rfl rfl hx
theorem s205_237 : Runs 205 237 [x0, some (.ref a), x2, x3] st h Q ↔ Runs 205 238 [x0, some (.ref a), x2, x3] (.ref a :: st) h Q := R_aldn rfl rfl
theorem s205_237q : Runs 205 237 [x0, some (zrf r), x2, x3] st h Q ↔ Runs 205 238 [x0, some (zrf r), x2, x3] (zrf r :: st) h Q := R_aldnq rfl rfl
theorem s205_238 (ht : tg a = 9) (hs : zsumc st ≤ 8) : Runs 205 238 ls (.ref a :: st) (n, tg, ln, I, J, O) Q ↔ Runs 83 0 [some (.ref a), none] [] (n, tg, ln, I, J, O) (fun v h2 => Runs 205 241 ls (v.toList ++ st) h2 Q) := R_callv (a := a) (rest := st) rfl rfl rfl rfl rfl rfl rfl ht hs
theorem s205_241 : Runs 205 241 [x0, x1, some (.ref a), x3] st h Q ↔ Runs 205 242 [x0, x1, some (.ref a), x3] (.ref a :: st) h Q := R_aldn rfl rfl
theorem s205_241q : Runs 205 241 [x0, x1, some (zrf r), x3] st h Q ↔ Runs 205 242 [x0, x1, some (zrf r), x3] (zrf r :: st) h Q := R_aldnq rfl rfl
theorem s205_242 (ht : tg a = 10) (hs : zsumc st ≤ 8) : Runs 205 242 ls (.ref a :: st) (n, tg, ln, I, J, O) Q ↔ Runs 149 0 [some (.ref a), none] [] (n, tg, ln, I, J, O) (fun v h2 => Runs 205 245 ls (v.toList ++ st) h2 Q) := R_callv (a := a) (rest := st) rfl rfl rfl rfl rfl rfl rfl ht hs
theorem s205_245 : Runs 205 245 ls (.int j :: .int i :: st) h Q ↔ if i = j then Runs 205 1193 ls st h Q else Runs 205 248 ls st h Q := R_iceq rfl rfl
theorem s205_248 : Runs 205 248 ls st h Q ↔ Runs 205 249 ls (.int 0 :: st) h Q := R_iconst rfl rfl
theorem s205_249 (hx : i = 0 ∨ i = 1) : Runs 205 249 ls [.int i] h Q ↔ Q (some (.int i)) h := R_zret rfl rfl hx
theorem s205_250 : Runs 205 250 [x0, some (.ref a), x2, x3] st h Q ↔ Runs 205 251 [x0, some (.ref a), x2, x3] (.ref a :: st) h Q := R_aldn rfl rfl
theorem s205_250q : Runs 205 250 [x0, some (zrf r), x2, x3] st h Q ↔ Runs 205 251 [x0, some (zrf r), x2, x3] (zrf r :: st) h Q := R_aldnq rfl rfl
theorem s205_251 : Runs 205 251 [some (.ref a), x1, x2, x3] st h Q ↔ Runs 205 252 [some (.ref a), x1, x2, x3] (.ref a :: st) h Q := R_aldn rfl rfl
theorem s205_251q : Runs 205 251 [some (zrf r), x1, x2, x3] st h Q ↔ Runs 205 252 [some (zrf r), x1, x2, x3] (zrf r :: st) h Q := R_aldnq rfl rfl
theorem s205_252 : Runs 205 252 [x0, x1, x2, some (.int i)] st h Q ↔ Runs 205 253 [x0, x1, x2, some (.int i)] (.int i :: st) h Q := R_ildn rfl rfl
theorem s205_253 : Runs 205 253 ls st h Q ↔ Runs 205 254 ls (.int 1 :: st) h Q := R_iconst rfl rfl
theorem s205_254 : Runs 205 254 ls (.int j :: .int i :: st) h Q ↔ Runs 205 255 ls (.int (i + j) :: st) h Q := R_iadd rfl
theorem s205_255 (ht : tg a = 20) : Runs 205 255 ls (.int i :: .ref a :: st) (n, tg, ln, I, J, O) Q ↔ ((0 ≤ i ∧ i < Int32.ofNat (ln a)) ∧ Runs 205 256 ls (.int (I a i) :: st) (n, tg, ln, I, J, O) Q) := R_iald rfl ht
theorem s205_255q (ht : tg a = 30) : Runs 205 255 ls (.int i :: .ref a :: st) (n, tg, ln, I, J, O) Q ↔ ((0 ≤ i ∧ i < Int32.ofNat (ln a)) ∧ Runs 205 256 ls (.int (I a i) :: st) (n, tg, ln, I, J, O) Q) := R_iald0 rfl ht
theorem s205_256 : Runs 205 256 [some (.ref a), x1, x2, x3] st h Q ↔ Runs 205 257 [some (.ref a), x1, x2, x3] (.ref a :: st) h Q := R_aldn rfl rfl
theorem s205_256q : Runs 205 256 [some (zrf r), x1, x2, x3] st h Q ↔ Runs 205 257 [some (zrf r), x1, x2, x3] (zrf r :: st) h Q := R_aldnq rfl rfl
theorem s205_257 : Runs 205 257 [x0, x1, x2, some (.int i)] st h Q ↔ Runs 205 258 [x0, x1, x2, some (.int i)] (.int i :: st) h Q := R_ildn rfl rfl
theorem s205_258 : Runs 205 258 ls st h Q ↔ Runs 205 259 ls (.int 2 :: st) h Q := R_iconst rfl rfl
theorem s205_259 : Runs 205 259 ls (.int j :: .int i :: st) h Q ↔ Runs 205 260 ls (.int (i + j) :: st) h Q := R_iadd rfl
theorem s205_260 (ht : tg a = 20) : Runs 205 260 ls (.int i :: .ref a :: st) (n, tg, ln, I, J, O) Q ↔ ((0 ≤ i ∧ i < Int32.ofNat (ln a)) ∧ Runs 205 261 ls (.int (I a i) :: st) (n, tg, ln, I, J, O) Q) := R_iald rfl ht
theorem s205_260q (ht : tg a = 30) : Runs 205 260 ls (.int i :: .ref a :: st) (n, tg, ln, I, J, O) Q ↔ ((0 ≤ i ∧ i < Int32.ofNat (ln a)) ∧ Runs 205 261 ls (.int (I a i) :: st) (n, tg, ln, I, J, O) Q) := R_iald0 rfl ht
theorem s205_261 (ht : tg a = 9) (hs : zsumc st ≤ 8) : Runs 205 261 ls (.int i1 :: .int i0 :: .ref a :: st) (n, tg, ln, I, J, O) Q ↔ Runs 84 0 [some (.ref a), some (.int i0), some (.int i1)] [] (n, tg, ln, I, J, O) (fun v h2 => Runs 205 264 ls (v.toList ++ st) h2 Q) := R_callv (a := a) (rest := st) rfl rfl rfl rfl rfl rfl rfl ht hs
theorem s205_264 : Runs 205 264 [x0, x1, some (.ref a), x3] st h Q ↔ Runs 205 265 [x0, x1, some (.ref a), x3] (.ref a :: st) h Q := R_aldn rfl rfl
theorem s205_264q : Runs 205 264 [x0, x1, some (zrf r), x3] st h Q ↔ Runs 205 265 [x0, x1, some (zrf r), x3] (zrf r :: st) h Q := R_aldnq rfl rfl
theorem s205_265 : Runs 205 265 [some (.ref a), x1, x2, x3] st h Q ↔ Runs 205 266 [some (.ref a), x1, x2, x3] (.ref a :: st) h Q := R_aldn rfl rfl
theorem s205_265q : Runs 205 265 [some (zrf r), x1, x2, x3] st h Q ↔ Runs 205 266 [some (zrf r), x1, x2, x3] (zrf r :: st) h Q := R_aldnq rfl rfl
theorem s205_266 : Runs 205 266 [x0, x1, x2, some (.int i)] st h Q ↔ Runs 205 267 [x0, x1, x2, some (.int i)] (.int i :: st) h Q := R_ildn rfl rfl
theorem s205_267 : Runs 205 267 ls st h Q ↔ Runs 205 268 ls (.int 1 :: st) h Q := R_iconst rfl rfl
theorem s205_268 : Runs 205 268 ls (.int j :: .int i :: st) h Q ↔ Runs 205 269 ls (.int (i + j) :: st) h Q := R_iadd rfl
theorem s205_269 (ht : tg a = 20) : Runs 205 269 ls (.int i :: .ref a :: st) (n, tg, ln, I, J, O) Q ↔ ((0 ≤ i ∧ i < Int32.ofNat (ln a)) ∧ Runs 205 270 ls (.int (I a i) :: st) (n, tg, ln, I, J, O) Q) := R_iald rfl ht
theorem s205_269q (ht : tg a = 30) : Runs 205 269 ls (.int i :: .ref a :: st) (n, tg, ln, I, J, O) Q ↔ ((0 ≤ i ∧ i < Int32.ofNat (ln a)) ∧ Runs 205 270 ls (.int (I a i) :: st) (n, tg, ln, I, J, O) Q) := R_iald0 rfl ht
theorem s205_270 : Runs 205 270 [some (.ref a), x1, x2, x3] st h Q ↔ Runs 205 271 [some (.ref a), x1, x2, x3] (.ref a :: st) h Q := R_aldn rfl rfl
theorem s205_270q : Runs 205 270 [some (zrf r), x1, x2, x3] st h Q ↔ Runs 205 271 [some (zrf r), x1, x2, x3] (zrf r :: st) h Q := R_aldnq rfl rfl
theorem s205_271 : Runs 205 271 [x0, x1, x2, some (.int i)] st h Q ↔ Runs 205 272 [x0, x1, x2, some (.int i)] (.int i :: st) h Q := R_ildn rfl rfl
theorem s205_272 : Runs 205 272 ls st h Q ↔ Runs 205 273 ls (.int 2 :: st) h Q := R_iconst rfl rfl
theorem s205_273 : Runs 205 273 ls (.int j :: .int i :: st) h Q ↔ Runs 205 274 ls (.int (i + j) :: st) h Q := R_iadd rfl
theorem s205_274 (ht : tg a = 20) : Runs 205 274 ls (.int i :: .ref a :: st) (n, tg, ln, I, J, O) Q ↔ ((0 ≤ i ∧ i < Int32.ofNat (ln a)) ∧ Runs 205 275 ls (.int (I a i) :: st) (n, tg, ln, I, J, O) Q) := R_iald rfl ht
theorem s205_274q (ht : tg a = 30) : Runs 205 274 ls (.int i :: .ref a :: st) (n, tg, ln, I, J, O) Q ↔ ((0 ≤ i ∧ i < Int32.ofNat (ln a)) ∧ Runs 205 275 ls (.int (I a i) :: st) (n, tg, ln, I, J, O) Q) := R_iald0 rfl ht
theorem s205_275 (ht : tg a = 10) (hs : zsumc st ≤ 8) : Runs 205 275 ls (.int i1 :: .int i0 :: .ref a :: st) (n, tg, ln, I, J, O) Q ↔ Runs 154 0 [some (.ref a), some (.int i0), some (.int i1), none] [] (n, tg, ln, I, J, O) (fun v h2 => Runs 205 278 ls (v.toList ++ st) h2 Q) := R_callv (a := a) (rest := st) rfl rfl rfl rfl rfl rfl rfl ht hs
theorem s205_278 : Runs 205 278 ls (.int j :: .int i :: st) h Q ↔ if i = j then Runs 205 1193 ls st h Q else Runs 205 281 ls st h Q := R_iceq rfl rfl
theorem s205_281 : Runs 205 281 ls st h Q ↔ Runs 205 282 ls (.int 0 :: st) h Q := R_iconst rfl rfl
theorem s205_282 (hx : i = 0 ∨ i = 1) : Runs 205 282 ls [.int i] h Q ↔ Q (some (.int i)) h := R_zret rfl rfl hx
theorem s205_283 : Runs 205 283 [x0, some (.ref a), x2, x3] st h Q ↔ Runs 205 284 [x0, some (.ref a), x2, x3] (.ref a :: st) h Q := R_aldn rfl rfl
theorem s205_283q : Runs 205 283 [x0, some (zrf r), x2, x3] st h Q ↔ Runs 205 284 [x0, some (zrf r), x2, x3] (zrf r :: st) h Q := R_aldnq rfl rfl
theorem s205_284 : Runs 205 284 [some (.ref a), x1, x2, x3] st h Q ↔ Runs 205 285 [some (.ref a), x1, x2, x3] (.ref a :: st) h Q := R_aldn rfl rfl
theorem s205_284q : Runs 205 284 [some (zrf r), x1, x2, x3] st h Q ↔ Runs 205 285 [some (zrf r), x1, x2, x3] (zrf r :: st) h Q := R_aldnq rfl rfl
theorem s205_285 : Runs 205 285 [x0, x1, x2, some (.int i)] st h Q ↔ Runs 205 286 [x0, x1, x2, some (.int i)] (.int i :: st) h Q := R_ildn rfl rfl
theorem s205_286 : Runs 205 286 ls st h Q ↔ Runs 205 287 ls (.int 1 :: st) h Q := R_iconst rfl rfl
theorem s205_287 : Runs 205 287 ls (.int j :: .int i :: st) h Q ↔ Runs 205 288 ls (.int (i + j) :: st) h Q := R_iadd rfl
theorem s205_288 (ht : tg a = 20) : Runs 205 288 ls (.int i :: .ref a :: st) (n, tg, ln, I, J, O) Q ↔ ((0 ≤ i ∧ i < Int32.ofNat (ln a)) ∧ Runs 205 289 ls (.int (I a i) :: st) (n, tg, ln, I, J, O) Q) := R_iald rfl ht
theorem s205_288q (ht : tg a = 30) : Runs 205 288 ls (.int i :: .ref a :: st) (n, tg, ln, I, J, O) Q ↔ ((0 ≤ i ∧ i < Int32.ofNat (ln a)) ∧ Runs 205 289 ls (.int (I a i) :: st) (n, tg, ln, I, J, O) Q) := R_iald0 rfl ht
theorem s205_289 : Runs 205 289 [some (.ref a), x1, x2, x3] st h Q ↔ Runs 205 290 [some (.ref a), x1, x2, x3] (.ref a :: st) h Q := R_aldn rfl rfl
theorem s205_289q : Runs 205 289 [some (zrf r), x1, x2, x3] st h Q ↔ Runs 205 290 [some (zrf r), x1, x2, x3] (zrf r :: st) h Q := R_aldnq rfl rfl
theorem s205_290 : Runs 205 290 [x0, x1, x2, some (.int i)] st h Q ↔ Runs 205 291 [x0, x1, x2, some (.int i)] (.int i :: st) h Q := R_ildn rfl rfl
theorem s205_291 : Runs 205 291 ls st h Q ↔ Runs 205 292 ls (.int 2 :: st) h Q := R_iconst rfl rfl
theorem s205_292 : Runs 205 292 ls (.int j :: .int i :: st) h Q ↔ Runs 205 293 ls (.int (i + j) :: st) h Q := R_iadd rfl
theorem s205_293 (ht : tg a = 20) : Runs 205 293 ls (.int i :: .ref a :: st) (n, tg, ln, I, J, O) Q ↔ ((0 ≤ i ∧ i < Int32.ofNat (ln a)) ∧ Runs 205 294 ls (.int (I a i) :: st) (n, tg, ln, I, J, O) Q) := R_iald rfl ht
theorem s205_293q (ht : tg a = 30) : Runs 205 293 ls (.int i :: .ref a :: st) (n, tg, ln, I, J, O) Q ↔ ((0 ≤ i ∧ i < Int32.ofNat (ln a)) ∧ Runs 205 294 ls (.int (I a i) :: st) (n, tg, ln, I, J, O) Q) := R_iald0 rfl ht
theorem s205_294 (ht : tg a = 9) (hs : zsumc st ≤ 8) : Runs 205 294 ls (.int i1 :: .int i0 :: .ref a :: st) (n, tg, ln, I, J, O) Q ↔ Runs 85 0 [some (.ref a), some (.int i0), some (.int i1)] [] (n, tg, ln, I, J, O) (fun v h2 => Runs 205 297 ls (v.toList ++ st) h2 Q) := R_callv (a := a) (rest := st) rfl rfl rfl rfl rfl rfl rfl ht hs
theorem s205_297 : Runs 205 297 [x0, x1, some (.ref a), x3] st h Q ↔ Runs 205 298 [x0, x1, some (.ref a), x3] (.ref a :: st) h Q := R_aldn rfl rfl
theorem s205_297q : Runs 205 297 [x0, x1, some (zrf r), x3] st h Q ↔ Runs 205 298 [x0, x1, some (zrf r), x3] (zrf r :: st) h Q := R_aldnq rfl rfl
theorem s205_298 : Runs 205 298 [some (.ref a), x1, x2, x3] st h Q ↔ Runs 205 299 [some (.ref a), x1, x2, x3] (.ref a :: st) h Q := R_aldn rfl rfl
theorem s205_298q : Runs 205 298 [some (zrf r), x1, x2, x3] st h Q ↔ Runs 205 299 [some (zrf r), x1, x2, x3] (zrf r :: st) h Q := R_aldnq rfl rfl
theorem s205_299 : Runs 205 299 [x0, x1, x2, some (.int i)] st h Q ↔ Runs 205 300 [x0, x1, x2, some (.int i)] (.int i :: st) h Q := R_ildn rfl rfl
theorem s205_300 : Runs 205 300 ls st h Q ↔ Runs 205 301 ls (.int 1 :: st) h Q := R_iconst rfl rfl
theorem s205_301 : Runs 205 301 ls (.int j :: .int i :: st) h Q ↔ Runs 205 302 ls (.int (i + j) :: st) h Q := R_iadd rfl
theorem s205_302 (ht : tg a = 20) : Runs 205 302 ls (.int i :: .ref a :: st) (n, tg, ln, I, J, O) Q ↔ ((0 ≤ i ∧ i < Int32.ofNat (ln a)) ∧ Runs 205 303 ls (.int (I a i) :: st) (n, tg, ln, I, J, O) Q) := R_iald rfl ht
theorem s205_302q (ht : tg a = 30) : Runs 205 302 ls (.int i :: .ref a :: st) (n, tg, ln, I, J, O) Q ↔ ((0 ≤ i ∧ i < Int32.ofNat (ln a)) ∧ Runs 205 303 ls (.int (I a i) :: st) (n, tg, ln, I, J, O) Q) := R_iald0 rfl ht
theorem s205_303 : Runs 205 303 [some (.ref a), x1, x2, x3] st h Q ↔ Runs 205 304 [some (.ref a), x1, x2, x3] (.ref a :: st) h Q := R_aldn rfl rfl
theorem s205_303q : Runs 205 303 [some (zrf r), x1, x2, x3] st h Q ↔ Runs 205 304 [some (zrf r), x1, x2, x3] (zrf r :: st) h Q := R_aldnq rfl rfl
theorem s205_304 : Runs 205 304 [x0, x1, x2, some (.int i)] st h Q ↔ Runs 205 305 [x0, x1, x2, some (.int i)] (.int i :: st) h Q := R_ildn rfl rfl
theorem s205_305 : Runs 205 305 ls st h Q ↔ Runs 205 306 ls (.int 2 :: st) h Q := R_iconst rfl rfl
theorem s205_306 : Runs 205 306 ls (.int j :: .int i :: st) h Q ↔ Runs 205 307 ls (.int (i + j) :: st) h Q := R_iadd rfl
theorem s205_307 (ht : tg a = 20) : Runs 205 307 ls (.int i :: .ref a :: st) (n, tg, ln, I, J, O) Q ↔ ((0 ≤ i ∧ i < Int32.ofNat (ln a)) ∧ Runs 205 308 ls (.int (I a i) :: st) (n, tg, ln, I, J, O) Q) := R_iald rfl ht
theorem s205_307q (ht : tg a = 30) : Runs 205 307 ls (.int i :: .ref a :: st) (n, tg, ln, I, J, O) Q ↔ ((0 ≤ i ∧ i < Int32.ofNat (ln a)) ∧ Runs 205 308 ls (.int (I a i) :: st) (n, tg, ln, I, J, O) Q) := R_iald0 rfl ht
theorem s205_308 (ht : tg a = 10) (hs : zsumc st ≤ 8) : Runs 205 308 ls (.int i1 :: .int i0 :: .ref a :: st) (n, tg, ln, I, J, O) Q ↔ Runs 155 0 [some (.ref a), some (.int i0), some (.int i1)] [] (n, tg, ln, I, J, O) (fun v h2 => Runs 205 311 ls (v.toList ++ st) h2 Q) := R_callv (a := a) (rest := st) rfl rfl rfl rfl rfl rfl rfl ht hs
theorem s205_311 : Runs 205 311 ls (.int j :: .int i :: st) h Q ↔ if i = j then Runs 205 1193 ls st h Q else Runs 205 314 ls st h Q := R_iceq rfl rfl
theorem s205_314 : Runs 205 314 ls st h Q ↔ Runs 205 315 ls (.int 0 :: st) h Q := R_iconst rfl rfl
theorem s205_315 (hx : i = 0 ∨ i = 1) : Runs 205 315 ls [.int i] h Q ↔ Q (some (.int i)) h := R_zret rfl rfl hx
theorem s205_316 : Runs 205 316 [x0, some (.ref a), x2, x3] st h Q ↔ Runs 205 317 [x0, some (.ref a), x2, x3] (.ref a :: st) h Q := R_aldn rfl rfl
theorem s205_316q : Runs 205 316 [x0, some (zrf r), x2, x3] st h Q ↔ Runs 205 317 [x0, some (zrf r), x2, x3] (zrf r :: st) h Q := R_aldnq rfl rfl
theorem s205_317 : Runs 205 317 [some (.ref a), x1, x2, x3] st h Q ↔ Runs 205 318 [some (.ref a), x1, x2, x3] (.ref a :: st) h Q := R_aldn rfl rfl
theorem s205_317q : Runs 205 317 [some (zrf r), x1, x2, x3] st h Q ↔ Runs 205 318 [some (zrf r), x1, x2, x3] (zrf r :: st) h Q := R_aldnq rfl rfl
theorem s205_318 : Runs 205 318 [x0, x1, x2, some (.int i)] st h Q ↔ Runs 205 319 [x0, x1, x2, some (.int i)] (.int i :: st) h Q := R_ildn rfl rfl
theorem s205_319 : Runs 205 319 ls st h Q ↔ Runs 205 320 ls (.int 1 :: st) h Q := R_iconst rfl rfl
theorem s205_320 : Runs 205 320 ls (.int j :: .int i :: st) h Q ↔ Runs 205 321 ls (.int (i + j) :: st) h Q := R_iadd rfl
theorem s205_321 (ht : tg a = 20) : Runs 205 321 ls (.int i :: .ref a :: st) (n, tg, ln, I, J, O) Q ↔ ((0 ≤ i ∧ i < Int32.ofNat (ln a)) ∧ Runs 205 322 ls (.int (I a i) :: st) (n, tg, ln, I, J, O) Q) := R_iald rfl ht
theorem s205_321q (ht : tg a = 30) : Runs 205 321 ls (.int i :: .ref a :: st) (n, tg, ln, I, J, O) Q ↔ ((0 ≤ i ∧ i < Int32.ofNat (ln a)) ∧ Runs 205 322 ls (.int (I a i) :: st) (n, tg, ln, I, J, O) Q) := R_iald0 rfl ht
theorem s205_322 : Runs 205 322 [some (.ref a), x1, x2, x3] st h Q ↔ Runs 205 323 [some (.ref a), x1, x2, x3] (.ref a :: st) h Q := R_aldn rfl rfl
theorem s205_322q : Runs 205 322 [some (zrf r), x1, x2, x3] st h Q ↔ Runs 205 323 [some (zrf r), x1, x2, x3] (zrf r :: st) h Q := R_aldnq rfl rfl
theorem s205_323 : Runs 205 323 [x0, x1, x2, some (.int i)] st h Q ↔ Runs 205 324 [x0, x1, x2, some (.int i)] (.int i :: st) h Q := R_ildn rfl rfl
theorem s205_324 : Runs 205 324 ls st h Q ↔ Runs 205 325 ls (.int 2 :: st) h Q := R_iconst rfl rfl
theorem s205_325 : Runs 205 325 ls (.int j :: .int i :: st) h Q ↔ Runs 205 326 ls (.int (i + j) :: st) h Q := R_iadd rfl
theorem s205_326 (ht : tg a = 20) : Runs 205 326 ls (.int i :: .ref a :: st) (n, tg, ln, I, J, O) Q ↔ ((0 ≤ i ∧ i < Int32.ofNat (ln a)) ∧ Runs 205 327 ls (.int (I a i) :: st) (n, tg, ln, I, J, O) Q) := R_iald rfl ht
theorem s205_326q (ht : tg a = 30) : Runs 205 326 ls (.int i :: .ref a :: st) (n, tg, ln, I, J, O) Q ↔ ((0 ≤ i ∧ i < Int32.ofNat (ln a)) ∧ Runs 205 327 ls (.int (I a i) :: st) (n, tg, ln, I, J, O) Q) := R_iald0 rfl ht
theorem s205_327 (ht : tg a = 9) (hs : zsumc st ≤ 8) : Runs 205 327 ls (.int i1 :: .int i0 :: .ref a :: st) (n, tg, ln, I, J, O) Q ↔ Runs 86 0 [some (.ref a), some (.int i0), some (.int i1), none] [] (n, tg, ln, I, J, O) (fun v h2 => Runs 205 330 ls (v.toList ++ st) h2 Q) := R_callv (a := a) (rest := st) rfl rfl rfl rfl rfl rfl rfl ht hs
theorem s205_330 : Runs 205 330 [x0, x1, some (.ref a), x3] st h Q ↔ Runs 205 331 [x0, x1, some (.ref a), x3] (.ref a :: st) h Q := R_aldn rfl rfl
theorem s205_330q : Runs 205 330 [x0, x1, some (zrf r), x3] st h Q ↔ Runs 205 331 [x0, x1, some (zrf r), x3] (zrf r :: st) h Q := R_aldnq rfl rfl
theorem s205_331 : Runs 205 331 [some (.ref a), x1, x2, x3] st h Q ↔ Runs 205 332 [some (.ref a), x1, x2, x3] (.ref a :: st) h Q := R_aldn rfl rfl
theorem s205_331q : Runs 205 331 [some (zrf r), x1, x2, x3] st h Q ↔ Runs 205 332 [some (zrf r), x1, x2, x3] (zrf r :: st) h Q := R_aldnq rfl rfl
theorem s205_332 : Runs 205 332 [x0, x1, x2, some (.int i)] st h Q ↔ Runs 205 333 [x0, x1, x2, some (.int i)] (.int i :: st) h Q := R_ildn rfl rfl
theorem s205_333 : Runs 205 333 ls st h Q ↔ Runs 205 334 ls (.int 1 :: st) h Q := R_iconst rfl rfl
theorem s205_334 : Runs 205 334 ls (.int j :: .int i :: st) h Q ↔ Runs 205 335 ls (.int (i + j) :: st) h Q := R_iadd rfl
theorem s205_335 (ht : tg a = 20) : Runs 205 335 ls (.int i :: .ref a :: st) (n, tg, ln, I, J, O) Q ↔ ((0 ≤ i ∧ i < Int32.ofNat (ln a)) ∧ Runs 205 336 ls (.int (I a i) :: st) (n, tg, ln, I, J, O) Q) := R_iald rfl ht
theorem s205_335q (ht : tg a = 30) : Runs 205 335 ls (.int i :: .ref a :: st) (n, tg, ln, I, J, O) Q ↔ ((0 ≤ i ∧ i < Int32.ofNat (ln a)) ∧ Runs 205 336 ls (.int (I a i) :: st) (n, tg, ln, I, J, O) Q) := R_iald0 rfl ht
theorem s205_336 : Runs 205 336 [some (.ref a), x1, x2, x3] st h Q ↔ Runs 205 337 [some (.ref a), x1, x2, x3] (.ref a :: st) h Q := R_aldn rfl rfl
theorem s205_336q : Runs 205 336 [some (zrf r), x1, x2, x3] st h Q ↔ Runs 205 337 [some (zrf r), x1, x2, x3] (zrf r :: st) h Q := R_aldnq rfl rfl
theorem s205_337 : Runs 205 337 [x0, x1, x2, some (.int i)] st h Q ↔ Runs 205 338 [x0, x1, x2, some (.int i)] (.int i :: st) h Q := R_ildn rfl rfl
theorem s205_338 : Runs 205 338 ls st h Q ↔ Runs 205 339 ls (.int 2 :: st) h Q := R_iconst rfl rfl
theorem s205_339 : Runs 205 339 ls (.int j :: .int i :: st) h Q ↔ Runs 205 340 ls (.int (i + j) :: st) h Q := R_iadd rfl
theorem s205_340 (ht : tg a = 20) : Runs 205 340 ls (.int i :: .ref a :: st) (n, tg, ln, I, J, O) Q ↔ ((0 ≤ i ∧ i < Int32.ofNat (ln a)) ∧ Runs 205 341 ls (.int (I a i) :: st) (n, tg, ln, I, J, O) Q) := R_iald rfl ht
theorem s205_340q (ht : tg a = 30) : Runs 205 340 ls (.int i :: .ref a :: st) (n, tg, ln, I, J, O) Q ↔ ((0 ≤ i ∧ i < Int32.ofNat (ln a)) ∧ Runs 205 341 ls (.int (I a i) :: st) (n, tg, ln, I, J, O) Q) := R_iald0 rfl ht
theorem s205_341 (ht : tg a = 10) (hs : zsumc st ≤ 8) : Runs 205 341 ls (.int i1 :: .int i0 :: .ref a :: st) (n, tg, ln, I, J, O) Q ↔ Runs 156 0 [some (.ref a), some (.int i0), some (.int i1), none, none] [] (n, tg, ln, I, J, O) (fun v h2 => Runs 205 344 ls (v.toList ++ st) h2 Q) := R_callv (a := a) (rest := st) rfl rfl rfl rfl rfl rfl rfl ht hs
theorem s205_344 : Runs 205 344 ls (.int j :: .int i :: st) h Q ↔ if i = j then Runs 205 1193 ls st h Q else Runs 205 347 ls st h Q := R_iceq rfl rfl
theorem s205_347 : Runs 205 347 ls st h Q ↔ Runs 205 348 ls (.int 0 :: st) h Q := R_iconst rfl rfl
theorem s205_348 (hx : i = 0 ∨ i = 1) : Runs 205 348 ls [.int i] h Q ↔ Q (some (.int i)) h := R_zret rfl rfl hx
theorem s205_349 : Runs 205 349 [x0, some (.ref a), x2, x3] st h Q ↔ Runs 205 350 [x0, some (.ref a), x2, x3] (.ref a :: st) h Q := R_aldn rfl rfl
theorem s205_349q : Runs 205 349 [x0, some (zrf r), x2, x3] st h Q ↔ Runs 205 350 [x0, some (zrf r), x2, x3] (zrf r :: st) h Q := R_aldnq rfl rfl
theorem s205_350 (ht : tg a = 9) (hs : zsumc st ≤ 8) : Runs 205 350 ls (.ref a :: st) (n, tg, ln, I, J, O) Q ↔ Runs 87 0 [some (.ref a)] [] (n, tg, ln, I, J, O) (fun v h2 => Runs 205 353 ls (v.toList ++ st) h2 Q) := R_callv (a := a) (rest := st) rfl rfl rfl rfl rfl rfl rfl ht hs
theorem s205_353 : Runs 205 353 [x0, x1, some (.ref a), x3] st h Q ↔ Runs 205 354 [x0, x1, some (.ref a), x3] (.ref a :: st) h Q := R_aldn rfl rfl
theorem s205_353q : Runs 205 353 [x0, x1, some (zrf r), x3] st h Q ↔ Runs 205 354 [x0, x1, some (zrf r), x3] (zrf r :: st) h Q := R_aldnq rfl rfl
theorem s205_354 (ht : tg a = 10) (hs : zsumc st ≤ 8) : Runs 205 354 ls (.ref a :: st) (n, tg, ln, I, J, O) Q ↔ Runs 164 0 [some (.ref a)] [] (n, tg, ln, I, J, O) (fun v h2 => Runs 205 357 ls (v.toList ++ st) h2 Q) := R_callv (a := a) (rest := st) rfl rfl rfl rfl rfl rfl rfl ht hs
theorem s205_357 : Runs 205 357 ls (.int j :: .int i :: st) h Q ↔ if i = j then Runs 205 1193 ls st h Q else Runs 205 360 ls st h Q := R_iceq rfl rfl
theorem s205_360 : Runs 205 360 ls st h Q ↔ Runs 205 361 ls (.int 0 :: st) h Q := R_iconst rfl rfl
theorem s205_361 (hx : i = 0 ∨ i = 1) : Runs 205 361 ls [.int i] h Q ↔ Q (some (.int i)) h := R_zret rfl rfl hx
theorem s205_362 : Runs 205 362 [x0, some (.ref a), x2, x3] st h Q ↔ Runs 205 363 [x0, some (.ref a), x2, x3] (.ref a :: st) h Q := R_aldn rfl rfl
theorem s205_362q : Runs 205 362 [x0, some (zrf r), x2, x3] st h Q ↔ Runs 205 363 [x0, some (zrf r), x2, x3] (zrf r :: st) h Q := R_aldnq rfl rfl
theorem s205_363 : Runs 205 363 [some (.ref a), x1, x2, x3] st h Q ↔ Runs 205 364 [some (.ref a), x1, x2, x3] (.ref a :: st) h Q := R_aldn rfl rfl
theorem s205_363q : Runs 205 363 [some (zrf r), x1, x2, x3] st h Q ↔ Runs 205 364 [some (zrf r), x1, x2, x3] (zrf r :: st) h Q := R_aldnq rfl rfl
theorem s205_364 : Runs 205 364 [x0, x1, x2, some (.int i)] st h Q ↔ Runs 205 365 [x0, x1, x2, some (.int i)] (.int i :: st) h Q := R_ildn rfl rfl
theorem s205_365 : Runs 205 365 ls st h Q ↔ Runs 205 366 ls (.int 1 :: st) h Q := R_iconst rfl rfl
theorem s205_366 : Runs 205 366 ls (.int j :: .int i :: st) h Q ↔ Runs 205 367 ls (.int (i + j) :: st) h Q := R_iadd rfl
theorem s205_367 (ht : tg a = 20) : Runs 205 367 ls (.int i :: .ref a :: st) (n, tg, ln, I, J, O) Q ↔ ((0 ≤ i ∧ i < Int32.ofNat (ln a)) ∧ Runs 205 368 ls (.int (I a i) :: st) (n, tg, ln, I, J, O) Q) := R_iald rfl ht
theorem s205_367q (ht : tg a = 30) : Runs 205 367 ls (.int i :: .ref a :: st) (n, tg, ln, I, J, O) Q ↔ ((0 ≤ i ∧ i < Int32.ofNat (ln a)) ∧ Runs 205 368 ls (.int (I a i) :: st) (n, tg, ln, I, J, O) Q) := R_iald0 rfl ht
theorem s205_368 : Runs 205 368 [some (.ref a), x1, x2, x3] st h Q ↔ Runs 205 369 [some (.ref a), x1, x2, x3] (.ref a :: st) h Q := R_aldn rfl rfl
theorem s205_368q : Runs 205 368 [some (zrf r), x1, x2, x3] st h Q ↔ Runs 205 369 [some (zrf r), x1, x2, x3] (zrf r :: st) h Q := R_aldnq rfl rfl
theorem s205_369 : Runs 205 369 [x0, x1, x2, some (.int i)] st h Q ↔ Runs 205 370 [x0, x1, x2, some (.int i)] (.int i :: st) h Q := R_ildn rfl rfl
theorem s205_370 : Runs 205 370 ls st h Q ↔ Runs 205 371 ls (.int 2 :: st) h Q := R_iconst rfl rfl
theorem s205_371 : Runs 205 371 ls (.int j :: .int i :: st) h Q ↔ Runs 205 372 ls (.int (i + j) :: st) h Q := R_iadd rfl
theorem s205_372 (ht : tg a = 20) : Runs 205 372 ls (.int i :: .ref a :: st) (n, tg, ln, I, J, O) Q ↔ ((0 ≤ i ∧ i < Int32.ofNat (ln a)) ∧ Runs 205 373 ls (.int (I a i) :: st) (n, tg, ln, I, J, O) Q) := R_iald rfl ht
theorem s205_372q (ht : tg a = 30) : Runs 205 372 ls (.int i :: .ref a :: st) (n, tg, ln, I, J, O) Q ↔ ((0 ≤ i ∧ i < Int32.ofNat (ln a)) ∧ Runs 205 373 ls (.int (I a i) :: st) (n, tg, ln, I, J, O) Q) := R_iald0 rfl ht
theorem s205_373 : Runs 205 373 [some (.ref a), x1, x2, x3] st h Q ↔ Runs 205 374 [some (.ref a), x1, x2, x3] (.ref a :: st) h Q := R_aldn rfl rfl
theorem s205_373q : Runs 205 373 [some (zrf r), x1, x2, x3] st h Q ↔ Runs 205 374 [some (zrf r), x1, x2, x3] (zrf r :: st) h Q := R_aldnq rfl rfl
theorem s205_374 : Runs 205 374 [x0, x1, x2, some (.int i)] st h Q ↔ Runs 205 375 [x0, x1, x2, some (.int i)] (.int i :: st) h Q := R_ildn rfl rfl
theorem s205_375 : Runs 205 375 ls st h Q ↔ Runs 205 376 ls (.int 3 :: st) h Q := R_iconst rfl rfl
theorem s205_376 : Runs 205 376 ls (.int j :: .int i :: st) h Q ↔ Runs 205 377 ls (.int (i + j) :: st) h Q := R_iadd rfl
theorem s205_377 (ht : tg a = 20) : Runs 205 377 ls (.int i :: .ref a :: st) (n, tg, ln, I, J, O) Q ↔ ((0 ≤ i ∧ i < Int32.ofNat (ln a)) ∧ Runs 205 378 ls (.int (I a i) :: st) (n, tg, ln, I, J, O) Q) := R_iald rfl ht
theorem s205_377q (ht : tg a = 30) : Runs 205 377 ls (.int i :: .ref a :: st) (n, tg, ln, I, J, O) Q ↔ ((0 ≤ i ∧ i < Int32.ofNat (ln a)) ∧ Runs 205 378 ls (.int (I a i) :: st) (n, tg, ln, I, J, O) Q) := R_iald0 rfl ht
theorem s205_378 (ht : tg a = 9) (hs : zsumc st ≤ 8) : Runs 205 378 ls (.int i2 :: .int i1 :: .int i0 :: .ref a :: st) (n, tg, ln, I, J, O) Q ↔ Runs 88 0 [some (.ref a), some (.int i0), some (.int i1), some (.int i2)] [] (n, tg, ln, I, J, O) (fun v h2 => Runs 205 381 ls (v.toList ++ st) h2 Q) := R_callv (a := a) (rest := st) rfl rfl rfl rfl rfl rfl rfl ht hs
theorem s205_381 : Runs 205 381 [x0, x1, some (.ref a), x3] st h Q ↔ Runs 205 382 [x0, x1, some (.ref a), x3] (.ref a :: st) h Q := R_aldn rfl rfl
theorem s205_381q : Runs 205 381 [x0, x1, some (zrf r), x3] st h Q ↔ Runs 205 382 [x0, x1, some (zrf r), x3] (zrf r :: st) h Q := R_aldnq rfl rfl
theorem s205_382 : Runs 205 382 [some (.ref a), x1, x2, x3] st h Q ↔ Runs 205 383 [some (.ref a), x1, x2, x3] (.ref a :: st) h Q := R_aldn rfl rfl
theorem s205_382q : Runs 205 382 [some (zrf r), x1, x2, x3] st h Q ↔ Runs 205 383 [some (zrf r), x1, x2, x3] (zrf r :: st) h Q := R_aldnq rfl rfl
theorem s205_383 : Runs 205 383 [x0, x1, x2, some (.int i)] st h Q ↔ Runs 205 384 [x0, x1, x2, some (.int i)] (.int i :: st) h Q := R_ildn rfl rfl
theorem s205_384 : Runs 205 384 ls st h Q ↔ Runs 205 385 ls (.int 1 :: st) h Q := R_iconst rfl rfl
theorem s205_385 : Runs 205 385 ls (.int j :: .int i :: st) h Q ↔ Runs 205 386 ls (.int (i + j) :: st) h Q := R_iadd rfl
theorem s205_386 (ht : tg a = 20) : Runs 205 386 ls (.int i :: .ref a :: st) (n, tg, ln, I, J, O) Q ↔ ((0 ≤ i ∧ i < Int32.ofNat (ln a)) ∧ Runs 205 387 ls (.int (I a i) :: st) (n, tg, ln, I, J, O) Q) := R_iald rfl ht
theorem s205_386q (ht : tg a = 30) : Runs 205 386 ls (.int i :: .ref a :: st) (n, tg, ln, I, J, O) Q ↔ ((0 ≤ i ∧ i < Int32.ofNat (ln a)) ∧ Runs 205 387 ls (.int (I a i) :: st) (n, tg, ln, I, J, O) Q) := R_iald0 rfl ht
theorem s205_387 : Runs 205 387 [some (.ref a), x1, x2, x3] st h Q ↔ Runs 205 388 [some (.ref a), x1, x2, x3] (.ref a :: st) h Q := R_aldn rfl rfl
theorem s205_387q : Runs 205 387 [some (zrf r), x1, x2, x3] st h Q ↔ Runs 205 388 [some (zrf r), x1, x2, x3] (zrf r :: st) h Q := R_aldnq rfl rfl
theorem s205_388 : Runs 205 388 [x0, x1, x2, some (.int i)] st h Q ↔ Runs 205 389 [x0, x1, x2, some (.int i)] (.int i :: st) h Q := R_ildn rfl rfl
theorem s205_389 : Runs 205 389 ls st h Q ↔ Runs 205 390 ls (.int 2 :: st) h Q := R_iconst rfl rfl
theorem s205_390 : Runs 205 390 ls (.int j :: .int i :: st) h Q ↔ Runs 205 391 ls (.int (i + j) :: st) h Q := R_iadd rfl
theorem s205_391 (ht : tg a = 20) : Runs 205 391 ls (.int i :: .ref a :: st) (n, tg, ln, I, J, O) Q ↔ ((0 ≤ i ∧ i < Int32.ofNat (ln a)) ∧ Runs 205 392 ls (.int (I a i) :: st) (n, tg, ln, I, J, O) Q) := R_iald rfl ht
theorem s205_391q (ht : tg a = 30) : Runs 205 391 ls (.int i :: .ref a :: st) (n, tg, ln, I, J, O) Q ↔ ((0 ≤ i ∧ i < Int32.ofNat (ln a)) ∧ Runs 205 392 ls (.int (I a i) :: st) (n, tg, ln, I, J, O) Q) := R_iald0 rfl ht
theorem s205_392 : Runs 205 392 [some (.ref a), x1, x2, x3] st h Q ↔ Runs 205 393 [some (.ref a), x1, x2, x3] (.ref a :: st) h Q := R_aldn rfl rfl
theorem s205_392q : Runs 205 392 [some (zrf r), x1, x2, x3] st h Q ↔ Runs 205 393 [some (zrf r), x1, x2, x3] (zrf r :: st) h Q := R_aldnq rfl rfl
theorem s205_393 : Runs 205 393 [x0, x1, x2, some (.int i)] st h Q ↔ Runs 205 394 [x0, x1, x2, some (.int i)] (.int i :: st) h Q := R_ildn rfl rfl
theorem s205_394 : Runs 205 394 ls st h Q ↔ Runs 205 395 ls (.int 3 :: st) h Q := R_iconst rfl rfl
theorem s205_395 : Runs 205 395 ls (.int j :: .int i :: st) h Q ↔ Runs 205 396 ls (.int (i + j) :: st) h Q := R_iadd rfl
theorem s205_396 (ht : tg a = 20) : Runs 205 396 ls (.int i :: .ref a :: st) (n, tg, ln, I, J, O) Q ↔ ((0 ≤ i ∧ i < Int32.ofNat (ln a)) ∧ Runs 205 397 ls (.int (I a i) :: st) (n, tg, ln, I, J, O) Q) := R_iald rfl ht
theorem s205_396q (ht : tg a = 30) : Runs 205 396 ls (.int i :: .ref a :: st) (n, tg, ln, I, J, O) Q ↔ ((0 ≤ i ∧ i < Int32.ofNat (ln a)) ∧ Runs 205 397 ls (.int (I a i) :: st) (n, tg, ln, I, J, O) Q) := R_iald0 rfl ht
theorem s205_397 (ht : tg a = 10) (hs : zsumc st ≤ 8) : Runs 205 397 ls (.int i2 :: .int i1 :: .int i0 :: .ref a :: st) (n, tg, ln, I, J, O) Q ↔ Runs 165 0 [some (.ref a), some (.int i0), some (.int i1), some (.int i2)] [] (n, tg, ln, I, J, O) (fun v h2 => Runs 205 400 ls (v.toList ++ st) h2 Q) := R_callv (a := a) (rest := st) rfl rfl rfl rfl rfl rfl rfl ht hs
theorem s205_400 : Runs 205 400 ls (.int j :: .int i :: st) h Q ↔ if i = j then Runs 205 1193 ls st h Q else Runs 205 403 ls st h Q := R_iceq rfl rfl
theorem s205_403 : Runs 205 403 ls st h Q ↔ Runs 205 404 ls (.int 0 :: st) h Q := R_iconst rfl rfl
theorem s205_404 (hx : i = 0 ∨ i = 1) : Runs 205 404 ls [.int i] h Q ↔ Q (some (.int i)) h := R_zret rfl rfl hx
theorem s205_405 : Runs 205 405 [x0, some (.ref a), x2, x3] st h Q ↔ Runs 205 406 [x0, some (.ref a), x2, x3] (.ref a :: st) h Q := R_aldn rfl rfl
theorem s205_405q : Runs 205 405 [x0, some (zrf r), x2, x3] st h Q ↔ Runs 205 406 [x0, some (zrf r), x2, x3] (zrf r :: st) h Q := R_aldnq rfl rfl
theorem s205_406 : Runs 205 406 [some (.ref a), x1, x2, x3] st h Q ↔ Runs 205 407 [some (.ref a), x1, x2, x3] (.ref a :: st) h Q := R_aldn rfl rfl
theorem s205_406q : Runs 205 406 [some (zrf r), x1, x2, x3] st h Q ↔ Runs 205 407 [some (zrf r), x1, x2, x3] (zrf r :: st) h Q := R_aldnq rfl rfl
theorem s205_407 : Runs 205 407 [x0, x1, x2, some (.int i)] st h Q ↔ Runs 205 408 [x0, x1, x2, some (.int i)] (.int i :: st) h Q := R_ildn rfl rfl
theorem s205_408 : Runs 205 408 ls st h Q ↔ Runs 205 409 ls (.int 1 :: st) h Q := R_iconst rfl rfl
theorem s205_409 : Runs 205 409 ls (.int j :: .int i :: st) h Q ↔ Runs 205 410 ls (.int (i + j) :: st) h Q := R_iadd rfl
theorem s205_410 (ht : tg a = 20) : Runs 205 410 ls (.int i :: .ref a :: st) (n, tg, ln, I, J, O) Q ↔ ((0 ≤ i ∧ i < Int32.ofNat (ln a)) ∧ Runs 205 411 ls (.int (I a i) :: st) (n, tg, ln, I, J, O) Q) := R_iald rfl ht
theorem s205_410q (ht : tg a = 30) : Runs 205 410 ls (.int i :: .ref a :: st) (n, tg, ln, I, J, O) Q ↔ ((0 ≤ i ∧ i < Int32.ofNat (ln a)) ∧ Runs 205 411 ls (.int (I a i) :: st) (n, tg, ln, I, J, O) Q) := R_iald0 rfl ht
theorem s205_411 (ht : tg a = 9) (hs : zsumc st ≤ 8) : Runs 205 411 ls (.int i0 :: .ref a :: st) (n, tg, ln, I, J, O) Q ↔ Runs 89 0 [some (.ref a), some (.int i0)] [] (n, tg, ln, I, J, O) (fun v h2 => Runs 205 414 ls (v.toList ++ st) h2 Q) := R_callv (a := a) (rest := st) rfl rfl rfl rfl rfl rfl rfl ht hs
theorem s205_414 : Runs 205 414 [x0, x1, some (.ref a), x3] st h Q ↔ Runs 205 415 [x0, x1, some (.ref a), x3] (.ref a :: st) h Q := R_aldn rfl rfl
theorem s205_414q : Runs 205 414 [x0, x1, some (zrf r), x3] st h Q ↔ Runs 205 415 [x0, x1, some (zrf r), x3] (zrf r :: st) h Q := R_aldnq rfl rfl
theorem s205_415 : Runs 205 415 [some (.ref a), x1, x2, x3] st h Q ↔ Runs 205 416 [some (.ref a), x1, x2, x3] (.ref a :: st) h Q := R_aldn rfl rfl
theorem s205_415q : Runs 205 415 [some (zrf r), x1, x2, x3] st h Q ↔ Runs 205 416 [some (zrf r), x1, x2, x3] (zrf r :: st) h Q := R_aldnq rfl rfl
theorem s205_416 : Runs 205 416 [x0, x1, x2, some (.int i)] st h Q ↔ Runs 205 417 [x0, x1, x2, some (.int i)] (.int i :: st) h Q := R_ildn rfl rfl
theorem s205_417 : Runs 205 417 ls st h Q ↔ Runs 205 418 ls (.int 1 :: st) h Q := R_iconst rfl rfl
theorem s205_418 : Runs 205 418 ls (.int j :: .int i :: st) h Q ↔ Runs 205 419 ls (.int (i + j) :: st) h Q := R_iadd rfl
theorem s205_419 (ht : tg a = 20) : Runs 205 419 ls (.int i :: .ref a :: st) (n, tg, ln, I, J, O) Q ↔ ((0 ≤ i ∧ i < Int32.ofNat (ln a)) ∧ Runs 205 420 ls (.int (I a i) :: st) (n, tg, ln, I, J, O) Q) := R_iald rfl ht
theorem s205_419q (ht : tg a = 30) : Runs 205 419 ls (.int i :: .ref a :: st) (n, tg, ln, I, J, O) Q ↔ ((0 ≤ i ∧ i < Int32.ofNat (ln a)) ∧ Runs 205 420 ls (.int (I a i) :: st) (n, tg, ln, I, J, O) Q) := R_iald0 rfl ht
theorem s205_420 (ht : tg a = 10) (hs : zsumc st ≤ 8) : Runs 205 420 ls (.int i0 :: .ref a :: st) (n, tg, ln, I, J, O) Q ↔ Runs 167 0 [some (.ref a), some (.int i0), none] [] (n, tg, ln, I, J, O) (fun v h2 => Runs 205 423 ls (v.toList ++ st) h2 Q) := R_callv (a := a) (rest := st) rfl rfl rfl rfl rfl rfl rfl ht hs
theorem s205_423 : Runs 205 423 ls (.int j :: .int i :: st) h Q ↔ if i = j then Runs 205 1193 ls st h Q else Runs 205 426 ls st h Q := R_iceq rfl rfl
theorem s205_426 : Runs 205 426 ls st h Q ↔ Runs 205 427 ls (.int 0 :: st) h Q := R_iconst rfl rfl
theorem s205_427 (hx : i = 0 ∨ i = 1) : Runs 205 427 ls [.int i] h Q ↔ Q (some (.int i)) h := R_zret rfl rfl hx
theorem s205_428 : Runs 205 428 [x0, some (.ref a), x2, x3] st h Q ↔ Runs 205 429 [x0, some (.ref a), x2, x3] (.ref a :: st) h Q := R_aldn rfl rfl
theorem s205_428q : Runs 205 428 [x0, some (zrf r), x2, x3] st h Q ↔ Runs 205 429 [x0, some (zrf r), x2, x3] (zrf r :: st) h Q := R_aldnq rfl rfl
theorem s205_429 : Runs 205 429 [some (.ref a), x1, x2, x3] st h Q ↔ Runs 205 430 [some (.ref a), x1, x2, x3] (.ref a :: st) h Q := R_aldn rfl rfl
theorem s205_429q : Runs 205 429 [some (zrf r), x1, x2, x3] st h Q ↔ Runs 205 430 [some (zrf r), x1, x2, x3] (zrf r :: st) h Q := R_aldnq rfl rfl
theorem s205_430 : Runs 205 430 [x0, x1, x2, some (.int i)] st h Q ↔ Runs 205 431 [x0, x1, x2, some (.int i)] (.int i :: st) h Q := R_ildn rfl rfl
theorem s205_431 : Runs 205 431 ls st h Q ↔ Runs 205 432 ls (.int 1 :: st) h Q := R_iconst rfl rfl
theorem s205_432 : Runs 205 432 ls (.int j :: .int i :: st) h Q ↔ Runs 205 433 ls (.int (i + j) :: st) h Q := R_iadd rfl
theorem s205_433 (ht : tg a = 20) : Runs 205 433 ls (.int i :: .ref a :: st) (n, tg, ln, I, J, O) Q ↔ ((0 ≤ i ∧ i < Int32.ofNat (ln a)) ∧ Runs 205 434 ls (.int (I a i) :: st) (n, tg, ln, I, J, O) Q) := R_iald rfl ht
theorem s205_433q (ht : tg a = 30) : Runs 205 433 ls (.int i :: .ref a :: st) (n, tg, ln, I, J, O) Q ↔ ((0 ≤ i ∧ i < Int32.ofNat (ln a)) ∧ Runs 205 434 ls (.int (I a i) :: st) (n, tg, ln, I, J, O) Q) := R_iald0 rfl ht
theorem s205_434 (ht : tg a = 9) (hs : zsumc st ≤ 8) : Runs 205 434 ls (.int i0 :: .ref a :: st) (n, tg, ln, I, J, O) Q ↔ Runs 90 0 [some (.ref a), some (.int i0)] [] (n, tg, ln, I, J, O) (fun v h2 => Runs 205 437 ls (v.toList ++ st) h2 Q) := R_callv (a := a) (rest := st) rfl rfl rfl rfl rfl rfl rfl ht hs
theorem s205_437 : Runs 205 437 [x0, x1, some (.ref a), x3] st h Q ↔ Runs 205 438 [x0, x1, some (.ref a), x3] (.ref a :: st) h Q := R_aldn rfl rfl
theorem s205_437q : Runs 205 437 [x0, x1, some (zrf r), x3] st h Q ↔ Runs 205 438 [x0, x1, some (zrf r), x3] (zrf r :: st) h Q := R_aldnq rfl rfl
theorem s205_438 : Runs 205 438 [some (.ref a), x1, x2, x3] st h Q ↔ Runs 205 439 [some (.ref a), x1, x2, x3] (.ref a :: st) h Q := R_aldn rfl rfl
theorem s205_438q : Runs 205 438 [some (zrf r), x1, x2, x3] st h Q ↔ Runs 205 439 [some (zrf r), x1, x2, x3] (zrf r :: st) h Q := R_aldnq rfl rfl
theorem s205_439 : Runs 205 439 [x0, x1, x2, some (.int i)] st h Q ↔ Runs 205 440 [x0, x1, x2, some (.int i)] (.int i :: st) h Q := R_ildn rfl rfl
theorem s205_440 : Runs 205 440 ls st h Q ↔ Runs 205 441 ls (.int 1 :: st) h Q := R_iconst rfl rfl
theorem s205_441 : Runs 205 441 ls (.int j :: .int i :: st) h Q ↔ Runs 205 442 ls (.int (i + j) :: st) h Q := R_iadd rfl
theorem s205_442 (ht : tg a = 20) : Runs 205 442 ls (.int i :: .ref a :: st) (n, tg, ln, I, J, O) Q ↔ ((0 ≤ i ∧ i < Int32.ofNat (ln a)) ∧ Runs 205 443 ls (.int (I a i) :: st) (n, tg, ln, I, J, O) Q) := R_iald rfl ht
theorem s205_442q (ht : tg a = 30) : Runs 205 442 ls (.int i :: .ref a :: st) (n, tg, ln, I, J, O) Q ↔ ((0 ≤ i ∧ i < Int32.ofNat (ln a)) ∧ Runs 205 443 ls (.int (I a i) :: st) (n, tg, ln, I, J, O) Q) := R_iald0 rfl ht
theorem s205_443 (ht : tg a = 10) (hs : zsumc st ≤ 8) : Runs 205 443 ls (.int i0 :: .ref a :: st) (n, tg, ln, I, J, O) Q ↔ Runs 168 0 [some (.ref a), some (.int i0), none, none] [] (n, tg, ln, I, J, O) (fun v h2 => Runs 205 446 ls (v.toList ++ st) h2 Q) := R_callv (a := a) (rest := st) rfl rfl rfl rfl rfl rfl rfl ht hs
theorem s205_446 : Runs 205 446 ls (.int j :: .int i :: st) h Q ↔ if i = j then Runs 205 1193 ls st h Q else Runs 205 449 ls st h Q := R_iceq rfl rfl
theorem s205_449 : Runs 205 449 ls st h Q ↔ Runs 205 450 ls (.int 0 :: st) h Q := R_iconst rfl rfl
theorem s205_450 (hx : i = 0 ∨ i = 1) : Runs 205 450 ls [.int i] h Q ↔ Q (some (.int i)) h := R_zret rfl rfl hx
theorem s205_451 : Runs 205 451 [x0, some (.ref a), x2, x3] st h Q ↔ Runs 205 452 [x0, some (.ref a), x2, x3] (.ref a :: st) h Q := R_aldn rfl rfl
theorem s205_451q : Runs 205 451 [x0, some (zrf r), x2, x3] st h Q ↔ Runs 205 452 [x0, some (zrf r), x2, x3] (zrf r :: st) h Q := R_aldnq rfl rfl
theorem s205_452 : Runs 205 452 [some (.ref a), x1, x2, x3] st h Q ↔ Runs 205 453 [some (.ref a), x1, x2, x3] (.ref a :: st) h Q := R_aldn rfl rfl
theorem s205_452q : Runs 205 452 [some (zrf r), x1, x2, x3] st h Q ↔ Runs 205 453 [some (zrf r), x1, x2, x3] (zrf r :: st) h Q := R_aldnq rfl rfl
theorem s205_453 : Runs 205 453 [x0, x1, x2, some (.int i)] st h Q ↔ Runs 205 454 [x0, x1, x2, some (.int i)] (.int i :: st) h Q := R_ildn rfl rfl
theorem s205_454 : Runs 205 454 ls st h Q ↔ Runs 205 455 ls (.int 1 :: st) h Q := R_iconst rfl rfl
theorem s205_455 : Runs 205 455 ls (.int j :: .int i :: st) h Q ↔ Runs 205 456 ls (.int (i + j) :: st) h Q := R_iadd rfl
theorem s205_456 (ht : tg a = 20) : Runs 205 456 ls (.int i :: .ref a :: st) (n, tg, ln, I, J, O) Q ↔ ((0 ≤ i ∧ i < Int32.ofNat (ln a)) ∧ Runs 205 457 ls (.int (I a i) :: st) (n, tg, ln, I, J, O) Q) := R_iald rfl ht
theorem s205_456q (ht : tg a = 30) : Runs 205 456 ls (.int i :: .ref a :: st) (n, tg, ln, I, J, O) Q ↔ ((0 ≤ i ∧ i < Int32.ofNat (ln a)) ∧ Runs 205 457 ls (.int (I a i) :: st) (n, tg, ln, I, J, O) Q) := R_iald0 rfl ht
theorem s205_457 (ht : tg a = 9) (hs : zsumc st ≤ 8) : Runs 205 457 ls (.int i0 :: .ref a :: st) (n, tg, ln, I, J, O) Q ↔ Runs 91 0 [some (.ref a), some (.int i0), none] [] (n, tg, ln, I, J, O) (fun v h2 => Runs 205 460 ls (v.toList ++ st) h2 Q) := R_callv (a := a) (rest := st) rfl rfl rfl rfl rfl rfl rfl ht hs
theorem s205_460 : Runs 205 460 [x0, x1, some (.ref a), x3] st h Q ↔ Runs 205 461 [x0, x1, some (.ref a), x3] (.ref a :: st) h Q := R_aldn rfl rfl
theorem s205_460q : Runs 205 460 [x0, x1, some (zrf r), x3] st h Q ↔ Runs 205 461 [x0, x1, some (zrf r), x3] (zrf r :: st) h Q := R_aldnq rfl rfl
theorem s205_461 : Runs 205 461 [some (.ref a), x1, x2, x3] st h Q ↔ Runs 205 462 [some (.ref a), x1, x2, x3] (.ref a :: st) h Q := R_aldn rfl rfl
theorem s205_461q : Runs 205 461 [some (zrf r), x1, x2, x3] st h Q ↔ Runs 205 462 [some (zrf r), x1, x2, x3] (zrf r :: st) h Q := R_aldnq rfl rfl
theorem s205_462 : Runs 205 462 [x0, x1, x2, some (.int i)] st h Q ↔ Runs 205 463 [x0, x1, x2, some (.int i)] (.int i :: st) h Q := R_ildn rfl rfl
theorem s205_463 : Runs 205 463 ls st h Q ↔ Runs 205 464 ls (.int 1 :: st) h Q := R_iconst rfl rfl
theorem s205_464 : Runs 205 464 ls (.int j :: .int i :: st) h Q ↔ Runs 205 465 ls (.int (i + j) :: st) h Q := R_iadd rfl
theorem s205_465 (ht : tg a = 20) : Runs 205 465 ls (.int i :: .ref a :: st) (n, tg, ln, I, J, O) Q ↔ ((0 ≤ i ∧ i < Int32.ofNat (ln a)) ∧ Runs 205 466 ls (.int (I a i) :: st) (n, tg, ln, I, J, O) Q) := R_iald rfl ht
theorem s205_465q (ht : tg a = 30) : Runs 205 465 ls (.int i :: .ref a :: st) (n, tg, ln, I, J, O) Q ↔ ((0 ≤ i ∧ i < Int32.ofNat (ln a)) ∧ Runs 205 466 ls (.int (I a i) :: st) (n, tg, ln, I, J, O) Q) := R_iald0 rfl ht
theorem s205_466 (ht : tg a = 10) (hs : zsumc st ≤ 8) : Runs 205 466 ls (.int i0 :: .ref a :: st) (n, tg, ln, I, J, O) Q ↔ Runs 169 0 [some (.ref a), some (.int i0), none] [] (n, tg, ln, I, J, O) (fun v h2 => Runs 205 469 ls (v.toList ++ st) h2 Q) := R_callv (a := a) (rest := st) rfl rfl rfl rfl rfl rfl rfl ht hs
theorem s205_469 : Runs 205 469 ls (.int j :: .int i :: st) h Q ↔ if i = j then Runs 205 1193 ls st h Q else Runs 205 472 ls st h Q := R_iceq rfl rfl
theorem s205_472 : Runs 205 472 ls st h Q ↔ Runs 205 473 ls (.int 0 :: st) h Q := R_iconst rfl rfl
theorem s205_473 (hx : i = 0 ∨ i = 1) : Runs 205 473 ls [.int i] h Q ↔ Q (some (.int i)) h := R_zret rfl rfl hx
theorem s205_474 : Runs 205 474 [x0, some (.ref a), x2, x3] st h Q ↔ Runs 205 475 [x0, some (.ref a), x2, x3] (.ref a :: st) h Q := R_aldn rfl rfl
theorem s205_474q : Runs 205 474 [x0, some (zrf r), x2, x3] st h Q ↔ Runs 205 475 [x0, some (zrf r), x2, x3] (zrf r :: st) h Q := R_aldnq rfl rfl
theorem s205_475 : Runs 205 475 [some (.ref a), x1, x2, x3] st h Q ↔ Runs 205 476 [some (.ref a), x1, x2, x3] (.ref a :: st) h Q := R_aldn rfl rfl
theorem s205_475q : Runs 205 475 [some (zrf r), x1, x2, x3] st h Q ↔ Runs 205 476 [some (zrf r), x1, x2, x3] (zrf r :: st) h Q := R_aldnq rfl rfl
theorem s205_476 : Runs 205 476 [x0, x1, x2, some (.int i)] st h Q ↔ Runs 205 477 [x0, x1, x2, some (.int i)] (.int i :: st) h Q := R_ildn rfl rfl
theorem s205_477 : Runs 205 477 ls st h Q ↔ Runs 205 478 ls (.int 1 :: st) h Q := R_iconst rfl rfl
theorem s205_478 : Runs 205 478 ls (.int j :: .int i :: st) h Q ↔ Runs 205 479 ls (.int (i + j) :: st) h Q := R_iadd rfl
theorem s205_479 (ht : tg a = 20) : Runs 205 479 ls (.int i :: .ref a :: st) (n, tg, ln, I, J, O) Q ↔ ((0 ≤ i ∧ i < Int32.ofNat (ln a)) ∧ Runs 205 480 ls (.int (I a i) :: st) (n, tg, ln, I, J, O) Q) := R_iald rfl ht
theorem s205_479q (ht : tg a = 30) : Runs 205 479 ls (.int i :: .ref a :: st) (n, tg, ln, I, J, O) Q ↔ ((0 ≤ i ∧ i < Int32.ofNat (ln a)) ∧ Runs 205 480 ls (.int (I a i) :: st) (n, tg, ln, I, J, O) Q) := R_iald0 rfl ht
theorem s205_480 (ht : tg a = 9) (hs : zsumc st ≤ 8) : Runs 205 480 ls (.int i0 :: .ref a :: st) (n, tg, ln, I, J, O) Q ↔ Runs 92 0 [some (.ref a), some (.int i0), none] [] (n, tg, ln, I, J, O) (fun v h2 => Runs 205 483 ls (v.toList ++ st) h2 Q) := R_callv (a := a) (rest := st) rfl rfl rfl rfl rfl rfl rfl ht hs
theorem s205_483 : Runs 205 483 [x0, x1, some (.ref a), x3] st h Q ↔ Runs 205 484 [x0, x1, some (.ref a), x3] (.ref a :: st) h Q := R_aldn rfl rfl
theorem s205_483q : Runs 205 483 [x0, x1, some (zrf r), x3] st h Q ↔ Runs 205 484 [x0, x1, some (zrf r), x3] (zrf r :: st) h Q := R_aldnq rfl rfl
theorem s205_484 : Runs 205 484 [some (.ref a), x1, x2, x3] st h Q ↔ Runs 205 485 [some (.ref a), x1, x2, x3] (.ref a :: st) h Q := R_aldn rfl rfl
theorem s205_484q : Runs 205 484 [some (zrf r), x1, x2, x3] st h Q ↔ Runs 205 485 [some (zrf r), x1, x2, x3] (zrf r :: st) h Q := R_aldnq rfl rfl
theorem s205_485 : Runs 205 485 [x0, x1, x2, some (.int i)] st h Q ↔ Runs 205 486 [x0, x1, x2, some (.int i)] (.int i :: st) h Q := R_ildn rfl rfl
theorem s205_486 : Runs 205 486 ls st h Q ↔ Runs 205 487 ls (.int 1 :: st) h Q := R_iconst rfl rfl
theorem s205_487 : Runs 205 487 ls (.int j :: .int i :: st) h Q ↔ Runs 205 488 ls (.int (i + j) :: st) h Q := R_iadd rfl
theorem s205_488 (ht : tg a = 20) : Runs 205 488 ls (.int i :: .ref a :: st) (n, tg, ln, I, J, O) Q ↔ ((0 ≤ i ∧ i < Int32.ofNat (ln a)) ∧ Runs 205 489 ls (.int (I a i) :: st) (n, tg, ln, I, J, O) Q) := R_iald rfl ht
theorem s205_488q (ht : tg a = 30) : Runs 205 488 ls (.int i :: .ref a :: st) (n, tg, ln, I, J, O) Q ↔ ((0 ≤ i ∧ i < Int32.ofNat (ln a)) ∧ Runs 205 489 ls (.int (I a i) :: st) (n, tg, ln, I, J, O) Q) := R_iald0 rfl ht
theorem s205_489 (ht : tg a = 10) (hs : zsumc st ≤ 8) : Runs 205 489 ls (.int i0 :: .ref a :: st) (n, tg, ln, I, J, O) Q ↔ Runs 170 0 [some (.ref a), some (.int i0), none] [] (n, tg, ln, I, J, O) (fun v h2 => Runs 205 492 ls (v.toList ++ st) h2 Q) := R_callv (a := a) (rest := st) rfl rfl rfl rfl rfl rfl rfl ht hs
theorem s205_492 : Runs 205 492 ls (.int j :: .int i :: st) h Q ↔ if i = j then Runs 205 1193 ls st h Q else Runs 205 495 ls st h Q := R_iceq rfl rfl
theorem s205_495 : Runs 205 495 ls st h Q ↔ Runs 205 496 ls (.int 0 :: st) h Q := R_iconst rfl rfl
theorem s205_496 (hx : i = 0 ∨ i = 1) : Runs 205 496 ls [.int i] h Q ↔ Q (some (.int i)) h := R_zret rfl rfl hx
theorem s205_497 : Runs 205 497 [x0, some (.ref a), x2, x3] st h Q ↔ Runs 205 498 [x0, some (.ref a), x2, x3] (.ref a :: st) h Q := R_aldn rfl rfl
theorem s205_497q : Runs 205 497 [x0, some (zrf r), x2, x3] st h Q ↔ Runs 205 498 [x0, some (zrf r), x2, x3] (zrf r :: st) h Q := R_aldnq rfl rfl
theorem s205_498 (ht : tg a = 9) (hs : zsumc st ≤ 8) : Runs 205 498 ls (.ref a :: st) (n, tg, ln, I, J, O) Q ↔ Runs 93 0 [some (.ref a)] [] (n, tg, ln, I, J, O) (fun v h2 => Runs 205 501 ls (v.toList ++ st) h2 Q) := R_callv (a := a) (rest := st) rfl rfl rfl rfl rfl rfl rfl ht hs
theorem s205_501 : Runs 205 501 [x0, x1, some (.ref a), x3] st h Q ↔ Runs 205 502 [x0, x1, some (.ref a), x3] (.ref a :: st) h Q := R_aldn rfl rfl
theorem s205_501q : Runs 205 501 [x0, x1, some (zrf r), x3] st h Q ↔ Runs 205 502 [x0, x1, some (zrf r), x3] (zrf r :: st) h Q := R_aldnq rfl rfl
theorem s205_502 (ht : tg a = 10) (hs : zsumc st ≤ 8) : Runs 205 502 ls (.ref a :: st) (n, tg, ln, I, J, O) Q ↔ Runs 171 0 [some (.ref a)] [] (n, tg, ln, I, J, O) (fun v h2 => Runs 205 505 ls (v.toList ++ st) h2 Q) := R_callv (a := a) (rest := st) rfl rfl rfl rfl rfl rfl rfl ht hs
theorem s205_505 : Runs 205 505 ls (.int j :: .int i :: st) h Q ↔ if i = j then Runs 205 1193 ls st h Q else Runs 205 508 ls st h Q := R_iceq rfl rfl
theorem s205_508 : Runs 205 508 ls st h Q ↔ Runs 205 509 ls (.int 0 :: st) h Q := R_iconst rfl rfl
theorem s205_509 (hx : i = 0 ∨ i = 1) : Runs 205 509 ls [.int i] h Q ↔ Q (some (.int i)) h := R_zret rfl rfl hx
theorem s205_510 : Runs 205 510 [x0, some (.ref a), x2, x3] st h Q ↔ Runs 205 511 [x0, some (.ref a), x2, x3] (.ref a :: st) h Q := R_aldn rfl rfl
theorem s205_510q : Runs 205 510 [x0, some (zrf r), x2, x3] st h Q ↔ Runs 205 511 [x0, some (zrf r), x2, x3] (zrf r :: st) h Q := R_aldnq rfl rfl
theorem s205_511 : Runs 205 511 [some (.ref a), x1, x2, x3] st h Q ↔ Runs 205 512 [some (.ref a), x1, x2, x3] (.ref a :: st) h Q := R_aldn rfl rfl
theorem s205_511q : Runs 205 511 [some (zrf r), x1, x2, x3] st h Q ↔ Runs 205 512 [some (zrf r), x1, x2, x3] (zrf r :: st) h Q := R_aldnq rfl rfl
theorem s205_512 : Runs 205 512 [x0, x1, x2, some (.int i)] st h Q ↔ Runs 205 513 [x0, x1, x2, some (.int i)] (.int i :: st) h Q := R_ildn rfl rfl
theorem s205_513 : Runs 205 513 ls st h Q ↔ Runs 205 514 ls (.int 1 :: st) h Q := R_iconst rfl rfl
theorem s205_514 : Runs 205 514 ls (.int j :: .int i :: st) h Q ↔ Runs 205 515 ls (.int (i + j) :: st) h Q := R_iadd rfl
theorem s205_515 (ht : tg a = 20) : Runs 205 515 ls (.int i :: .ref a :: st) (n, tg, ln, I, J, O) Q ↔ ((0 ≤ i ∧ i < Int32.ofNat (ln a)) ∧ Runs 205 516 ls (.int (I a i) :: st) (n, tg, ln, I, J, O) Q) := R_iald rfl ht
theorem s205_515q (ht : tg a = 30) : Runs 205 515 ls (.int i :: .ref a :: st) (n, tg, ln, I, J, O) Q ↔ ((0 ≤ i ∧ i < Int32.ofNat (ln a)) ∧ Runs 205 516 ls (.int (I a i) :: st) (n, tg, ln, I, J, O) Q) := R_iald0 rfl ht
theorem s205_516 (ht : tg a = 9) (hs : zsumc st ≤ 8) : Runs 205 516 ls (.int i0 :: .ref a :: st) (n, tg, ln, I, J, O) Q ↔ Runs 94 0 [some (.ref a), some (.int i0)] [] (n, tg, ln, I, J, O) (fun v h2 => Runs 205 519 ls (v.toList ++ st) h2 Q) := R_callv (a := a) (rest := st) rfl rfl rfl rfl rfl rfl rfl ht hs
theorem s205_519 : Runs 205 519 [x0, x1, some (.ref a), x3] st h Q ↔ Runs 205 520 [x0, x1, some (.ref a), x3] (.ref a :: st) h Q := R_aldn rfl rfl
theorem s205_519q : Runs 205 519 [x0, x1, some (zrf r), x3] st h Q ↔ Runs 205 520 [x0, x1, some (zrf r), x3] (zrf r :: st) h Q := R_aldnq rfl rfl
theorem s205_520 : Runs 205 520 [some (.ref a), x1, x2, x3] st h Q ↔ Runs 205 521 [some (.ref a), x1, x2, x3] (.ref a :: st) h Q := R_aldn rfl rfl
theorem s205_520q : Runs 205 520 [some (zrf r), x1, x2, x3] st h Q ↔ Runs 205 521 [some (zrf r), x1, x2, x3] (zrf r :: st) h Q := R_aldnq rfl rfl
theorem s205_521 : Runs 205 521 [x0, x1, x2, some (.int i)] st h Q ↔ Runs 205 522 [x0, x1, x2, some (.int i)] (.int i :: st) h Q := R_ildn rfl rfl
theorem s205_522 : Runs 205 522 ls st h Q ↔ Runs 205 523 ls (.int 1 :: st) h Q := R_iconst rfl rfl
theorem s205_523 : Runs 205 523 ls (.int j :: .int i :: st) h Q ↔ Runs 205 524 ls (.int (i + j) :: st) h Q := R_iadd rfl
theorem s205_524 (ht : tg a = 20) : Runs 205 524 ls (.int i :: .ref a :: st) (n, tg, ln, I, J, O) Q ↔ ((0 ≤ i ∧ i < Int32.ofNat (ln a)) ∧ Runs 205 525 ls (.int (I a i) :: st) (n, tg, ln, I, J, O) Q) := R_iald rfl ht
theorem s205_524q (ht : tg a = 30) : Runs 205 524 ls (.int i :: .ref a :: st) (n, tg, ln, I, J, O) Q ↔ ((0 ≤ i ∧ i < Int32.ofNat (ln a)) ∧ Runs 205 525 ls (.int (I a i) :: st) (n, tg, ln, I, J, O) Q) := R_iald0 rfl ht
theorem s205_525 (ht : tg a = 10) (hs : zsumc st ≤ 8) : Runs 205 525 ls (.int i0 :: .ref a :: st) (n, tg, ln, I, J, O) Q ↔ Runs 172 0 [some (.ref a), some (.int i0)] [] (n, tg, ln, I, J, O) (fun v h2 => Runs 205 528 ls (v.toList ++ st) h2 Q) := R_callv (a := a) (rest := st) rfl rfl rfl rfl rfl rfl rfl ht hs
theorem s205_528 : Runs 205 528 ls (.int j :: .int i :: st) h Q ↔ if i = j then Runs 205 1193 ls st h Q else Runs 205 531 ls st h Q := R_iceq rfl rfl
theorem s205_531 : Runs 205 531 ls st h Q ↔ Runs 205 532 ls (.int 0 :: st) h Q := R_iconst rfl rfl
theorem s205_532 (hx : i = 0 ∨ i = 1) : Runs 205 532 ls [.int i] h Q ↔ Q (some (.int i)) h := R_zret rfl rfl hx
theorem s205_533 : Runs 205 533 [x0, some (.ref a), x2, x3] st h Q ↔ Runs 205 534 [x0, some (.ref a), x2, x3] (.ref a :: st) h Q := R_aldn rfl rfl
theorem s205_533q : Runs 205 533 [x0, some (zrf r), x2, x3] st h Q ↔ Runs 205 534 [x0, some (zrf r), x2, x3] (zrf r :: st) h Q := R_aldnq rfl rfl
theorem s205_534 : Runs 205 534 [some (.ref a), x1, x2, x3] st h Q ↔ Runs 205 535 [some (.ref a), x1, x2, x3] (.ref a :: st) h Q := R_aldn rfl rfl
theorem s205_534q : Runs 205 534 [some (zrf r), x1, x2, x3] st h Q ↔ Runs 205 535 [some (zrf r), x1, x2, x3] (zrf r :: st) h Q := R_aldnq rfl rfl
theorem s205_535 : Runs 205 535 [x0, x1, x2, some (.int i)] st h Q ↔ Runs 205 536 [x0, x1, x2, some (.int i)] (.int i :: st) h Q := R_ildn rfl rfl
theorem s205_536 : Runs 205 536 ls st h Q ↔ Runs 205 537 ls (.int 1 :: st) h Q := R_iconst rfl rfl
theorem s205_537 : Runs 205 537 ls (.int j :: .int i :: st) h Q ↔ Runs 205 538 ls (.int (i + j) :: st) h Q := R_iadd rfl
theorem s205_538 (ht : tg a = 20) : Runs 205 538 ls (.int i :: .ref a :: st) (n, tg, ln, I, J, O) Q ↔ ((0 ≤ i ∧ i < Int32.ofNat (ln a)) ∧ Runs 205 539 ls (.int (I a i) :: st) (n, tg, ln, I, J, O) Q) := R_iald rfl ht
theorem s205_538q (ht : tg a = 30) : Runs 205 538 ls (.int i :: .ref a :: st) (n, tg, ln, I, J, O) Q ↔ ((0 ≤ i ∧ i < Int32.ofNat (ln a)) ∧ Runs 205 539 ls (.int (I a i) :: st) (n, tg, ln, I, J, O) Q) := R_iald0 rfl ht
theorem s205_539 (ht : tg a = 9) (hs : zsumc st ≤ 8) : Runs 205 539 ls (.int i0 :: .ref a :: st) (n, tg, ln, I, J, O) Q ↔ Runs 95 0 [some (.ref a), some (.int i0)] [] (n, tg, ln, I, J, O) (fun v h2 => Runs 205 542 ls (v.toList ++ st) h2 Q) := R_callv (a := a) (rest := st) rfl rfl rfl rfl rfl rfl rfl ht hs
theorem s205_542 : Runs 205 542 [x0, x1, some (.ref a), x3] st h Q ↔ Runs 205 543 [x0, x1, some (.ref a), x3] (.ref a :: st) h Q := R_aldn rfl rfl
theorem s205_542q : Runs 205 542 [x0, x1, some (zrf r), x3] st h Q ↔ Runs 205 543 [x0, x1, some (zrf r), x3] (zrf r :: st) h Q := R_aldnq rfl rfl
theorem s205_543 : Runs 205 543 [some (.ref a), x1, x2, x3] st h Q ↔ Runs 205 544 [some (.ref a), x1, x2, x3] (.ref a :: st) h Q := R_aldn rfl rfl
theorem s205_543q : Runs 205 543 [some (zrf r), x1, x2, x3] st h Q ↔ Runs 205 544 [some (zrf r), x1, x2, x3] (zrf r :: st) h Q := R_aldnq rfl rfl
theorem s205_544 : Runs 205 544 [x0, x1, x2, some (.int i)] st h Q ↔ Runs 205 545 [x0, x1, x2, some (.int i)] (.int i :: st) h Q := R_ildn rfl rfl
theorem s205_545 : Runs 205 545 ls st h Q ↔ Runs 205 546 ls (.int 1 :: st) h Q := R_iconst rfl rfl
theorem s205_546 : Runs 205 546 ls (.int j :: .int i :: st) h Q ↔ Runs 205 547 ls (.int (i + j) :: st) h Q := R_iadd rfl
theorem s205_547 (ht : tg a = 20) : Runs 205 547 ls (.int i :: .ref a :: st) (n, tg, ln, I, J, O) Q ↔ ((0 ≤ i ∧ i < Int32.ofNat (ln a)) ∧ Runs 205 548 ls (.int (I a i) :: st) (n, tg, ln, I, J, O) Q) := R_iald rfl ht
theorem s205_547q (ht : tg a = 30) : Runs 205 547 ls (.int i :: .ref a :: st) (n, tg, ln, I, J, O) Q ↔ ((0 ≤ i ∧ i < Int32.ofNat (ln a)) ∧ Runs 205 548 ls (.int (I a i) :: st) (n, tg, ln, I, J, O) Q) := R_iald0 rfl ht
theorem s205_548 (ht : tg a = 10) (hs : zsumc st ≤ 8) : Runs 205 548 ls (.int i0 :: .ref a :: st) (n, tg, ln, I, J, O) Q ↔ Runs 173 0 [some (.ref a), some (.int i0)] [] (n, tg, ln, I, J, O) (fun v h2 => Runs 205 551 ls (v.toList ++ st) h2 Q) := R_callv (a := a) (rest := st) rfl rfl rfl rfl rfl rfl rfl ht hs
theorem s205_551 : Runs 205 551 ls (.int j :: .int i :: st) h Q ↔ if i = j then Runs 205 1193 ls st h Q else Runs 205 554 ls st h Q := R_iceq rfl rfl
theorem s205_554 : Runs 205 554 ls st h Q ↔ Runs 205 555 ls (.int 0 :: st) h Q := R_iconst rfl rfl
theorem s205_555 (hx : i = 0 ∨ i = 1) : Runs 205 555 ls [.int i] h Q ↔ Q (some (.int i)) h := R_zret rfl rfl hx
theorem s205_556 : Runs 205 556 [x0, some (.ref a), x2, x3] st h Q ↔ Runs 205 557 [x0, some (.ref a), x2, x3] (.ref a :: st) h Q := R_aldn rfl rfl
theorem s205_556q : Runs 205 556 [x0, some (zrf r), x2, x3] st h Q ↔ Runs 205 557 [x0, some (zrf r), x2, x3] (zrf r :: st) h Q := R_aldnq rfl rfl
theorem s205_557 : Runs 205 557 [some (.ref a), x1, x2, x3] st h Q ↔ Runs 205 558 [some (.ref a), x1, x2, x3] (.ref a :: st) h Q := R_aldn rfl rfl
theorem s205_557q : Runs 205 557 [some (zrf r), x1, x2, x3] st h Q ↔ Runs 205 558 [some (zrf r), x1, x2, x3] (zrf r :: st) h Q := R_aldnq rfl rfl
theorem s205_558 : Runs 205 558 [x0, x1, x2, some (.int i)] st h Q ↔ Runs 205 559 [x0, x1, x2, some (.int i)] (.int i :: st) h Q := R_ildn rfl rfl
theorem s205_559 : Runs 205 559 ls st h Q ↔ Runs 205 560 ls (.int 1 :: st) h Q := R_iconst rfl rfl
theorem s205_560 : Runs 205 560 ls (.int j :: .int i :: st) h Q ↔ Runs 205 561 ls (.int (i + j) :: st) h Q := R_iadd rfl
theorem s205_561 (ht : tg a = 20) : Runs 205 561 ls (.int i :: .ref a :: st) (n, tg, ln, I, J, O) Q ↔ ((0 ≤ i ∧ i < Int32.ofNat (ln a)) ∧ Runs 205 562 ls (.int (I a i) :: st) (n, tg, ln, I, J, O) Q) := R_iald rfl ht
theorem s205_561q (ht : tg a = 30) : Runs 205 561 ls (.int i :: .ref a :: st) (n, tg, ln, I, J, O) Q ↔ ((0 ≤ i ∧ i < Int32.ofNat (ln a)) ∧ Runs 205 562 ls (.int (I a i) :: st) (n, tg, ln, I, J, O) Q) := R_iald0 rfl ht
theorem s205_562 (ht : tg a = 9) (hs : zsumc st ≤ 8) : Runs 205 562 ls (.int i0 :: .ref a :: st) (n, tg, ln, I, J, O) Q ↔ Runs 96 0 [some (.ref a), some (.int i0)] [] (n, tg, ln, I, J, O) (fun v h2 => Runs 205 565 ls (v.toList ++ st) h2 Q) := R_callv (a := a) (rest := st) rfl rfl rfl rfl rfl rfl rfl ht hs
theorem s205_565 : Runs 205 565 [x0, x1, some (.ref a), x3] st h Q ↔ Runs 205 566 [x0, x1, some (.ref a), x3] (.ref a :: st) h Q := R_aldn rfl rfl
theorem s205_565q : Runs 205 565 [x0, x1, some (zrf r), x3] st h Q ↔ Runs 205 566 [x0, x1, some (zrf r), x3] (zrf r :: st) h Q := R_aldnq rfl rfl
theorem s205_566 : Runs 205 566 [some (.ref a), x1, x2, x3] st h Q ↔ Runs 205 567 [some (.ref a), x1, x2, x3] (.ref a :: st) h Q := R_aldn rfl rfl
theorem s205_566q : Runs 205 566 [some (zrf r), x1, x2, x3] st h Q ↔ Runs 205 567 [some (zrf r), x1, x2, x3] (zrf r :: st) h Q := R_aldnq rfl rfl
theorem s205_567 : Runs 205 567 [x0, x1, x2, some (.int i)] st h Q ↔ Runs 205 568 [x0, x1, x2, some (.int i)] (.int i :: st) h Q := R_ildn rfl rfl
theorem s205_568 : Runs 205 568 ls st h Q ↔ Runs 205 569 ls (.int 1 :: st) h Q := R_iconst rfl rfl
theorem s205_569 : Runs 205 569 ls (.int j :: .int i :: st) h Q ↔ Runs 205 570 ls (.int (i + j) :: st) h Q := R_iadd rfl
theorem s205_570 (ht : tg a = 20) : Runs 205 570 ls (.int i :: .ref a :: st) (n, tg, ln, I, J, O) Q ↔ ((0 ≤ i ∧ i < Int32.ofNat (ln a)) ∧ Runs 205 571 ls (.int (I a i) :: st) (n, tg, ln, I, J, O) Q) := R_iald rfl ht
theorem s205_570q (ht : tg a = 30) : Runs 205 570 ls (.int i :: .ref a :: st) (n, tg, ln, I, J, O) Q ↔ ((0 ≤ i ∧ i < Int32.ofNat (ln a)) ∧ Runs 205 571 ls (.int (I a i) :: st) (n, tg, ln, I, J, O) Q) := R_iald0 rfl ht
theorem s205_571 (ht : tg a = 10) (hs : zsumc st ≤ 8) : Runs 205 571 ls (.int i0 :: .ref a :: st) (n, tg, ln, I, J, O) Q ↔ Runs 176 0 [some (.ref a), some (.int i0)] [] (n, tg, ln, I, J, O) (fun v h2 => Runs 205 574 ls (v.toList ++ st) h2 Q) := R_callv (a := a) (rest := st) rfl rfl rfl rfl rfl rfl rfl ht hs
theorem s205_574 : Runs 205 574 ls (.int j :: .int i :: st) h Q ↔ if i = j then Runs 205 1193 ls st h Q else Runs 205 577 ls st h Q := R_iceq rfl rfl
theorem s205_577 : Runs 205 577 ls st h Q ↔ Runs 205 578 ls (.int 0 :: st) h Q := R_iconst rfl rfl
theorem s205_578 (hx : i = 0 ∨ i = 1) : Runs 205 578 ls [.int i] h Q ↔ Q (some (.int i)) h := R_zret rfl rfl hx
theorem s205_579 : Runs 205 579 [x0, some (.ref a), x2, x3] st h Q ↔ Runs 205 580 [x0, some (.ref a), x2, x3] (.ref a :: st) h Q := R_aldn rfl rfl
theorem s205_579q : Runs 205 579 [x0, some (zrf r), x2, x3] st h Q ↔ Runs 205 580 [x0, some (zrf r), x2, x3] (zrf r :: st) h Q := R_aldnq rfl rfl
theorem s205_580 : Runs 205 580 [some (.ref a), x1, x2, x3] st h Q ↔ Runs 205 581 [some (.ref a), x1, x2, x3] (.ref a :: st) h Q := R_aldn rfl rfl
theorem s205_580q : Runs 205 580 [some (zrf r), x1, x2, x3] st h Q ↔ Runs 205 581 [some (zrf r), x1, x2, x3] (zrf r :: st) h Q := R_aldnq rfl rfl
theorem s205_581 : Runs 205 581 [x0, x1, x2, some (.int i)] st h Q ↔ Runs 205 582 [x0, x1, x2, some (.int i)] (.int i :: st) h Q := R_ildn rfl rfl
theorem s205_582 : Runs 205 582 ls st h Q ↔ Runs 205 583 ls (.int 1 :: st) h Q := R_iconst rfl rfl
theorem s205_583 : Runs 205 583 ls (.int j :: .int i :: st) h Q ↔ Runs 205 584 ls (.int (i + j) :: st) h Q := R_iadd rfl
theorem s205_584 (ht : tg a = 20) : Runs 205 584 ls (.int i :: .ref a :: st) (n, tg, ln, I, J, O) Q ↔ ((0 ≤ i ∧ i < Int32.ofNat (ln a)) ∧ Runs 205 585 ls (.int (I a i) :: st) (n, tg, ln, I, J, O) Q) := R_iald rfl ht
theorem s205_584q (ht : tg a = 30) : Runs 205 584 ls (.int i :: .ref a :: st) (n, tg, ln, I, J, O) Q ↔ ((0 ≤ i ∧ i < Int32.ofNat (ln a)) ∧ Runs 205 585 ls (.int (I a i) :: st) (n, tg, ln, I, J, O) Q) := R_iald0 rfl ht
theorem s205_585 : Runs 205 585 [some (.ref a), x1, x2, x3] st h Q ↔ Runs 205 586 [some (.ref a), x1, x2, x3] (.ref a :: st) h Q := R_aldn rfl rfl
theorem s205_585q : Runs 205 585 [some (zrf r), x1, x2, x3] st h Q ↔ Runs 205 586 [some (zrf r), x1, x2, x3] (zrf r :: st) h Q := R_aldnq rfl rfl
theorem s205_586 : Runs 205 586 [x0, x1, x2, some (.int i)] st h Q ↔ Runs 205 587 [x0, x1, x2, some (.int i)] (.int i :: st) h Q := R_ildn rfl rfl
theorem s205_587 : Runs 205 587 ls st h Q ↔ Runs 205 588 ls (.int 2 :: st) h Q := R_iconst rfl rfl
theorem s205_588 : Runs 205 588 ls (.int j :: .int i :: st) h Q ↔ Runs 205 589 ls (.int (i + j) :: st) h Q := R_iadd rfl
theorem s205_589 (ht : tg a = 20) : Runs 205 589 ls (.int i :: .ref a :: st) (n, tg, ln, I, J, O) Q ↔ ((0 ≤ i ∧ i < Int32.ofNat (ln a)) ∧ Runs 205 590 ls (.int (I a i) :: st) (n, tg, ln, I, J, O) Q) := R_iald rfl ht
theorem s205_589q (ht : tg a = 30) : Runs 205 589 ls (.int i :: .ref a :: st) (n, tg, ln, I, J, O) Q ↔ ((0 ≤ i ∧ i < Int32.ofNat (ln a)) ∧ Runs 205 590 ls (.int (I a i) :: st) (n, tg, ln, I, J, O) Q) := R_iald0 rfl ht
theorem s205_590 (ht : tg a = 9) (hs : zsumc st ≤ 8) : Runs 205 590 ls (.int i1 :: .int i0 :: .ref a :: st) (n, tg, ln, I, J, O) Q ↔ Runs 97 0 [some (.ref a), some (.int i0), some (.int i1), none] [] (n, tg, ln, I, J, O) (fun v h2 => Runs 205 593 ls (v.toList ++ st) h2 Q) := R_callv (a := a) (rest := st) rfl rfl rfl rfl rfl rfl rfl ht hs
theorem s205_593 : Runs 205 593 [x0, x1, some (.ref a), x3] st h Q ↔ Runs 205 594 [x0, x1, some (.ref a), x3] (.ref a :: st) h Q := R_aldn rfl rfl
theorem s205_593q : Runs 205 593 [x0, x1, some (zrf r), x3] st h Q ↔ Runs 205 594 [x0, x1, some (zrf r), x3] (zrf r :: st) h Q := R_aldnq rfl rfl
theorem s205_594 : Runs 205 594 [some (.ref a), x1, x2, x3] st h Q ↔ Runs 205 595 [some (.ref a), x1, x2, x3] (.ref a :: st) h Q := R_aldn rfl rfl
theorem s205_594q : Runs 205 594 [some (zrf r), x1, x2, x3] st h Q ↔ Runs 205 595 [some (zrf r), x1, x2, x3] (zrf r :: st) h Q := R_aldnq rfl rfl
theorem s205_595 : Runs 205 595 [x0, x1, x2, some (.int i)] st h Q ↔ Runs 205 596 [x0, x1, x2, some (.int i)] (.int i :: st) h Q := R_ildn rfl rfl
theorem s205_596 : Runs 205 596 ls st h Q ↔ Runs 205 597 ls (.int 1 :: st) h Q := R_iconst rfl rfl
theorem s205_597 : Runs 205 597 ls (.int j :: .int i :: st) h Q ↔ Runs 205 598 ls (.int (i + j) :: st) h Q := R_iadd rfl
theorem s205_598 (ht : tg a = 20) : Runs 205 598 ls (.int i :: .ref a :: st) (n, tg, ln, I, J, O) Q ↔ ((0 ≤ i ∧ i < Int32.ofNat (ln a)) ∧ Runs 205 599 ls (.int (I a i) :: st) (n, tg, ln, I, J, O) Q) := R_iald rfl ht
theorem s205_598q (ht : tg a = 30) : Runs 205 598 ls (.int i :: .ref a :: st) (n, tg, ln, I, J, O) Q ↔ ((0 ≤ i ∧ i < Int32.ofNat (ln a)) ∧ Runs 205 599 ls (.int (I a i) :: st) (n, tg, ln, I, J, O) Q) := R_iald0 rfl ht
theorem s205_599 : Runs 205 599 [some (.ref a), x1, x2, x3] st h Q ↔ Runs 205 600 [some (.ref a), x1, x2, x3] (.ref a :: st) h Q := R_aldn rfl rfl
theorem s205_599q : Runs 205 599 [some (zrf r), x1, x2, x3] st h Q ↔ Runs 205 600 [some (zrf r), x1, x2, x3] (zrf r :: st) h Q := R_aldnq rfl rfl
theorem s205_600 : Runs 205 600 [x0, x1, x2, some (.int i)] st h Q ↔ Runs 205 601 [x0, x1, x2, some (.int i)] (.int i :: st) h Q := R_ildn rfl rfl
theorem s205_601 : Runs 205 601 ls st h Q ↔ Runs 205 602 ls (.int 2 :: st) h Q := R_iconst rfl rfl
theorem s205_602 : Runs 205 602 ls (.int j :: .int i :: st) h Q ↔ Runs 205 603 ls (.int (i + j) :: st) h Q := R_iadd rfl
theorem s205_603 (ht : tg a = 20) : Runs 205 603 ls (.int i :: .ref a :: st) (n, tg, ln, I, J, O) Q ↔ ((0 ≤ i ∧ i < Int32.ofNat (ln a)) ∧ Runs 205 604 ls (.int (I a i) :: st) (n, tg, ln, I, J, O) Q) := R_iald rfl ht
theorem s205_603q (ht : tg a = 30) : Runs 205 603 ls (.int i :: .ref a :: st) (n, tg, ln, I, J, O) Q ↔ ((0 ≤ i ∧ i < Int32.ofNat (ln a)) ∧ Runs 205 604 ls (.int (I a i) :: st) (n, tg, ln, I, J, O) Q) := R_iald0 rfl ht
theorem s205_604 (ht : tg a = 10) (hs : zsumc st ≤ 8) : Runs 205 604 ls (.int i1 :: .int i0 :: .ref a :: st) (n, tg, ln, I, J, O) Q ↔ Runs 177 0 [some (.ref a), some (.int i0), some (.int i1), none] [] (n, tg, ln, I, J, O) (fun v h2 => Runs 205 607 ls (v.toList ++ st) h2 Q) := R_callv (a := a) (rest := st) rfl rfl rfl rfl rfl rfl rfl ht hs
theorem s205_607 : Runs 205 607 ls (.int j :: .int i :: st) h Q ↔ if i = j then Runs 205 1193 ls st h Q else Runs 205 610 ls st h Q := R_iceq rfl rfl
theorem s205_610 : Runs 205 610 ls st h Q ↔ Runs 205 611 ls (.int 0 :: st) h Q := R_iconst rfl rfl
theorem s205_611 (hx : i = 0 ∨ i = 1) : Runs 205 611 ls [.int i] h Q ↔ Q (some (.int i)) h := R_zret rfl rfl hx
theorem s205_612 : Runs 205 612 [x0, some (.ref a), x2, x3] st h Q ↔ Runs 205 613 [x0, some (.ref a), x2, x3] (.ref a :: st) h Q := R_aldn rfl rfl
theorem s205_612q : Runs 205 612 [x0, some (zrf r), x2, x3] st h Q ↔ Runs 205 613 [x0, some (zrf r), x2, x3] (zrf r :: st) h Q := R_aldnq rfl rfl
theorem s205_613 : Runs 205 613 [some (.ref a), x1, x2, x3] st h Q ↔ Runs 205 614 [some (.ref a), x1, x2, x3] (.ref a :: st) h Q := R_aldn rfl rfl
theorem s205_613q : Runs 205 613 [some (zrf r), x1, x2, x3] st h Q ↔ Runs 205 614 [some (zrf r), x1, x2, x3] (zrf r :: st) h Q := R_aldnq rfl rfl
theorem s205_614 : Runs 205 614 [x0, x1, x2, some (.int i)] st h Q ↔ Runs 205 615 [x0, x1, x2, some (.int i)] (.int i :: st) h Q := R_ildn rfl rfl
theorem s205_615 : Runs 205 615 ls st h Q ↔ Runs 205 616 ls (.int 1 :: st) h Q := R_iconst rfl rfl
theorem s205_616 : Runs 205 616 ls (.int j :: .int i :: st) h Q ↔ Runs 205 617 ls (.int (i + j) :: st) h Q := R_iadd rfl
theorem s205_617 (ht : tg a = 20) : Runs 205 617 ls (.int i :: .ref a :: st) (n, tg, ln, I, J, O) Q ↔ ((0 ≤ i ∧ i < Int32.ofNat (ln a)) ∧ Runs 205 618 ls (.int (I a i) :: st) (n, tg, ln, I, J, O) Q) := R_iald rfl ht
theorem s205_617q (ht : tg a = 30) : Runs 205 617 ls (.int i :: .ref a :: st) (n, tg, ln, I, J, O) Q ↔ ((0 ≤ i ∧ i < Int32.ofNat (ln a)) ∧ Runs 205 618 ls (.int (I a i) :: st) (n, tg, ln, I, J, O) Q) := R_iald0 rfl ht
theorem s205_618 (ht : tg a = 9) (hs : zsumc st ≤ 8) : Runs 205 618 ls (.int i0 :: .ref a :: st) (n, tg, ln, I, J, O) Q ↔ Runs 98 0 [some (.ref a), some (.int i0), none, none, none] [] (n, tg, ln, I, J, O) (fun v h2 => Runs 205 621 ls (v.toList ++ st) h2 Q) := R_callv (a := a) (rest := st) rfl rfl rfl rfl rfl rfl rfl ht hs
theorem s205_621 : Runs 205 621 [x0, x1, some (.ref a), x3] st h Q ↔ Runs 205 622 [x0, x1, some (.ref a), x3] (.ref a :: st) h Q := R_aldn rfl rfl
theorem s205_621q : Runs 205 621 [x0, x1, some (zrf r), x3] st h Q ↔ Runs 205 622 [x0, x1, some (zrf r), x3] (zrf r :: st) h Q := R_aldnq rfl rfl
theorem s205_622 : Runs 205 622 [some (.ref a), x1, x2, x3] st h Q ↔ Runs 205 623 [some (.ref a), x1, x2, x3] (.ref a :: st) h Q := R_aldn rfl rfl
theorem s205_622q : Runs 205 622 [some (zrf r), x1, x2, x3] st h Q ↔ Runs 205 623 [some (zrf r), x1, x2, x3] (zrf r :: st) h Q := R_aldnq rfl rfl
theorem s205_623 : Runs 205 623 [x0, x1, x2, some (.int i)] st h Q ↔ Runs 205 624 [x0, x1, x2, some (.int i)] (.int i :: st) h Q := R_ildn rfl rfl
theorem s205_624 : Runs 205 624 ls st h Q ↔ Runs 205 625 ls (.int 1 :: st) h Q := R_iconst rfl rfl
theorem s205_625 : Runs 205 625 ls (.int j :: .int i :: st) h Q ↔ Runs 205 626 ls (.int (i + j) :: st) h Q := R_iadd rfl
theorem s205_626 (ht : tg a = 20) : Runs 205 626 ls (.int i :: .ref a :: st) (n, tg, ln, I, J, O) Q ↔ ((0 ≤ i ∧ i < Int32.ofNat (ln a)) ∧ Runs 205 627 ls (.int (I a i) :: st) (n, tg, ln, I, J, O) Q) := R_iald rfl ht
theorem s205_626q (ht : tg a = 30) : Runs 205 626 ls (.int i :: .ref a :: st) (n, tg, ln, I, J, O) Q ↔ ((0 ≤ i ∧ i < Int32.ofNat (ln a)) ∧ Runs 205 627 ls (.int (I a i) :: st) (n, tg, ln, I, J, O) Q) := R_iald0 rfl ht
theorem s205_627 (ht : tg a = 10) (hs : zsumc st ≤ 8) : Runs 205 627 ls (.int i0 :: .ref a :: st) (n, tg, ln, I, J, O) Q ↔ Runs 178 0 [some (.ref a), some (.int i0), none, none, none, none] [] (n, tg, ln, I, J, O) (fun v h2 => Runs 205 630 ls (v.toList ++ st) h2 Q) := R_callv (a := a) (rest := st) rfl rfl rfl rfl rfl rfl rfl ht hs
theorem s205_630 : Runs 205 630 ls (.int j :: .int i :: st) h Q ↔ if i = j then Runs 205 1193 ls st h Q else Runs 205 633 ls st h Q := R_iceq rfl rfl
theorem s205_633 : Runs 205 633 ls st h Q ↔ Runs 205 634 ls (.int 0 :: st) h Q := R_iconst rfl rfl
theorem s205_634 (hx : i = 0 ∨ i = 1) : Runs 205 634 ls [.int i] h Q ↔ Q (some (.int i)) h := R_zret rfl rfl hx
theorem s205_635 : Runs 205 635 [x0, some (.ref a), x2, x3] st h Q ↔ Runs 205 636 [x0, some (.ref a), x2, x3] (.ref a :: st) h Q := R_aldn rfl rfl
theorem s205_635q : Runs 205 635 [x0, some (zrf r), x2, x3] st h Q ↔ Runs 205 636 [x0, some (zrf r), x2, x3] (zrf r :: st) h Q := R_aldnq rfl rfl
theorem s205_636 : Runs 205 636 [some (.ref a), x1, x2, x3] st h Q ↔ Runs 205 637 [some (.ref a), x1, x2, x3] (.ref a :: st) h Q := R_aldn rfl rfl
theorem s205_636q : Runs 205 636 [some (zrf r), x1, x2, x3] st h Q ↔ Runs 205 637 [some (zrf r), x1, x2, x3] (zrf r :: st) h Q := R_aldnq rfl rfl
theorem s205_637 : Runs 205 637 [x0, x1, x2, some (.int i)] st h Q ↔ Runs 205 638 [x0, x1, x2, some (.int i)] (.int i :: st) h Q := R_ildn rfl rfl
theorem s205_638 : Runs 205 638 ls st h Q ↔ Runs 205 639 ls (.int 1 :: st) h Q := R_iconst rfl rfl
theorem s205_639 : Runs 205 639 ls (.int j :: .int i :: st) h Q ↔ Runs 205 640 ls (.int (i + j) :: st) h Q := R_iadd rfl
theorem s205_640 (ht : tg a = 20) : Runs 205 640 ls (.int i :: .ref a :: st) (n, tg, ln, I, J, O) Q ↔ ((0 ≤ i ∧ i < Int32.ofNat (ln a)) ∧ Runs 205 641 ls (.int (I a i) :: st) (n, tg, ln, I, J, O) Q) := R_iald rfl ht
theorem s205_640q (ht : tg a = 30) : Runs 205 640 ls (.int i :: .ref a :: st) (n, tg, ln, I, J, O) Q ↔ ((0 ≤ i ∧ i < Int32.ofNat (ln a)) ∧ Runs 205 641 ls (.int (I a i) :: st) (n, tg, ln, I, J, O) Q) := R_iald0 rfl ht
theorem s205_641 : Runs 205 641 [some (.ref a), x1, x2, x3] st h Q ↔ Runs 205 642 [some (.ref a), x1, x2, x3] (.ref a :: st) h Q := R_aldn rfl rfl
theorem s205_641q : Runs 205 641 [some (zrf r), x1, x2, x3] st h Q ↔ Runs 205 642 [some (zrf r), x1, x2, x3] (zrf r :: st) h Q := R_aldnq rfl rfl
theorem s205_642 : Runs 205 642 [x0, x1, x2, some (.int i)] st h Q ↔ Runs 205 643 [x0, x1, x2, some (.int i)] (.int i :: st) h Q := R_ildn rfl rfl
theorem s205_643 : Runs 205 643 ls st h Q ↔ Runs 205 644 ls (.int 2 :: st) h Q := R_iconst rfl rfl
theorem s205_644 : Runs 205 644 ls (.int j :: .int i :: st) h Q ↔ Runs 205 645 ls (.int (i + j) :: st) h Q := R_iadd rfl
theorem s205_645 (ht : tg a = 20) : Runs 205 645 ls (.int i :: .ref a :: st) (n, tg, ln, I, J, O) Q ↔ ((0 ≤ i ∧ i < Int32.ofNat (ln a)) ∧ Runs 205 646 ls (.int (I a i) :: st) (n, tg, ln, I, J, O) Q) := R_iald rfl ht
theorem s205_645q (ht : tg a = 30) : Runs 205 645 ls (.int i :: .ref a :: st) (n, tg, ln, I, J, O) Q ↔ ((0 ≤ i ∧ i < Int32.ofNat (ln a)) ∧ Runs 205 646 ls (.int (I a i) :: st) (n, tg, ln, I, J, O) Q) := R_iald0 rfl ht
theorem s205_646 (ht : tg a = 9) (hs : zsumc st ≤ 8) : Runs 205 646 ls (.int i1 :: .int i0 :: .ref a :: st) (n, tg, ln, I, J, O) Q ↔ Runs 99 0 [some (.ref a), some (.int i0), some (.int i1), none, none, none, none] [] (n, tg, ln, I, J, O) (fun v h2 => Runs 205 649 ls (v.toList ++ st) h2 Q) := R_callv (a := a) (rest := st) rfl rfl rfl rfl rfl rfl rfl ht hs
theorem s205_649 : Runs 205 649 [x0, x1, some (.ref a), x3] st h Q ↔ Runs 205 650 [x0, x1, some (.ref a), x3] (.ref a :: st) h Q := R_aldn rfl rfl
theorem s205_649q : Runs 205 649 [x0, x1, some (zrf r), x3] st h Q ↔ Runs 205 650 [x0, x1, some (zrf r), x3] (zrf r :: st) h Q := R_aldnq rfl rfl
theorem s205_650 : Runs 205 650 [some (.ref a), x1, x2, x3] st h Q ↔ Runs 205 651 [some (.ref a), x1, x2, x3] (.ref a :: st) h Q := R_aldn rfl rfl
theorem s205_650q : Runs 205 650 [some (zrf r), x1, x2, x3] st h Q ↔ Runs 205 651 [some (zrf r), x1, x2, x3] (zrf r :: st) h Q := R_aldnq rfl rfl
theorem s205_651 : Runs 205 651 [x0, x1, x2, some (.int i)] st h Q ↔ Runs 205 652 [x0, x1, x2, some (.int i)] (.int i :: st) h Q := R_ildn rfl rfl
theorem s205_652 : Runs 205 652 ls st h Q ↔ Runs 205 653 ls (.int 1 :: st) h Q := R_iconst rfl rfl
theorem s205_653 : Runs 205 653 ls (.int j :: .int i :: st) h Q ↔ Runs 205 654 ls (.int (i + j) :: st) h Q := R_iadd rfl
theorem s205_654 (ht : tg a = 20) : Runs 205 654 ls (.int i :: .ref a :: st) (n, tg, ln, I, J, O) Q ↔ ((0 ≤ i ∧ i < Int32.ofNat (ln a)) ∧ Runs 205 655 ls (.int (I a i) :: st) (n, tg, ln, I, J, O) Q) := R_iald rfl ht
theorem s205_654q (ht : tg a = 30) : Runs 205 654 ls (.int i :: .ref a :: st) (n, tg, ln, I, J, O) Q ↔ ((0 ≤ i ∧ i < Int32.ofNat (ln a)) ∧ Runs 205 655 ls (.int (I a i) :: st) (n, tg, ln, I, J, O) Q) := R_iald0 rfl ht
theorem s205_655 : Runs 205 655 [some (.ref a), x1, x2, x3] st h Q ↔ Runs 205 656 [some (.ref a), x1, x2, x3] (.ref a :: st) h Q := R_aldn rfl rfl
theorem s205_655q : Runs 205 655 [some (zrf r), x1, x2, x3] st h Q ↔ Runs 205 656 [some (zrf r), x1, x2, x3] (zrf r :: st) h Q := R_aldnq rfl rfl
theorem s205_656 : Runs 205 656 [x0, x1, x2, some (.int i)] st h Q ↔ Runs 205 657 [x0, x1, x2, some (.int i)] (.int i :: st) h Q := R_ildn rfl rfl
theorem s205_657 : Runs 205 657 ls st h Q ↔ Runs 205 658 ls (.int 2 :: st) h Q := R_iconst rfl rfl
theorem s205_658 : Runs 205 658 ls (.int j :: .int i :: st) h Q ↔ Runs 205 659 ls (.int (i + j) :: st) h Q := R_iadd rfl
theorem s205_659 (ht : tg a = 20) : Runs 205 659 ls (.int i :: .ref a :: st) (n, tg, ln, I, J, O) Q ↔ ((0 ≤ i ∧ i < Int32.ofNat (ln a)) ∧ Runs 205 660 ls (.int (I a i) :: st) (n, tg, ln, I, J, O) Q) := R_iald rfl ht
theorem s205_659q (ht : tg a = 30) : Runs 205 659 ls (.int i :: .ref a :: st) (n, tg, ln, I, J, O) Q ↔ ((0 ≤ i ∧ i < Int32.ofNat (ln a)) ∧ Runs 205 660 ls (.int (I a i) :: st) (n, tg, ln, I, J, O) Q) := R_iald0 rfl ht
theorem s205_660 (ht : tg a = 10) (hs : zsumc st ≤ 8) : Runs 205 660 ls (.int i1 :: .int i0 :: .ref a :: st) (n, tg, ln, I, J, O) Q ↔ Runs 180 0 [some (.ref a), some (.int i0), some (.int i1), none, none] [] (n, tg, ln, I, J, O) (fun v h2 => Runs 205 663 ls (v.toList ++ st) h2 Q) := R_callv (a := a) (rest := st) rfl rfl rfl rfl rfl rfl rfl ht hs
theorem s205_663 : Runs 205 663 ls (.int j :: .int i :: st) h Q ↔ if i = j then Runs 205 1193 ls st h Q else Runs 205 666 ls st h Q := R_iceq rfl rfl
theorem s205_666 : Runs 205 666 ls st h Q ↔ Runs 205 667 ls (.int 0 :: st) h Q := R_iconst rfl rfl
theorem s205_667 (hx : i = 0 ∨ i = 1) : Runs 205 667 ls [.int i] h Q ↔ Q (some (.int i)) h := R_zret rfl rfl hx
theorem s205_668 : Runs 205 668 [x0, some (.ref a), x2, x3] st h Q ↔ Runs 205 669 [x0, some (.ref a), x2, x3] (.ref a :: st) h Q := R_aldn rfl rfl
theorem s205_668q : Runs 205 668 [x0, some (zrf r), x2, x3] st h Q ↔ Runs 205 669 [x0, some (zrf r), x2, x3] (zrf r :: st) h Q := R_aldnq rfl rfl
theorem s205_669 : Runs 205 669 [some (.ref a), x1, x2, x3] st h Q ↔ Runs 205 670 [some (.ref a), x1, x2, x3] (.ref a :: st) h Q := R_aldn rfl rfl
theorem s205_669q : Runs 205 669 [some (zrf r), x1, x2, x3] st h Q ↔ Runs 205 670 [some (zrf r), x1, x2, x3] (zrf r :: st) h Q := R_aldnq rfl rfl
theorem s205_670 : Runs 205 670 [x0, x1, x2, some (.int i)] st h Q ↔ Runs 205 671 [x0, x1, x2, some (.int i)] (.int i :: st) h Q := R_ildn rfl rfl
theorem s205_671 : Runs 205 671 ls st h Q ↔ Runs 205 672 ls (.int 1 :: st) h Q := R_iconst rfl rfl
theorem s205_672 : Runs 205 672 ls (.int j :: .int i :: st) h Q ↔ Runs 205 673 ls (.int (i + j) :: st) h Q := R_iadd rfl
theorem s205_673 (ht : tg a = 20) : Runs 205 673 ls (.int i :: .ref a :: st) (n, tg, ln, I, J, O) Q ↔ ((0 ≤ i ∧ i < Int32.ofNat (ln a)) ∧ Runs 205 674 ls (.int (I a i) :: st) (n, tg, ln, I, J, O) Q) := R_iald rfl ht
theorem s205_673q (ht : tg a = 30) : Runs 205 673 ls (.int i :: .ref a :: st) (n, tg, ln, I, J, O) Q ↔ ((0 ≤ i ∧ i < Int32.ofNat (ln a)) ∧ Runs 205 674 ls (.int (I a i) :: st) (n, tg, ln, I, J, O) Q) := R_iald0 rfl ht
theorem s205_674 : Runs 205 674 [some (.ref a), x1, x2, x3] st h Q ↔ Runs 205 675 [some (.ref a), x1, x2, x3] (.ref a :: st) h Q := R_aldn rfl rfl
theorem s205_674q : Runs 205 674 [some (zrf r), x1, x2, x3] st h Q ↔ Runs 205 675 [some (zrf r), x1, x2, x3] (zrf r :: st) h Q := R_aldnq rfl rfl
theorem s205_675 : Runs 205 675 [x0, x1, x2, some (.int i)] st h Q ↔ Runs 205 676 [x0, x1, x2, some (.int i)] (.int i :: st) h Q := R_ildn rfl rfl
theorem s205_676 : Runs 205 676 ls st h Q ↔ Runs 205 677 ls (.int 2 :: st) h Q := R_iconst rfl rfl
theorem s205_677 : Runs 205 677 ls (.int j :: .int i :: st) h Q ↔ Runs 205 678 ls (.int (i + j) :: st) h Q := R_iadd rfl
theorem s205_678 (ht : tg a = 20) : Runs 205 678 ls (.int i :: .ref a :: st) (n, tg, ln, I, J, O) Q ↔ ((0 ≤ i ∧ i < Int32.ofNat (ln a)) ∧ Runs 205 679 ls (.int (I a i) :: st) (n, tg, ln, I, J, O) Q) := R_iald rfl ht
theorem s205_678q (ht : tg a = 30) : Runs 205 678 ls (.int i :: .ref a :: st) (n, tg, ln, I, J, O) Q ↔ ((0 ≤ i ∧ i < Int32.ofNat (ln a)) ∧ Runs 205 679 ls (.int (I a i) :: st) (n, tg, ln, I, J, O) Q) := R_iald0 rfl ht
theorem s205_679 (ht : tg a = 9) (hs : zsumc st ≤ 8) : Runs 205 679 ls (.int i1 :: .int i0 :: .ref a :: st) (n, tg, ln, I, J, O) Q ↔ Runs 100 0 [some (.ref a), some (.int i0), some (.int i1)] [] (n, tg, ln, I, J, O) (fun v h2 => Runs 205 682 ls (v.toList ++ st) h2 Q) := R_callv (a := a) (rest := st) rfl rfl rfl rfl rfl rfl rfl ht hs
theorem s205_682 : Runs 205 682 [x0, x1, some (.ref a), x3] st h Q ↔ Runs 205 683 [x0, x1, some (.ref a), x3] (.ref a :: st) h Q := R_aldn rfl rfl
theorem s205_682q : Runs 205 682 [x0, x1, some (zrf r), x3] st h Q ↔ Runs 205 683 [x0, x1, some (zrf r), x3] (zrf r :: st) h Q := R_aldnq rfl rfl
theorem s205_683 : Runs 205 683 [some (.ref a), x1, x2, x3] st h Q ↔ Runs 205 684 [some (.ref a), x1, x2, x3] (.ref a :: st) h Q := R_aldn rfl rfl
theorem s205_683q : Runs 205 683 [some (zrf r), x1, x2, x3] st h Q ↔ Runs 205 684 [some (zrf r), x1, x2, x3] (zrf r :: st) h Q := R_aldnq rfl rfl
theorem s205_684 : Runs 205 684 [x0, x1, x2, some (.int i)] st h Q ↔ Runs 205 685 [x0, x1, x2, some (.int i)] (.int i :: st) h Q := R_ildn rfl rfl
theorem s205_685 : Runs 205 685 ls st h Q ↔ Runs 205 686 ls (.int 1 :: st) h Q := R_iconst rfl rfl
theorem s205_686 : Runs 205 686 ls (.int j :: .int i :: st) h Q ↔ Runs 205 687 ls (.int (i + j) :: st) h Q := R_iadd rfl
theorem s205_687 (ht : tg a = 20) : Runs 205 687 ls (.int i :: .ref a :: st) (n, tg, ln, I, J, O) Q ↔ ((0 ≤ i ∧ i < Int32.ofNat (ln a)) ∧ Runs 205 688 ls (.int (I a i) :: st) (n, tg, ln, I, J, O) Q) := R_iald rfl ht
theorem s205_687q (ht : tg a = 30) : Runs 205 687 ls (.int i :: .ref a :: st) (n, tg, ln, I, J, O) Q ↔ ((0 ≤ i ∧ i < Int32.ofNat (ln a)) ∧ Runs 205 688 ls (.int (I a i) :: st) (n, tg, ln, I, J, O) Q) := R_iald0 rfl ht
theorem s205_688 : Runs 205 688 [some (.ref a), x1, x2, x3] st h Q ↔ Runs 205 689 [some (.ref a), x1, x2, x3] (.ref a :: st) h Q := R_aldn rfl rfl
theorem s205_688q : Runs 205 688 [some (zrf r), x1, x2, x3] st h Q ↔ Runs 205 689 [some (zrf r), x1, x2, x3] (zrf r :: st) h Q := R_aldnq rfl rfl
theorem s205_689 : Runs 205 689 [x0, x1, x2, some (.int i)] st h Q ↔ Runs 205 690 [x0, x1, x2, some (.int i)] (.int i :: st) h Q := R_ildn rfl rfl
theorem s205_690 : Runs 205 690 ls st h Q ↔ Runs 205 691 ls (.int 2 :: st) h Q := R_iconst rfl rfl
theorem s205_691 : Runs 205 691 ls (.int j :: .int i :: st) h Q ↔ Runs 205 692 ls (.int (i + j) :: st) h Q := R_iadd rfl
theorem s205_692 (ht : tg a = 20) : Runs 205 692 ls (.int i :: .ref a :: st) (n, tg, ln, I, J, O) Q ↔ ((0 ≤ i ∧ i < Int32.ofNat (ln a)) ∧ Runs 205 693 ls (.int (I a i) :: st) (n, tg, ln, I, J, O) Q) := R_iald rfl ht
theorem s205_692q (ht : tg a = 30) : Runs 205 692 ls (.int i :: .ref a :: st) (n, tg, ln, I, J, O) Q ↔ ((0 ≤ i ∧ i < Int32.ofNat (ln a)) ∧ Runs 205 693 ls (.int (I a i) :: st) (n, tg, ln, I, J, O) Q) := R_iald0 rfl ht
theorem s205_693 (ht : tg a = 10) (hs : zsumc st ≤ 8) : Runs 205 693 ls (.int i1 :: .int i0 :: .ref a :: st) (n, tg, ln, I, J, O) Q ↔ Runs 182 0 [some (.ref a), some (.int i0), some (.int i1), none, none, none] [] (n, tg, ln, I, J, O) (fun v h2 => Runs 205 696 ls (v.toList ++ st) h2 Q) := R_callv (a := a) (rest := st) rfl rfl rfl rfl rfl rfl rfl ht hs
theorem s205_696 : Runs 205 696 ls (.int j :: .int i :: st) h Q ↔ if i = j then Runs 205 1193 ls st h Q else Runs 205 699 ls st h Q := R_iceq rfl rfl
theorem s205_699 : Runs 205 699 ls st h Q ↔ Runs 205 700 ls (.int 0 :: st) h Q := R_iconst rfl rfl
theorem s205_700 (hx : i = 0 ∨ i = 1) : Runs 205 700 ls [.int i] h Q ↔ Q (some (.int i)) h := R_zret rfl rfl hx
theorem s205_701 : Runs 205 701 [x0, some (.ref a), x2, x3] st h Q ↔ Runs 205 702 [x0, some (.ref a), x2, x3] (.ref a :: st) h Q := R_aldn rfl rfl
theorem s205_701q : Runs 205 701 [x0, some (zrf r), x2, x3] st h Q ↔ Runs 205 702 [x0, some (zrf r), x2, x3] (zrf r :: st) h Q := R_aldnq rfl rfl
theorem s205_702 : Runs 205 702 [some (.ref a), x1, x2, x3] st h Q ↔ Runs 205 703 [some (.ref a), x1, x2, x3] (.ref a :: st) h Q := R_aldn rfl rfl
theorem s205_702q : Runs 205 702 [some (zrf r), x1, x2, x3] st h Q ↔ Runs 205 703 [some (zrf r), x1, x2, x3] (zrf r :: st) h Q := R_aldnq rfl rfl
theorem s205_703 : Runs 205 703 [x0, x1, x2, some (.int i)] st h Q ↔ Runs 205 704 [x0, x1, x2, some (.int i)] (.int i :: st) h Q := R_ildn rfl rfl
theorem s205_704 : Runs 205 704 ls st h Q ↔ Runs 205 705 ls (.int 1 :: st) h Q := R_iconst rfl rfl
theorem s205_705 : Runs 205 705 ls (.int j :: .int i :: st) h Q ↔ Runs 205 706 ls (.int (i + j) :: st) h Q := R_iadd rfl
theorem s205_706 (ht : tg a = 20) : Runs 205 706 ls (.int i :: .ref a :: st) (n, tg, ln, I, J, O) Q ↔ ((0 ≤ i ∧ i < Int32.ofNat (ln a)) ∧ Runs 205 707 ls (.int (I a i) :: st) (n, tg, ln, I, J, O) Q) := R_iald rfl ht
theorem s205_706q (ht : tg a = 30) : Runs 205 706 ls (.int i :: .ref a :: st) (n, tg, ln, I, J, O) Q ↔ ((0 ≤ i ∧ i < Int32.ofNat (ln a)) ∧ Runs 205 707 ls (.int (I a i) :: st) (n, tg, ln, I, J, O) Q) := R_iald0 rfl ht
theorem s205_707 (ht : tg a = 9) (hs : zsumc st ≤ 8) : Runs 205 707 ls (.int i0 :: .ref a :: st) (n, tg, ln, I, J, O) Q ↔ Runs 101 0 [some (.ref a), some (.int i0), none, none] [] (n, tg, ln, I, J, O) (fun v h2 => Runs 205 710 ls (v.toList ++ st) h2 Q) := R_callv (a := a) (rest := st) rfl rfl rfl rfl rfl rfl rfl ht hs
theorem s205_710 : Runs 205 710 [x0, x1, some (.ref a), x3] st h Q ↔ Runs 205 711 [x0, x1, some (.ref a), x3] (.ref a :: st) h Q := R_aldn rfl rfl
theorem s205_710q : Runs 205 710 [x0, x1, some (zrf r), x3] st h Q ↔ Runs 205 711 [x0, x1, some (zrf r), x3] (zrf r :: st) h Q := R_aldnq rfl rfl
theorem s205_711 : Runs 205 711 [some (.ref a), x1, x2, x3] st h Q ↔ Runs 205 712 [some (.ref a), x1, x2, x3] (.ref a :: st) h Q := R_aldn rfl rfl
theorem s205_711q : Runs 205 711 [some (zrf r), x1, x2, x3] st h Q ↔ Runs 205 712 [some (zrf r), x1, x2, x3] (zrf r :: st) h Q := R_aldnq rfl rfl
theorem s205_712 : Runs 205 712 [x0, x1, x2, some (.int i)] st h Q ↔ Runs 205 713 [x0, x1, x2, some (.int i)] (.int i :: st) h Q := R_ildn rfl rfl
theorem s205_713 : Runs 205 713 ls st h Q ↔ Runs 205 714 ls (.int 1 :: st) h Q := R_iconst rfl rfl
theorem s205_714 : Runs 205 714 ls (.int j :: .int i :: st) h Q ↔ Runs 205 715 ls (.int (i + j) :: st) h Q := R_iadd rfl
theorem s205_715 (ht : tg a = 20) : Runs 205 715 ls (.int i :: .ref a :: st) (n, tg, ln, I, J, O) Q ↔ ((0 ≤ i ∧ i < Int32.ofNat (ln a)) ∧ Runs 205 716 ls (.int (I a i) :: st) (n, tg, ln, I, J, O) Q) := R_iald rfl ht
theorem s205_715q (ht : tg a = 30) : Runs 205 715 ls (.int i :: .ref a :: st) (n, tg, ln, I, J, O) Q ↔ ((0 ≤ i ∧ i < Int32.ofNat (ln a)) ∧ Runs 205 716 ls (.int (I a i) :: st) (n, tg, ln, I, J, O) Q) := R_iald0 rfl ht
theorem s205_716 (ht : tg a = 10) (hs : zsumc st ≤ 8) : Runs 205 716 ls (.int i0 :: .ref a :: st) (n, tg, ln, I, J, O) Q ↔ Runs 183 0 [some (.ref a), some (.int i0), none, none, none, none] [] (n, tg, ln, I, J, O) (fun v h2 => Runs 205 719 ls (v.toList ++ st) h2 Q) := R_callv (a := a) (rest := st) rfl rfl rfl rfl rfl rfl rfl ht hs
theorem s205_719 : Runs 205 719 ls (.int j :: .int i :: st) h Q ↔ if i = j then Runs 205 1193 ls st h Q else Runs 205 722 ls st h Q := R_iceq rfl rfl
theorem s205_722 : Runs 205 722 ls st h Q ↔ Runs 205 723 ls (.int 0 :: st) h Q := R_iconst rfl rfl
theorem s205_723 (hx : i = 0 ∨ i = 1) : Runs 205 723 ls [.int i] h Q ↔ Q (some (.int i)) h := R_zret rfl rfl hx
theorem s205_724 : Runs 205 724 [x0, some (.ref a), x2, x3] st h Q ↔ Runs 205 725 [x0, some (.ref a), x2, x3] (.ref a :: st) h Q := R_aldn rfl rfl
theorem s205_724q : Runs 205 724 [x0, some (zrf r), x2, x3] st h Q ↔ Runs 205 725 [x0, some (zrf r), x2, x3] (zrf r :: st) h Q := R_aldnq rfl rfl
theorem s205_725 : Runs 205 725 [some (.ref a), x1, x2, x3] st h Q ↔ Runs 205 726 [some (.ref a), x1, x2, x3] (.ref a :: st) h Q := R_aldn rfl rfl
theorem s205_725q : Runs 205 725 [some (zrf r), x1, x2, x3] st h Q ↔ Runs 205 726 [some (zrf r), x1, x2, x3] (zrf r :: st) h Q := R_aldnq rfl rfl
theorem s205_726 : Runs 205 726 [x0, x1, x2, some (.int i)] st h Q ↔ Runs 205 727 [x0, x1, x2, some (.int i)] (.int i :: st) h Q := R_ildn rfl rfl
theorem s205_727 : Runs 205 727 ls st h Q ↔ Runs 205 728 ls (.int 1 :: st) h Q := R_iconst rfl rfl
theorem s205_728 : Runs 205 728 ls (.int j :: .int i :: st) h Q ↔ Runs 205 729 ls (.int (i + j) :: st) h Q := R_iadd rfl
theorem s205_729 (ht : tg a = 20) : Runs 205 729 ls (.int i :: .ref a :: st) (n, tg, ln, I, J, O) Q ↔ ((0 ≤ i ∧ i < Int32.ofNat (ln a)) ∧ Runs 205 730 ls (.int (I a i) :: st) (n, tg, ln, I, J, O) Q) := R_iald rfl ht
theorem s205_729q (ht : tg a = 30) : Runs 205 729 ls (.int i :: .ref a :: st) (n, tg, ln, I, J, O) Q ↔ ((0 ≤ i ∧ i < Int32.ofNat (ln a)) ∧ Runs 205 730 ls (.int (I a i) :: st) (n, tg, ln, I, J, O) Q) := R_iald0 rfl ht
theorem s205_730 : Runs 205 730 [some (.ref a), x1, x2, x3] st h Q ↔ Runs 205 731 [some (.ref a), x1, x2, x3] (.ref a :: st) h Q := R_aldn rfl rfl
theorem s205_730q : Runs 205 730 [some (zrf r), x1, x2, x3] st h Q ↔ Runs 205 731 [some (zrf r), x1, x2, x3] (zrf r :: st) h Q := R_aldnq rfl rfl
theorem s205_731 : Runs 205 731 [x0, x1, x2, some (.int i)] st h Q ↔ Runs 205 732 [x0, x1, x2, some (.int i)] (.int i :: st) h Q := R_ildn rfl rfl
theorem s205_732 : Runs 205 732 ls st h Q ↔ Runs 205 733 ls (.int 2 :: st) h Q := R_iconst rfl rfl
theorem s205_733 : Runs 205 733 ls (.int j :: .int i :: st) h Q ↔ Runs 205 734 ls (.int (i + j) :: st) h Q := R_iadd rfl
theorem s205_734 (ht : tg a = 20) : Runs 205 734 ls (.int i :: .ref a :: st) (n, tg, ln, I, J, O) Q ↔ ((0 ≤ i ∧ i < Int32.ofNat (ln a)) ∧ Runs 205 735 ls (.int (I a i) :: st) (n, tg, ln, I, J, O) Q) := R_iald rfl ht
theorem s205_734q (ht : tg a = 30) : Runs 205 734 ls (.int i :: .ref a :: st) (n, tg, ln, I, J, O) Q ↔ ((0 ≤ i ∧ i < Int32.ofNat (ln a)) ∧ Runs 205 735 ls (.int (I a i) :: st) (n, tg, ln, I, J, O) Q) := R_iald0 rfl ht
theorem s205_735 (ht : tg a = 9) (hs : zsumc st ≤ 8) : Runs 205 735 ls (.int i1 :: .int i0 :: .ref a :: st) (n, tg, ln, I, J, O) Q ↔ Runs 102 0 [some (.ref a), some (.int i0), some (.int i1)] [] (n, tg, ln, I, J, O) (fun v h2 => Runs 205 738 ls (v.toList ++ st) h2 Q) := R_callv (a := a) (rest := st) rfl rfl rfl rfl rfl rfl rfl ht hs
theorem s205_738 : Runs 205 738 [x0, x1, some (.ref a), x3] st h Q ↔ Runs 205 739 [x0, x1, some (.ref a), x3] (.ref a :: st) h Q := R_aldn rfl rfl
theorem s205_738q : Runs 205 738 [x0, x1, some (zrf r), x3] st h Q ↔ Runs 205 739 [x0, x1, some (zrf r), x3] (zrf r :: st) h Q := R_aldnq rfl rfl
theorem s205_739 : Runs 205 739 [some (.ref a), x1, x2, x3] st h Q ↔ Runs 205 740 [some (.ref a), x1, x2, x3] (.ref a :: st) h Q := R_aldn rfl rfl
theorem s205_739q : Runs 205 739 [some (zrf r), x1, x2, x3] st h Q ↔ Runs 205 740 [some (zrf r), x1, x2, x3] (zrf r :: st) h Q := R_aldnq rfl rfl
theorem s205_740 : Runs 205 740 [x0, x1, x2, some (.int i)] st h Q ↔ Runs 205 741 [x0, x1, x2, some (.int i)] (.int i :: st) h Q := R_ildn rfl rfl
theorem s205_741 : Runs 205 741 ls st h Q ↔ Runs 205 742 ls (.int 1 :: st) h Q := R_iconst rfl rfl
theorem s205_742 : Runs 205 742 ls (.int j :: .int i :: st) h Q ↔ Runs 205 743 ls (.int (i + j) :: st) h Q := R_iadd rfl
theorem s205_743 (ht : tg a = 20) : Runs 205 743 ls (.int i :: .ref a :: st) (n, tg, ln, I, J, O) Q ↔ ((0 ≤ i ∧ i < Int32.ofNat (ln a)) ∧ Runs 205 744 ls (.int (I a i) :: st) (n, tg, ln, I, J, O) Q) := R_iald rfl ht
theorem s205_743q (ht : tg a = 30) : Runs 205 743 ls (.int i :: .ref a :: st) (n, tg, ln, I, J, O) Q ↔ ((0 ≤ i ∧ i < Int32.ofNat (ln a)) ∧ Runs 205 744 ls (.int (I a i) :: st) (n, tg, ln, I, J, O) Q) := R_iald0 rfl ht
theorem s205_744 : Runs 205 744 [some (.ref a), x1, x2, x3] st h Q ↔ Runs 205 745 [some (.ref a), x1, x2, x3] (.ref a :: st) h Q := R_aldn rfl rfl
theorem s205_744q : Runs 205 744 [some (zrf r), x1, x2, x3] st h Q ↔ Runs 205 745 [some (zrf r), x1, x2, x3] (zrf r :: st) h Q := R_aldnq rfl rfl
theorem s205_745 : Runs 205 745 [x0, x1, x2, some (.int i)] st h Q ↔ Runs 205 746 [x0, x1, x2, some (.int i)] (.int i :: st) h Q := R_ildn rfl rfl
theorem s205_746 : Runs 205 746 ls st h Q ↔ Runs 205 747 ls (.int 2 :: st) h Q := R_iconst rfl rfl
theorem s205_747 : Runs 205 747 ls (.int j :: .int i :: st) h Q ↔ Runs 205 748 ls (.int (i + j) :: st) h Q := R_iadd rfl
theorem s205_748 (ht : tg a = 20) : Runs 205 748 ls (.int i :: .ref a :: st) (n, tg, ln, I, J, O) Q ↔ ((0 ≤ i ∧ i < Int32.ofNat (ln a)) ∧ Runs 205 749 ls (.int (I a i) :: st) (n, tg, ln, I, J, O) Q) := R_iald rfl ht
theorem s205_748q (ht : tg a = 30) : Runs 205 748 ls (.int i :: .ref a :: st) (n, tg, ln, I, J, O) Q ↔ ((0 ≤ i ∧ i < Int32.ofNat (ln a)) ∧ Runs 205 749 ls (.int (I a i) :: st) (n, tg, ln, I, J, O) Q) := R_iald0 rfl ht
theorem s205_749 (ht : tg a = 10) (hs : zsumc st ≤ 8) : Runs 205 749 ls (.int i1 :: .int i0 :: .ref a :: st) (n, tg, ln, I, J, O) Q ↔ Runs 184 0 [some (.ref a), some (.int i0), some (.int i1)] [] (n, tg, ln, I, J, O) (fun v h2 => Runs 205 752 ls (v.toList ++ st) h2 Q) := R_callv (a := a) (rest := st) rfl rfl rfl rfl rfl rfl rfl ht hs
theorem s205_752 : Runs 205 752 ls (.int j :: .int i :: st) h Q ↔ if i = j then Runs 205 1193 ls st h Q else Runs 205 755 ls st h Q := R_iceq rfl rfl
theorem s205_755 : Runs 205 755 ls st h Q ↔ Runs 205 756 ls (.int 0 :: st) h Q := R_iconst rfl rfl
theorem s205_756 (hx : i = 0 ∨ i = 1) : Runs 205 756 ls [.int i] h Q ↔ Q (some (.int i)) h := R_zret rfl rfl hx
theorem s205_757 : Runs 205 757 [x0, some (.ref a), x2, x3] st h Q ↔ Runs 205 758 [x0, some (.ref a), x2, x3] (.ref a :: st) h Q := R_aldn rfl rfl
theorem s205_757q : Runs 205 757 [x0, some (zrf r), x2, x3] st h Q ↔ Runs 205 758 [x0, some (zrf r), x2, x3] (zrf r :: st) h Q := R_aldnq rfl rfl
theorem s205_758 (ht : tg a = 9) (hs : zsumc st ≤ 8) : Runs 205 758 ls (.ref a :: st) (n, tg, ln, I, J, O) Q ↔ Runs 103 0 [some (.ref a), none] [] (n, tg, ln, I, J, O) (fun v h2 => Runs 205 761 ls (v.toList ++ st) h2 Q) := R_callv (a := a) (rest := st) rfl rfl rfl rfl rfl rfl rfl ht hs
theorem s205_761 : Runs 205 761 [x0, x1, some (.ref a), x3] st h Q ↔ Runs 205 762 [x0, x1, some (.ref a), x3] (.ref a :: st) h Q := R_aldn rfl rfl
theorem s205_761q : Runs 205 761 [x0, x1, some (zrf r), x3] st h Q ↔ Runs 205 762 [x0, x1, some (zrf r), x3] (zrf r :: st) h Q := R_aldnq rfl rfl
theorem s205_762 (ht : tg a = 10) (hs : zsumc st ≤ 8) : Runs 205 762 ls (.ref a :: st) (n, tg, ln, I, J, O) Q ↔ Runs 185 0 [some (.ref a), none] [] (n, tg, ln, I, J, O) (fun v h2 => Runs 205 765 ls (v.toList ++ st) h2 Q) := R_callv (a := a) (rest := st) rfl rfl rfl rfl rfl rfl rfl ht hs
theorem s205_765 : Runs 205 765 ls (.int j :: .int i :: st) h Q ↔ if i = j then Runs 205 1193 ls st h Q else Runs 205 768 ls st h Q := R_iceq rfl rfl
theorem s205_768 : Runs 205 768 ls st h Q ↔ Runs 205 769 ls (.int 0 :: st) h Q := R_iconst rfl rfl
theorem s205_769 (hx : i = 0 ∨ i = 1) : Runs 205 769 ls [.int i] h Q ↔ Q (some (.int i)) h := R_zret rfl rfl hx
theorem s205_770 : Runs 205 770 [x0, some (.ref a), x2, x3] st h Q ↔ Runs 205 771 [x0, some (.ref a), x2, x3] (.ref a :: st) h Q := R_aldn rfl rfl
theorem s205_770q : Runs 205 770 [x0, some (zrf r), x2, x3] st h Q ↔ Runs 205 771 [x0, some (zrf r), x2, x3] (zrf r :: st) h Q := R_aldnq rfl rfl
theorem s205_771 (ht : tg a = 9) (hs : zsumc st ≤ 8) : Runs 205 771 ls (.ref a :: st) (n, tg, ln, I, J, O) Q ↔ Runs 104 0 [some (.ref a), none, none] [] (n, tg, ln, I, J, O) (fun v h2 => Runs 205 774 ls (v.toList ++ st) h2 Q) := R_callv (a := a) (rest := st) rfl rfl rfl rfl rfl rfl rfl ht hs
theorem s205_774 : Runs 205 774 [x0, x1, some (.ref a), x3] st h Q ↔ Runs 205 775 [x0, x1, some (.ref a), x3] (.ref a :: st) h Q := R_aldn rfl rfl
theorem s205_774q : Runs 205 774 [x0, x1, some (zrf r), x3] st h Q ↔ Runs 205 775 [x0, x1, some (zrf r), x3] (zrf r :: st) h Q := R_aldnq rfl rfl
theorem s205_775 (ht : tg a = 10) (hs : zsumc st ≤ 8) : Runs 205 775 ls (.ref a :: st) (n, tg, ln, I, J, O) Q ↔ Runs 187 0 [some (.ref a), none, none] [] (n, tg, ln, I, J, O) (fun v h2 => Runs 205 778 ls (v.toList ++ st) h2 Q) := R_callv (a := a) (rest := st) rfl rfl rfl rfl rfl rfl rfl ht hs
theorem s205_778 : Runs 205 778 ls (.int j :: .int i :: st) h Q ↔ if i = j then Runs 205 1193 ls st h Q else Runs 205 781 ls st h Q := R_iceq rfl rfl
theorem s205_781 : Runs 205 781 ls st h Q ↔ Runs 205 782 ls (.int 0 :: st) h Q := R_iconst rfl rfl
theorem s205_782 (hx : i = 0 ∨ i = 1) : Runs 205 782 ls [.int i] h Q ↔ Q (some (.int i)) h := R_zret rfl rfl hx
theorem s205_783 : Runs 205 783 [x0, some (.ref a), x2, x3] st h Q ↔ Runs 205 784 [x0, some (.ref a), x2, x3] (.ref a :: st) h Q := R_aldn rfl rfl
theorem s205_783q : Runs 205 783 [x0, some (zrf r), x2, x3] st h Q ↔ Runs 205 784 [x0, some (zrf r), x2, x3] (zrf r :: st) h Q := R_aldnq rfl rfl
theorem s205_784 : Runs 205 784 [some (.ref a), x1, x2, x3] st h Q ↔ Runs 205 785 [some (.ref a), x1, x2, x3] (.ref a :: st) h Q := R_aldn rfl rfl
theorem s205_784q : Runs 205 784 [some (zrf r), x1, x2, x3] st h Q ↔ Runs 205 785 [some (zrf r), x1, x2, x3] (zrf r :: st) h Q := R_aldnq rfl rfl
theorem s205_785 : Runs 205 785 [x0, x1, x2, some (.int i)] st h Q ↔ Runs 205 786 [x0, x1, x2, some (.int i)] (.int i :: st) h Q := R_ildn rfl rfl
theorem s205_786 : Runs 205 786 ls st h Q ↔ Runs 205 787 ls (.int 1 :: st) h Q := R_iconst rfl rfl
theorem s205_787 : Runs 205 787 ls (.int j :: .int i :: st) h Q ↔ Runs 205 788 ls (.int (i + j) :: st) h Q := R_iadd rfl
theorem s205_788 (ht : tg a = 20) : Runs 205 788 ls (.int i :: .ref a :: st) (n, tg, ln, I, J, O) Q ↔ ((0 ≤ i ∧ i < Int32.ofNat (ln a)) ∧ Runs 205 789 ls (.int (I a i) :: st) (n, tg, ln, I, J, O) Q) := R_iald rfl ht
theorem s205_788q (ht : tg a = 30) : Runs 205 788 ls (.int i :: .ref a :: st) (n, tg, ln, I, J, O) Q ↔ ((0 ≤ i ∧ i < Int32.ofNat (ln a)) ∧ Runs 205 789 ls (.int (I a i) :: st) (n, tg, ln, I, J, O) Q) := R_iald0 rfl ht
theorem s205_789 (ht : tg a = 9) (hs : zsumc st ≤ 8) : Runs 205 789 ls (.int i0 :: .ref a :: st) (n, tg, ln, I, J, O) Q ↔ Runs 105 0 [some (.ref a), some (.int i0), none, none] [] (n, tg, ln, I, J, O) (fun v h2 => Runs 205 792 ls (v.toList ++ st) h2 Q) := R_callv (a := a) (rest := st) rfl rfl rfl rfl rfl rfl rfl ht hs
theorem s205_792 : Runs 205 792 [x0, x1, some (.ref a), x3] st h Q ↔ Runs 205 793 [x0, x1, some (.ref a), x3] (.ref a :: st) h Q := R_aldn rfl rfl
theorem s205_792q : Runs 205 792 [x0, x1, some (zrf r), x3] st h Q ↔ Runs 205 793 [x0, x1, some (zrf r), x3] (zrf r :: st) h Q := R_aldnq rfl rfl
theorem s205_793 : Runs 205 793 [some (.ref a), x1, x2, x3] st h Q ↔ Runs 205 794 [some (.ref a), x1, x2, x3] (.ref a :: st) h Q := R_aldn rfl rfl
theorem s205_793q : Runs 205 793 [some (zrf r), x1, x2, x3] st h Q ↔ Runs 205 794 [some (zrf r), x1, x2, x3] (zrf r :: st) h Q := R_aldnq rfl rfl
theorem s205_794 : Runs 205 794 [x0, x1, x2, some (.int i)] st h Q ↔ Runs 205 795 [x0, x1, x2, some (.int i)] (.int i :: st) h Q := R_ildn rfl rfl
theorem s205_795 : Runs 205 795 ls st h Q ↔ Runs 205 796 ls (.int 1 :: st) h Q := R_iconst rfl rfl
theorem s205_796 : Runs 205 796 ls (.int j :: .int i :: st) h Q ↔ Runs 205 797 ls (.int (i + j) :: st) h Q := R_iadd rfl
theorem s205_797 (ht : tg a = 20) : Runs 205 797 ls (.int i :: .ref a :: st) (n, tg, ln, I, J, O) Q ↔ ((0 ≤ i ∧ i < Int32.ofNat (ln a)) ∧ Runs 205 798 ls (.int (I a i) :: st) (n, tg, ln, I, J, O) Q) := R_iald rfl ht
theorem s205_797q (ht : tg a = 30) : Runs 205 797 ls (.int i :: .ref a :: st) (n, tg, ln, I, J, O) Q ↔ ((0 ≤ i ∧ i < Int32.ofNat (ln a)) ∧ Runs 205 798 ls (.int (I a i) :: st) (n, tg, ln, I, J, O) Q) := R_iald0 rfl ht
theorem s205_798 (ht : tg a = 10) (hs : zsumc st ≤ 8) : Runs 205 798 ls (.int i0 :: .ref a :: st) (n, tg, ln, I, J, O) Q ↔ Runs 188 0 [some (.ref a), some (.int i0), none, none] [] (n, tg, ln, I, J, O) (fun v h2 => Runs 205 801 ls (v.toList ++ st) h2 Q) := R_callv (a := a) (rest := st) rfl rfl rfl rfl rfl rfl rfl ht hs
theorem s205_801 : Runs 205 801 ls (.int j :: .int i :: st) h Q ↔ if i = j then Runs 205 1193 ls st h Q else Runs 205 804 ls st h Q := R_iceq rfl rfl
theorem s205_804 : Runs 205 804 ls st h Q ↔ Runs 205 805 ls (.int 0 :: st) h Q := R_iconst rfl rfl
theorem s205_805 (hx : i = 0 ∨ i = 1) : Runs 205 805 ls [.int i] h Q ↔ Q (some (.int i)) h := R_zret rfl rfl hx
theorem s205_806 : Runs 205 806 [x0, some (.ref a), x2, x3] st h Q ↔ Runs 205 807 [x0, some (.ref a), x2, x3] (.ref a :: st) h Q := R_aldn rfl rfl
theorem s205_806q : Runs 205 806 [x0, some (zrf r), x2, x3] st h Q ↔ Runs 205 807 [x0, some (zrf r), x2, x3] (zrf r :: st) h Q := R_aldnq rfl rfl
theorem s205_807 : Runs 205 807 [some (.ref a), x1, x2, x3] st h Q ↔ Runs 205 808 [some (.ref a), x1, x2, x3] (.ref a :: st) h Q := R_aldn rfl rfl
theorem s205_807q : Runs 205 807 [some (zrf r), x1, x2, x3] st h Q ↔ Runs 205 808 [some (zrf r), x1, x2, x3] (zrf r :: st) h Q := R_aldnq rfl rfl
theorem s205_808 : Runs 205 808 [x0, x1, x2, some (.int i)] st h Q ↔ Runs 205 809 [x0, x1, x2, some (.int i)] (.int i :: st) h Q := R_ildn rfl rfl
theorem s205_809 : Runs 205 809 ls st h Q ↔ Runs 205 810 ls (.int 1 :: st) h Q := R_iconst rfl rfl
theorem s205_810 : Runs 205 810 ls (.int j :: .int i :: st) h Q ↔ Runs 205 811 ls (.int (i + j) :: st) h Q := R_iadd rfl
theorem s205_811 (ht : tg a = 20) : Runs 205 811 ls (.int i :: .ref a :: st) (n, tg, ln, I, J, O) Q ↔ ((0 ≤ i ∧ i < Int32.ofNat (ln a)) ∧ Runs 205 812 ls (.int (I a i) :: st) (n, tg, ln, I, J, O) Q) := R_iald rfl ht
theorem s205_811q (ht : tg a = 30) : Runs 205 811 ls (.int i :: .ref a :: st) (n, tg, ln, I, J, O) Q ↔ ((0 ≤ i ∧ i < Int32.ofNat (ln a)) ∧ Runs 205 812 ls (.int (I a i) :: st) (n, tg, ln, I, J, O) Q) := R_iald0 rfl ht
theorem s205_812 : Runs 205 812 [some (.ref a), x1, x2, x3] st h Q ↔ Runs 205 813 [some (.ref a), x1, x2, x3] (.ref a :: st) h Q := R_aldn rfl rfl
theorem s205_812q : Runs 205 812 [some (zrf r), x1, x2, x3] st h Q ↔ Runs 205 813 [some (zrf r), x1, x2, x3] (zrf r :: st) h Q := R_aldnq rfl rfl
theorem s205_813 : Runs 205 813 [x0, x1, x2, some (.int i)] st h Q ↔ Runs 205 814 [x0, x1, x2, some (.int i)] (.int i :: st) h Q := R_ildn rfl rfl
theorem s205_814 : Runs 205 814 ls st h Q ↔ Runs 205 815 ls (.int 2 :: st) h Q := R_iconst rfl rfl
theorem s205_815 : Runs 205 815 ls (.int j :: .int i :: st) h Q ↔ Runs 205 816 ls (.int (i + j) :: st) h Q := R_iadd rfl
theorem s205_816 (ht : tg a = 20) : Runs 205 816 ls (.int i :: .ref a :: st) (n, tg, ln, I, J, O) Q ↔ ((0 ≤ i ∧ i < Int32.ofNat (ln a)) ∧ Runs 205 817 ls (.int (I a i) :: st) (n, tg, ln, I, J, O) Q) := R_iald rfl ht
theorem s205_816q (ht : tg a = 30) : Runs 205 816 ls (.int i :: .ref a :: st) (n, tg, ln, I, J, O) Q ↔ ((0 ≤ i ∧ i < Int32.ofNat (ln a)) ∧ Runs 205 817 ls (.int (I a i) :: st) (n, tg, ln, I, J, O) Q) := R_iald0 rfl ht
theorem s205_817 : Runs 205 817 [some (.ref a), x1, x2, x3] st h Q ↔ Runs 205 818 [some (.ref a), x1, x2, x3] (.ref a :: st) h Q := R_aldn rfl rfl
theorem s205_817q : Runs 205 817 [some (zrf r), x1, x2, x3] st h Q ↔ Runs 205 818 [some (zrf r), x1, x2, x3] (zrf r :: st) h Q := R_aldnq rfl rfl
theorem s205_818 : Runs 205 818 [x0, x1, x2, some (.int i)] st h Q ↔ Runs 205 819 [x0, x1, x2, some (.int i)] (.int i :: st) h Q := R_ildn rfl rfl
theorem s205_819 : Runs 205 819 ls st h Q ↔ Runs 205 820 ls (.int 3 :: st) h Q := R_iconst rfl rfl
theorem s205_820 : Runs 205 820 ls (.int j :: .int i :: st) h Q ↔ Runs 205 821 ls (.int (i + j) :: st) h Q := R_iadd rfl
theorem s205_821 (ht : tg a = 20) : Runs 205 821 ls (.int i :: .ref a :: st) (n, tg, ln, I, J, O) Q ↔ ((0 ≤ i ∧ i < Int32.ofNat (ln a)) ∧ Runs 205 822 ls (.int (I a i) :: st) (n, tg, ln, I, J, O) Q) := R_iald rfl ht
theorem s205_821q (ht : tg a = 30) : Runs 205 821 ls (.int i :: .ref a :: st) (n, tg, ln, I, J, O) Q ↔ ((0 ≤ i ∧ i < Int32.ofNat (ln a)) ∧ Runs 205 822 ls (.int (I a i) :: st) (n, tg, ln, I, J, O) Q) := R_iald0 rfl ht
theorem s205_822 : Runs 205 822 [some (.ref a), x1, x2, x3] st h Q ↔ Runs 205 823 [some (.ref a), x1, x2, x3] (.ref a :: st) h Q := R_aldn rfl rfl
theorem s205_822q : Runs 205 822 [some (zrf r), x1, x2, x3] st h Q ↔ Runs 205 823 [some (zrf r), x1, x2, x3] (zrf r :: st) h Q := R_aldnq rfl rfl
theorem s205_823 : Runs 205 823 [x0, x1, x2, some (.int i)] st h Q ↔ Runs 205 824 [x0, x1, x2, some (.int i)] (.int i :: st) h Q := R_ildn rfl rfl
theorem s205_824 : Runs 205 824 ls st h Q ↔ Runs 205 825 ls (.int 4 :: st) h Q := R_iconst rfl rfl
theorem s205_825 : Runs 205 825 ls (.int j :: .int i :: st) h Q ↔ Runs 205 826 ls (.int (i + j) :: st) h Q := R_iadd rfl
theorem s205_826 (ht : tg a = 20) : Runs 205 826 ls (.int i :: .ref a :: st) (n, tg, ln, I, J, O) Q ↔ ((0 ≤ i ∧ i < Int32.ofNat (ln a)) ∧ Runs 205 827 ls (.int (I a i) :: st) (n, tg, ln, I, J, O) Q) := R_iald rfl ht
theorem s205_826q (ht : tg a = 30) : Runs 205 826 ls (.int i :: .ref a :: st) (n, tg, ln, I, J, O) Q ↔ ((0 ≤ i ∧ i < Int32.ofNat (ln a)) ∧ Runs 205 827 ls (.int (I a i) :: st) (n, tg, ln, I, J, O) Q) := R_iald0 rfl ht
theorem s205_827 (ht : tg a = 9) (hs : zsumc st ≤ 8) : Runs 205 827 ls (.int i3 :: .int i2 :: .int i1 :: .int i0 :: .ref a :: st) (n, tg, ln, I, J, O) Q ↔ Runs 106 0 [some (.ref a), some (.int i0), some (.int i1), some (.int i2), some (.int i3), none, none, none, none, none, none] [] (n, tg, ln, I, J, O) (fun v h2 => Runs 205 830 ls (v.toList ++ st) h2 Q) := R_callv (a := a) (rest := st) rfl rfl rfl rfl rfl rfl rfl ht hs
theorem s205_830 : Runs 205 830 [x0, x1, some (.ref a), x3] st h Q ↔ Runs 205 831 [x0, x1, some (.ref a), x3] (.ref a :: st) h Q := R_aldn rfl rfl
theorem s205_830q : Runs 205 830 [x0, x1, some (zrf r), x3] st h Q ↔ Runs 205 831 [x0, x1, some (zrf r), x3] (zrf r :: st) h Q := R_aldnq rfl rfl
theorem s205_831 : Runs 205 831 [some (.ref a), x1, x2, x3] st h Q ↔ Runs 205 832 [some (.ref a), x1, x2, x3] (.ref a :: st) h Q := R_aldn rfl rfl
theorem s205_831q : Runs 205 831 [some (zrf r), x1, x2, x3] st h Q ↔ Runs 205 832 [some (zrf r), x1, x2, x3] (zrf r :: st) h Q := R_aldnq rfl rfl
theorem s205_832 : Runs 205 832 [x0, x1, x2, some (.int i)] st h Q ↔ Runs 205 833 [x0, x1, x2, some (.int i)] (.int i :: st) h Q := R_ildn rfl rfl
theorem s205_833 : Runs 205 833 ls st h Q ↔ Runs 205 834 ls (.int 1 :: st) h Q := R_iconst rfl rfl
theorem s205_834 : Runs 205 834 ls (.int j :: .int i :: st) h Q ↔ Runs 205 835 ls (.int (i + j) :: st) h Q := R_iadd rfl
theorem s205_835 (ht : tg a = 20) : Runs 205 835 ls (.int i :: .ref a :: st) (n, tg, ln, I, J, O) Q ↔ ((0 ≤ i ∧ i < Int32.ofNat (ln a)) ∧ Runs 205 836 ls (.int (I a i) :: st) (n, tg, ln, I, J, O) Q) := R_iald rfl ht
theorem s205_835q (ht : tg a = 30) : Runs 205 835 ls (.int i :: .ref a :: st) (n, tg, ln, I, J, O) Q ↔ ((0 ≤ i ∧ i < Int32.ofNat (ln a)) ∧ Runs 205 836 ls (.int (I a i) :: st) (n, tg, ln, I, J, O) Q) := R_iald0 rfl ht
theorem s205_836 : Runs 205 836 [some (.ref a), x1, x2, x3] st h Q ↔ Runs 205 837 [some (.ref a), x1, x2, x3] (.ref a :: st) h Q := R_aldn rfl rfl
theorem s205_836q : Runs 205 836 [some (zrf r), x1, x2, x3] st h Q ↔ Runs 205 837 [some (zrf r), x1, x2, x3] (zrf r :: st) h Q := R_aldnq rfl rfl
theorem s205_837 : Runs 205 837 [x0, x1, x2, some (.int i)] st h Q ↔ Runs 205 838 [x0, x1, x2, some (.int i)] (.int i :: st) h Q := R_ildn rfl rfl
theorem s205_838 : Runs 205 838 ls st h Q ↔ Runs 205 839 ls (.int 2 :: st) h Q := R_iconst rfl rfl
theorem s205_839 : Runs 205 839 ls (.int j :: .int i :: st) h Q ↔ Runs 205 840 ls (.int (i + j) :: st) h Q := R_iadd rfl
theorem s205_840 (ht : tg a = 20) : Runs 205 840 ls (.int i :: .ref a :: st) (n, tg, ln, I, J, O) Q ↔ ((0 ≤ i ∧ i < Int32.ofNat (ln a)) ∧ Runs 205 841 ls (.int (I a i) :: st) (n, tg, ln, I, J, O) Q) := R_iald rfl ht
theorem s205_840q (ht : tg a = 30) : Runs 205 840 ls (.int i :: .ref a :: st) (n, tg, ln, I, J, O) Q ↔ ((0 ≤ i ∧ i < Int32.ofNat (ln a)) ∧ Runs 205 841 ls (.int (I a i) :: st) (n, tg, ln, I, J, O) Q) := R_iald0 rfl ht
theorem s205_841 : Runs 205 841 [some (.ref a), x1, x2, x3] st h Q ↔ Runs 205 842 [some (.ref a), x1, x2, x3] (.ref a :: st) h Q := R_aldn rfl rfl
theorem s205_841q : Runs 205 841 [some (zrf r), x1, x2, x3] st h Q ↔ Runs 205 842 [some (zrf r), x1, x2, x3] (zrf r :: st) h Q := R_aldnq rfl rfl
theorem s205_842 : Runs 205 842 [x0, x1, x2, some (.int i)] st h Q ↔ Runs 205 843 [x0, x1, x2, some (.int i)] (.int i :: st) h Q := R_ildn rfl rfl
theorem s205_843 : Runs 205 843 ls st h Q ↔ Runs 205 844 ls (.int 3 :: st) h Q := R_iconst rfl rfl
theorem s205_844 : Runs 205 844 ls (.int j :: .int i :: st) h Q ↔ Runs 205 845 ls (.int (i + j) :: st) h Q := R_iadd rfl
theorem s205_845 (ht : tg a = 20) : Runs 205 845 ls (.int i :: .ref a :: st) (n, tg, ln, I, J, O) Q ↔ ((0 ≤ i ∧ i < Int32.ofNat (ln a)) ∧ Runs 205 846 ls (.int (I a i) :: st) (n, tg, ln, I, J, O) Q) := R_iald rfl ht
theorem s205_845q (ht : tg a = 30) : Runs 205 845 ls (.int i :: .ref a :: st) (n, tg, ln, I, J, O) Q ↔ ((0 ≤ i ∧ i < Int32.ofNat (ln a)) ∧ Runs 205 846 ls (.int (I a i) :: st) (n, tg, ln, I, J, O) Q) := R_iald0 rfl ht
theorem s205_846 : Runs 205 846 [some (.ref a), x1, x2, x3] st h Q ↔ Runs 205 847 [some (.ref a), x1, x2, x3] (.ref a :: st) h Q := R_aldn rfl rfl
theorem s205_846q : Runs 205 846 [some (zrf r), x1, x2, x3] st h Q ↔ Runs 205 847 [some (zrf r), x1, x2, x3] (zrf r :: st) h Q := R_aldnq rfl rfl
theorem s205_847 : Runs 205 847 [x0, x1, x2, some (.int i)] st h Q ↔ Runs 205 848 [x0, x1, x2, some (.int i)] (.int i :: st) h Q := R_ildn rfl rfl
theorem s205_848 : Runs 205 848 ls st h Q ↔ Runs 205 849 ls (.int 4 :: st) h Q := R_iconst rfl rfl
theorem s205_849 : Runs 205 849 ls (.int j :: .int i :: st) h Q ↔ Runs 205 850 ls (.int (i + j) :: st) h Q := R_iadd rfl
theorem s205_850 (ht : tg a = 20) : Runs 205 850 ls (.int i :: .ref a :: st) (n, tg, ln, I, J, O) Q ↔ ((0 ≤ i ∧ i < Int32.ofNat (ln a)) ∧ Runs 205 851 ls (.int (I a i) :: st) (n, tg, ln, I, J, O) Q) := R_iald rfl ht
theorem s205_850q (ht : tg a = 30) : Runs 205 850 ls (.int i :: .ref a :: st) (n, tg, ln, I, J, O) Q ↔ ((0 ≤ i ∧ i < Int32.ofNat (ln a)) ∧ Runs 205 851 ls (.int (I a i) :: st) (n, tg, ln, I, J, O) Q) := R_iald0 rfl ht
theorem s205_851 (ht : tg a = 10) (hs : zsumc st ≤ 8) : Runs 205 851 ls (.int i3 :: .int i2 :: .int i1 :: .int i0 :: .ref a :: st) (n, tg, ln, I, J, O) Q ↔ Runs 189 0 [some (.ref a), some (.int i0), some (.int i1), some (.int i2), some (.int i3), none, none, none, none, none, none, none, none, none, none, none, none] [] (n, tg, ln, I, J, O) (fun v h2 => Runs 205 854 ls (v.toList ++ st) h2 Q) := R_callv (a := a) (rest := st) rfl rfl rfl rfl rfl rfl rfl ht hs
theorem s205_854 : Runs 205 854 ls (.int j :: .int i :: st) h Q ↔ if i = j then Runs 205 1193 ls st h Q else Runs 205 857 ls st h Q := R_iceq rfl rfl
theorem s205_857 : Runs 205 857 ls st h Q ↔ Runs 205 858 ls (.int 0 :: st) h Q := R_iconst rfl rfl
theorem s205_858 (hx : i = 0 ∨ i = 1) : Runs 205 858 ls [.int i] h Q ↔ Q (some (.int i)) h := R_zret rfl rfl hx
theorem s205_859 : Runs 205 859 [x0, some (.ref a), x2, x3] st h Q ↔ Runs 205 860 [x0, some (.ref a), x2, x3] (.ref a :: st) h Q := R_aldn rfl rfl
theorem s205_859q : Runs 205 859 [x0, some (zrf r), x2, x3] st h Q ↔ Runs 205 860 [x0, some (zrf r), x2, x3] (zrf r :: st) h Q := R_aldnq rfl rfl
theorem s205_860 : Runs 205 860 [some (.ref a), x1, x2, x3] st h Q ↔ Runs 205 861 [some (.ref a), x1, x2, x3] (.ref a :: st) h Q := R_aldn rfl rfl
theorem s205_860q : Runs 205 860 [some (zrf r), x1, x2, x3] st h Q ↔ Runs 205 861 [some (zrf r), x1, x2, x3] (zrf r :: st) h Q := R_aldnq rfl rfl
theorem s205_861 : Runs 205 861 [x0, x1, x2, some (.int i)] st h Q ↔ Runs 205 862 [x0, x1, x2, some (.int i)] (.int i :: st) h Q := R_ildn rfl rfl
theorem s205_862 : Runs 205 862 ls st h Q ↔ Runs 205 863 ls (.int 1 :: st) h Q := R_iconst rfl rfl
theorem s205_863 : Runs 205 863 ls (.int j :: .int i :: st) h Q ↔ Runs 205 864 ls (.int (i + j) :: st) h Q := R_iadd rfl
theorem s205_864 (ht : tg a = 20) : Runs 205 864 ls (.int i :: .ref a :: st) (n, tg, ln, I, J, O) Q ↔ ((0 ≤ i ∧ i < Int32.ofNat (ln a)) ∧ Runs 205 865 ls (.int (I a i) :: st) (n, tg, ln, I, J, O) Q) := R_iald rfl ht
theorem s205_864q (ht : tg a = 30) : Runs 205 864 ls (.int i :: .ref a :: st) (n, tg, ln, I, J, O) Q ↔ ((0 ≤ i ∧ i < Int32.ofNat (ln a)) ∧ Runs 205 865 ls (.int (I a i) :: st) (n, tg, ln, I, J, O) Q) := R_iald0 rfl ht
theorem s205_865 : Runs 205 865 [some (.ref a), x1, x2, x3] st h Q ↔ Runs 205 866 [some (.ref a), x1, x2, x3] (.ref a :: st) h Q := R_aldn rfl rfl
theorem s205_865q : Runs 205 865 [some (zrf r), x1, x2, x3] st h Q ↔ Runs 205 866 [some (zrf r), x1, x2, x3] (zrf r :: st) h Q := R_aldnq rfl rfl
theorem s205_866 : Runs 205 866 [x0, x1, x2, some (.int i)] st h Q ↔ Runs 205 867 [x0, x1, x2, some (.int i)] (.int i :: st) h Q := R_ildn rfl rfl
theorem s205_867 : Runs 205 867 ls st h Q ↔ Runs 205 868 ls (.int 2 :: st) h Q := R_iconst rfl rfl
theorem s205_868 : Runs 205 868 ls (.int j :: .int i :: st) h Q ↔ Runs 205 869 ls (.int (i + j) :: st) h Q := R_iadd rfl
theorem s205_869 (ht : tg a = 20) : Runs 205 869 ls (.int i :: .ref a :: st) (n, tg, ln, I, J, O) Q ↔ ((0 ≤ i ∧ i < Int32.ofNat (ln a)) ∧ Runs 205 870 ls (.int (I a i) :: st) (n, tg, ln, I, J, O) Q) := R_iald rfl ht
theorem s205_869q (ht : tg a = 30) : Runs 205 869 ls (.int i :: .ref a :: st) (n, tg, ln, I, J, O) Q ↔ ((0 ≤ i ∧ i < Int32.ofNat (ln a)) ∧ Runs 205 870 ls (.int (I a i) :: st) (n, tg, ln, I, J, O) Q) := R_iald0 rfl ht
theorem s205_870 (ht : tg a = 9) (hs : zsumc st ≤ 8) : Runs 205 870 ls (.int i1 :: .int i0 :: .ref a :: st) (n, tg, ln, I, J, O) Q ↔ Runs 107 0 [some (.ref a), some (.int i0), some (.int i1)] [] (n, tg, ln, I, J, O) (fun v h2 => Runs 205 873 ls (v.toList ++ st) h2 Q) := R_callv (a := a) (rest := st) rfl rfl rfl rfl rfl rfl rfl ht hs
theorem s205_873 : Runs 205 873 [x0, x1, some (.ref a), x3] st h Q ↔ Runs 205 874 [x0, x1, some (.ref a), x3] (.ref a :: st) h Q := R_aldn rfl rfl
theorem s205_873q : Runs 205 873 [x0, x1, some (zrf r), x3] st h Q ↔ Runs 205 874 [x0, x1, some (zrf r), x3] (zrf r :: st) h Q := R_aldnq rfl rfl
theorem s205_874 : Runs 205 874 [some (.ref a), x1, x2, x3] st h Q ↔ Runs 205 875 [some (.ref a), x1, x2, x3] (.ref a :: st) h Q := R_aldn rfl rfl
theorem s205_874q : Runs 205 874 [some (zrf r), x1, x2, x3] st h Q ↔ Runs 205 875 [some (zrf r), x1, x2, x3] (zrf r :: st) h Q := R_aldnq rfl rfl
theorem s205_875 : Runs 205 875 [x0, x1, x2, some (.int i)] st h Q ↔ Runs 205 876 [x0, x1, x2, some (.int i)] (.int i :: st) h Q := R_ildn rfl rfl
theorem s205_876 : Runs 205 876 ls st h Q ↔ Runs 205 877 ls (.int 1 :: st) h Q := R_iconst rfl rfl
theorem s205_877 : Runs 205 877 ls (.int j :: .int i :: st) h Q ↔ Runs 205 878 ls (.int (i + j) :: st) h Q := R_iadd rfl
theorem s205_878 (ht : tg a = 20) : Runs 205 878 ls (.int i :: .ref a :: st) (n, tg, ln, I, J, O) Q ↔ ((0 ≤ i ∧ i < Int32.ofNat (ln a)) ∧ Runs 205 879 ls (.int (I a i) :: st) (n, tg, ln, I, J, O) Q) := R_iald rfl ht
theorem s205_878q (ht : tg a = 30) : Runs 205 878 ls (.int i :: .ref a :: st) (n, tg, ln, I, J, O) Q ↔ ((0 ≤ i ∧ i < Int32.ofNat (ln a)) ∧ Runs 205 879 ls (.int (I a i) :: st) (n, tg, ln, I, J, O) Q) := R_iald0 rfl ht
theorem s205_879 : Runs 205 879 [some (.ref a), x1, x2, x3] st h Q ↔ Runs 205 880 [some (.ref a), x1, x2, x3] (.ref a :: st) h Q := R_aldn rfl rfl
theorem s205_879q : Runs 205 879 [some (zrf r), x1, x2, x3] st h Q ↔ Runs 205 880 [some (zrf r), x1, x2, x3] (zrf r :: st) h Q := R_aldnq rfl rfl
theorem s205_880 : Runs 205 880 [x0, x1, x2, some (.int i)] st h Q ↔ Runs 205 881 [x0, x1, x2, some (.int i)] (.int i :: st) h Q := R_ildn rfl rfl
theorem s205_881 : Runs 205 881 ls st h Q ↔ Runs 205 882 ls (.int 2 :: st) h Q := R_iconst rfl rfl
theorem s205_882 : Runs 205 882 ls (.int j :: .int i :: st) h Q ↔ Runs 205 883 ls (.int (i + j) :: st) h Q := R_iadd rfl
theorem s205_883 (ht : tg a = 20) : Runs 205 883 ls (.int i :: .ref a :: st) (n, tg, ln, I, J, O) Q ↔ ((0 ≤ i ∧ i < Int32.ofNat (ln a)) ∧ Runs 205 884 ls (.int (I a i) :: st) (n, tg, ln, I, J, O) Q) := R_iald rfl ht
theorem s205_883q (ht : tg a = 30) : Runs 205 883 ls (.int i :: .ref a :: st) (n, tg, ln, I, J, O) Q ↔ ((0 ≤ i ∧ i < Int32.ofNat (ln a)) ∧ Runs 205 884 ls (.int (I a i) :: st) (n, tg, ln, I, J, O) Q) := R_iald0 rfl ht
theorem s205_884 (ht : tg a = 10) (hs : zsumc st ≤ 8) : Runs 205 884 ls (.int i1 :: .int i0 :: .ref a :: st) (n, tg, ln, I, J, O) Q ↔ Runs 191 0 [some (.ref a), some (.int i0), some (.int i1), none] [] (n, tg, ln, I, J, O) (fun v h2 => Runs 205 887 ls (v.toList ++ st) h2 Q) := R_callv (a := a) (rest := st) rfl rfl rfl rfl rfl rfl rfl ht hs
theorem s205_887 : Runs 205 887 ls (.int j :: .int i :: st) h Q ↔ if i = j then Runs 205 1193 ls st h Q else Runs 205 890 ls st h Q := R_iceq rfl rfl
theorem s205_890 : Runs 205 890 ls st h Q ↔ Runs 205 891 ls (.int 0 :: st) h Q := R_iconst rfl rfl
theorem s205_891 (hx : i = 0 ∨ i = 1) : Runs 205 891 ls [.int i] h Q ↔ Q (some (.int i)) h := R_zret rfl rfl hx
theorem s205_892 : Runs 205 892 [x0, some (.ref a), x2, x3] st h Q ↔ Runs 205 893 [x0, some (.ref a), x2, x3] (.ref a :: st) h Q := R_aldn rfl rfl
theorem s205_892q : Runs 205 892 [x0, some (zrf r), x2, x3] st h Q ↔ Runs 205 893 [x0, some (zrf r), x2, x3] (zrf r :: st) h Q := R_aldnq rfl rfl
theorem s205_893 : Runs 205 893 [some (.ref a), x1, x2, x3] st h Q ↔ Runs 205 894 [some (.ref a), x1, x2, x3] (.ref a :: st) h Q := R_aldn rfl rfl
theorem s205_893q : Runs 205 893 [some (zrf r), x1, x2, x3] st h Q ↔ Runs 205 894 [some (zrf r), x1, x2, x3] (zrf r :: st) h Q := R_aldnq rfl rfl
theorem s205_894 : Runs 205 894 [x0, x1, x2, some (.int i)] st h Q ↔ Runs 205 895 [x0, x1, x2, some (.int i)] (.int i :: st) h Q := R_ildn rfl rfl
theorem s205_895 : Runs 205 895 ls st h Q ↔ Runs 205 896 ls (.int 1 :: st) h Q := R_iconst rfl rfl
theorem s205_896 : Runs 205 896 ls (.int j :: .int i :: st) h Q ↔ Runs 205 897 ls (.int (i + j) :: st) h Q := R_iadd rfl
theorem s205_897 (ht : tg a = 20) : Runs 205 897 ls (.int i :: .ref a :: st) (n, tg, ln, I, J, O) Q ↔ ((0 ≤ i ∧ i < Int32.ofNat (ln a)) ∧ Runs 205 898 ls (.int (I a i) :: st) (n, tg, ln, I, J, O) Q) := R_iald rfl ht
theorem s205_897q (ht : tg a = 30) : Runs 205 897 ls (.int i :: .ref a :: st) (n, tg, ln, I, J, O) Q ↔ ((0 ≤ i ∧ i < Int32.ofNat (ln a)) ∧ Runs 205 898 ls (.int (I a i) :: st) (n, tg, ln, I, J, O) Q) := R_iald0 rfl ht
theorem s205_898 : Runs 205 898 [some (.ref a), x1, x2, x3] st h Q ↔ Runs 205 899 [some (.ref a), x1, x2, x3] (.ref a :: st) h Q := R_aldn rfl rfl
theorem s205_898q : Runs 205 898 [some (zrf r), x1, x2, x3] st h Q ↔ Runs 205 899 [some (zrf r), x1, x2, x3] (zrf r :: st) h Q := R_aldnq rfl rfl
theorem s205_899 : Runs 205 899 [x0, x1, x2, some (.int i)] st h Q ↔ Runs 205 900 [x0, x1, x2, some (.int i)] (.int i :: st) h Q := R_ildn rfl rfl
theorem s205_900 : Runs 205 900 ls st h Q ↔ Runs 205 901 ls (.int 2 :: st) h Q := R_iconst rfl rfl
theorem s205_901 : Runs 205 901 ls (.int j :: .int i :: st) h Q ↔ Runs 205 902 ls (.int (i + j) :: st) h Q := R_iadd rfl
theorem s205_902 (ht : tg a = 20) : Runs 205 902 ls (.int i :: .ref a :: st) (n, tg, ln, I, J, O) Q ↔ ((0 ≤ i ∧ i < Int32.ofNat (ln a)) ∧ Runs 205 903 ls (.int (I a i) :: st) (n, tg, ln, I, J, O) Q) := R_iald rfl ht
theorem s205_902q (ht : tg a = 30) : Runs 205 902 ls (.int i :: .ref a :: st) (n, tg, ln, I, J, O) Q ↔ ((0 ≤ i ∧ i < Int32.ofNat (ln a)) ∧ Runs 205 903 ls (.int (I a i) :: st) (n, tg, ln, I, J, O) Q) := R_iald0 rfl ht
theorem s205_903 : Runs 205 903 [some (.ref a), x1, x2, x3] st h Q ↔ Runs 205 904 [some (.ref a), x1, x2, x3] (.ref a :: st) h Q := R_aldn rfl rfl
theorem s205_903q : Runs 205 903 [some (zrf r), x1, x2, x3] st h Q ↔ Runs 205 904 [some (zrf r), x1, x2, x3] (zrf r :: st) h Q := R_aldnq rfl rfl
theorem s205_904 : Runs 205 904 [x0, x1, x2, some (.int i)] st h Q ↔ Runs 205 905 [x0, x1, x2, some (.int i)] (.int i :: st) h Q := R_ildn rfl rfl
theorem s205_905 : Runs 205 905 ls st h Q ↔ Runs 205 906 ls (.int 3 :: st) h Q := R_iconst rfl rfl
theorem s205_906 : Runs 205 906 ls (.int j :: .int i :: st) h Q ↔ Runs 205 907 ls (.int (i + j) :: st) h Q := R_iadd rfl
theorem s205_907 (ht : tg a = 20) : Runs 205 907 ls (.int i :: .ref a :: st) (n, tg, ln, I, J, O) Q ↔ ((0 ≤ i ∧ i < Int32.ofNat (ln a)) ∧ Runs 205 908 ls (.int (I a i) :: st) (n, tg, ln, I, J, O) Q) := R_iald rfl ht
theorem s205_907q (ht : tg a = 30) : Runs 205 907 ls (.int i :: .ref a :: st) (n, tg, ln, I, J, O) Q ↔ ((0 ≤ i ∧ i < Int32.ofNat (ln a)) ∧ Runs 205 908 ls (.int (I a i) :: st) (n, tg, ln, I, J, O) Q) := R_iald0 rfl ht
theorem s205_908 : Runs 205 908 [some (.ref a), x1, x2, x3] st h Q ↔ Runs 205 909 [some (.ref a), x1, x2, x3] (.ref a :: st) h Q := R_aldn rfl rfl
theorem s205_908q : Runs 205 908 [some (zrf r), x1, x2, x3] st h Q ↔ Runs 205 909 [some (zrf r), x1, x2, x3] (zrf r :: st) h Q := R_aldnq rfl rfl
theorem s205_909 : Runs 205 909 [x0, x1, x2, some (.int i)] st h Q ↔ Runs 205 910 [x0, x1, x2, some (.int i)] (.int i :: st) h Q := R_ildn rfl rfl
theorem s205_910 : Runs 205 910 ls st h Q ↔ Runs 205 911 ls (.int 4 :: st) h Q := R_iconst rfl rfl
theorem s205_911 : Runs 205 911 ls (.int j :: .int i :: st) h Q ↔ Runs 205 912 ls (.int (i + j) :: st) h Q := R_iadd rfl
theorem s205_912 (ht : tg a = 20) : Runs 205 912 ls (.int i :: .ref a :: st) (n, tg, ln, I, J, O) Q ↔ ((0 ≤ i ∧ i < Int32.ofNat (ln a)) ∧ Runs 205 913 ls (.int (I a i) :: st) (n, tg, ln, I, J, O) Q) := R_iald rfl ht
theorem s205_912q (ht : tg a = 30) : Runs 205 912 ls (.int i :: .ref a :: st) (n, tg, ln, I, J, O) Q ↔ ((0 ≤ i ∧ i < Int32.ofNat (ln a)) ∧ Runs 205 913 ls (.int (I a i) :: st) (n, tg, ln, I, J, O) Q) := R_iald0 rfl ht
theorem s205_913 : Runs 205 913 ls (.int i :: st) h Q ↔ Runs 205 914 ls (.long i.toInt64 :: st) h Q := R_i2l rfl
theorem s205_914 : Runs 205 914 ls st h Q ↔ Runs 205 916 ls (.int 32 :: st) h Q := R_bipush rfl (by decide)
theorem s205_916 : Runs 205 916 ls (.int j :: .long u :: st) h Q ↔ Runs 205 917 ls (.long (u <<< (j.toInt64 &&& 63)) :: st) h Q := R_lshl rfl
theorem s205_917 : Runs 205 917 [some (.ref a), x1, x2, x3] st h Q ↔ Runs 205 918 [some (.ref a), x1, x2, x3] (.ref a :: st) h Q := R_aldn rfl rfl
theorem s205_917q : Runs 205 917 [some (zrf r), x1, x2, x3] st h Q ↔ Runs 205 918 [some (zrf r), x1, x2, x3] (zrf r :: st) h Q := R_aldnq rfl rfl
theorem s205_918 : Runs 205 918 [x0, x1, x2, some (.int i)] st h Q ↔ Runs 205 919 [x0, x1, x2, some (.int i)] (.int i :: st) h Q := R_ildn rfl rfl
theorem s205_919 : Runs 205 919 ls st h Q ↔ Runs 205 920 ls (.int 5 :: st) h Q := R_iconst rfl rfl
theorem s205_920 : Runs 205 920 ls (.int j :: .int i :: st) h Q ↔ Runs 205 921 ls (.int (i + j) :: st) h Q := R_iadd rfl
theorem s205_921 (ht : tg a = 20) : Runs 205 921 ls (.int i :: .ref a :: st) (n, tg, ln, I, J, O) Q ↔ ((0 ≤ i ∧ i < Int32.ofNat (ln a)) ∧ Runs 205 922 ls (.int (I a i) :: st) (n, tg, ln, I, J, O) Q) := R_iald rfl ht
theorem s205_921q (ht : tg a = 30) : Runs 205 921 ls (.int i :: .ref a :: st) (n, tg, ln, I, J, O) Q ↔ ((0 ≤ i ∧ i < Int32.ofNat (ln a)) ∧ Runs 205 922 ls (.int (I a i) :: st) (n, tg, ln, I, J, O) Q) := R_iald0 rfl ht
theorem s205_922 : Runs 205 922 ls (.int i :: st) h Q ↔ Runs 205 923 ls (.long i.toInt64 :: st) h Q := R_i2l rfl
theorem s205_923 : Runs 205 923 ls st h Q ↔ Runs 205 926 ls (.long 4294967295 :: st) h Q := R_ldc2 rfl rfl
theorem s205_926 : Runs 205 926 ls (.long w :: .long u :: st) h Q ↔ Runs 205 927 ls (.long (u &&& w) :: st) h Q := R_land rfl
theorem s205_927 : Runs 205 927 ls (.long w :: .long u :: st) h Q ↔ Runs 205 928 ls (.long (u ||| w) :: st) h Q := R_lor rfl
theorem s205_928 (ht : tg a = 9) (hs : zsumc st ≤ 8) : Runs 205 928 ls (.long u3 :: .int i2 :: .int i1 :: .int i0 :: .ref a :: st) (n, tg, ln, I, J, O) Q ↔ Runs 108 0 [some (.ref a), some (.int i0), some (.int i1), some (.int i2), some (.long u3), none, none] [] (n, tg, ln, I, J, O) (fun v h2 => Runs 205 931 ls (v.toList ++ st) h2 Q) := R_callv (a := a) (rest := st) rfl rfl rfl rfl rfl rfl rfl ht hs
theorem s205_931 : Runs 205 931 [x0, x1, some (.ref a), x3] st h Q ↔ Runs 205 932 [x0, x1, some (.ref a), x3] (.ref a :: st) h Q := R_aldn rfl rfl
theorem s205_931q : Runs 205 931 [x0, x1, some (zrf r), x3] st h Q ↔ Runs 205 932 [x0, x1, some (zrf r), x3] (zrf r :: st) h Q := R_aldnq rfl rfl
theorem s205_932 : Runs 205 932 [some (.ref a), x1, x2, x3] st h Q ↔ Runs 205 933 [some (.ref a), x1, x2, x3] (.ref a :: st) h Q := R_aldn rfl rfl
theorem s205_932q : Runs 205 932 [some (zrf r), x1, x2, x3] st h Q ↔ Runs 205 933 [some (zrf r), x1, x2, x3] (zrf r :: st) h Q := R_aldnq rfl rfl
theorem s205_933 : Runs 205 933 [x0, x1, x2, some (.int i)] st h Q ↔ Runs 205 934 [x0, x1, x2, some (.int i)] (.int i :: st) h Q := R_ildn rfl rfl
theorem s205_934 : Runs 205 934 ls st h Q ↔ Runs 205 935 ls (.int 1 :: st) h Q := R_iconst rfl rfl
theorem s205_935 : Runs 205 935 ls (.int j :: .int i :: st) h Q ↔ Runs 205 936 ls (.int (i + j) :: st) h Q := R_iadd rfl
theorem s205_936 (ht : tg a = 20) : Runs 205 936 ls (.int i :: .ref a :: st) (n, tg, ln, I, J, O) Q ↔ ((0 ≤ i ∧ i < Int32.ofNat (ln a)) ∧ Runs 205 937 ls (.int (I a i) :: st) (n, tg, ln, I, J, O) Q) := R_iald rfl ht
theorem s205_936q (ht : tg a = 30) : Runs 205 936 ls (.int i :: .ref a :: st) (n, tg, ln, I, J, O) Q ↔ ((0 ≤ i ∧ i < Int32.ofNat (ln a)) ∧ Runs 205 937 ls (.int (I a i) :: st) (n, tg, ln, I, J, O) Q) := R_iald0 rfl ht
theorem s205_937 : Runs 205 937 [some (.ref a), x1, x2, x3] st h Q ↔ Runs 205 938 [some (.ref a), x1, x2, x3] (.ref a :: st) h Q := R_aldn rfl rfl
theorem s205_937q : Runs 205 937 [some (zrf r), x1, x2, x3] st h Q ↔ Runs 205 938 [some (zrf r), x1, x2, x3] (zrf r :: st) h Q := R_aldnq rfl rfl
theorem s205_938 : Runs 205 938 [x0, x1, x2, some (.int i)] st h Q ↔ Runs 205 939 [x0, x1, x2, some (.int i)] (.int i :: st) h Q := R_ildn rfl rfl
theorem s205_939 : Runs 205 939 ls st h Q ↔ Runs 205 940 ls (.int 2 :: st) h Q := R_iconst rfl rfl
theorem s205_940 : Runs 205 940 ls (.int j :: .int i :: st) h Q ↔ Runs 205 941 ls (.int (i + j) :: st) h Q := R_iadd rfl
theorem s205_941 (ht : tg a = 20) : Runs 205 941 ls (.int i :: .ref a :: st) (n, tg, ln, I, J, O) Q ↔ ((0 ≤ i ∧ i < Int32.ofNat (ln a)) ∧ Runs 205 942 ls (.int (I a i) :: st) (n, tg, ln, I, J, O) Q) := R_iald rfl ht
theorem s205_941q (ht : tg a = 30) : Runs 205 941 ls (.int i :: .ref a :: st) (n, tg, ln, I, J, O) Q ↔ ((0 ≤ i ∧ i < Int32.ofNat (ln a)) ∧ Runs 205 942 ls (.int (I a i) :: st) (n, tg, ln, I, J, O) Q) := R_iald0 rfl ht
theorem s205_942 : Runs 205 942 [some (.ref a), x1, x2, x3] st h Q ↔ Runs 205 943 [some (.ref a), x1, x2, x3] (.ref a :: st) h Q := R_aldn rfl rfl
theorem s205_942q : Runs 205 942 [some (zrf r), x1, x2, x3] st h Q ↔ Runs 205 943 [some (zrf r), x1, x2, x3] (zrf r :: st) h Q := R_aldnq rfl rfl
theorem s205_943 : Runs 205 943 [x0, x1, x2, some (.int i)] st h Q ↔ Runs 205 944 [x0, x1, x2, some (.int i)] (.int i :: st) h Q := R_ildn rfl rfl
theorem s205_944 : Runs 205 944 ls st h Q ↔ Runs 205 945 ls (.int 3 :: st) h Q := R_iconst rfl rfl
theorem s205_945 : Runs 205 945 ls (.int j :: .int i :: st) h Q ↔ Runs 205 946 ls (.int (i + j) :: st) h Q := R_iadd rfl
theorem s205_946 (ht : tg a = 20) : Runs 205 946 ls (.int i :: .ref a :: st) (n, tg, ln, I, J, O) Q ↔ ((0 ≤ i ∧ i < Int32.ofNat (ln a)) ∧ Runs 205 947 ls (.int (I a i) :: st) (n, tg, ln, I, J, O) Q) := R_iald rfl ht
theorem s205_946q (ht : tg a = 30) : Runs 205 946 ls (.int i :: .ref a :: st) (n, tg, ln, I, J, O) Q ↔ ((0 ≤ i ∧ i < Int32.ofNat (ln a)) ∧ Runs 205 947 ls (.int (I a i) :: st) (n, tg, ln, I, J, O) Q) := R_iald0 rfl ht
theorem s205_947 : Runs 205 947 [some (.ref a), x1, x2, x3] st h Q ↔ Runs 205 948 [some (.ref a), x1, x2, x3] (.ref a :: st) h Q := R_aldn rfl rfl
theorem s205_947q : Runs 205 947 [some (zrf r), x1, x2, x3] st h Q ↔ Runs 205 948 [some (zrf r), x1, x2, x3] (zrf r :: st) h Q := R_aldnq rfl rfl
theorem s205_948 : Runs 205 948 [x0, x1, x2, some (.int i)] st h Q ↔ Runs 205 949 [x0, x1, x2, some (.int i)] (.int i :: st) h Q := R_ildn rfl rfl
theorem s205_949 : Runs 205 949 ls st h Q ↔ Runs 205 950 ls (.int 4 :: st) h Q := R_iconst rfl rfl
theorem s205_950 : Runs 205 950 ls (.int j :: .int i :: st) h Q ↔ Runs 205 951 ls (.int (i + j) :: st) h Q := R_iadd rfl
theorem s205_951 (ht : tg a = 20) : Runs 205 951 ls (.int i :: .ref a :: st) (n, tg, ln, I, J, O) Q ↔ ((0 ≤ i ∧ i < Int32.ofNat (ln a)) ∧ Runs 205 952 ls (.int (I a i) :: st) (n, tg, ln, I, J, O) Q) := R_iald rfl ht
theorem s205_951q (ht : tg a = 30) : Runs 205 951 ls (.int i :: .ref a :: st) (n, tg, ln, I, J, O) Q ↔ ((0 ≤ i ∧ i < Int32.ofNat (ln a)) ∧ Runs 205 952 ls (.int (I a i) :: st) (n, tg, ln, I, J, O) Q) := R_iald0 rfl ht
theorem s205_952 : Runs 205 952 ls (.int i :: st) h Q ↔ Runs 205 953 ls (.long i.toInt64 :: st) h Q := R_i2l rfl
theorem s205_953 : Runs 205 953 ls st h Q ↔ Runs 205 955 ls (.int 32 :: st) h Q := R_bipush rfl (by decide)
theorem s205_955 : Runs 205 955 ls (.int j :: .long u :: st) h Q ↔ Runs 205 956 ls (.long (u <<< (j.toInt64 &&& 63)) :: st) h Q := R_lshl rfl
theorem s205_956 : Runs 205 956 [some (.ref a), x1, x2, x3] st h Q ↔ Runs 205 957 [some (.ref a), x1, x2, x3] (.ref a :: st) h Q := R_aldn rfl rfl
theorem s205_956q : Runs 205 956 [some (zrf r), x1, x2, x3] st h Q ↔ Runs 205 957 [some (zrf r), x1, x2, x3] (zrf r :: st) h Q := R_aldnq rfl rfl
theorem s205_957 : Runs 205 957 [x0, x1, x2, some (.int i)] st h Q ↔ Runs 205 958 [x0, x1, x2, some (.int i)] (.int i :: st) h Q := R_ildn rfl rfl
theorem s205_958 : Runs 205 958 ls st h Q ↔ Runs 205 959 ls (.int 5 :: st) h Q := R_iconst rfl rfl
theorem s205_959 : Runs 205 959 ls (.int j :: .int i :: st) h Q ↔ Runs 205 960 ls (.int (i + j) :: st) h Q := R_iadd rfl
theorem s205_960 (ht : tg a = 20) : Runs 205 960 ls (.int i :: .ref a :: st) (n, tg, ln, I, J, O) Q ↔ ((0 ≤ i ∧ i < Int32.ofNat (ln a)) ∧ Runs 205 961 ls (.int (I a i) :: st) (n, tg, ln, I, J, O) Q) := R_iald rfl ht
theorem s205_960q (ht : tg a = 30) : Runs 205 960 ls (.int i :: .ref a :: st) (n, tg, ln, I, J, O) Q ↔ ((0 ≤ i ∧ i < Int32.ofNat (ln a)) ∧ Runs 205 961 ls (.int (I a i) :: st) (n, tg, ln, I, J, O) Q) := R_iald0 rfl ht
theorem s205_961 : Runs 205 961 ls (.int i :: st) h Q ↔ Runs 205 962 ls (.long i.toInt64 :: st) h Q := R_i2l rfl
theorem s205_962 : Runs 205 962 ls st h Q ↔ Runs 205 965 ls (.long 4294967295 :: st) h Q := R_ldc2 rfl rfl
theorem s205_965 : Runs 205 965 ls (.long w :: .long u :: st) h Q ↔ Runs 205 966 ls (.long (u &&& w) :: st) h Q := R_land rfl
theorem s205_966 : Runs 205 966 ls (.long w :: .long u :: st) h Q ↔ Runs 205 967 ls (.long (u ||| w) :: st) h Q := R_lor rfl
theorem s205_967 (ht : tg a = 10) (hs : zsumc st ≤ 8) : Runs 205 967 ls (.long u3 :: .int i2 :: .int i1 :: .int i0 :: .ref a :: st) (n, tg, ln, I, J, O) Q ↔ Runs 193 0 [some (.ref a), some (.int i0), some (.int i1), some (.int i2), some (.long u3), none, none] [] (n, tg, ln, I, J, O) (fun v h2 => Runs 205 970 ls (v.toList ++ st) h2 Q) := R_callv (a := a) (rest := st) rfl rfl rfl rfl rfl rfl rfl ht hs
theorem s205_970 : Runs 205 970 ls (.int j :: .int i :: st) h Q ↔ if i = j then Runs 205 1193 ls st h Q else Runs 205 973 ls st h Q := R_iceq rfl rfl
theorem s205_973 : Runs 205 973 ls st h Q ↔ Runs 205 974 ls (.int 0 :: st) h Q := R_iconst rfl rfl
theorem s205_974 (hx : i = 0 ∨ i = 1) : Runs 205 974 ls [.int i] h Q ↔ Q (some (.int i)) h := R_zret rfl rfl hx
theorem s205_975 : Runs 205 975 [x0, some (.ref a), x2, x3] st h Q ↔ Runs 205 976 [x0, some (.ref a), x2, x3] (.ref a :: st) h Q := R_aldn rfl rfl
theorem s205_975q : Runs 205 975 [x0, some (zrf r), x2, x3] st h Q ↔ Runs 205 976 [x0, some (zrf r), x2, x3] (zrf r :: st) h Q := R_aldnq rfl rfl
theorem s205_976 : Runs 205 976 [some (.ref a), x1, x2, x3] st h Q ↔ Runs 205 977 [some (.ref a), x1, x2, x3] (.ref a :: st) h Q := R_aldn rfl rfl
theorem s205_976q : Runs 205 976 [some (zrf r), x1, x2, x3] st h Q ↔ Runs 205 977 [some (zrf r), x1, x2, x3] (zrf r :: st) h Q := R_aldnq rfl rfl
theorem s205_977 : Runs 205 977 [x0, x1, x2, some (.int i)] st h Q ↔ Runs 205 978 [x0, x1, x2, some (.int i)] (.int i :: st) h Q := R_ildn rfl rfl
theorem s205_978 : Runs 205 978 ls st h Q ↔ Runs 205 979 ls (.int 1 :: st) h Q := R_iconst rfl rfl
theorem s205_979 : Runs 205 979 ls (.int j :: .int i :: st) h Q ↔ Runs 205 980 ls (.int (i + j) :: st) h Q := R_iadd rfl
theorem s205_980 (ht : tg a = 20) : Runs 205 980 ls (.int i :: .ref a :: st) (n, tg, ln, I, J, O) Q ↔ ((0 ≤ i ∧ i < Int32.ofNat (ln a)) ∧ Runs 205 981 ls (.int (I a i) :: st) (n, tg, ln, I, J, O) Q) := R_iald rfl ht
theorem s205_980q (ht : tg a = 30) : Runs 205 980 ls (.int i :: .ref a :: st) (n, tg, ln, I, J, O) Q ↔ ((0 ≤ i ∧ i < Int32.ofNat (ln a)) ∧ Runs 205 981 ls (.int (I a i) :: st) (n, tg, ln, I, J, O) Q) := R_iald0 rfl ht
theorem s205_981 : Runs 205 981 [some (.ref a), x1, x2, x3] st h Q ↔ Runs 205 982 [some (.ref a), x1, x2, x3] (.ref a :: st) h Q := R_aldn rfl rfl
theorem s205_981q : Runs 205 981 [some (zrf r), x1, x2, x3] st h Q ↔ Runs 205 982 [some (zrf r), x1, x2, x3] (zrf r :: st) h Q := R_aldnq rfl rfl
theorem s205_982 : Runs 205 982 [x0, x1, x2, some (.int i)] st h Q ↔ Runs 205 983 [x0, x1, x2, some (.int i)] (.int i :: st) h Q := R_ildn rfl rfl
theorem s205_983 : Runs 205 983 ls st h Q ↔ Runs 205 984 ls (.int 2 :: st) h Q := R_iconst rfl rfl
theorem s205_984 : Runs 205 984 ls (.int j :: .int i :: st) h Q ↔ Runs 205 985 ls (.int (i + j) :: st) h Q := R_iadd rfl
theorem s205_985 (ht : tg a = 20) : Runs 205 985 ls (.int i :: .ref a :: st) (n, tg, ln, I, J, O) Q ↔ ((0 ≤ i ∧ i < Int32.ofNat (ln a)) ∧ Runs 205 986 ls (.int (I a i) :: st) (n, tg, ln, I, J, O) Q) := R_iald rfl ht
theorem s205_985q (ht : tg a = 30) : Runs 205 985 ls (.int i :: .ref a :: st) (n, tg, ln, I, J, O) Q ↔ ((0 ≤ i ∧ i < Int32.ofNat (ln a)) ∧ Runs 205 986 ls (.int (I a i) :: st) (n, tg, ln, I, J, O) Q) := R_iald0 rfl ht
theorem s205_986 (ht : tg a = 9) (hs : zsumc st ≤ 8) : Runs 205 986 ls (.int i1 :: .int i0 :: .ref a :: st) (n, tg, ln, I, J, O) Q ↔ Runs 109 0 [some (.ref a), some (.int i0), some (.int i1), none, none] [] (n, tg, ln, I, J, O) (fun v h2 => Runs 205 989 ls (v.toList ++ st) h2 Q) := R_callv (a := a) (rest := st) rfl rfl rfl rfl rfl rfl rfl ht hs
theorem s205_989 : Runs 205 989 [x0, x1, some (.ref a), x3] st h Q ↔ Runs 205 990 [x0, x1, some (.ref a), x3] (.ref a :: st) h Q := R_aldn rfl rfl
theorem s205_989q : Runs 205 989 [x0, x1, some (zrf r), x3] st h Q ↔ Runs 205 990 [x0, x1, some (zrf r), x3] (zrf r :: st) h Q := R_aldnq rfl rfl
theorem s205_990 : Runs 205 990 [some (.ref a), x1, x2, x3] st h Q ↔ Runs 205 991 [some (.ref a), x1, x2, x3] (.ref a :: st) h Q := R_aldn rfl rfl
theorem s205_990q : Runs 205 990 [some (zrf r), x1, x2, x3] st h Q ↔ Runs 205 991 [some (zrf r), x1, x2, x3] (zrf r :: st) h Q := R_aldnq rfl rfl
theorem s205_991 : Runs 205 991 [x0, x1, x2, some (.int i)] st h Q ↔ Runs 205 992 [x0, x1, x2, some (.int i)] (.int i :: st) h Q := R_ildn rfl rfl
theorem s205_992 : Runs 205 992 ls st h Q ↔ Runs 205 993 ls (.int 1 :: st) h Q := R_iconst rfl rfl
theorem s205_993 : Runs 205 993 ls (.int j :: .int i :: st) h Q ↔ Runs 205 994 ls (.int (i + j) :: st) h Q := R_iadd rfl
theorem s205_994 (ht : tg a = 20) : Runs 205 994 ls (.int i :: .ref a :: st) (n, tg, ln, I, J, O) Q ↔ ((0 ≤ i ∧ i < Int32.ofNat (ln a)) ∧ Runs 205 995 ls (.int (I a i) :: st) (n, tg, ln, I, J, O) Q) := R_iald rfl ht
theorem s205_994q (ht : tg a = 30) : Runs 205 994 ls (.int i :: .ref a :: st) (n, tg, ln, I, J, O) Q ↔ ((0 ≤ i ∧ i < Int32.ofNat (ln a)) ∧ Runs 205 995 ls (.int (I a i) :: st) (n, tg, ln, I, J, O) Q) := R_iald0 rfl ht
theorem s205_995 : Runs 205 995 [some (.ref a), x1, x2, x3] st h Q ↔ Runs 205 996 [some (.ref a), x1, x2, x3] (.ref a :: st) h Q := R_aldn rfl rfl
theorem s205_995q : Runs 205 995 [some (zrf r), x1, x2, x3] st h Q ↔ Runs 205 996 [some (zrf r), x1, x2, x3] (zrf r :: st) h Q := R_aldnq rfl rfl
theorem s205_996 : Runs 205 996 [x0, x1, x2, some (.int i)] st h Q ↔ Runs 205 997 [x0, x1, x2, some (.int i)] (.int i :: st) h Q := R_ildn rfl rfl
theorem s205_997 : Runs 205 997 ls st h Q ↔ Runs 205 998 ls (.int 2 :: st) h Q := R_iconst rfl rfl
theorem s205_998 : Runs 205 998 ls (.int j :: .int i :: st) h Q ↔ Runs 205 999 ls (.int (i + j) :: st) h Q := R_iadd rfl
theorem s205_999 (ht : tg a = 20) : Runs 205 999 ls (.int i :: .ref a :: st) (n, tg, ln, I, J, O) Q ↔ ((0 ≤ i ∧ i < Int32.ofNat (ln a)) ∧ Runs 205 1000 ls (.int (I a i) :: st) (n, tg, ln, I, J, O) Q) := R_iald rfl ht
theorem s205_999q (ht : tg a = 30) : Runs 205 999 ls (.int i :: .ref a :: st) (n, tg, ln, I, J, O) Q ↔ ((0 ≤ i ∧ i < Int32.ofNat (ln a)) ∧ Runs 205 1000 ls (.int (I a i) :: st) (n, tg, ln, I, J, O) Q) := R_iald0 rfl ht
theorem s205_1000 (ht : tg a = 10) (hs : zsumc st ≤ 8) : Runs 205 1000 ls (.int i1 :: .int i0 :: .ref a :: st) (n, tg, ln, I, J, O) Q ↔ Runs 194 0 [some (.ref a), some (.int i0), some (.int i1), none, none] [] (n, tg, ln, I, J, O) (fun v h2 => Runs 205 1003 ls (v.toList ++ st) h2 Q) := R_callv (a := a) (rest := st) rfl rfl rfl rfl rfl rfl rfl ht hs
theorem s205_1003 : Runs 205 1003 ls (.int j :: .int i :: st) h Q ↔ if i = j then Runs 205 1193 ls st h Q else Runs 205 1006 ls st h Q := R_iceq rfl rfl
theorem s205_1006 : Runs 205 1006 ls st h Q ↔ Runs 205 1007 ls (.int 0 :: st) h Q := R_iconst rfl rfl
theorem s205_1007 (hx : i = 0 ∨ i = 1) : Runs 205 1007 ls [.int i] h Q ↔ Q (some (.int i)) h := R_zret rfl rfl hx
theorem s205_1008 : Runs 205 1008 [x0, some (.ref a), x2, x3] st h Q ↔ Runs 205 1009 [x0, some (.ref a), x2, x3] (.ref a :: st) h Q := R_aldn rfl rfl
theorem s205_1008q : Runs 205 1008 [x0, some (zrf r), x2, x3] st h Q ↔ Runs 205 1009 [x0, some (zrf r), x2, x3] (zrf r :: st) h Q := R_aldnq rfl rfl
theorem s205_1009 : Runs 205 1009 [some (.ref a), x1, x2, x3] st h Q ↔ Runs 205 1010 [some (.ref a), x1, x2, x3] (.ref a :: st) h Q := R_aldn rfl rfl
theorem s205_1009q : Runs 205 1009 [some (zrf r), x1, x2, x3] st h Q ↔ Runs 205 1010 [some (zrf r), x1, x2, x3] (zrf r :: st) h Q := R_aldnq rfl rfl
theorem s205_1010 : Runs 205 1010 [x0, x1, x2, some (.int i)] st h Q ↔ Runs 205 1011 [x0, x1, x2, some (.int i)] (.int i :: st) h Q := R_ildn rfl rfl
theorem s205_1011 : Runs 205 1011 ls st h Q ↔ Runs 205 1012 ls (.int 1 :: st) h Q := R_iconst rfl rfl
theorem s205_1012 : Runs 205 1012 ls (.int j :: .int i :: st) h Q ↔ Runs 205 1013 ls (.int (i + j) :: st) h Q := R_iadd rfl
theorem s205_1013 (ht : tg a = 20) : Runs 205 1013 ls (.int i :: .ref a :: st) (n, tg, ln, I, J, O) Q ↔ ((0 ≤ i ∧ i < Int32.ofNat (ln a)) ∧ Runs 205 1014 ls (.int (I a i) :: st) (n, tg, ln, I, J, O) Q) := R_iald rfl ht
theorem s205_1013q (ht : tg a = 30) : Runs 205 1013 ls (.int i :: .ref a :: st) (n, tg, ln, I, J, O) Q ↔ ((0 ≤ i ∧ i < Int32.ofNat (ln a)) ∧ Runs 205 1014 ls (.int (I a i) :: st) (n, tg, ln, I, J, O) Q) := R_iald0 rfl ht
theorem s205_1014 : Runs 205 1014 [some (.ref a), x1, x2, x3] st h Q ↔ Runs 205 1015 [some (.ref a), x1, x2, x3] (.ref a :: st) h Q := R_aldn rfl rfl
theorem s205_1014q : Runs 205 1014 [some (zrf r), x1, x2, x3] st h Q ↔ Runs 205 1015 [some (zrf r), x1, x2, x3] (zrf r :: st) h Q := R_aldnq rfl rfl
theorem s205_1015 : Runs 205 1015 [x0, x1, x2, some (.int i)] st h Q ↔ Runs 205 1016 [x0, x1, x2, some (.int i)] (.int i :: st) h Q := R_ildn rfl rfl
theorem s205_1016 : Runs 205 1016 ls st h Q ↔ Runs 205 1017 ls (.int 2 :: st) h Q := R_iconst rfl rfl
theorem s205_1017 : Runs 205 1017 ls (.int j :: .int i :: st) h Q ↔ Runs 205 1018 ls (.int (i + j) :: st) h Q := R_iadd rfl
theorem s205_1018 (ht : tg a = 20) : Runs 205 1018 ls (.int i :: .ref a :: st) (n, tg, ln, I, J, O) Q ↔ ((0 ≤ i ∧ i < Int32.ofNat (ln a)) ∧ Runs 205 1019 ls (.int (I a i) :: st) (n, tg, ln, I, J, O) Q) := R_iald rfl ht
theorem s205_1018q (ht : tg a = 30) : Runs 205 1018 ls (.int i :: .ref a :: st) (n, tg, ln, I, J, O) Q ↔ ((0 ≤ i ∧ i < Int32.ofNat (ln a)) ∧ Runs 205 1019 ls (.int (I a i) :: st) (n, tg, ln, I, J, O) Q) := R_iald0 rfl ht
theorem s205_1019 (ht : tg a = 9) (hs : zsumc st ≤ 8) : Runs 205 1019 ls (.int i1 :: .int i0 :: .ref a :: st) (n, tg, ln, I, J, O) Q ↔ Runs 110 0 [some (.ref a), some (.int i0), some (.int i1), none, none] [] (n, tg, ln, I, J, O) (fun v h2 => Runs 205 1022 ls (v.toList ++ st) h2 Q) := R_callv (a := a) (rest := st) rfl rfl rfl rfl rfl rfl rfl ht hs
theorem s205_1022 : Runs 205 1022 [x0, x1, some (.ref a), x3] st h Q ↔ Runs 205 1023 [x0, x1, some (.ref a), x3] (.ref a :: st) h Q := R_aldn rfl rfl
theorem s205_1022q : Runs 205 1022 [x0, x1, some (zrf r), x3] st h Q ↔ Runs 205 1023 [x0, x1, some (zrf r), x3] (zrf r :: st) h Q := R_aldnq rfl rfl
theorem s205_1023 : Runs 205 1023 [some (.ref a), x1, x2, x3] st h Q ↔ Runs 205 1024 [some (.ref a), x1, x2, x3] (.ref a :: st) h Q := R_aldn rfl rfl
theorem s205_1023q : Runs 205 1023 [some (zrf r), x1, x2, x3] st h Q ↔ Runs 205 1024 [some (zrf r), x1, x2, x3] (zrf r :: st) h Q := R_aldnq rfl rfl
theorem s205_1024 : Runs 205 1024 [x0, x1, x2, some (.int i)] st h Q ↔ Runs 205 1025 [x0, x1, x2, some (.int i)] (.int i :: st) h Q := R_ildn rfl rfl
theorem s205_1025 : Runs 205 1025 ls st h Q ↔ Runs 205 1026 ls (.int 1 :: st) h Q := R_iconst rfl rfl
theorem s205_1026 : Runs 205 1026 ls (.int j :: .int i :: st) h Q ↔ Runs 205 1027 ls (.int (i + j) :: st) h Q := R_iadd rfl
theorem s205_1027 (ht : tg a = 20) : Runs 205 1027 ls (.int i :: .ref a :: st) (n, tg, ln, I, J, O) Q ↔ ((0 ≤ i ∧ i < Int32.ofNat (ln a)) ∧ Runs 205 1028 ls (.int (I a i) :: st) (n, tg, ln, I, J, O) Q) := R_iald rfl ht
theorem s205_1027q (ht : tg a = 30) : Runs 205 1027 ls (.int i :: .ref a :: st) (n, tg, ln, I, J, O) Q ↔ ((0 ≤ i ∧ i < Int32.ofNat (ln a)) ∧ Runs 205 1028 ls (.int (I a i) :: st) (n, tg, ln, I, J, O) Q) := R_iald0 rfl ht
theorem s205_1028 : Runs 205 1028 [some (.ref a), x1, x2, x3] st h Q ↔ Runs 205 1029 [some (.ref a), x1, x2, x3] (.ref a :: st) h Q := R_aldn rfl rfl
theorem s205_1028q : Runs 205 1028 [some (zrf r), x1, x2, x3] st h Q ↔ Runs 205 1029 [some (zrf r), x1, x2, x3] (zrf r :: st) h Q := R_aldnq rfl rfl
theorem s205_1029 : Runs 205 1029 [x0, x1, x2, some (.int i)] st h Q ↔ Runs 205 1030 [x0, x1, x2, some (.int i)] (.int i :: st) h Q := R_ildn rfl rfl
theorem s205_1030 : Runs 205 1030 ls st h Q ↔ Runs 205 1031 ls (.int 2 :: st) h Q := R_iconst rfl rfl
theorem s205_1031 : Runs 205 1031 ls (.int j :: .int i :: st) h Q ↔ Runs 205 1032 ls (.int (i + j) :: st) h Q := R_iadd rfl
theorem s205_1032 (ht : tg a = 20) : Runs 205 1032 ls (.int i :: .ref a :: st) (n, tg, ln, I, J, O) Q ↔ ((0 ≤ i ∧ i < Int32.ofNat (ln a)) ∧ Runs 205 1033 ls (.int (I a i) :: st) (n, tg, ln, I, J, O) Q) := R_iald rfl ht
theorem s205_1032q (ht : tg a = 30) : Runs 205 1032 ls (.int i :: .ref a :: st) (n, tg, ln, I, J, O) Q ↔ ((0 ≤ i ∧ i < Int32.ofNat (ln a)) ∧ Runs 205 1033 ls (.int (I a i) :: st) (n, tg, ln, I, J, O) Q) := R_iald0 rfl ht
theorem s205_1033 (ht : tg a = 10) (hs : zsumc st ≤ 8) : Runs 205 1033 ls (.int i1 :: .int i0 :: .ref a :: st) (n, tg, ln, I, J, O) Q ↔ Runs 196 0 [some (.ref a), some (.int i0), some (.int i1), none, none] [] (n, tg, ln, I, J, O) (fun v h2 => Runs 205 1036 ls (v.toList ++ st) h2 Q) := R_callv (a := a) (rest := st) rfl rfl rfl rfl rfl rfl rfl ht hs
theorem s205_1036 : Runs 205 1036 ls (.int j :: .int i :: st) h Q ↔ if i = j then Runs 205 1193 ls st h Q else Runs 205 1039 ls st h Q := R_iceq rfl rfl
theorem s205_1039 : Runs 205 1039 ls st h Q ↔ Runs 205 1040 ls (.int 0 :: st) h Q := R_iconst rfl rfl
theorem s205_1040 (hx : i = 0 ∨ i = 1) : Runs 205 1040 ls [.int i] h Q ↔ Q (some (.int i)) h := R_zret rfl rfl hx
theorem s205_1041 : Runs 205 1041 [x0, some (.ref a), x2, x3] st h Q ↔ Runs 205 1042 [x0, some (.ref a), x2, x3] (.ref a :: st) h Q := R_aldn rfl rfl
theorem s205_1041q : Runs 205 1041 [x0, some (zrf r), x2, x3] st h Q ↔ Runs 205 1042 [x0, some (zrf r), x2, x3] (zrf r :: st) h Q := R_aldnq rfl rfl
theorem s205_1042 : Runs 205 1042 [some (.ref a), x1, x2, x3] st h Q ↔ Runs 205 1043 [some (.ref a), x1, x2, x3] (.ref a :: st) h Q := R_aldn rfl rfl
theorem s205_1042q : Runs 205 1042 [some (zrf r), x1, x2, x3] st h Q ↔ Runs 205 1043 [some (zrf r), x1, x2, x3] (zrf r :: st) h Q := R_aldnq rfl rfl
theorem s205_1043 : Runs 205 1043 [x0, x1, x2, some (.int i)] st h Q ↔ Runs 205 1044 [x0, x1, x2, some (.int i)] (.int i :: st) h Q := R_ildn rfl rfl
theorem s205_1044 : Runs 205 1044 ls st h Q ↔ Runs 205 1045 ls (.int 1 :: st) h Q := R_iconst rfl rfl
theorem s205_1045 : Runs 205 1045 ls (.int j :: .int i :: st) h Q ↔ Runs 205 1046 ls (.int (i + j) :: st) h Q := R_iadd rfl
theorem s205_1046 (ht : tg a = 20) : Runs 205 1046 ls (.int i :: .ref a :: st) (n, tg, ln, I, J, O) Q ↔ ((0 ≤ i ∧ i < Int32.ofNat (ln a)) ∧ Runs 205 1047 ls (.int (I a i) :: st) (n, tg, ln, I, J, O) Q) := R_iald rfl ht
theorem s205_1046q (ht : tg a = 30) : Runs 205 1046 ls (.int i :: .ref a :: st) (n, tg, ln, I, J, O) Q ↔ ((0 ≤ i ∧ i < Int32.ofNat (ln a)) ∧ Runs 205 1047 ls (.int (I a i) :: st) (n, tg, ln, I, J, O) Q) := R_iald0 rfl ht
theorem s205_1047 : Runs 205 1047 [some (.ref a), x1, x2, x3] st h Q ↔ Runs 205 1048 [some (.ref a), x1, x2, x3] (.ref a :: st) h Q := R_aldn rfl rfl
theorem s205_1047q : Runs 205 1047 [some (zrf r), x1, x2, x3] st h Q ↔ Runs 205 1048 [some (zrf r), x1, x2, x3] (zrf r :: st) h Q := R_aldnq rfl rfl
theorem s205_1048 : Runs 205 1048 [x0, x1, x2, some (.int i)] st h Q ↔ Runs 205 1049 [x0, x1, x2, some (.int i)] (.int i :: st) h Q := R_ildn rfl rfl
theorem s205_1049 : Runs 205 1049 ls st h Q ↔ Runs 205 1050 ls (.int 2 :: st) h Q := R_iconst rfl rfl
theorem s205_1050 : Runs 205 1050 ls (.int j :: .int i :: st) h Q ↔ Runs 205 1051 ls (.int (i + j) :: st) h Q := R_iadd rfl
theorem s205_1051 (ht : tg a = 20) : Runs 205 1051 ls (.int i :: .ref a :: st) (n, tg, ln, I, J, O) Q ↔ ((0 ≤ i ∧ i < Int32.ofNat (ln a)) ∧ Runs 205 1052 ls (.int (I a i) :: st) (n, tg, ln, I, J, O) Q) := R_iald rfl ht
theorem s205_1051q (ht : tg a = 30) : Runs 205 1051 ls (.int i :: .ref a :: st) (n, tg, ln, I, J, O) Q ↔ ((0 ≤ i ∧ i < Int32.ofNat (ln a)) ∧ Runs 205 1052 ls (.int (I a i) :: st) (n, tg, ln, I, J, O) Q) := R_iald0 rfl ht
theorem s205_1052 : Runs 205 1052 [some (.ref a), x1, x2, x3] st h Q ↔ Runs 205 1053 [some (.ref a), x1, x2, x3] (.ref a :: st) h Q := R_aldn rfl rfl
theorem s205_1052q : Runs 205 1052 [some (zrf r), x1, x2, x3] st h Q ↔ Runs 205 1053 [some (zrf r), x1, x2, x3] (zrf r :: st) h Q := R_aldnq rfl rfl
theorem s205_1053 : Runs 205 1053 [x0, x1, x2, some (.int i)] st h Q ↔ Runs 205 1054 [x0, x1, x2, some (.int i)] (.int i :: st) h Q := R_ildn rfl rfl
theorem s205_1054 : Runs 205 1054 ls st h Q ↔ Runs 205 1055 ls (.int 3 :: st) h Q := R_iconst rfl rfl
theorem s205_1055 : Runs 205 1055 ls (.int j :: .int i :: st) h Q ↔ Runs 205 1056 ls (.int (i + j) :: st) h Q := R_iadd rfl
theorem s205_1056 (ht : tg a = 20) : Runs 205 1056 ls (.int i :: .ref a :: st) (n, tg, ln, I, J, O) Q ↔ ((0 ≤ i ∧ i < Int32.ofNat (ln a)) ∧ Runs 205 1057 ls (.int (I a i) :: st) (n, tg, ln, I, J, O) Q) := R_iald rfl ht
theorem s205_1056q (ht : tg a = 30) : Runs 205 1056 ls (.int i :: .ref a :: st) (n, tg, ln, I, J, O) Q ↔ ((0 ≤ i ∧ i < Int32.ofNat (ln a)) ∧ Runs 205 1057 ls (.int (I a i) :: st) (n, tg, ln, I, J, O) Q) := R_iald0 rfl ht
theorem s205_1057 (ht : tg a = 9) (hs : zsumc st ≤ 8) : Runs 205 1057 ls (.int i2 :: .int i1 :: .int i0 :: .ref a :: st) (n, tg, ln, I, J, O) Q ↔ Runs 111 0 [some (.ref a), some (.int i0), some (.int i1), some (.int i2), none] [] (n, tg, ln, I, J, O) (fun v h2 => Runs 205 1060 ls (v.toList ++ st) h2 Q) := R_callv (a := a) (rest := st) rfl rfl rfl rfl rfl rfl rfl ht hs
theorem s205_1060 : Runs 205 1060 [x0, x1, some (.ref a), x3] st h Q ↔ Runs 205 1061 [x0, x1, some (.ref a), x3] (.ref a :: st) h Q := R_aldn rfl rfl
theorem s205_1060q : Runs 205 1060 [x0, x1, some (zrf r), x3] st h Q ↔ Runs 205 1061 [x0, x1, some (zrf r), x3] (zrf r :: st) h Q := R_aldnq rfl rfl
theorem s205_1061 : Runs 205 1061 [some (.ref a), x1, x2, x3] st h Q ↔ Runs 205 1062 [some (.ref a), x1, x2, x3] (.ref a :: st) h Q := R_aldn rfl rfl
theorem s205_1061q : Runs 205 1061 [some (zrf r), x1, x2, x3] st h Q ↔ Runs 205 1062 [some (zrf r), x1, x2, x3] (zrf r :: st) h Q := R_aldnq rfl rfl
theorem s205_1062 : Runs 205 1062 [x0, x1, x2, some (.int i)] st h Q ↔ Runs 205 1063 [x0, x1, x2, some (.int i)] (.int i :: st) h Q := R_ildn rfl rfl
theorem s205_1063 : Runs 205 1063 ls st h Q ↔ Runs 205 1064 ls (.int 1 :: st) h Q := R_iconst rfl rfl
theorem s205_1064 : Runs 205 1064 ls (.int j :: .int i :: st) h Q ↔ Runs 205 1065 ls (.int (i + j) :: st) h Q := R_iadd rfl
theorem s205_1065 (ht : tg a = 20) : Runs 205 1065 ls (.int i :: .ref a :: st) (n, tg, ln, I, J, O) Q ↔ ((0 ≤ i ∧ i < Int32.ofNat (ln a)) ∧ Runs 205 1066 ls (.int (I a i) :: st) (n, tg, ln, I, J, O) Q) := R_iald rfl ht
theorem s205_1065q (ht : tg a = 30) : Runs 205 1065 ls (.int i :: .ref a :: st) (n, tg, ln, I, J, O) Q ↔ ((0 ≤ i ∧ i < Int32.ofNat (ln a)) ∧ Runs 205 1066 ls (.int (I a i) :: st) (n, tg, ln, I, J, O) Q) := R_iald0 rfl ht
theorem s205_1066 : Runs 205 1066 [some (.ref a), x1, x2, x3] st h Q ↔ Runs 205 1067 [some (.ref a), x1, x2, x3] (.ref a :: st) h Q := R_aldn rfl rfl
theorem s205_1066q : Runs 205 1066 [some (zrf r), x1, x2, x3] st h Q ↔ Runs 205 1067 [some (zrf r), x1, x2, x3] (zrf r :: st) h Q := R_aldnq rfl rfl
theorem s205_1067 : Runs 205 1067 [x0, x1, x2, some (.int i)] st h Q ↔ Runs 205 1068 [x0, x1, x2, some (.int i)] (.int i :: st) h Q := R_ildn rfl rfl
theorem s205_1068 : Runs 205 1068 ls st h Q ↔ Runs 205 1069 ls (.int 2 :: st) h Q := R_iconst rfl rfl
theorem s205_1069 : Runs 205 1069 ls (.int j :: .int i :: st) h Q ↔ Runs 205 1070 ls (.int (i + j) :: st) h Q := R_iadd rfl
theorem s205_1070 (ht : tg a = 20) : Runs 205 1070 ls (.int i :: .ref a :: st) (n, tg, ln, I, J, O) Q ↔ ((0 ≤ i ∧ i < Int32.ofNat (ln a)) ∧ Runs 205 1071 ls (.int (I a i) :: st) (n, tg, ln, I, J, O) Q) := R_iald rfl ht
theorem s205_1070q (ht : tg a = 30) : Runs 205 1070 ls (.int i :: .ref a :: st) (n, tg, ln, I, J, O) Q ↔ ((0 ≤ i ∧ i < Int32.ofNat (ln a)) ∧ Runs 205 1071 ls (.int (I a i) :: st) (n, tg, ln, I, J, O) Q) := R_iald0 rfl ht
theorem s205_1071 : Runs 205 1071 [some (.ref a), x1, x2, x3] st h Q ↔ Runs 205 1072 [some (.ref a), x1, x2, x3] (.ref a :: st) h Q := R_aldn rfl rfl
theorem s205_1071q : Runs 205 1071 [some (zrf r), x1, x2, x3] st h Q ↔ Runs 205 1072 [some (zrf r), x1, x2, x3] (zrf r :: st) h Q := R_aldnq rfl rfl
theorem s205_1072 : Runs 205 1072 [x0, x1, x2, some (.int i)] st h Q ↔ Runs 205 1073 [x0, x1, x2, some (.int i)] (.int i :: st) h Q := R_ildn rfl rfl
theorem s205_1073 : Runs 205 1073 ls st h Q ↔ Runs 205 1074 ls (.int 3 :: st) h Q := R_iconst rfl rfl
theorem s205_1074 : Runs 205 1074 ls (.int j :: .int i :: st) h Q ↔ Runs 205 1075 ls (.int (i + j) :: st) h Q := R_iadd rfl
theorem s205_1075 (ht : tg a = 20) : Runs 205 1075 ls (.int i :: .ref a :: st) (n, tg, ln, I, J, O) Q ↔ ((0 ≤ i ∧ i < Int32.ofNat (ln a)) ∧ Runs 205 1076 ls (.int (I a i) :: st) (n, tg, ln, I, J, O) Q) := R_iald rfl ht
theorem s205_1075q (ht : tg a = 30) : Runs 205 1075 ls (.int i :: .ref a :: st) (n, tg, ln, I, J, O) Q ↔ ((0 ≤ i ∧ i < Int32.ofNat (ln a)) ∧ Runs 205 1076 ls (.int (I a i) :: st) (n, tg, ln, I, J, O) Q) := R_iald0 rfl ht
theorem s205_1076 (ht : tg a = 10) (hs : zsumc st ≤ 8) : Runs 205 1076 ls (.int i2 :: .int i1 :: .int i0 :: .ref a :: st) (n, tg, ln, I, J, O) Q ↔ Runs 197 0 [some (.ref a), some (.int i0), some (.int i1), some (.int i2), none, none, none, none] [] (n, tg, ln, I, J, O) (fun v h2 => Runs 205 1079 ls (v.toList ++ st) h2 Q) := R_callv (a := a) (rest := st) rfl rfl rfl rfl rfl rfl rfl ht hs
theorem s205_1079 : Runs 205 1079 ls (.int j :: .int i :: st) h Q ↔ if i = j then Runs 205 1193 ls st h Q else Runs 205 1082 ls st h Q := R_iceq rfl rfl
theorem s205_1082 : Runs 205 1082 ls st h Q ↔ Runs 205 1083 ls (.int 0 :: st) h Q := R_iconst rfl rfl
theorem s205_1083 (hx : i = 0 ∨ i = 1) : Runs 205 1083 ls [.int i] h Q ↔ Q (some (.int i)) h := R_zret rfl rfl hx
theorem s205_1084 : Runs 205 1084 [x0, some (.ref a), x2, x3] st h Q ↔ Runs 205 1085 [x0, some (.ref a), x2, x3] (.ref a :: st) h Q := R_aldn rfl rfl
theorem s205_1084q : Runs 205 1084 [x0, some (zrf r), x2, x3] st h Q ↔ Runs 205 1085 [x0, some (zrf r), x2, x3] (zrf r :: st) h Q := R_aldnq rfl rfl
theorem s205_1085 : Runs 205 1085 [some (.ref a), x1, x2, x3] st h Q ↔ Runs 205 1086 [some (.ref a), x1, x2, x3] (.ref a :: st) h Q := R_aldn rfl rfl
theorem s205_1085q : Runs 205 1085 [some (zrf r), x1, x2, x3] st h Q ↔ Runs 205 1086 [some (zrf r), x1, x2, x3] (zrf r :: st) h Q := R_aldnq rfl rfl
theorem s205_1086 : Runs 205 1086 [x0, x1, x2, some (.int i)] st h Q ↔ Runs 205 1087 [x0, x1, x2, some (.int i)] (.int i :: st) h Q := R_ildn rfl rfl
theorem s205_1087 : Runs 205 1087 ls st h Q ↔ Runs 205 1088 ls (.int 1 :: st) h Q := R_iconst rfl rfl
theorem s205_1088 : Runs 205 1088 ls (.int j :: .int i :: st) h Q ↔ Runs 205 1089 ls (.int (i + j) :: st) h Q := R_iadd rfl
theorem s205_1089 (ht : tg a = 20) : Runs 205 1089 ls (.int i :: .ref a :: st) (n, tg, ln, I, J, O) Q ↔ ((0 ≤ i ∧ i < Int32.ofNat (ln a)) ∧ Runs 205 1090 ls (.int (I a i) :: st) (n, tg, ln, I, J, O) Q) := R_iald rfl ht
theorem s205_1089q (ht : tg a = 30) : Runs 205 1089 ls (.int i :: .ref a :: st) (n, tg, ln, I, J, O) Q ↔ ((0 ≤ i ∧ i < Int32.ofNat (ln a)) ∧ Runs 205 1090 ls (.int (I a i) :: st) (n, tg, ln, I, J, O) Q) := R_iald0 rfl ht
theorem s205_1090 : Runs 205 1090 [some (.ref a), x1, x2, x3] st h Q ↔ Runs 205 1091 [some (.ref a), x1, x2, x3] (.ref a :: st) h Q := R_aldn rfl rfl
theorem s205_1090q : Runs 205 1090 [some (zrf r), x1, x2, x3] st h Q ↔ Runs 205 1091 [some (zrf r), x1, x2, x3] (zrf r :: st) h Q := R_aldnq rfl rfl
theorem s205_1091 : Runs 205 1091 [x0, x1, x2, some (.int i)] st h Q ↔ Runs 205 1092 [x0, x1, x2, some (.int i)] (.int i :: st) h Q := R_ildn rfl rfl
theorem s205_1092 : Runs 205 1092 ls st h Q ↔ Runs 205 1093 ls (.int 2 :: st) h Q := R_iconst rfl rfl
theorem s205_1093 : Runs 205 1093 ls (.int j :: .int i :: st) h Q ↔ Runs 205 1094 ls (.int (i + j) :: st) h Q := R_iadd rfl
theorem s205_1094 (ht : tg a = 20) : Runs 205 1094 ls (.int i :: .ref a :: st) (n, tg, ln, I, J, O) Q ↔ ((0 ≤ i ∧ i < Int32.ofNat (ln a)) ∧ Runs 205 1095 ls (.int (I a i) :: st) (n, tg, ln, I, J, O) Q) := R_iald rfl ht
theorem s205_1094q (ht : tg a = 30) : Runs 205 1094 ls (.int i :: .ref a :: st) (n, tg, ln, I, J, O) Q ↔ ((0 ≤ i ∧ i < Int32.ofNat (ln a)) ∧ Runs 205 1095 ls (.int (I a i) :: st) (n, tg, ln, I, J, O) Q) := R_iald0 rfl ht
theorem s205_1095 : Runs 205 1095 [some (.ref a), x1, x2, x3] st h Q ↔ Runs 205 1096 [some (.ref a), x1, x2, x3] (.ref a :: st) h Q := R_aldn rfl rfl
theorem s205_1095q : Runs 205 1095 [some (zrf r), x1, x2, x3] st h Q ↔ Runs 205 1096 [some (zrf r), x1, x2, x3] (zrf r :: st) h Q := R_aldnq rfl rfl
theorem s205_1096 : Runs 205 1096 [x0, x1, x2, some (.int i)] st h Q ↔ Runs 205 1097 [x0, x1, x2, some (.int i)] (.int i :: st) h Q := R_ildn rfl rfl
theorem s205_1097 : Runs 205 1097 ls st h Q ↔ Runs 205 1098 ls (.int 3 :: st) h Q := R_iconst rfl rfl
theorem s205_1098 : Runs 205 1098 ls (.int j :: .int i :: st) h Q ↔ Runs 205 1099 ls (.int (i + j) :: st) h Q := R_iadd rfl
theorem s205_1099 (ht : tg a = 20) : Runs 205 1099 ls (.int i :: .ref a :: st) (n, tg, ln, I, J, O) Q ↔ ((0 ≤ i ∧ i < Int32.ofNat (ln a)) ∧ Runs 205 1100 ls (.int (I a i) :: st) (n, tg, ln, I, J, O) Q) := R_iald rfl ht
theorem s205_1099q (ht : tg a = 30) : Runs 205 1099 ls (.int i :: .ref a :: st) (n, tg, ln, I, J, O) Q ↔ ((0 ≤ i ∧ i < Int32.ofNat (ln a)) ∧ Runs 205 1100 ls (.int (I a i) :: st) (n, tg, ln, I, J, O) Q) := R_iald0 rfl ht
theorem s205_1100 : Runs 205 1100 [some (.ref a), x1, x2, x3] st h Q ↔ Runs 205 1101 [some (.ref a), x1, x2, x3] (.ref a :: st) h Q := R_aldn rfl rfl
theorem s205_1100q : Runs 205 1100 [some (zrf r), x1, x2, x3] st h Q ↔ Runs 205 1101 [some (zrf r), x1, x2, x3] (zrf r :: st) h Q := R_aldnq rfl rfl
theorem s205_1101 : Runs 205 1101 [x0, x1, x2, some (.int i)] st h Q ↔ Runs 205 1102 [x0, x1, x2, some (.int i)] (.int i :: st) h Q := R_ildn rfl rfl
theorem s205_1102 : Runs 205 1102 ls st h Q ↔ Runs 205 1103 ls (.int 4 :: st) h Q := R_iconst rfl rfl
theorem s205_1103 : Runs 205 1103 ls (.int j :: .int i :: st) h Q ↔ Runs 205 1104 ls (.int (i + j) :: st) h Q := R_iadd rfl
theorem s205_1104 (ht : tg a = 20) : Runs 205 1104 ls (.int i :: .ref a :: st) (n, tg, ln, I, J, O) Q ↔ ((0 ≤ i ∧ i < Int32.ofNat (ln a)) ∧ Runs 205 1105 ls (.int (I a i) :: st) (n, tg, ln, I, J, O) Q) := R_iald rfl ht
theorem s205_1104q (ht : tg a = 30) : Runs 205 1104 ls (.int i :: .ref a :: st) (n, tg, ln, I, J, O) Q ↔ ((0 ≤ i ∧ i < Int32.ofNat (ln a)) ∧ Runs 205 1105 ls (.int (I a i) :: st) (n, tg, ln, I, J, O) Q) := R_iald0 rfl ht
theorem s205_1105 : Runs 205 1105 [some (.ref a), x1, x2, x3] st h Q ↔ Runs 205 1106 [some (.ref a), x1, x2, x3] (.ref a :: st) h Q := R_aldn rfl rfl
theorem s205_1105q : Runs 205 1105 [some (zrf r), x1, x2, x3] st h Q ↔ Runs 205 1106 [some (zrf r), x1, x2, x3] (zrf r :: st) h Q := R_aldnq rfl rfl
theorem s205_1106 : Runs 205 1106 [x0, x1, x2, some (.int i)] st h Q ↔ Runs 205 1107 [x0, x1, x2, some (.int i)] (.int i :: st) h Q := R_ildn rfl rfl
theorem s205_1107 : Runs 205 1107 ls st h Q ↔ Runs 205 1108 ls (.int 5 :: st) h Q := R_iconst rfl rfl
theorem s205_1108 : Runs 205 1108 ls (.int j :: .int i :: st) h Q ↔ Runs 205 1109 ls (.int (i + j) :: st) h Q := R_iadd rfl
theorem s205_1109 (ht : tg a = 20) : Runs 205 1109 ls (.int i :: .ref a :: st) (n, tg, ln, I, J, O) Q ↔ ((0 ≤ i ∧ i < Int32.ofNat (ln a)) ∧ Runs 205 1110 ls (.int (I a i) :: st) (n, tg, ln, I, J, O) Q) := R_iald rfl ht
theorem s205_1109q (ht : tg a = 30) : Runs 205 1109 ls (.int i :: .ref a :: st) (n, tg, ln, I, J, O) Q ↔ ((0 ≤ i ∧ i < Int32.ofNat (ln a)) ∧ Runs 205 1110 ls (.int (I a i) :: st) (n, tg, ln, I, J, O) Q) := R_iald0 rfl ht
theorem s205_1110 (ht : tg a = 9) (hs : zsumc st ≤ 8) : Runs 205 1110 ls (.int i4 :: .int i3 :: .int i2 :: .int i1 :: .int i0 :: .ref a :: st) (n, tg, ln, I, J, O) Q ↔ Runs 112 0 [some (.ref a), some (.int i0), some (.int i1), some (.int i2), some (.int i3), some (.int i4)] [] (n, tg, ln, I, J, O) (fun v h2 => Runs 205 1113 ls (v.toList ++ st) h2 Q) := R_callv (a := a) (rest := st) rfl rfl rfl rfl rfl rfl rfl ht hs
theorem s205_1113 : Runs 205 1113 [x0, x1, some (.ref a), x3] st h Q ↔ Runs 205 1114 [x0, x1, some (.ref a), x3] (.ref a :: st) h Q := R_aldn rfl rfl
theorem s205_1113q : Runs 205 1113 [x0, x1, some (zrf r), x3] st h Q ↔ Runs 205 1114 [x0, x1, some (zrf r), x3] (zrf r :: st) h Q := R_aldnq rfl rfl
theorem s205_1114 : Runs 205 1114 [some (.ref a), x1, x2, x3] st h Q ↔ Runs 205 1115 [some (.ref a), x1, x2, x3] (.ref a :: st) h Q := R_aldn rfl rfl
theorem s205_1114q : Runs 205 1114 [some (zrf r), x1, x2, x3] st h Q ↔ Runs 205 1115 [some (zrf r), x1, x2, x3] (zrf r :: st) h Q := R_aldnq rfl rfl
theorem s205_1115 : Runs 205 1115 [x0, x1, x2, some (.int i)] st h Q ↔ Runs 205 1116 [x0, x1, x2, some (.int i)] (.int i :: st) h Q := R_ildn rfl rfl
theorem s205_1116 : Runs 205 1116 ls st h Q ↔ Runs 205 1117 ls (.int 1 :: st) h Q := R_iconst rfl rfl
theorem s205_1117 : Runs 205 1117 ls (.int j :: .int i :: st) h Q ↔ Runs 205 1118 ls (.int (i + j) :: st) h Q := R_iadd rfl
theorem s205_1118 (ht : tg a = 20) : Runs 205 1118 ls (.int i :: .ref a :: st) (n, tg, ln, I, J, O) Q ↔ ((0 ≤ i ∧ i < Int32.ofNat (ln a)) ∧ Runs 205 1119 ls (.int (I a i) :: st) (n, tg, ln, I, J, O) Q) := R_iald rfl ht
theorem s205_1118q (ht : tg a = 30) : Runs 205 1118 ls (.int i :: .ref a :: st) (n, tg, ln, I, J, O) Q ↔ ((0 ≤ i ∧ i < Int32.ofNat (ln a)) ∧ Runs 205 1119 ls (.int (I a i) :: st) (n, tg, ln, I, J, O) Q) := R_iald0 rfl ht
theorem s205_1119 : Runs 205 1119 [some (.ref a), x1, x2, x3] st h Q ↔ Runs 205 1120 [some (.ref a), x1, x2, x3] (.ref a :: st) h Q := R_aldn rfl rfl
theorem s205_1119q : Runs 205 1119 [some (zrf r), x1, x2, x3] st h Q ↔ Runs 205 1120 [some (zrf r), x1, x2, x3] (zrf r :: st) h Q := R_aldnq rfl rfl
theorem s205_1120 : Runs 205 1120 [x0, x1, x2, some (.int i)] st h Q ↔ Runs 205 1121 [x0, x1, x2, some (.int i)] (.int i :: st) h Q := R_ildn rfl rfl
theorem s205_1121 : Runs 205 1121 ls st h Q ↔ Runs 205 1122 ls (.int 2 :: st) h Q := R_iconst rfl rfl
theorem s205_1122 : Runs 205 1122 ls (.int j :: .int i :: st) h Q ↔ Runs 205 1123 ls (.int (i + j) :: st) h Q := R_iadd rfl
theorem s205_1123 (ht : tg a = 20) : Runs 205 1123 ls (.int i :: .ref a :: st) (n, tg, ln, I, J, O) Q ↔ ((0 ≤ i ∧ i < Int32.ofNat (ln a)) ∧ Runs 205 1124 ls (.int (I a i) :: st) (n, tg, ln, I, J, O) Q) := R_iald rfl ht
theorem s205_1123q (ht : tg a = 30) : Runs 205 1123 ls (.int i :: .ref a :: st) (n, tg, ln, I, J, O) Q ↔ ((0 ≤ i ∧ i < Int32.ofNat (ln a)) ∧ Runs 205 1124 ls (.int (I a i) :: st) (n, tg, ln, I, J, O) Q) := R_iald0 rfl ht
theorem s205_1124 : Runs 205 1124 [some (.ref a), x1, x2, x3] st h Q ↔ Runs 205 1125 [some (.ref a), x1, x2, x3] (.ref a :: st) h Q := R_aldn rfl rfl
theorem s205_1124q : Runs 205 1124 [some (zrf r), x1, x2, x3] st h Q ↔ Runs 205 1125 [some (zrf r), x1, x2, x3] (zrf r :: st) h Q := R_aldnq rfl rfl
theorem s205_1125 : Runs 205 1125 [x0, x1, x2, some (.int i)] st h Q ↔ Runs 205 1126 [x0, x1, x2, some (.int i)] (.int i :: st) h Q := R_ildn rfl rfl
theorem s205_1126 : Runs 205 1126 ls st h Q ↔ Runs 205 1127 ls (.int 3 :: st) h Q := R_iconst rfl rfl
theorem s205_1127 : Runs 205 1127 ls (.int j :: .int i :: st) h Q ↔ Runs 205 1128 ls (.int (i + j) :: st) h Q := R_iadd rfl
theorem s205_1128 (ht : tg a = 20) : Runs 205 1128 ls (.int i :: .ref a :: st) (n, tg, ln, I, J, O) Q ↔ ((0 ≤ i ∧ i < Int32.ofNat (ln a)) ∧ Runs 205 1129 ls (.int (I a i) :: st) (n, tg, ln, I, J, O) Q) := R_iald rfl ht
theorem s205_1128q (ht : tg a = 30) : Runs 205 1128 ls (.int i :: .ref a :: st) (n, tg, ln, I, J, O) Q ↔ ((0 ≤ i ∧ i < Int32.ofNat (ln a)) ∧ Runs 205 1129 ls (.int (I a i) :: st) (n, tg, ln, I, J, O) Q) := R_iald0 rfl ht
theorem s205_1129 : Runs 205 1129 [some (.ref a), x1, x2, x3] st h Q ↔ Runs 205 1130 [some (.ref a), x1, x2, x3] (.ref a :: st) h Q := R_aldn rfl rfl
theorem s205_1129q : Runs 205 1129 [some (zrf r), x1, x2, x3] st h Q ↔ Runs 205 1130 [some (zrf r), x1, x2, x3] (zrf r :: st) h Q := R_aldnq rfl rfl
theorem s205_1130 : Runs 205 1130 [x0, x1, x2, some (.int i)] st h Q ↔ Runs 205 1131 [x0, x1, x2, some (.int i)] (.int i :: st) h Q := R_ildn rfl rfl
theorem s205_1131 : Runs 205 1131 ls st h Q ↔ Runs 205 1132 ls (.int 4 :: st) h Q := R_iconst rfl rfl
theorem s205_1132 : Runs 205 1132 ls (.int j :: .int i :: st) h Q ↔ Runs 205 1133 ls (.int (i + j) :: st) h Q := R_iadd rfl
theorem s205_1133 (ht : tg a = 20) : Runs 205 1133 ls (.int i :: .ref a :: st) (n, tg, ln, I, J, O) Q ↔ ((0 ≤ i ∧ i < Int32.ofNat (ln a)) ∧ Runs 205 1134 ls (.int (I a i) :: st) (n, tg, ln, I, J, O) Q) := R_iald rfl ht
theorem s205_1133q (ht : tg a = 30) : Runs 205 1133 ls (.int i :: .ref a :: st) (n, tg, ln, I, J, O) Q ↔ ((0 ≤ i ∧ i < Int32.ofNat (ln a)) ∧ Runs 205 1134 ls (.int (I a i) :: st) (n, tg, ln, I, J, O) Q) := R_iald0 rfl ht
theorem s205_1134 : Runs 205 1134 [some (.ref a), x1, x2, x3] st h Q ↔ Runs 205 1135 [some (.ref a), x1, x2, x3] (.ref a :: st) h Q := R_aldn rfl rfl
theorem s205_1134q : Runs 205 1134 [some (zrf r), x1, x2, x3] st h Q ↔ Runs 205 1135 [some (zrf r), x1, x2, x3] (zrf r :: st) h Q := R_aldnq rfl rfl
theorem s205_1135 : Runs 205 1135 [x0, x1, x2, some (.int i)] st h Q ↔ Runs 205 1136 [x0, x1, x2, some (.int i)] (.int i :: st) h Q := R_ildn rfl rfl
theorem s205_1136 : Runs 205 1136 ls st h Q ↔ Runs 205 1137 ls (.int 5 :: st) h Q := R_iconst rfl rfl
theorem s205_1137 : Runs 205 1137 ls (.int j :: .int i :: st) h Q ↔ Runs 205 1138 ls (.int (i + j) :: st) h Q := R_iadd rfl
theorem s205_1138 (ht : tg a = 20) : Runs 205 1138 ls (.int i :: .ref a :: st) (n, tg, ln, I, J, O) Q ↔ ((0 ≤ i ∧ i < Int32.ofNat (ln a)) ∧ Runs 205 1139 ls (.int (I a i) :: st) (n, tg, ln, I, J, O) Q) := R_iald rfl ht
theorem s205_1138q (ht : tg a = 30) : Runs 205 1138 ls (.int i :: .ref a :: st) (n, tg, ln, I, J, O) Q ↔ ((0 ≤ i ∧ i < Int32.ofNat (ln a)) ∧ Runs 205 1139 ls (.int (I a i) :: st) (n, tg, ln, I, J, O) Q) := R_iald0 rfl ht
theorem s205_1139 (ht : tg a = 10) (hs : zsumc st ≤ 8) : Runs 205 1139 ls (.int i4 :: .int i3 :: .int i2 :: .int i1 :: .int i0 :: .ref a :: st) (n, tg, ln, I, J, O) Q ↔ Runs 199 0 [some (.ref a), some (.int i0), some (.int i1), some (.int i2), some (.int i3), some (.int i4), none] [] (n, tg, ln, I, J, O) (fun v h2 => Runs 205 1142 ls (v.toList ++ st) h2 Q) := R_callv (a := a) (rest := st) rfl rfl rfl rfl rfl rfl rfl ht hs
theorem s205_1142 : Runs 205 1142 ls (.int j :: .int i :: st) h Q ↔ if i = j then Runs 205 1193 ls st h Q else Runs 205 1145 ls st h Q := R_iceq rfl rfl
theorem s205_1145 : Runs 205 1145 ls st h Q ↔ Runs 205 1146 ls (.int 0 :: st) h Q := R_iconst rfl rfl
theorem s205_1146 (hx : i = 0 ∨ i = 1) : Runs 205 1146 ls [.int i] h Q ↔ Q (some (.int i)) h := R_zret rfl rfl hx
theorem s205_1147 : Runs 205 1147 [x0, some (.ref a), x2, x3] st h Q ↔ Runs 205 1148 [x0, some (.ref a), x2, x3] (.ref a :: st) h Q := R_aldn rfl rfl
theorem s205_1147q : Runs 205 1147 [x0, some (zrf r), x2, x3] st h Q ↔ Runs 205 1148 [x0, some (zrf r), x2, x3] (zrf r :: st) h Q := R_aldnq rfl rfl
theorem s205_1148 : Runs 205 1148 [some (.ref a), x1, x2, x3] st h Q ↔ Runs 205 1149 [some (.ref a), x1, x2, x3] (.ref a :: st) h Q := R_aldn rfl rfl
theorem s205_1148q : Runs 205 1148 [some (zrf r), x1, x2, x3] st h Q ↔ Runs 205 1149 [some (zrf r), x1, x2, x3] (zrf r :: st) h Q := R_aldnq rfl rfl
theorem s205_1149 : Runs 205 1149 [x0, x1, x2, some (.int i)] st h Q ↔ Runs 205 1150 [x0, x1, x2, some (.int i)] (.int i :: st) h Q := R_ildn rfl rfl
theorem s205_1150 : Runs 205 1150 ls st h Q ↔ Runs 205 1151 ls (.int 1 :: st) h Q := R_iconst rfl rfl
theorem s205_1151 : Runs 205 1151 ls (.int j :: .int i :: st) h Q ↔ Runs 205 1152 ls (.int (i + j) :: st) h Q := R_iadd rfl
theorem s205_1152 (ht : tg a = 20) : Runs 205 1152 ls (.int i :: .ref a :: st) (n, tg, ln, I, J, O) Q ↔ ((0 ≤ i ∧ i < Int32.ofNat (ln a)) ∧ Runs 205 1153 ls (.int (I a i) :: st) (n, tg, ln, I, J, O) Q) := R_iald rfl ht
theorem s205_1152q (ht : tg a = 30) : Runs 205 1152 ls (.int i :: .ref a :: st) (n, tg, ln, I, J, O) Q ↔ ((0 ≤ i ∧ i < Int32.ofNat (ln a)) ∧ Runs 205 1153 ls (.int (I a i) :: st) (n, tg, ln, I, J, O) Q) := R_iald0 rfl ht
theorem s205_1153 (ht : tg a = 9) (hs : zsumc st ≤ 8) : Runs 205 1153 ls (.int i0 :: .ref a :: st) (n, tg, ln, I, J, O) Q ↔ Runs 113 0 [some (.ref a), some (.int i0), none] [] (n, tg, ln, I, J, O) (fun v h2 => Runs 205 1156 ls (v.toList ++ st) h2 Q) := R_callv (a := a) (rest := st) rfl rfl rfl rfl rfl rfl rfl ht hs
theorem s205_1156 : Runs 205 1156 [x0, x1, some (.ref a), x3] st h Q ↔ Runs 205 1157 [x0, x1, some (.ref a), x3] (.ref a :: st) h Q := R_aldn rfl rfl
theorem s205_1156q : Runs 205 1156 [x0, x1, some (zrf r), x3] st h Q ↔ Runs 205 1157 [x0, x1, some (zrf r), x3] (zrf r :: st) h Q := R_aldnq rfl rfl
theorem s205_1157 : Runs 205 1157 [some (.ref a), x1, x2, x3] st h Q ↔ Runs 205 1158 [some (.ref a), x1, x2, x3] (.ref a :: st) h Q := R_aldn rfl rfl
theorem s205_1157q : Runs 205 1157 [some (zrf r), x1, x2, x3] st h Q ↔ Runs 205 1158 [some (zrf r), x1, x2, x3] (zrf r :: st) h Q := R_aldnq rfl rfl
theorem s205_1158 : Runs 205 1158 [x0, x1, x2, some (.int i)] st h Q ↔ Runs 205 1159 [x0, x1, x2, some (.int i)] (.int i :: st) h Q := R_ildn rfl rfl
theorem s205_1159 : Runs 205 1159 ls st h Q ↔ Runs 205 1160 ls (.int 1 :: st) h Q := R_iconst rfl rfl
theorem s205_1160 : Runs 205 1160 ls (.int j :: .int i :: st) h Q ↔ Runs 205 1161 ls (.int (i + j) :: st) h Q := R_iadd rfl
theorem s205_1161 (ht : tg a = 20) : Runs 205 1161 ls (.int i :: .ref a :: st) (n, tg, ln, I, J, O) Q ↔ ((0 ≤ i ∧ i < Int32.ofNat (ln a)) ∧ Runs 205 1162 ls (.int (I a i) :: st) (n, tg, ln, I, J, O) Q) := R_iald rfl ht
theorem s205_1161q (ht : tg a = 30) : Runs 205 1161 ls (.int i :: .ref a :: st) (n, tg, ln, I, J, O) Q ↔ ((0 ≤ i ∧ i < Int32.ofNat (ln a)) ∧ Runs 205 1162 ls (.int (I a i) :: st) (n, tg, ln, I, J, O) Q) := R_iald0 rfl ht
theorem s205_1162 (ht : tg a = 10) (hs : zsumc st ≤ 8) : Runs 205 1162 ls (.int i0 :: .ref a :: st) (n, tg, ln, I, J, O) Q ↔ Runs 200 0 [some (.ref a), some (.int i0), none, none] [] (n, tg, ln, I, J, O) (fun v h2 => Runs 205 1165 ls (v.toList ++ st) h2 Q) := R_callv (a := a) (rest := st) rfl rfl rfl rfl rfl rfl rfl ht hs
theorem s205_1165 : Runs 205 1165 ls (.int j :: .int i :: st) h Q ↔ if i = j then Runs 205 1193 ls st h Q else Runs 205 1168 ls st h Q := R_iceq rfl rfl
theorem s205_1168 : Runs 205 1168 ls st h Q ↔ Runs 205 1169 ls (.int 0 :: st) h Q := R_iconst rfl rfl
theorem s205_1169 (hx : i = 0 ∨ i = 1) : Runs 205 1169 ls [.int i] h Q ↔ Q (some (.int i)) h := R_zret rfl rfl hx
theorem s205_1170 : Runs 205 1170 [x0, some (.ref a), x2, x3] st h Q ↔ Runs 205 1171 [x0, some (.ref a), x2, x3] (.ref a :: st) h Q := R_aldn rfl rfl
theorem s205_1170q : Runs 205 1170 [x0, some (zrf r), x2, x3] st h Q ↔ Runs 205 1171 [x0, some (zrf r), x2, x3] (zrf r :: st) h Q := R_aldnq rfl rfl
theorem s205_1171 : Runs 205 1171 [some (.ref a), x1, x2, x3] st h Q ↔ Runs 205 1172 [some (.ref a), x1, x2, x3] (.ref a :: st) h Q := R_aldn rfl rfl
theorem s205_1171q : Runs 205 1171 [some (zrf r), x1, x2, x3] st h Q ↔ Runs 205 1172 [some (zrf r), x1, x2, x3] (zrf r :: st) h Q := R_aldnq rfl rfl
theorem s205_1172 : Runs 205 1172 [x0, x1, x2, some (.int i)] st h Q ↔ Runs 205 1173 [x0, x1, x2, some (.int i)] (.int i :: st) h Q := R_ildn rfl rfl
theorem s205_1173 : Runs 205 1173 ls st h Q ↔ Runs 205 1174 ls (.int 1 :: st) h Q := R_iconst rfl rfl
theorem s205_1174 : Runs 205 1174 ls (.int j :: .int i :: st) h Q ↔ Runs 205 1175 ls (.int (i + j) :: st) h Q := R_iadd rfl
theorem s205_1175 (ht : tg a = 20) : Runs 205 1175 ls (.int i :: .ref a :: st) (n, tg, ln, I, J, O) Q ↔ ((0 ≤ i ∧ i < Int32.ofNat (ln a)) ∧ Runs 205 1176 ls (.int (I a i) :: st) (n, tg, ln, I, J, O) Q) := R_iald rfl ht
theorem s205_1175q (ht : tg a = 30) : Runs 205 1175 ls (.int i :: .ref a :: st) (n, tg, ln, I, J, O) Q ↔ ((0 ≤ i ∧ i < Int32.ofNat (ln a)) ∧ Runs 205 1176 ls (.int (I a i) :: st) (n, tg, ln, I, J, O) Q) := R_iald0 rfl ht
theorem s205_1176 (ht : tg a = 9) (hs : zsumc st ≤ 8) : Runs 205 1176 ls (.int i0 :: .ref a :: st) (n, tg, ln, I, J, O) Q ↔ Runs 114 0 [some (.ref a), some (.int i0)] [] (n, tg, ln, I, J, O) (fun v h2 => Runs 205 1179 ls (v.toList ++ st) h2 Q) := R_callv (a := a) (rest := st) rfl rfl rfl rfl rfl rfl rfl ht hs
theorem s205_1179 : Runs 205 1179 [x0, x1, some (.ref a), x3] st h Q ↔ Runs 205 1180 [x0, x1, some (.ref a), x3] (.ref a :: st) h Q := R_aldn rfl rfl
theorem s205_1179q : Runs 205 1179 [x0, x1, some (zrf r), x3] st h Q ↔ Runs 205 1180 [x0, x1, some (zrf r), x3] (zrf r :: st) h Q := R_aldnq rfl rfl
theorem s205_1180 : Runs 205 1180 [some (.ref a), x1, x2, x3] st h Q ↔ Runs 205 1181 [some (.ref a), x1, x2, x3] (.ref a :: st) h Q := R_aldn rfl rfl
theorem s205_1180q : Runs 205 1180 [some (zrf r), x1, x2, x3] st h Q ↔ Runs 205 1181 [some (zrf r), x1, x2, x3] (zrf r :: st) h Q := R_aldnq rfl rfl
theorem s205_1181 : Runs 205 1181 [x0, x1, x2, some (.int i)] st h Q ↔ Runs 205 1182 [x0, x1, x2, some (.int i)] (.int i :: st) h Q := R_ildn rfl rfl
theorem s205_1182 : Runs 205 1182 ls st h Q ↔ Runs 205 1183 ls (.int 1 :: st) h Q := R_iconst rfl rfl
theorem s205_1183 : Runs 205 1183 ls (.int j :: .int i :: st) h Q ↔ Runs 205 1184 ls (.int (i + j) :: st) h Q := R_iadd rfl
theorem s205_1184 (ht : tg a = 20) : Runs 205 1184 ls (.int i :: .ref a :: st) (n, tg, ln, I, J, O) Q ↔ ((0 ≤ i ∧ i < Int32.ofNat (ln a)) ∧ Runs 205 1185 ls (.int (I a i) :: st) (n, tg, ln, I, J, O) Q) := R_iald rfl ht
theorem s205_1184q (ht : tg a = 30) : Runs 205 1184 ls (.int i :: .ref a :: st) (n, tg, ln, I, J, O) Q ↔ ((0 ≤ i ∧ i < Int32.ofNat (ln a)) ∧ Runs 205 1185 ls (.int (I a i) :: st) (n, tg, ln, I, J, O) Q) := R_iald0 rfl ht
theorem s205_1185 (ht : tg a = 10) (hs : zsumc st ≤ 8) : Runs 205 1185 ls (.int i0 :: .ref a :: st) (n, tg, ln, I, J, O) Q ↔ Runs 203 0 [some (.ref a), some (.int i0)] [] (n, tg, ln, I, J, O) (fun v h2 => Runs 205 1188 ls (v.toList ++ st) h2 Q) := R_callv (a := a) (rest := st) rfl rfl rfl rfl rfl rfl rfl ht hs
theorem s205_1188 : Runs 205 1188 ls (.int j :: .int i :: st) h Q ↔ if i = j then Runs 205 1193 ls st h Q else Runs 205 1191 ls st h Q := R_iceq rfl rfl
theorem s205_1191 : Runs 205 1191 ls st h Q ↔ Runs 205 1192 ls (.int 0 :: st) h Q := R_iconst rfl rfl
theorem s205_1192 (hx : i = 0 ∨ i = 1) : Runs 205 1192 ls [.int i] h Q ↔ Q (some (.int i)) h := R_zret rfl rfl hx
theorem s205_1193 : Runs 205 1193 [x0, x1, x2, some (.int i)] st h Q ↔ Runs 205 1196 [x0, x1, zdrop x2, some (.int (i + 6))] st h Q := R_iinc rfl rfl rfl rfl rfl
theorem s205_1196 : Runs 205 1196 ls st h Q ↔ Runs 205 18 ls st h Q := R_goto rfl rfl
theorem s205_1199 : Runs 205 1199 ls st h Q ↔ Runs 205 1200 ls (.int 1 :: st) h Q := R_iconst rfl rfl
theorem s205_1200 (hx : i = 0 ∨ i = 1) : Runs 205 1200 ls [.int i] h Q ↔ Q (some (.int i)) h := R_zret rfl rfl hx
end ZROWS
