section ZROWS
variable {ls : List (Option Value)} {st : List Value} {h : ZH} {Q : Option Value → ZH → Prop} {n : Nat} {tg ln : Nat → Nat} {I : Nat → Int32 → Int32} {J : Nat → Int32 → Int64} {O : Nat → Int32 → Option Nat} {i j i0 i1 i2 i3 i4 : Int32} {u w u0 u1 u2 u3 : Int64} {a b b0 b1 b2 : Nat} {r r0 r1 r2 : Option Nat}
variable {x0 x1 x2 x3 x4 x5 x6 x7 x8 x9 x10 x11 x12 x13 x14 x15 x16 x17 x18 x19 : Option Value}
theorem s206_0 : Runs 206 0 ls st (n, tg, ln, I, J, O) Q ↔ Runs 206 3 ls (.ref n :: st) (znew (n, tg, ln, I, J, O) 9 0) Q := R_new rfl rfl
theorem s206_3 : Runs 206 3 ls (.int i :: st) h Q ↔ Runs 206 4 ls (.int i :: .int i :: st) h Q := R_dupi rfl
theorem s206_3q : Runs 206 3 ls (.ref a :: st) h Q ↔ Runs 206 4 ls (.ref a :: .ref a :: st) h Q := R_dupr rfl
theorem s206_4 (hs : zsumc st ≤ 8) : Runs 206 4 ls (.ref a :: st) h Q ↔ Runs 80 0 [some (.ref a)] [] h (fun v h2 => Runs 206 7 ls (v.toList ++ st) h2 Q) := R_calli (a := a) (rest := st) rfl rfl rfl rfl rfl rfl rfl rfl hs
theorem s206_7 : Runs 206 7 [x0, x1, x2, x3] (.ref a :: st) h Q ↔ Runs 206 8 [zdrop x0, some (.ref a), x2, x3] st h Q := R_astn rfl rfl rfl
theorem s206_7q : Runs 206 7 [x0, x1, x2, x3] (zrf r :: st) h Q ↔ Runs 206 8 [zdrop x0, some (zrf r), x2, x3] st h Q := R_astnq rfl rfl rfl
theorem s206_8 : Runs 206 8 ls st (n, tg, ln, I, J, O) Q ↔ Runs 206 11 ls (.ref n :: st) (znew (n, tg, ln, I, J, O) 10 0) Q := R_new rfl rfl
theorem s206_11 : Runs 206 11 ls (.int i :: st) h Q ↔ Runs 206 12 ls (.int i :: .int i :: st) h Q := R_dupi rfl
theorem s206_11q : Runs 206 11 ls (.ref a :: st) h Q ↔ Runs 206 12 ls (.ref a :: .ref a :: st) h Q := R_dupr rfl
theorem s206_12 (hs : zsumc st ≤ 8) : Runs 206 12 ls (.ref a :: st) h Q ↔ Runs 126 0 [some (.ref a)] [] h (fun v h2 => Runs 206 15 ls (v.toList ++ st) h2 Q) := R_calli (a := a) (rest := st) rfl rfl rfl rfl rfl rfl rfl rfl hs
theorem s206_15 : Runs 206 15 [x0, x1, x2, x3] (.ref a :: st) h Q ↔ Runs 206 16 [x0, zdrop x1, some (.ref a), x3] st h Q := R_astn rfl rfl rfl
theorem s206_15q : Runs 206 15 [x0, x1, x2, x3] (zrf r :: st) h Q ↔ Runs 206 16 [x0, zdrop x1, some (zrf r), x3] st h Q := R_astnq rfl rfl rfl
theorem s206_16 : Runs 206 16 ls st h Q ↔ Runs 206 17 ls (.int 0 :: st) h Q := R_iconst rfl rfl
theorem s206_17 : Runs 206 17 [x0, x1, x2, x3] (.int i :: st) h Q ↔ Runs 206 18 [x0, x1, zdrop x2, some (.int i)] st h Q := R_istn rfl rfl rfl
theorem s206_18 : Runs 206 18 [x0, x1, x2, some (.int i)] st h Q ↔ Runs 206 19 [x0, x1, x2, some (.int i)] (.int i :: st) h Q := R_ildn rfl rfl
theorem s206_19 : Runs 206 19 [some (.ref a), x1, x2, x3] st h Q ↔ Runs 206 20 [some (.ref a), x1, x2, x3] (.ref a :: st) h Q := R_aldn rfl rfl
theorem s206_19q : Runs 206 19 [some (zrf r), x1, x2, x3] st h Q ↔ Runs 206 20 [some (zrf r), x1, x2, x3] (zrf r :: st) h Q := R_aldnq rfl rfl
theorem s206_20 (ht : tg a = 20 ∨ tg a = 30) : Runs 206 20 ls (.ref a :: st) (n, tg, ln, I, J, O) Q ↔ Runs 206 21 ls (.int (Int32.ofNat (ln a)) :: st) (n, tg, ln, I, J, O) Q := R_alen rfl ht
theorem s206_21 : Runs 206 21 ls st h Q ↔ Runs 206 23 ls (.int 6 :: st) h Q := R_bipush rfl (by decide)
theorem s206_23 : Runs 206 23 ls (.int j :: .int i :: st) h Q ↔ Runs 206 24 ls (.int (i - j) :: st) h Q := R_isub rfl
theorem s206_24 : Runs 206 24 ls (.int j :: .int i :: st) h Q ↔ if j < i then Runs 206 1199 ls st h Q else Runs 206 27 ls st h Q := R_icgt rfl rfl
theorem s206_27 : Runs 206 27 [some (.ref a), x1, x2, x3] st h Q ↔ Runs 206 28 [some (.ref a), x1, x2, x3] (.ref a :: st) h Q := R_aldn rfl rfl
theorem s206_27q : Runs 206 27 [some (zrf r), x1, x2, x3] st h Q ↔ Runs 206 28 [some (zrf r), x1, x2, x3] (zrf r :: st) h Q := R_aldnq rfl rfl
theorem s206_28 : Runs 206 28 [x0, x1, x2, some (.int i)] st h Q ↔ Runs 206 29 [x0, x1, x2, some (.int i)] (.int i :: st) h Q := R_ildn rfl rfl
theorem s206_29 (ht : tg a = 20) : Runs 206 29 ls (.int i :: .ref a :: st) (n, tg, ln, I, J, O) Q ↔ ((0 ≤ i ∧ i < Int32.ofNat (ln a)) ∧ Runs 206 30 ls (.int (I a i) :: st) (n, tg, ln, I, J, O) Q) := R_iald rfl ht
theorem s206_29q (ht : tg a = 30) : Runs 206 29 ls (.int i :: .ref a :: st) (n, tg, ln, I, J, O) Q ↔ ((0 ≤ i ∧ i < Int32.ofNat (ln a)) ∧ Runs 206 30 ls (.int (I a i) :: st) (n, tg, ln, I, J, O) Q) := R_iald0 rfl ht
theorem s206_30 : Runs 206 30 ls st h Q ↔ Runs 206 32 ls (.int 63 :: st) h Q := R_bipush rfl (by decide)
theorem s206_32 : Runs 206 32 ls (.int j :: .int i :: st) h Q ↔ Runs 206 33 ls (.int (i &&& j) :: st) h Q := R_iand rfl
theorem s206_33 : Runs 206 33 ls (.int i :: st) h Q ↔ if i = 0 then Runs 206 188 ls st h Q else if i = 1 then Runs 206 211 ls st h Q else if i = 2 then Runs 206 224 ls st h Q else if i = 3 then Runs 206 237 ls st h Q else if i = 4 then Runs 206 250 ls st h Q else if i = 5 then Runs 206 283 ls st h Q else if i = 6 then Runs 206 316 ls st h Q else if i = 7 then Runs 206 349 ls st h Q else if i = 8 then Runs 206 362 ls st h Q else if i = 9 then Runs 206 405 ls st h Q else if i = 10 then Runs 206 428 ls st h Q else if i = 11 then Runs 206 451 ls st h Q else if i = 12 then Runs 206 474 ls st h Q else if i = 13 then Runs 206 497 ls st h Q else if i = 14 then Runs 206 510 ls st h Q else if i = 15 then Runs 206 533 ls st h Q else if i = 16 then Runs 206 556 ls st h Q else if i = 17 then Runs 206 579 ls st h Q else if i = 18 then Runs 206 612 ls st h Q else if i = 19 then Runs 206 635 ls st h Q else if i = 20 then Runs 206 668 ls st h Q else if i = 21 then Runs 206 701 ls st h Q else if i = 22 then Runs 206 724 ls st h Q else if i = 23 then Runs 206 757 ls st h Q else if i = 24 then Runs 206 770 ls st h Q else if i = 25 then Runs 206 783 ls st h Q else if i = 26 then Runs 206 806 ls st h Q else if i = 27 then Runs 206 859 ls st h Q else if i = 28 then Runs 206 892 ls st h Q else if i = 29 then Runs 206 975 ls st h Q else if i = 30 then Runs 206 1008 ls st h Q else if i = 31 then Runs 206 1041 ls st h Q else if i = 32 then Runs 206 1084 ls st h Q else if i = 33 then Runs 206 1147 ls st h Q else if i = 34 then Runs 206 1170 ls st h Q else Runs 206 1193 ls st h Q := by
  by_cases h0 : i = 0
  · rw [if_pos h0]; subst h0; exact R_tabI rfl (by decide) rfl rfl
  rw [if_neg h0]
  by_cases h1 : i = 1
  · rw [if_pos h1]; subst h1; exact R_tabI rfl (by decide) rfl rfl
  rw [if_neg h1]
  by_cases h2 : i = 2
  · rw [if_pos h2]; subst h2; exact R_tabI rfl (by decide) rfl rfl
  rw [if_neg h2]
  by_cases h3 : i = 3
  · rw [if_pos h3]; subst h3; exact R_tabI rfl (by decide) rfl rfl
  rw [if_neg h3]
  by_cases h4 : i = 4
  · rw [if_pos h4]; subst h4; exact R_tabI rfl (by decide) rfl rfl
  rw [if_neg h4]
  by_cases h5 : i = 5
  · rw [if_pos h5]; subst h5; exact R_tabI rfl (by decide) rfl rfl
  rw [if_neg h5]
  by_cases h6 : i = 6
  · rw [if_pos h6]; subst h6; exact R_tabI rfl (by decide) rfl rfl
  rw [if_neg h6]
  by_cases h7 : i = 7
  · rw [if_pos h7]; subst h7; exact R_tabI rfl (by decide) rfl rfl
  rw [if_neg h7]
  by_cases h8 : i = 8
  · rw [if_pos h8]; subst h8; exact R_tabI rfl (by decide) rfl rfl
  rw [if_neg h8]
  by_cases h9 : i = 9
  · rw [if_pos h9]; subst h9; exact R_tabI rfl (by decide) rfl rfl
  rw [if_neg h9]
  by_cases h10 : i = 10
  · rw [if_pos h10]; subst h10; exact R_tabI rfl (by decide) rfl rfl
  rw [if_neg h10]
  by_cases h11 : i = 11
  · rw [if_pos h11]; subst h11; exact R_tabI rfl (by decide) rfl rfl
  rw [if_neg h11]
  by_cases h12 : i = 12
  · rw [if_pos h12]; subst h12; exact R_tabI rfl (by decide) rfl rfl
  rw [if_neg h12]
  by_cases h13 : i = 13
  · rw [if_pos h13]; subst h13; exact R_tabI rfl (by decide) rfl rfl
  rw [if_neg h13]
  by_cases h14 : i = 14
  · rw [if_pos h14]; subst h14; exact R_tabI rfl (by decide) rfl rfl
  rw [if_neg h14]
  by_cases h15 : i = 15
  · rw [if_pos h15]; subst h15; exact R_tabI rfl (by decide) rfl rfl
  rw [if_neg h15]
  by_cases h16 : i = 16
  · rw [if_pos h16]; subst h16; exact R_tabI rfl (by decide) rfl rfl
  rw [if_neg h16]
  by_cases h17 : i = 17
  · rw [if_pos h17]; subst h17; exact R_tabI rfl (by decide) rfl rfl
  rw [if_neg h17]
  by_cases h18 : i = 18
  · rw [if_pos h18]; subst h18; exact R_tabI rfl (by decide) rfl rfl
  rw [if_neg h18]
  by_cases h19 : i = 19
  · rw [if_pos h19]; subst h19; exact R_tabI rfl (by decide) rfl rfl
  rw [if_neg h19]
  by_cases h20 : i = 20
  · rw [if_pos h20]; subst h20; exact R_tabI rfl (by decide) rfl rfl
  rw [if_neg h20]
  by_cases h21 : i = 21
  · rw [if_pos h21]; subst h21; exact R_tabI rfl (by decide) rfl rfl
  rw [if_neg h21]
  by_cases h22 : i = 22
  · rw [if_pos h22]; subst h22; exact R_tabI rfl (by decide) rfl rfl
  rw [if_neg h22]
  by_cases h23 : i = 23
  · rw [if_pos h23]; subst h23; exact R_tabI rfl (by decide) rfl rfl
  rw [if_neg h23]
  by_cases h24 : i = 24
  · rw [if_pos h24]; subst h24; exact R_tabI rfl (by decide) rfl rfl
  rw [if_neg h24]
  by_cases h25 : i = 25
  · rw [if_pos h25]; subst h25; exact R_tabI rfl (by decide) rfl rfl
  rw [if_neg h25]
  by_cases h26 : i = 26
  · rw [if_pos h26]; subst h26; exact R_tabI rfl (by decide) rfl rfl
  rw [if_neg h26]
  by_cases h27 : i = 27
  · rw [if_pos h27]; subst h27; exact R_tabI rfl (by decide) rfl rfl
  rw [if_neg h27]
  by_cases h28 : i = 28
  · rw [if_pos h28]; subst h28; exact R_tabI rfl (by decide) rfl rfl
  rw [if_neg h28]
  by_cases h29 : i = 29
  · rw [if_pos h29]; subst h29; exact R_tabI rfl (by decide) rfl rfl
  rw [if_neg h29]
  by_cases h30 : i = 30
  · rw [if_pos h30]; subst h30; exact R_tabI rfl (by decide) rfl rfl
  rw [if_neg h30]
  by_cases h31 : i = 31
  · rw [if_pos h31]; subst h31; exact R_tabI rfl (by decide) rfl rfl
  rw [if_neg h31]
  by_cases h32 : i = 32
  · rw [if_pos h32]; subst h32; exact R_tabI rfl (by decide) rfl rfl
  rw [if_neg h32]
  by_cases h33 : i = 33
  · rw [if_pos h33]; subst h33; exact R_tabI rfl (by decide) rfl rfl
  rw [if_neg h33]
  by_cases h34 : i = 34
  · rw [if_pos h34]; subst h34; exact R_tabI rfl (by decide) rfl rfl
  rw [if_neg h34]
  exact R_tabO rfl (zout 34 i (by decide) (fun v hv => match v, hv with
    | 0, _ => h0
    | 1, _ => h1
    | 2, _ => h2
    | 3, _ => h3
    | 4, _ => h4
    | 5, _ => h5
    | 6, _ => h6
    | 7, _ => h7
    | 8, _ => h8
    | 9, _ => h9
    | 10, _ => h10
    | 11, _ => h11
    | 12, _ => h12
    | 13, _ => h13
    | 14, _ => h14
    | 15, _ => h15
    | 16, _ => h16
    | 17, _ => h17
    | 18, _ => h18
    | 19, _ => h19
    | 20, _ => h20
    | 21, _ => h21
    | 22, _ => h22
    | 23, _ => h23
    | 24, _ => h24
    | 25, _ => h25
    | 26, _ => h26
    | 27, _ => h27
    | 28, _ => h28
    | 29, _ => h29
    | 30, _ => h30
    | 31, _ => h31
    | 32, _ => h32
    | 33, _ => h33
    | 34, _ => h34
    | z + 35, hv => absurd hv (by omega))) rfl
theorem s206_188 : Runs 206 188 [x0, some (.ref a), x2, x3] st h Q ↔ Runs 206 189 [x0, some (.ref a), x2, x3] (.ref a :: st) h Q := R_aldn rfl rfl
theorem s206_188q : Runs 206 188 [x0, some (zrf r), x2, x3] st h Q ↔ Runs 206 189 [x0, some (zrf r), x2, x3] (zrf r :: st) h Q := R_aldnq rfl rfl
theorem s206_189 : Runs 206 189 [some (.ref a), x1, x2, x3] st h Q ↔ Runs 206 190 [some (.ref a), x1, x2, x3] (.ref a :: st) h Q := R_aldn rfl rfl
theorem s206_189q : Runs 206 189 [some (zrf r), x1, x2, x3] st h Q ↔ Runs 206 190 [some (zrf r), x1, x2, x3] (zrf r :: st) h Q := R_aldnq rfl rfl
theorem s206_190 : Runs 206 190 [x0, x1, x2, some (.int i)] st h Q ↔ Runs 206 191 [x0, x1, x2, some (.int i)] (.int i :: st) h Q := R_ildn rfl rfl
theorem s206_191 : Runs 206 191 ls st h Q ↔ Runs 206 192 ls (.int 1 :: st) h Q := R_iconst rfl rfl
theorem s206_192 : Runs 206 192 ls (.int j :: .int i :: st) h Q ↔ Runs 206 193 ls (.int (i + j) :: st) h Q := R_iadd rfl
theorem s206_193 (ht : tg a = 20) : Runs 206 193 ls (.int i :: .ref a :: st) (n, tg, ln, I, J, O) Q ↔ ((0 ≤ i ∧ i < Int32.ofNat (ln a)) ∧ Runs 206 194 ls (.int (I a i) :: st) (n, tg, ln, I, J, O) Q) := R_iald rfl ht
theorem s206_193q (ht : tg a = 30) : Runs 206 193 ls (.int i :: .ref a :: st) (n, tg, ln, I, J, O) Q ↔ ((0 ≤ i ∧ i < Int32.ofNat (ln a)) ∧ Runs 206 194 ls (.int (I a i) :: st) (n, tg, ln, I, J, O) Q) := R_iald0 rfl ht
theorem s206_194 (ht : tg a = 9) (hs : zsumc st ≤ 8) : Runs 206 194 ls (.int i0 :: .ref a :: st) (n, tg, ln, I, J, O) Q ↔ Runs 81 0 [some (.ref a), some (.int i0)] [] (n, tg, ln, I, J, O) (fun v h2 => Runs 206 197 ls (v.toList ++ st) h2 Q) := R_callv (a := a) (rest := st) rfl rfl rfl rfl rfl rfl rfl ht hs
theorem s206_197 : Runs 206 197 [x0, x1, some (.ref a), x3] st h Q ↔ Runs 206 198 [x0, x1, some (.ref a), x3] (.ref a :: st) h Q := R_aldn rfl rfl
theorem s206_197q : Runs 206 197 [x0, x1, some (zrf r), x3] st h Q ↔ Runs 206 198 [x0, x1, some (zrf r), x3] (zrf r :: st) h Q := R_aldnq rfl rfl
theorem s206_198 : Runs 206 198 [some (.ref a), x1, x2, x3] st h Q ↔ Runs 206 199 [some (.ref a), x1, x2, x3] (.ref a :: st) h Q := R_aldn rfl rfl
theorem s206_198q : Runs 206 198 [some (zrf r), x1, x2, x3] st h Q ↔ Runs 206 199 [some (zrf r), x1, x2, x3] (zrf r :: st) h Q := R_aldnq rfl rfl
theorem s206_199 : Runs 206 199 [x0, x1, x2, some (.int i)] st h Q ↔ Runs 206 200 [x0, x1, x2, some (.int i)] (.int i :: st) h Q := R_ildn rfl rfl
theorem s206_200 : Runs 206 200 ls st h Q ↔ Runs 206 201 ls (.int 1 :: st) h Q := R_iconst rfl rfl
theorem s206_201 : Runs 206 201 ls (.int j :: .int i :: st) h Q ↔ Runs 206 202 ls (.int (i + j) :: st) h Q := R_iadd rfl
theorem s206_202 (ht : tg a = 20) : Runs 206 202 ls (.int i :: .ref a :: st) (n, tg, ln, I, J, O) Q ↔ ((0 ≤ i ∧ i < Int32.ofNat (ln a)) ∧ Runs 206 203 ls (.int (I a i) :: st) (n, tg, ln, I, J, O) Q) := R_iald rfl ht
theorem s206_202q (ht : tg a = 30) : Runs 206 202 ls (.int i :: .ref a :: st) (n, tg, ln, I, J, O) Q ↔ ((0 ≤ i ∧ i < Int32.ofNat (ln a)) ∧ Runs 206 203 ls (.int (I a i) :: st) (n, tg, ln, I, J, O) Q) := R_iald0 rfl ht
theorem s206_203 (ht : tg a = 10) (hs : zsumc st ≤ 8) : Runs 206 203 ls (.int i0 :: .ref a :: st) (n, tg, ln, I, J, O) Q ↔ Runs 130 0 [some (.ref a), some (.int i0)] [] (n, tg, ln, I, J, O) (fun v h2 => Runs 206 206 ls (v.toList ++ st) h2 Q) := R_callv (a := a) (rest := st) rfl rfl rfl rfl rfl rfl rfl ht hs
theorem s206_206 : Runs 206 206 ls (.int j :: .int i :: st) h Q ↔ if i = j then Runs 206 1193 ls st h Q else Runs 206 209 ls st h Q := R_iceq rfl rfl
theorem s206_209 : Runs 206 209 ls st h Q ↔ Runs 206 210 ls (.int 0 :: st) h Q := R_iconst rfl rfl
theorem s206_210 (hx : i = 0 ∨ i = 1) : Runs 206 210 ls [.int i] h Q ↔ Q (some (.int i)) h := R_zret rfl rfl hx
theorem s206_211 : Runs 206 211 [x0, some (.ref a), x2, x3] st h Q ↔ Runs 206 212 [x0, some (.ref a), x2, x3] (.ref a :: st) h Q := R_aldn rfl rfl
theorem s206_211q : Runs 206 211 [x0, some (zrf r), x2, x3] st h Q ↔ Runs 206 212 [x0, some (zrf r), x2, x3] (zrf r :: st) h Q := R_aldnq rfl rfl
theorem s206_212 (ht : tg a = 9) (hs : zsumc st ≤ 8) : Runs 206 212 ls (.ref a :: st) (n, tg, ln, I, J, O) Q ↔ Runs 82 0 [some (.ref a), none] [] (n, tg, ln, I, J, O) (fun v h2 => Runs 206 215 ls (v.toList ++ st) h2 Q) := R_callv (a := a) (rest := st) rfl rfl rfl rfl rfl rfl rfl ht hs
theorem s206_215 : Runs 206 215 [x0, x1, some (.ref a), x3] st h Q ↔ Runs 206 216 [x0, x1, some (.ref a), x3] (.ref a :: st) h Q := R_aldn rfl rfl
theorem s206_215q : Runs 206 215 [x0, x1, some (zrf r), x3] st h Q ↔ Runs 206 216 [x0, x1, some (zrf r), x3] (zrf r :: st) h Q := R_aldnq rfl rfl
theorem s206_216 (ht : tg a = 10) (hs : zsumc st ≤ 8) : Runs 206 216 ls (.ref a :: st) (n, tg, ln, I, J, O) Q ↔ Runs 131 0 [some (.ref a), none] [] (n, tg, ln, I, J, O) (fun v h2 => Runs 206 219 ls (v.toList ++ st) h2 Q) := R_callv (a := a) (rest := st) rfl rfl rfl rfl rfl rfl rfl ht hs
theorem s206_219 : Runs 206 219 ls (.int j :: .int i :: st) h Q ↔ if i = j then Runs 206 1193 ls st h Q else Runs 206 222 ls st h Q := R_iceq rfl rfl
theorem s206_222 : Runs 206 222 ls st h Q ↔ Runs 206 223 ls (.int 0 :: st) h Q := R_iconst rfl rfl
theorem s206_223 (hx : i = 0 ∨ i = 1) : Runs 206 223 ls [.int i] h Q ↔ Q (some (.int i)) h := R_zret rfl rfl hx
theorem s206_224 : Runs 206 224 [x0, some (.ref a), x2, x3] st h Q ↔ Runs 206 225 [x0, some (.ref a), x2, x3] (.ref a :: st) h Q := R_aldn rfl rfl
theorem s206_224q : Runs 206 224 [x0, some (zrf r), x2, x3] st h Q ↔ Runs 206 225 [x0, some (zrf r), x2, x3] (zrf r :: st) h Q := R_aldnq rfl rfl
theorem s206_225 (ht : tg a = 9) (hs : zsumc st ≤ 8) : Runs 206 225 ls (.ref a :: st) (n, tg, ln, I, J, O) Q ↔ Runs 83 0 [some (.ref a)] [] (n, tg, ln, I, J, O) (fun v h2 => Runs 206 228 ls (v.toList ++ st) h2 Q) := R_callv (a := a) (rest := st) rfl rfl rfl rfl rfl rfl rfl ht hs
theorem s206_228 : Runs 206 228 [x0, x1, some (.ref a), x3] st h Q ↔ Runs 206 229 [x0, x1, some (.ref a), x3] (.ref a :: st) h Q := R_aldn rfl rfl
theorem s206_228q : Runs 206 228 [x0, x1, some (zrf r), x3] st h Q ↔ Runs 206 229 [x0, x1, some (zrf r), x3] (zrf r :: st) h Q := R_aldnq rfl rfl
theorem s206_229 (ht : tg a = 10) (hs : zsumc st ≤ 8) : Runs 206 229 ls (.ref a :: st) (n, tg, ln, I, J, O) Q ↔ Runs 148 0 [some (.ref a)] [] (n, tg, ln, I, J, O) (fun v h2 => Runs 206 232 ls (v.toList ++ st) h2 Q) := R_callv (a := a) (rest := st) rfl rfl rfl rfl rfl rfl rfl ht hs
theorem s206_232 : Runs 206 232 ls (.int j :: .int i :: st) h Q ↔ if i = j then Runs 206 1193 ls st h Q else Runs 206 235 ls st h Q := R_iceq rfl rfl
theorem s206_235 : Runs 206 235 ls st h Q ↔ Runs 206 236 ls (.int 0 :: st) h Q := R_iconst rfl rfl
theorem s206_236 (hx : i = 0 ∨ i = 1) : Runs 206 236 ls [.int i] h Q ↔ Q (some (.int i)) h := R_zret rfl rfl hx
theorem s206_237 : Runs 206 237 [x0, some (.ref a), x2, x3] st h Q ↔ Runs 206 238 [x0, some (.ref a), x2, x3] (.ref a :: st) h Q := R_aldn rfl rfl
theorem s206_237q : Runs 206 237 [x0, some (zrf r), x2, x3] st h Q ↔ Runs 206 238 [x0, some (zrf r), x2, x3] (zrf r :: st) h Q := R_aldnq rfl rfl
theorem s206_238 (ht : tg a = 9) (hs : zsumc st ≤ 8) : Runs 206 238 ls (.ref a :: st) (n, tg, ln, I, J, O) Q ↔ Runs 84 0 [some (.ref a), none] [] (n, tg, ln, I, J, O) (fun v h2 => Runs 206 241 ls (v.toList ++ st) h2 Q) := R_callv (a := a) (rest := st) rfl rfl rfl rfl rfl rfl rfl ht hs
theorem s206_241 : Runs 206 241 [x0, x1, some (.ref a), x3] st h Q ↔ Runs 206 242 [x0, x1, some (.ref a), x3] (.ref a :: st) h Q := R_aldn rfl rfl
theorem s206_241q : Runs 206 241 [x0, x1, some (zrf r), x3] st h Q ↔ Runs 206 242 [x0, x1, some (zrf r), x3] (zrf r :: st) h Q := R_aldnq rfl rfl
theorem s206_242 (ht : tg a = 10) (hs : zsumc st ≤ 8) : Runs 206 242 ls (.ref a :: st) (n, tg, ln, I, J, O) Q ↔ Runs 150 0 [some (.ref a), none] [] (n, tg, ln, I, J, O) (fun v h2 => Runs 206 245 ls (v.toList ++ st) h2 Q) := R_callv (a := a) (rest := st) rfl rfl rfl rfl rfl rfl rfl ht hs
theorem s206_245 : Runs 206 245 ls (.int j :: .int i :: st) h Q ↔ if i = j then Runs 206 1193 ls st h Q else Runs 206 248 ls st h Q := R_iceq rfl rfl
theorem s206_248 : Runs 206 248 ls st h Q ↔ Runs 206 249 ls (.int 0 :: st) h Q := R_iconst rfl rfl
theorem s206_249 (hx : i = 0 ∨ i = 1) : Runs 206 249 ls [.int i] h Q ↔ Q (some (.int i)) h := R_zret rfl rfl hx
theorem s206_250 : Runs 206 250 [x0, some (.ref a), x2, x3] st h Q ↔ Runs 206 251 [x0, some (.ref a), x2, x3] (.ref a :: st) h Q := R_aldn rfl rfl
theorem s206_250q : Runs 206 250 [x0, some (zrf r), x2, x3] st h Q ↔ Runs 206 251 [x0, some (zrf r), x2, x3] (zrf r :: st) h Q := R_aldnq rfl rfl
theorem s206_251 : Runs 206 251 [some (.ref a), x1, x2, x3] st h Q ↔ Runs 206 252 [some (.ref a), x1, x2, x3] (.ref a :: st) h Q := R_aldn rfl rfl
theorem s206_251q : Runs 206 251 [some (zrf r), x1, x2, x3] st h Q ↔ Runs 206 252 [some (zrf r), x1, x2, x3] (zrf r :: st) h Q := R_aldnq rfl rfl
theorem s206_252 : Runs 206 252 [x0, x1, x2, some (.int i)] st h Q ↔ Runs 206 253 [x0, x1, x2, some (.int i)] (.int i :: st) h Q := R_ildn rfl rfl
theorem s206_253 : Runs 206 253 ls st h Q ↔ Runs 206 254 ls (.int 1 :: st) h Q := R_iconst rfl rfl
theorem s206_254 : Runs 206 254 ls (.int j :: .int i :: st) h Q ↔ Runs 206 255 ls (.int (i + j) :: st) h Q := R_iadd rfl
theorem s206_255 (ht : tg a = 20) : Runs 206 255 ls (.int i :: .ref a :: st) (n, tg, ln, I, J, O) Q ↔ ((0 ≤ i ∧ i < Int32.ofNat (ln a)) ∧ Runs 206 256 ls (.int (I a i) :: st) (n, tg, ln, I, J, O) Q) := R_iald rfl ht
theorem s206_255q (ht : tg a = 30) : Runs 206 255 ls (.int i :: .ref a :: st) (n, tg, ln, I, J, O) Q ↔ ((0 ≤ i ∧ i < Int32.ofNat (ln a)) ∧ Runs 206 256 ls (.int (I a i) :: st) (n, tg, ln, I, J, O) Q) := R_iald0 rfl ht
theorem s206_256 : Runs 206 256 [some (.ref a), x1, x2, x3] st h Q ↔ Runs 206 257 [some (.ref a), x1, x2, x3] (.ref a :: st) h Q := R_aldn rfl rfl
theorem s206_256q : Runs 206 256 [some (zrf r), x1, x2, x3] st h Q ↔ Runs 206 257 [some (zrf r), x1, x2, x3] (zrf r :: st) h Q := R_aldnq rfl rfl
theorem s206_257 : Runs 206 257 [x0, x1, x2, some (.int i)] st h Q ↔ Runs 206 258 [x0, x1, x2, some (.int i)] (.int i :: st) h Q := R_ildn rfl rfl
theorem s206_258 : Runs 206 258 ls st h Q ↔ Runs 206 259 ls (.int 2 :: st) h Q := R_iconst rfl rfl
theorem s206_259 : Runs 206 259 ls (.int j :: .int i :: st) h Q ↔ Runs 206 260 ls (.int (i + j) :: st) h Q := R_iadd rfl
theorem s206_260 (ht : tg a = 20) : Runs 206 260 ls (.int i :: .ref a :: st) (n, tg, ln, I, J, O) Q ↔ ((0 ≤ i ∧ i < Int32.ofNat (ln a)) ∧ Runs 206 261 ls (.int (I a i) :: st) (n, tg, ln, I, J, O) Q) := R_iald rfl ht
theorem s206_260q (ht : tg a = 30) : Runs 206 260 ls (.int i :: .ref a :: st) (n, tg, ln, I, J, O) Q ↔ ((0 ≤ i ∧ i < Int32.ofNat (ln a)) ∧ Runs 206 261 ls (.int (I a i) :: st) (n, tg, ln, I, J, O) Q) := R_iald0 rfl ht
theorem s206_261 (ht : tg a = 9) (hs : zsumc st ≤ 8) : Runs 206 261 ls (.int i1 :: .int i0 :: .ref a :: st) (n, tg, ln, I, J, O) Q ↔ Runs 85 0 [some (.ref a), some (.int i0), some (.int i1)] [] (n, tg, ln, I, J, O) (fun v h2 => Runs 206 264 ls (v.toList ++ st) h2 Q) := R_callv (a := a) (rest := st) rfl rfl rfl rfl rfl rfl rfl ht hs
theorem s206_264 : Runs 206 264 [x0, x1, some (.ref a), x3] st h Q ↔ Runs 206 265 [x0, x1, some (.ref a), x3] (.ref a :: st) h Q := R_aldn rfl rfl
theorem s206_264q : Runs 206 264 [x0, x1, some (zrf r), x3] st h Q ↔ Runs 206 265 [x0, x1, some (zrf r), x3] (zrf r :: st) h Q := R_aldnq rfl rfl
theorem s206_265 : Runs 206 265 [some (.ref a), x1, x2, x3] st h Q ↔ Runs 206 266 [some (.ref a), x1, x2, x3] (.ref a :: st) h Q := R_aldn rfl rfl
theorem s206_265q : Runs 206 265 [some (zrf r), x1, x2, x3] st h Q ↔ Runs 206 266 [some (zrf r), x1, x2, x3] (zrf r :: st) h Q := R_aldnq rfl rfl
theorem s206_266 : Runs 206 266 [x0, x1, x2, some (.int i)] st h Q ↔ Runs 206 267 [x0, x1, x2, some (.int i)] (.int i :: st) h Q := R_ildn rfl rfl
theorem s206_267 : Runs 206 267 ls st h Q ↔ Runs 206 268 ls (.int 1 :: st) h Q := R_iconst rfl rfl
theorem s206_268 : Runs 206 268 ls (.int j :: .int i :: st) h Q ↔ Runs 206 269 ls (.int (i + j) :: st) h Q := R_iadd rfl
theorem s206_269 (ht : tg a = 20) : Runs 206 269 ls (.int i :: .ref a :: st) (n, tg, ln, I, J, O) Q ↔ ((0 ≤ i ∧ i < Int32.ofNat (ln a)) ∧ Runs 206 270 ls (.int (I a i) :: st) (n, tg, ln, I, J, O) Q) := R_iald rfl ht
theorem s206_269q (ht : tg a = 30) : Runs 206 269 ls (.int i :: .ref a :: st) (n, tg, ln, I, J, O) Q ↔ ((0 ≤ i ∧ i < Int32.ofNat (ln a)) ∧ Runs 206 270 ls (.int (I a i) :: st) (n, tg, ln, I, J, O) Q) := R_iald0 rfl ht
theorem s206_270 : Runs 206 270 [some (.ref a), x1, x2, x3] st h Q ↔ Runs 206 271 [some (.ref a), x1, x2, x3] (.ref a :: st) h Q := R_aldn rfl rfl
theorem s206_270q : Runs 206 270 [some (zrf r), x1, x2, x3] st h Q ↔ Runs 206 271 [some (zrf r), x1, x2, x3] (zrf r :: st) h Q := R_aldnq rfl rfl
theorem s206_271 : Runs 206 271 [x0, x1, x2, some (.int i)] st h Q ↔ Runs 206 272 [x0, x1, x2, some (.int i)] (.int i :: st) h Q := R_ildn rfl rfl
theorem s206_272 : Runs 206 272 ls st h Q ↔ Runs 206 273 ls (.int 2 :: st) h Q := R_iconst rfl rfl
theorem s206_273 : Runs 206 273 ls (.int j :: .int i :: st) h Q ↔ Runs 206 274 ls (.int (i + j) :: st) h Q := R_iadd rfl
theorem s206_274 (ht : tg a = 20) : Runs 206 274 ls (.int i :: .ref a :: st) (n, tg, ln, I, J, O) Q ↔ ((0 ≤ i ∧ i < Int32.ofNat (ln a)) ∧ Runs 206 275 ls (.int (I a i) :: st) (n, tg, ln, I, J, O) Q) := R_iald rfl ht
theorem s206_274q (ht : tg a = 30) : Runs 206 274 ls (.int i :: .ref a :: st) (n, tg, ln, I, J, O) Q ↔ ((0 ≤ i ∧ i < Int32.ofNat (ln a)) ∧ Runs 206 275 ls (.int (I a i) :: st) (n, tg, ln, I, J, O) Q) := R_iald0 rfl ht
theorem s206_275 (ht : tg a = 10) (hs : zsumc st ≤ 8) : Runs 206 275 ls (.int i1 :: .int i0 :: .ref a :: st) (n, tg, ln, I, J, O) Q ↔ Runs 155 0 [some (.ref a), some (.int i0), some (.int i1), none] [] (n, tg, ln, I, J, O) (fun v h2 => Runs 206 278 ls (v.toList ++ st) h2 Q) := R_callv (a := a) (rest := st) rfl rfl rfl rfl rfl rfl rfl ht hs
theorem s206_278 : Runs 206 278 ls (.int j :: .int i :: st) h Q ↔ if i = j then Runs 206 1193 ls st h Q else Runs 206 281 ls st h Q := R_iceq rfl rfl
theorem s206_281 : Runs 206 281 ls st h Q ↔ Runs 206 282 ls (.int 0 :: st) h Q := R_iconst rfl rfl
theorem s206_282 (hx : i = 0 ∨ i = 1) : Runs 206 282 ls [.int i] h Q ↔ Q (some (.int i)) h := R_zret rfl rfl hx
theorem s206_283 : Runs 206 283 [x0, some (.ref a), x2, x3] st h Q ↔ Runs 206 284 [x0, some (.ref a), x2, x3] (.ref a :: st) h Q := R_aldn rfl rfl
theorem s206_283q : Runs 206 283 [x0, some (zrf r), x2, x3] st h Q ↔ Runs 206 284 [x0, some (zrf r), x2, x3] (zrf r :: st) h Q := R_aldnq rfl rfl
theorem s206_284 : Runs 206 284 [some (.ref a), x1, x2, x3] st h Q ↔ Runs 206 285 [some (.ref a), x1, x2, x3] (.ref a :: st) h Q := R_aldn rfl rfl
theorem s206_284q : Runs 206 284 [some (zrf r), x1, x2, x3] st h Q ↔ Runs 206 285 [some (zrf r), x1, x2, x3] (zrf r :: st) h Q := R_aldnq rfl rfl
theorem s206_285 : Runs 206 285 [x0, x1, x2, some (.int i)] st h Q ↔ Runs 206 286 [x0, x1, x2, some (.int i)] (.int i :: st) h Q := R_ildn rfl rfl
theorem s206_286 : Runs 206 286 ls st h Q ↔ Runs 206 287 ls (.int 1 :: st) h Q := R_iconst rfl rfl
theorem s206_287 : Runs 206 287 ls (.int j :: .int i :: st) h Q ↔ Runs 206 288 ls (.int (i + j) :: st) h Q := R_iadd rfl
theorem s206_288 (ht : tg a = 20) : Runs 206 288 ls (.int i :: .ref a :: st) (n, tg, ln, I, J, O) Q ↔ ((0 ≤ i ∧ i < Int32.ofNat (ln a)) ∧ Runs 206 289 ls (.int (I a i) :: st) (n, tg, ln, I, J, O) Q) := R_iald rfl ht
theorem s206_288q (ht : tg a = 30) : Runs 206 288 ls (.int i :: .ref a :: st) (n, tg, ln, I, J, O) Q ↔ ((0 ≤ i ∧ i < Int32.ofNat (ln a)) ∧ Runs 206 289 ls (.int (I a i) :: st) (n, tg, ln, I, J, O) Q) := R_iald0 rfl ht
theorem s206_289 : Runs 206 289 [some (.ref a), x1, x2, x3] st h Q ↔ Runs 206 290 [some (.ref a), x1, x2, x3] (.ref a :: st) h Q := R_aldn rfl rfl
theorem s206_289q : Runs 206 289 [some (zrf r), x1, x2, x3] st h Q ↔ Runs 206 290 [some (zrf r), x1, x2, x3] (zrf r :: st) h Q := R_aldnq rfl rfl
theorem s206_290 : Runs 206 290 [x0, x1, x2, some (.int i)] st h Q ↔ Runs 206 291 [x0, x1, x2, some (.int i)] (.int i :: st) h Q := R_ildn rfl rfl
theorem s206_291 : Runs 206 291 ls st h Q ↔ Runs 206 292 ls (.int 2 :: st) h Q := R_iconst rfl rfl
theorem s206_292 : Runs 206 292 ls (.int j :: .int i :: st) h Q ↔ Runs 206 293 ls (.int (i + j) :: st) h Q := R_iadd rfl
theorem s206_293 (ht : tg a = 20) : Runs 206 293 ls (.int i :: .ref a :: st) (n, tg, ln, I, J, O) Q ↔ ((0 ≤ i ∧ i < Int32.ofNat (ln a)) ∧ Runs 206 294 ls (.int (I a i) :: st) (n, tg, ln, I, J, O) Q) := R_iald rfl ht
theorem s206_293q (ht : tg a = 30) : Runs 206 293 ls (.int i :: .ref a :: st) (n, tg, ln, I, J, O) Q ↔ ((0 ≤ i ∧ i < Int32.ofNat (ln a)) ∧ Runs 206 294 ls (.int (I a i) :: st) (n, tg, ln, I, J, O) Q) := R_iald0 rfl ht
theorem s206_294 (ht : tg a = 9) (hs : zsumc st ≤ 8) : Runs 206 294 ls (.int i1 :: .int i0 :: .ref a :: st) (n, tg, ln, I, J, O) Q ↔ Runs 86 0 [some (.ref a), some (.int i0), some (.int i1)] [] (n, tg, ln, I, J, O) (fun v h2 => Runs 206 297 ls (v.toList ++ st) h2 Q) := R_callv (a := a) (rest := st) rfl rfl rfl rfl rfl rfl rfl ht hs
theorem s206_297 : Runs 206 297 [x0, x1, some (.ref a), x3] st h Q ↔ Runs 206 298 [x0, x1, some (.ref a), x3] (.ref a :: st) h Q := R_aldn rfl rfl
theorem s206_297q : Runs 206 297 [x0, x1, some (zrf r), x3] st h Q ↔ Runs 206 298 [x0, x1, some (zrf r), x3] (zrf r :: st) h Q := R_aldnq rfl rfl
theorem s206_298 : Runs 206 298 [some (.ref a), x1, x2, x3] st h Q ↔ Runs 206 299 [some (.ref a), x1, x2, x3] (.ref a :: st) h Q := R_aldn rfl rfl
theorem s206_298q : Runs 206 298 [some (zrf r), x1, x2, x3] st h Q ↔ Runs 206 299 [some (zrf r), x1, x2, x3] (zrf r :: st) h Q := R_aldnq rfl rfl
theorem s206_299 : Runs 206 299 [x0, x1, x2, some (.int i)] st h Q ↔ Runs 206 300 [x0, x1, x2, some (.int i)] (.int i :: st) h Q := R_ildn rfl rfl
theorem s206_300 : Runs 206 300 ls st h Q ↔ Runs 206 301 ls (.int 1 :: st) h Q := R_iconst rfl rfl
theorem s206_301 : Runs 206 301 ls (.int j :: .int i :: st) h Q ↔ Runs 206 302 ls (.int (i + j) :: st) h Q := R_iadd rfl
theorem s206_302 (ht : tg a = 20) : Runs 206 302 ls (.int i :: .ref a :: st) (n, tg, ln, I, J, O) Q ↔ ((0 ≤ i ∧ i < Int32.ofNat (ln a)) ∧ Runs 206 303 ls (.int (I a i) :: st) (n, tg, ln, I, J, O) Q) := R_iald rfl ht
theorem s206_302q (ht : tg a = 30) : Runs 206 302 ls (.int i :: .ref a :: st) (n, tg, ln, I, J, O) Q ↔ ((0 ≤ i ∧ i < Int32.ofNat (ln a)) ∧ Runs 206 303 ls (.int (I a i) :: st) (n, tg, ln, I, J, O) Q) := R_iald0 rfl ht
theorem s206_303 : Runs 206 303 [some (.ref a), x1, x2, x3] st h Q ↔ Runs 206 304 [some (.ref a), x1, x2, x3] (.ref a :: st) h Q := R_aldn rfl rfl
theorem s206_303q : Runs 206 303 [some (zrf r), x1, x2, x3] st h Q ↔ Runs 206 304 [some (zrf r), x1, x2, x3] (zrf r :: st) h Q := R_aldnq rfl rfl
theorem s206_304 : Runs 206 304 [x0, x1, x2, some (.int i)] st h Q ↔ Runs 206 305 [x0, x1, x2, some (.int i)] (.int i :: st) h Q := R_ildn rfl rfl
theorem s206_305 : Runs 206 305 ls st h Q ↔ Runs 206 306 ls (.int 2 :: st) h Q := R_iconst rfl rfl
theorem s206_306 : Runs 206 306 ls (.int j :: .int i :: st) h Q ↔ Runs 206 307 ls (.int (i + j) :: st) h Q := R_iadd rfl
theorem s206_307 (ht : tg a = 20) : Runs 206 307 ls (.int i :: .ref a :: st) (n, tg, ln, I, J, O) Q ↔ ((0 ≤ i ∧ i < Int32.ofNat (ln a)) ∧ Runs 206 308 ls (.int (I a i) :: st) (n, tg, ln, I, J, O) Q) := R_iald rfl ht
theorem s206_307q (ht : tg a = 30) : Runs 206 307 ls (.int i :: .ref a :: st) (n, tg, ln, I, J, O) Q ↔ ((0 ≤ i ∧ i < Int32.ofNat (ln a)) ∧ Runs 206 308 ls (.int (I a i) :: st) (n, tg, ln, I, J, O) Q) := R_iald0 rfl ht
theorem s206_308 (ht : tg a = 10) (hs : zsumc st ≤ 8) : Runs 206 308 ls (.int i1 :: .int i0 :: .ref a :: st) (n, tg, ln, I, J, O) Q ↔ Runs 156 0 [some (.ref a), some (.int i0), some (.int i1)] [] (n, tg, ln, I, J, O) (fun v h2 => Runs 206 311 ls (v.toList ++ st) h2 Q) := R_callv (a := a) (rest := st) rfl rfl rfl rfl rfl rfl rfl ht hs
theorem s206_311 : Runs 206 311 ls (.int j :: .int i :: st) h Q ↔ if i = j then Runs 206 1193 ls st h Q else Runs 206 314 ls st h Q := R_iceq rfl rfl
theorem s206_314 : Runs 206 314 ls st h Q ↔ Runs 206 315 ls (.int 0 :: st) h Q := R_iconst rfl rfl
theorem s206_315 (hx : i = 0 ∨ i = 1) : Runs 206 315 ls [.int i] h Q ↔ Q (some (.int i)) h := R_zret rfl rfl hx
theorem s206_316 : Runs 206 316 [x0, some (.ref a), x2, x3] st h Q ↔ Runs 206 317 [x0, some (.ref a), x2, x3] (.ref a :: st) h Q := R_aldn rfl rfl
theorem s206_316q : Runs 206 316 [x0, some (zrf r), x2, x3] st h Q ↔ Runs 206 317 [x0, some (zrf r), x2, x3] (zrf r :: st) h Q := R_aldnq rfl rfl
theorem s206_317 : Runs 206 317 [some (.ref a), x1, x2, x3] st h Q ↔ Runs 206 318 [some (.ref a), x1, x2, x3] (.ref a :: st) h Q := R_aldn rfl rfl
theorem s206_317q : Runs 206 317 [some (zrf r), x1, x2, x3] st h Q ↔ Runs 206 318 [some (zrf r), x1, x2, x3] (zrf r :: st) h Q := R_aldnq rfl rfl
theorem s206_318 : Runs 206 318 [x0, x1, x2, some (.int i)] st h Q ↔ Runs 206 319 [x0, x1, x2, some (.int i)] (.int i :: st) h Q := R_ildn rfl rfl
theorem s206_319 : Runs 206 319 ls st h Q ↔ Runs 206 320 ls (.int 1 :: st) h Q := R_iconst rfl rfl
theorem s206_320 : Runs 206 320 ls (.int j :: .int i :: st) h Q ↔ Runs 206 321 ls (.int (i + j) :: st) h Q := R_iadd rfl
theorem s206_321 (ht : tg a = 20) : Runs 206 321 ls (.int i :: .ref a :: st) (n, tg, ln, I, J, O) Q ↔ ((0 ≤ i ∧ i < Int32.ofNat (ln a)) ∧ Runs 206 322 ls (.int (I a i) :: st) (n, tg, ln, I, J, O) Q) := R_iald rfl ht
theorem s206_321q (ht : tg a = 30) : Runs 206 321 ls (.int i :: .ref a :: st) (n, tg, ln, I, J, O) Q ↔ ((0 ≤ i ∧ i < Int32.ofNat (ln a)) ∧ Runs 206 322 ls (.int (I a i) :: st) (n, tg, ln, I, J, O) Q) := R_iald0 rfl ht
theorem s206_322 : Runs 206 322 [some (.ref a), x1, x2, x3] st h Q ↔ Runs 206 323 [some (.ref a), x1, x2, x3] (.ref a :: st) h Q := R_aldn rfl rfl
theorem s206_322q : Runs 206 322 [some (zrf r), x1, x2, x3] st h Q ↔ Runs 206 323 [some (zrf r), x1, x2, x3] (zrf r :: st) h Q := R_aldnq rfl rfl
theorem s206_323 : Runs 206 323 [x0, x1, x2, some (.int i)] st h Q ↔ Runs 206 324 [x0, x1, x2, some (.int i)] (.int i :: st) h Q := R_ildn rfl rfl
theorem s206_324 : Runs 206 324 ls st h Q ↔ Runs 206 325 ls (.int 2 :: st) h Q := R_iconst rfl rfl
theorem s206_325 : Runs 206 325 ls (.int j :: .int i :: st) h Q ↔ Runs 206 326 ls (.int (i + j) :: st) h Q := R_iadd rfl
theorem s206_326 (ht : tg a = 20) : Runs 206 326 ls (.int i :: .ref a :: st) (n, tg, ln, I, J, O) Q ↔ ((0 ≤ i ∧ i < Int32.ofNat (ln a)) ∧ Runs 206 327 ls (.int (I a i) :: st) (n, tg, ln, I, J, O) Q) := R_iald rfl ht
theorem s206_326q (ht : tg a = 30) : Runs 206 326 ls (.int i :: .ref a :: st) (n, tg, ln, I, J, O) Q ↔ ((0 ≤ i ∧ i < Int32.ofNat (ln a)) ∧ Runs 206 327 ls (.int (I a i) :: st) (n, tg, ln, I, J, O) Q) := R_iald0 rfl ht
theorem s206_327 (ht : tg a = 9) (hs : zsumc st ≤ 8) : Runs 206 327 ls (.int i1 :: .int i0 :: .ref a :: st) (n, tg, ln, I, J, O) Q ↔ Runs 87 0 [some (.ref a), some (.int i0), some (.int i1), none] [] (n, tg, ln, I, J, O) (fun v h2 => Runs 206 330 ls (v.toList ++ st) h2 Q) := R_callv (a := a) (rest := st) rfl rfl rfl rfl rfl rfl rfl ht hs
theorem s206_330 : Runs 206 330 [x0, x1, some (.ref a), x3] st h Q ↔ Runs 206 331 [x0, x1, some (.ref a), x3] (.ref a :: st) h Q := R_aldn rfl rfl
theorem s206_330q : Runs 206 330 [x0, x1, some (zrf r), x3] st h Q ↔ Runs 206 331 [x0, x1, some (zrf r), x3] (zrf r :: st) h Q := R_aldnq rfl rfl
theorem s206_331 : Runs 206 331 [some (.ref a), x1, x2, x3] st h Q ↔ Runs 206 332 [some (.ref a), x1, x2, x3] (.ref a :: st) h Q := R_aldn rfl rfl
theorem s206_331q : Runs 206 331 [some (zrf r), x1, x2, x3] st h Q ↔ Runs 206 332 [some (zrf r), x1, x2, x3] (zrf r :: st) h Q := R_aldnq rfl rfl
theorem s206_332 : Runs 206 332 [x0, x1, x2, some (.int i)] st h Q ↔ Runs 206 333 [x0, x1, x2, some (.int i)] (.int i :: st) h Q := R_ildn rfl rfl
theorem s206_333 : Runs 206 333 ls st h Q ↔ Runs 206 334 ls (.int 1 :: st) h Q := R_iconst rfl rfl
theorem s206_334 : Runs 206 334 ls (.int j :: .int i :: st) h Q ↔ Runs 206 335 ls (.int (i + j) :: st) h Q := R_iadd rfl
theorem s206_335 (ht : tg a = 20) : Runs 206 335 ls (.int i :: .ref a :: st) (n, tg, ln, I, J, O) Q ↔ ((0 ≤ i ∧ i < Int32.ofNat (ln a)) ∧ Runs 206 336 ls (.int (I a i) :: st) (n, tg, ln, I, J, O) Q) := R_iald rfl ht
theorem s206_335q (ht : tg a = 30) : Runs 206 335 ls (.int i :: .ref a :: st) (n, tg, ln, I, J, O) Q ↔ ((0 ≤ i ∧ i < Int32.ofNat (ln a)) ∧ Runs 206 336 ls (.int (I a i) :: st) (n, tg, ln, I, J, O) Q) := R_iald0 rfl ht
theorem s206_336 : Runs 206 336 [some (.ref a), x1, x2, x3] st h Q ↔ Runs 206 337 [some (.ref a), x1, x2, x3] (.ref a :: st) h Q := R_aldn rfl rfl
theorem s206_336q : Runs 206 336 [some (zrf r), x1, x2, x3] st h Q ↔ Runs 206 337 [some (zrf r), x1, x2, x3] (zrf r :: st) h Q := R_aldnq rfl rfl
theorem s206_337 : Runs 206 337 [x0, x1, x2, some (.int i)] st h Q ↔ Runs 206 338 [x0, x1, x2, some (.int i)] (.int i :: st) h Q := R_ildn rfl rfl
theorem s206_338 : Runs 206 338 ls st h Q ↔ Runs 206 339 ls (.int 2 :: st) h Q := R_iconst rfl rfl
theorem s206_339 : Runs 206 339 ls (.int j :: .int i :: st) h Q ↔ Runs 206 340 ls (.int (i + j) :: st) h Q := R_iadd rfl
theorem s206_340 (ht : tg a = 20) : Runs 206 340 ls (.int i :: .ref a :: st) (n, tg, ln, I, J, O) Q ↔ ((0 ≤ i ∧ i < Int32.ofNat (ln a)) ∧ Runs 206 341 ls (.int (I a i) :: st) (n, tg, ln, I, J, O) Q) := R_iald rfl ht
theorem s206_340q (ht : tg a = 30) : Runs 206 340 ls (.int i :: .ref a :: st) (n, tg, ln, I, J, O) Q ↔ ((0 ≤ i ∧ i < Int32.ofNat (ln a)) ∧ Runs 206 341 ls (.int (I a i) :: st) (n, tg, ln, I, J, O) Q) := R_iald0 rfl ht
theorem s206_341 (ht : tg a = 10) (hs : zsumc st ≤ 8) : Runs 206 341 ls (.int i1 :: .int i0 :: .ref a :: st) (n, tg, ln, I, J, O) Q ↔ Runs 157 0 [some (.ref a), some (.int i0), some (.int i1), none, none] [] (n, tg, ln, I, J, O) (fun v h2 => Runs 206 344 ls (v.toList ++ st) h2 Q) := R_callv (a := a) (rest := st) rfl rfl rfl rfl rfl rfl rfl ht hs
theorem s206_344 : Runs 206 344 ls (.int j :: .int i :: st) h Q ↔ if i = j then Runs 206 1193 ls st h Q else Runs 206 347 ls st h Q := R_iceq rfl rfl
theorem s206_347 : Runs 206 347 ls st h Q ↔ Runs 206 348 ls (.int 0 :: st) h Q := R_iconst rfl rfl
theorem s206_348 (hx : i = 0 ∨ i = 1) : Runs 206 348 ls [.int i] h Q ↔ Q (some (.int i)) h := R_zret rfl rfl hx
theorem s206_349 : Runs 206 349 [x0, some (.ref a), x2, x3] st h Q ↔ Runs 206 350 [x0, some (.ref a), x2, x3] (.ref a :: st) h Q := R_aldn rfl rfl
theorem s206_349q : Runs 206 349 [x0, some (zrf r), x2, x3] st h Q ↔ Runs 206 350 [x0, some (zrf r), x2, x3] (zrf r :: st) h Q := R_aldnq rfl rfl
theorem s206_350 (ht : tg a = 9) (hs : zsumc st ≤ 8) : Runs 206 350 ls (.ref a :: st) (n, tg, ln, I, J, O) Q ↔ Runs 88 0 [some (.ref a)] [] (n, tg, ln, I, J, O) (fun v h2 => Runs 206 353 ls (v.toList ++ st) h2 Q) := R_callv (a := a) (rest := st) rfl rfl rfl rfl rfl rfl rfl ht hs
theorem s206_353 : Runs 206 353 [x0, x1, some (.ref a), x3] st h Q ↔ Runs 206 354 [x0, x1, some (.ref a), x3] (.ref a :: st) h Q := R_aldn rfl rfl
theorem s206_353q : Runs 206 353 [x0, x1, some (zrf r), x3] st h Q ↔ Runs 206 354 [x0, x1, some (zrf r), x3] (zrf r :: st) h Q := R_aldnq rfl rfl
theorem s206_354 (ht : tg a = 10) (hs : zsumc st ≤ 8) : Runs 206 354 ls (.ref a :: st) (n, tg, ln, I, J, O) Q ↔ Runs 165 0 [some (.ref a)] [] (n, tg, ln, I, J, O) (fun v h2 => Runs 206 357 ls (v.toList ++ st) h2 Q) := R_callv (a := a) (rest := st) rfl rfl rfl rfl rfl rfl rfl ht hs
theorem s206_357 : Runs 206 357 ls (.int j :: .int i :: st) h Q ↔ if i = j then Runs 206 1193 ls st h Q else Runs 206 360 ls st h Q := R_iceq rfl rfl
theorem s206_360 : Runs 206 360 ls st h Q ↔ Runs 206 361 ls (.int 0 :: st) h Q := R_iconst rfl rfl
theorem s206_361 (hx : i = 0 ∨ i = 1) : Runs 206 361 ls [.int i] h Q ↔ Q (some (.int i)) h := R_zret rfl rfl hx
theorem s206_362 : Runs 206 362 [x0, some (.ref a), x2, x3] st h Q ↔ Runs 206 363 [x0, some (.ref a), x2, x3] (.ref a :: st) h Q := R_aldn rfl rfl
theorem s206_362q : Runs 206 362 [x0, some (zrf r), x2, x3] st h Q ↔ Runs 206 363 [x0, some (zrf r), x2, x3] (zrf r :: st) h Q := R_aldnq rfl rfl
theorem s206_363 : Runs 206 363 [some (.ref a), x1, x2, x3] st h Q ↔ Runs 206 364 [some (.ref a), x1, x2, x3] (.ref a :: st) h Q := R_aldn rfl rfl
theorem s206_363q : Runs 206 363 [some (zrf r), x1, x2, x3] st h Q ↔ Runs 206 364 [some (zrf r), x1, x2, x3] (zrf r :: st) h Q := R_aldnq rfl rfl
theorem s206_364 : Runs 206 364 [x0, x1, x2, some (.int i)] st h Q ↔ Runs 206 365 [x0, x1, x2, some (.int i)] (.int i :: st) h Q := R_ildn rfl rfl
theorem s206_365 : Runs 206 365 ls st h Q ↔ Runs 206 366 ls (.int 1 :: st) h Q := R_iconst rfl rfl
theorem s206_366 : Runs 206 366 ls (.int j :: .int i :: st) h Q ↔ Runs 206 367 ls (.int (i + j) :: st) h Q := R_iadd rfl
theorem s206_367 (ht : tg a = 20) : Runs 206 367 ls (.int i :: .ref a :: st) (n, tg, ln, I, J, O) Q ↔ ((0 ≤ i ∧ i < Int32.ofNat (ln a)) ∧ Runs 206 368 ls (.int (I a i) :: st) (n, tg, ln, I, J, O) Q) := R_iald rfl ht
theorem s206_367q (ht : tg a = 30) : Runs 206 367 ls (.int i :: .ref a :: st) (n, tg, ln, I, J, O) Q ↔ ((0 ≤ i ∧ i < Int32.ofNat (ln a)) ∧ Runs 206 368 ls (.int (I a i) :: st) (n, tg, ln, I, J, O) Q) := R_iald0 rfl ht
theorem s206_368 : Runs 206 368 [some (.ref a), x1, x2, x3] st h Q ↔ Runs 206 369 [some (.ref a), x1, x2, x3] (.ref a :: st) h Q := R_aldn rfl rfl
theorem s206_368q : Runs 206 368 [some (zrf r), x1, x2, x3] st h Q ↔ Runs 206 369 [some (zrf r), x1, x2, x3] (zrf r :: st) h Q := R_aldnq rfl rfl
theorem s206_369 : Runs 206 369 [x0, x1, x2, some (.int i)] st h Q ↔ Runs 206 370 [x0, x1, x2, some (.int i)] (.int i :: st) h Q := R_ildn rfl rfl
theorem s206_370 : Runs 206 370 ls st h Q ↔ Runs 206 371 ls (.int 2 :: st) h Q := R_iconst rfl rfl
theorem s206_371 : Runs 206 371 ls (.int j :: .int i :: st) h Q ↔ Runs 206 372 ls (.int (i + j) :: st) h Q := R_iadd rfl
theorem s206_372 (ht : tg a = 20) : Runs 206 372 ls (.int i :: .ref a :: st) (n, tg, ln, I, J, O) Q ↔ ((0 ≤ i ∧ i < Int32.ofNat (ln a)) ∧ Runs 206 373 ls (.int (I a i) :: st) (n, tg, ln, I, J, O) Q) := R_iald rfl ht
theorem s206_372q (ht : tg a = 30) : Runs 206 372 ls (.int i :: .ref a :: st) (n, tg, ln, I, J, O) Q ↔ ((0 ≤ i ∧ i < Int32.ofNat (ln a)) ∧ Runs 206 373 ls (.int (I a i) :: st) (n, tg, ln, I, J, O) Q) := R_iald0 rfl ht
theorem s206_373 : Runs 206 373 [some (.ref a), x1, x2, x3] st h Q ↔ Runs 206 374 [some (.ref a), x1, x2, x3] (.ref a :: st) h Q := R_aldn rfl rfl
theorem s206_373q : Runs 206 373 [some (zrf r), x1, x2, x3] st h Q ↔ Runs 206 374 [some (zrf r), x1, x2, x3] (zrf r :: st) h Q := R_aldnq rfl rfl
theorem s206_374 : Runs 206 374 [x0, x1, x2, some (.int i)] st h Q ↔ Runs 206 375 [x0, x1, x2, some (.int i)] (.int i :: st) h Q := R_ildn rfl rfl
theorem s206_375 : Runs 206 375 ls st h Q ↔ Runs 206 376 ls (.int 3 :: st) h Q := R_iconst rfl rfl
theorem s206_376 : Runs 206 376 ls (.int j :: .int i :: st) h Q ↔ Runs 206 377 ls (.int (i + j) :: st) h Q := R_iadd rfl
theorem s206_377 (ht : tg a = 20) : Runs 206 377 ls (.int i :: .ref a :: st) (n, tg, ln, I, J, O) Q ↔ ((0 ≤ i ∧ i < Int32.ofNat (ln a)) ∧ Runs 206 378 ls (.int (I a i) :: st) (n, tg, ln, I, J, O) Q) := R_iald rfl ht
theorem s206_377q (ht : tg a = 30) : Runs 206 377 ls (.int i :: .ref a :: st) (n, tg, ln, I, J, O) Q ↔ ((0 ≤ i ∧ i < Int32.ofNat (ln a)) ∧ Runs 206 378 ls (.int (I a i) :: st) (n, tg, ln, I, J, O) Q) := R_iald0 rfl ht
theorem s206_378 (ht : tg a = 9) (hs : zsumc st ≤ 8) : Runs 206 378 ls (.int i2 :: .int i1 :: .int i0 :: .ref a :: st) (n, tg, ln, I, J, O) Q ↔ Runs 89 0 [some (.ref a), some (.int i0), some (.int i1), some (.int i2)] [] (n, tg, ln, I, J, O) (fun v h2 => Runs 206 381 ls (v.toList ++ st) h2 Q) := R_callv (a := a) (rest := st) rfl rfl rfl rfl rfl rfl rfl ht hs
theorem s206_381 : Runs 206 381 [x0, x1, some (.ref a), x3] st h Q ↔ Runs 206 382 [x0, x1, some (.ref a), x3] (.ref a :: st) h Q := R_aldn rfl rfl
theorem s206_381q : Runs 206 381 [x0, x1, some (zrf r), x3] st h Q ↔ Runs 206 382 [x0, x1, some (zrf r), x3] (zrf r :: st) h Q := R_aldnq rfl rfl
theorem s206_382 : Runs 206 382 [some (.ref a), x1, x2, x3] st h Q ↔ Runs 206 383 [some (.ref a), x1, x2, x3] (.ref a :: st) h Q := R_aldn rfl rfl
theorem s206_382q : Runs 206 382 [some (zrf r), x1, x2, x3] st h Q ↔ Runs 206 383 [some (zrf r), x1, x2, x3] (zrf r :: st) h Q := R_aldnq rfl rfl
theorem s206_383 : Runs 206 383 [x0, x1, x2, some (.int i)] st h Q ↔ Runs 206 384 [x0, x1, x2, some (.int i)] (.int i :: st) h Q := R_ildn rfl rfl
theorem s206_384 : Runs 206 384 ls st h Q ↔ Runs 206 385 ls (.int 1 :: st) h Q := R_iconst rfl rfl
theorem s206_385 : Runs 206 385 ls (.int j :: .int i :: st) h Q ↔ Runs 206 386 ls (.int (i + j) :: st) h Q := R_iadd rfl
theorem s206_386 (ht : tg a = 20) : Runs 206 386 ls (.int i :: .ref a :: st) (n, tg, ln, I, J, O) Q ↔ ((0 ≤ i ∧ i < Int32.ofNat (ln a)) ∧ Runs 206 387 ls (.int (I a i) :: st) (n, tg, ln, I, J, O) Q) := R_iald rfl ht
theorem s206_386q (ht : tg a = 30) : Runs 206 386 ls (.int i :: .ref a :: st) (n, tg, ln, I, J, O) Q ↔ ((0 ≤ i ∧ i < Int32.ofNat (ln a)) ∧ Runs 206 387 ls (.int (I a i) :: st) (n, tg, ln, I, J, O) Q) := R_iald0 rfl ht
theorem s206_387 : Runs 206 387 [some (.ref a), x1, x2, x3] st h Q ↔ Runs 206 388 [some (.ref a), x1, x2, x3] (.ref a :: st) h Q := R_aldn rfl rfl
theorem s206_387q : Runs 206 387 [some (zrf r), x1, x2, x3] st h Q ↔ Runs 206 388 [some (zrf r), x1, x2, x3] (zrf r :: st) h Q := R_aldnq rfl rfl
theorem s206_388 : Runs 206 388 [x0, x1, x2, some (.int i)] st h Q ↔ Runs 206 389 [x0, x1, x2, some (.int i)] (.int i :: st) h Q := R_ildn rfl rfl
theorem s206_389 : Runs 206 389 ls st h Q ↔ Runs 206 390 ls (.int 2 :: st) h Q := R_iconst rfl rfl
theorem s206_390 : Runs 206 390 ls (.int j :: .int i :: st) h Q ↔ Runs 206 391 ls (.int (i + j) :: st) h Q := R_iadd rfl
theorem s206_391 (ht : tg a = 20) : Runs 206 391 ls (.int i :: .ref a :: st) (n, tg, ln, I, J, O) Q ↔ ((0 ≤ i ∧ i < Int32.ofNat (ln a)) ∧ Runs 206 392 ls (.int (I a i) :: st) (n, tg, ln, I, J, O) Q) := R_iald rfl ht
theorem s206_391q (ht : tg a = 30) : Runs 206 391 ls (.int i :: .ref a :: st) (n, tg, ln, I, J, O) Q ↔ ((0 ≤ i ∧ i < Int32.ofNat (ln a)) ∧ Runs 206 392 ls (.int (I a i) :: st) (n, tg, ln, I, J, O) Q) := R_iald0 rfl ht
theorem s206_392 : Runs 206 392 [some (.ref a), x1, x2, x3] st h Q ↔ Runs 206 393 [some (.ref a), x1, x2, x3] (.ref a :: st) h Q := R_aldn rfl rfl
theorem s206_392q : Runs 206 392 [some (zrf r), x1, x2, x3] st h Q ↔ Runs 206 393 [some (zrf r), x1, x2, x3] (zrf r :: st) h Q := R_aldnq rfl rfl
theorem s206_393 : Runs 206 393 [x0, x1, x2, some (.int i)] st h Q ↔ Runs 206 394 [x0, x1, x2, some (.int i)] (.int i :: st) h Q := R_ildn rfl rfl
theorem s206_394 : Runs 206 394 ls st h Q ↔ Runs 206 395 ls (.int 3 :: st) h Q := R_iconst rfl rfl
theorem s206_395 : Runs 206 395 ls (.int j :: .int i :: st) h Q ↔ Runs 206 396 ls (.int (i + j) :: st) h Q := R_iadd rfl
theorem s206_396 (ht : tg a = 20) : Runs 206 396 ls (.int i :: .ref a :: st) (n, tg, ln, I, J, O) Q ↔ ((0 ≤ i ∧ i < Int32.ofNat (ln a)) ∧ Runs 206 397 ls (.int (I a i) :: st) (n, tg, ln, I, J, O) Q) := R_iald rfl ht
theorem s206_396q (ht : tg a = 30) : Runs 206 396 ls (.int i :: .ref a :: st) (n, tg, ln, I, J, O) Q ↔ ((0 ≤ i ∧ i < Int32.ofNat (ln a)) ∧ Runs 206 397 ls (.int (I a i) :: st) (n, tg, ln, I, J, O) Q) := R_iald0 rfl ht
theorem s206_397 (ht : tg a = 10) (hs : zsumc st ≤ 8) : Runs 206 397 ls (.int i2 :: .int i1 :: .int i0 :: .ref a :: st) (n, tg, ln, I, J, O) Q ↔ Runs 166 0 [some (.ref a), some (.int i0), some (.int i1), some (.int i2)] [] (n, tg, ln, I, J, O) (fun v h2 => Runs 206 400 ls (v.toList ++ st) h2 Q) := R_callv (a := a) (rest := st) rfl rfl rfl rfl rfl rfl rfl ht hs
theorem s206_400 : Runs 206 400 ls (.int j :: .int i :: st) h Q ↔ if i = j then Runs 206 1193 ls st h Q else Runs 206 403 ls st h Q := R_iceq rfl rfl
theorem s206_403 : Runs 206 403 ls st h Q ↔ Runs 206 404 ls (.int 0 :: st) h Q := R_iconst rfl rfl
theorem s206_404 (hx : i = 0 ∨ i = 1) : Runs 206 404 ls [.int i] h Q ↔ Q (some (.int i)) h := R_zret rfl rfl hx
theorem s206_405 : Runs 206 405 [x0, some (.ref a), x2, x3] st h Q ↔ Runs 206 406 [x0, some (.ref a), x2, x3] (.ref a :: st) h Q := R_aldn rfl rfl
theorem s206_405q : Runs 206 405 [x0, some (zrf r), x2, x3] st h Q ↔ Runs 206 406 [x0, some (zrf r), x2, x3] (zrf r :: st) h Q := R_aldnq rfl rfl
theorem s206_406 : Runs 206 406 [some (.ref a), x1, x2, x3] st h Q ↔ Runs 206 407 [some (.ref a), x1, x2, x3] (.ref a :: st) h Q := R_aldn rfl rfl
theorem s206_406q : Runs 206 406 [some (zrf r), x1, x2, x3] st h Q ↔ Runs 206 407 [some (zrf r), x1, x2, x3] (zrf r :: st) h Q := R_aldnq rfl rfl
theorem s206_407 : Runs 206 407 [x0, x1, x2, some (.int i)] st h Q ↔ Runs 206 408 [x0, x1, x2, some (.int i)] (.int i :: st) h Q := R_ildn rfl rfl
theorem s206_408 : Runs 206 408 ls st h Q ↔ Runs 206 409 ls (.int 1 :: st) h Q := R_iconst rfl rfl
theorem s206_409 : Runs 206 409 ls (.int j :: .int i :: st) h Q ↔ Runs 206 410 ls (.int (i + j) :: st) h Q := R_iadd rfl
theorem s206_410 (ht : tg a = 20) : Runs 206 410 ls (.int i :: .ref a :: st) (n, tg, ln, I, J, O) Q ↔ ((0 ≤ i ∧ i < Int32.ofNat (ln a)) ∧ Runs 206 411 ls (.int (I a i) :: st) (n, tg, ln, I, J, O) Q) := R_iald rfl ht
theorem s206_410q (ht : tg a = 30) : Runs 206 410 ls (.int i :: .ref a :: st) (n, tg, ln, I, J, O) Q ↔ ((0 ≤ i ∧ i < Int32.ofNat (ln a)) ∧ Runs 206 411 ls (.int (I a i) :: st) (n, tg, ln, I, J, O) Q) := R_iald0 rfl ht
theorem s206_411 (ht : tg a = 9) (hs : zsumc st ≤ 8) : Runs 206 411 ls (.int i0 :: .ref a :: st) (n, tg, ln, I, J, O) Q ↔ Runs 90 0 [some (.ref a), some (.int i0)] [] (n, tg, ln, I, J, O) (fun v h2 => Runs 206 414 ls (v.toList ++ st) h2 Q) := R_callv (a := a) (rest := st) rfl rfl rfl rfl rfl rfl rfl ht hs
theorem s206_414 : Runs 206 414 [x0, x1, some (.ref a), x3] st h Q ↔ Runs 206 415 [x0, x1, some (.ref a), x3] (.ref a :: st) h Q := R_aldn rfl rfl
theorem s206_414q : Runs 206 414 [x0, x1, some (zrf r), x3] st h Q ↔ Runs 206 415 [x0, x1, some (zrf r), x3] (zrf r :: st) h Q := R_aldnq rfl rfl
theorem s206_415 : Runs 206 415 [some (.ref a), x1, x2, x3] st h Q ↔ Runs 206 416 [some (.ref a), x1, x2, x3] (.ref a :: st) h Q := R_aldn rfl rfl
theorem s206_415q : Runs 206 415 [some (zrf r), x1, x2, x3] st h Q ↔ Runs 206 416 [some (zrf r), x1, x2, x3] (zrf r :: st) h Q := R_aldnq rfl rfl
theorem s206_416 : Runs 206 416 [x0, x1, x2, some (.int i)] st h Q ↔ Runs 206 417 [x0, x1, x2, some (.int i)] (.int i :: st) h Q := R_ildn rfl rfl
theorem s206_417 : Runs 206 417 ls st h Q ↔ Runs 206 418 ls (.int 1 :: st) h Q := R_iconst rfl rfl
theorem s206_418 : Runs 206 418 ls (.int j :: .int i :: st) h Q ↔ Runs 206 419 ls (.int (i + j) :: st) h Q := R_iadd rfl
theorem s206_419 (ht : tg a = 20) : Runs 206 419 ls (.int i :: .ref a :: st) (n, tg, ln, I, J, O) Q ↔ ((0 ≤ i ∧ i < Int32.ofNat (ln a)) ∧ Runs 206 420 ls (.int (I a i) :: st) (n, tg, ln, I, J, O) Q) := R_iald rfl ht
theorem s206_419q (ht : tg a = 30) : Runs 206 419 ls (.int i :: .ref a :: st) (n, tg, ln, I, J, O) Q ↔ ((0 ≤ i ∧ i < Int32.ofNat (ln a)) ∧ Runs 206 420 ls (.int (I a i) :: st) (n, tg, ln, I, J, O) Q) := R_iald0 rfl ht
theorem s206_420 (ht : tg a = 10) (hs : zsumc st ≤ 8) : Runs 206 420 ls (.int i0 :: .ref a :: st) (n, tg, ln, I, J, O) Q ↔ Runs 168 0 [some (.ref a), some (.int i0), none] [] (n, tg, ln, I, J, O) (fun v h2 => Runs 206 423 ls (v.toList ++ st) h2 Q) := R_callv (a := a) (rest := st) rfl rfl rfl rfl rfl rfl rfl ht hs
theorem s206_423 : Runs 206 423 ls (.int j :: .int i :: st) h Q ↔ if i = j then Runs 206 1193 ls st h Q else Runs 206 426 ls st h Q := R_iceq rfl rfl
theorem s206_426 : Runs 206 426 ls st h Q ↔ Runs 206 427 ls (.int 0 :: st) h Q := R_iconst rfl rfl
theorem s206_427 (hx : i = 0 ∨ i = 1) : Runs 206 427 ls [.int i] h Q ↔ Q (some (.int i)) h := R_zret rfl rfl hx
theorem s206_428 : Runs 206 428 [x0, some (.ref a), x2, x3] st h Q ↔ Runs 206 429 [x0, some (.ref a), x2, x3] (.ref a :: st) h Q := R_aldn rfl rfl
theorem s206_428q : Runs 206 428 [x0, some (zrf r), x2, x3] st h Q ↔ Runs 206 429 [x0, some (zrf r), x2, x3] (zrf r :: st) h Q := R_aldnq rfl rfl
theorem s206_429 : Runs 206 429 [some (.ref a), x1, x2, x3] st h Q ↔ Runs 206 430 [some (.ref a), x1, x2, x3] (.ref a :: st) h Q := R_aldn rfl rfl
theorem s206_429q : Runs 206 429 [some (zrf r), x1, x2, x3] st h Q ↔ Runs 206 430 [some (zrf r), x1, x2, x3] (zrf r :: st) h Q := R_aldnq rfl rfl
theorem s206_430 : Runs 206 430 [x0, x1, x2, some (.int i)] st h Q ↔ Runs 206 431 [x0, x1, x2, some (.int i)] (.int i :: st) h Q := R_ildn rfl rfl
theorem s206_431 : Runs 206 431 ls st h Q ↔ Runs 206 432 ls (.int 1 :: st) h Q := R_iconst rfl rfl
theorem s206_432 : Runs 206 432 ls (.int j :: .int i :: st) h Q ↔ Runs 206 433 ls (.int (i + j) :: st) h Q := R_iadd rfl
theorem s206_433 (ht : tg a = 20) : Runs 206 433 ls (.int i :: .ref a :: st) (n, tg, ln, I, J, O) Q ↔ ((0 ≤ i ∧ i < Int32.ofNat (ln a)) ∧ Runs 206 434 ls (.int (I a i) :: st) (n, tg, ln, I, J, O) Q) := R_iald rfl ht
theorem s206_433q (ht : tg a = 30) : Runs 206 433 ls (.int i :: .ref a :: st) (n, tg, ln, I, J, O) Q ↔ ((0 ≤ i ∧ i < Int32.ofNat (ln a)) ∧ Runs 206 434 ls (.int (I a i) :: st) (n, tg, ln, I, J, O) Q) := R_iald0 rfl ht
theorem s206_434 (ht : tg a = 9) (hs : zsumc st ≤ 8) : Runs 206 434 ls (.int i0 :: .ref a :: st) (n, tg, ln, I, J, O) Q ↔ Runs 91 0 [some (.ref a), some (.int i0)] [] (n, tg, ln, I, J, O) (fun v h2 => Runs 206 437 ls (v.toList ++ st) h2 Q) := R_callv (a := a) (rest := st) rfl rfl rfl rfl rfl rfl rfl ht hs
theorem s206_437 : Runs 206 437 [x0, x1, some (.ref a), x3] st h Q ↔ Runs 206 438 [x0, x1, some (.ref a), x3] (.ref a :: st) h Q := R_aldn rfl rfl
theorem s206_437q : Runs 206 437 [x0, x1, some (zrf r), x3] st h Q ↔ Runs 206 438 [x0, x1, some (zrf r), x3] (zrf r :: st) h Q := R_aldnq rfl rfl
theorem s206_438 : Runs 206 438 [some (.ref a), x1, x2, x3] st h Q ↔ Runs 206 439 [some (.ref a), x1, x2, x3] (.ref a :: st) h Q := R_aldn rfl rfl
theorem s206_438q : Runs 206 438 [some (zrf r), x1, x2, x3] st h Q ↔ Runs 206 439 [some (zrf r), x1, x2, x3] (zrf r :: st) h Q := R_aldnq rfl rfl
theorem s206_439 : Runs 206 439 [x0, x1, x2, some (.int i)] st h Q ↔ Runs 206 440 [x0, x1, x2, some (.int i)] (.int i :: st) h Q := R_ildn rfl rfl
theorem s206_440 : Runs 206 440 ls st h Q ↔ Runs 206 441 ls (.int 1 :: st) h Q := R_iconst rfl rfl
theorem s206_441 : Runs 206 441 ls (.int j :: .int i :: st) h Q ↔ Runs 206 442 ls (.int (i + j) :: st) h Q := R_iadd rfl
theorem s206_442 (ht : tg a = 20) : Runs 206 442 ls (.int i :: .ref a :: st) (n, tg, ln, I, J, O) Q ↔ ((0 ≤ i ∧ i < Int32.ofNat (ln a)) ∧ Runs 206 443 ls (.int (I a i) :: st) (n, tg, ln, I, J, O) Q) := R_iald rfl ht
theorem s206_442q (ht : tg a = 30) : Runs 206 442 ls (.int i :: .ref a :: st) (n, tg, ln, I, J, O) Q ↔ ((0 ≤ i ∧ i < Int32.ofNat (ln a)) ∧ Runs 206 443 ls (.int (I a i) :: st) (n, tg, ln, I, J, O) Q) := R_iald0 rfl ht
theorem s206_443 (ht : tg a = 10) (hs : zsumc st ≤ 8) : Runs 206 443 ls (.int i0 :: .ref a :: st) (n, tg, ln, I, J, O) Q ↔ Runs 169 0 [some (.ref a), some (.int i0), none, none] [] (n, tg, ln, I, J, O) (fun v h2 => Runs 206 446 ls (v.toList ++ st) h2 Q) := R_callv (a := a) (rest := st) rfl rfl rfl rfl rfl rfl rfl ht hs
theorem s206_446 : Runs 206 446 ls (.int j :: .int i :: st) h Q ↔ if i = j then Runs 206 1193 ls st h Q else Runs 206 449 ls st h Q := R_iceq rfl rfl
theorem s206_449 : Runs 206 449 ls st h Q ↔ Runs 206 450 ls (.int 0 :: st) h Q := R_iconst rfl rfl
theorem s206_450 (hx : i = 0 ∨ i = 1) : Runs 206 450 ls [.int i] h Q ↔ Q (some (.int i)) h := R_zret rfl rfl hx
theorem s206_451 : Runs 206 451 [x0, some (.ref a), x2, x3] st h Q ↔ Runs 206 452 [x0, some (.ref a), x2, x3] (.ref a :: st) h Q := R_aldn rfl rfl
theorem s206_451q : Runs 206 451 [x0, some (zrf r), x2, x3] st h Q ↔ Runs 206 452 [x0, some (zrf r), x2, x3] (zrf r :: st) h Q := R_aldnq rfl rfl
theorem s206_452 : Runs 206 452 [some (.ref a), x1, x2, x3] st h Q ↔ Runs 206 453 [some (.ref a), x1, x2, x3] (.ref a :: st) h Q := R_aldn rfl rfl
theorem s206_452q : Runs 206 452 [some (zrf r), x1, x2, x3] st h Q ↔ Runs 206 453 [some (zrf r), x1, x2, x3] (zrf r :: st) h Q := R_aldnq rfl rfl
theorem s206_453 : Runs 206 453 [x0, x1, x2, some (.int i)] st h Q ↔ Runs 206 454 [x0, x1, x2, some (.int i)] (.int i :: st) h Q := R_ildn rfl rfl
theorem s206_454 : Runs 206 454 ls st h Q ↔ Runs 206 455 ls (.int 1 :: st) h Q := R_iconst rfl rfl
theorem s206_455 : Runs 206 455 ls (.int j :: .int i :: st) h Q ↔ Runs 206 456 ls (.int (i + j) :: st) h Q := R_iadd rfl
theorem s206_456 (ht : tg a = 20) : Runs 206 456 ls (.int i :: .ref a :: st) (n, tg, ln, I, J, O) Q ↔ ((0 ≤ i ∧ i < Int32.ofNat (ln a)) ∧ Runs 206 457 ls (.int (I a i) :: st) (n, tg, ln, I, J, O) Q) := R_iald rfl ht
theorem s206_456q (ht : tg a = 30) : Runs 206 456 ls (.int i :: .ref a :: st) (n, tg, ln, I, J, O) Q ↔ ((0 ≤ i ∧ i < Int32.ofNat (ln a)) ∧ Runs 206 457 ls (.int (I a i) :: st) (n, tg, ln, I, J, O) Q) := R_iald0 rfl ht
theorem s206_457 (ht : tg a = 9) (hs : zsumc st ≤ 8) : Runs 206 457 ls (.int i0 :: .ref a :: st) (n, tg, ln, I, J, O) Q ↔ Runs 92 0 [some (.ref a), some (.int i0), none] [] (n, tg, ln, I, J, O) (fun v h2 => Runs 206 460 ls (v.toList ++ st) h2 Q) := R_callv (a := a) (rest := st) rfl rfl rfl rfl rfl rfl rfl ht hs
theorem s206_460 : Runs 206 460 [x0, x1, some (.ref a), x3] st h Q ↔ Runs 206 461 [x0, x1, some (.ref a), x3] (.ref a :: st) h Q := R_aldn rfl rfl
theorem s206_460q : Runs 206 460 [x0, x1, some (zrf r), x3] st h Q ↔ Runs 206 461 [x0, x1, some (zrf r), x3] (zrf r :: st) h Q := R_aldnq rfl rfl
theorem s206_461 : Runs 206 461 [some (.ref a), x1, x2, x3] st h Q ↔ Runs 206 462 [some (.ref a), x1, x2, x3] (.ref a :: st) h Q := R_aldn rfl rfl
theorem s206_461q : Runs 206 461 [some (zrf r), x1, x2, x3] st h Q ↔ Runs 206 462 [some (zrf r), x1, x2, x3] (zrf r :: st) h Q := R_aldnq rfl rfl
theorem s206_462 : Runs 206 462 [x0, x1, x2, some (.int i)] st h Q ↔ Runs 206 463 [x0, x1, x2, some (.int i)] (.int i :: st) h Q := R_ildn rfl rfl
theorem s206_463 : Runs 206 463 ls st h Q ↔ Runs 206 464 ls (.int 1 :: st) h Q := R_iconst rfl rfl
theorem s206_464 : Runs 206 464 ls (.int j :: .int i :: st) h Q ↔ Runs 206 465 ls (.int (i + j) :: st) h Q := R_iadd rfl
theorem s206_465 (ht : tg a = 20) : Runs 206 465 ls (.int i :: .ref a :: st) (n, tg, ln, I, J, O) Q ↔ ((0 ≤ i ∧ i < Int32.ofNat (ln a)) ∧ Runs 206 466 ls (.int (I a i) :: st) (n, tg, ln, I, J, O) Q) := R_iald rfl ht
theorem s206_465q (ht : tg a = 30) : Runs 206 465 ls (.int i :: .ref a :: st) (n, tg, ln, I, J, O) Q ↔ ((0 ≤ i ∧ i < Int32.ofNat (ln a)) ∧ Runs 206 466 ls (.int (I a i) :: st) (n, tg, ln, I, J, O) Q) := R_iald0 rfl ht
theorem s206_466 (ht : tg a = 10) (hs : zsumc st ≤ 8) : Runs 206 466 ls (.int i0 :: .ref a :: st) (n, tg, ln, I, J, O) Q ↔ Runs 170 0 [some (.ref a), some (.int i0), none] [] (n, tg, ln, I, J, O) (fun v h2 => Runs 206 469 ls (v.toList ++ st) h2 Q) := R_callv (a := a) (rest := st) rfl rfl rfl rfl rfl rfl rfl ht hs
theorem s206_469 : Runs 206 469 ls (.int j :: .int i :: st) h Q ↔ if i = j then Runs 206 1193 ls st h Q else Runs 206 472 ls st h Q := R_iceq rfl rfl
theorem s206_472 : Runs 206 472 ls st h Q ↔ Runs 206 473 ls (.int 0 :: st) h Q := R_iconst rfl rfl
theorem s206_473 (hx : i = 0 ∨ i = 1) : Runs 206 473 ls [.int i] h Q ↔ Q (some (.int i)) h := R_zret rfl rfl hx
theorem s206_474 : Runs 206 474 [x0, some (.ref a), x2, x3] st h Q ↔ Runs 206 475 [x0, some (.ref a), x2, x3] (.ref a :: st) h Q := R_aldn rfl rfl
theorem s206_474q : Runs 206 474 [x0, some (zrf r), x2, x3] st h Q ↔ Runs 206 475 [x0, some (zrf r), x2, x3] (zrf r :: st) h Q := R_aldnq rfl rfl
theorem s206_475 : Runs 206 475 [some (.ref a), x1, x2, x3] st h Q ↔ Runs 206 476 [some (.ref a), x1, x2, x3] (.ref a :: st) h Q := R_aldn rfl rfl
theorem s206_475q : Runs 206 475 [some (zrf r), x1, x2, x3] st h Q ↔ Runs 206 476 [some (zrf r), x1, x2, x3] (zrf r :: st) h Q := R_aldnq rfl rfl
theorem s206_476 : Runs 206 476 [x0, x1, x2, some (.int i)] st h Q ↔ Runs 206 477 [x0, x1, x2, some (.int i)] (.int i :: st) h Q := R_ildn rfl rfl
theorem s206_477 : Runs 206 477 ls st h Q ↔ Runs 206 478 ls (.int 1 :: st) h Q := R_iconst rfl rfl
theorem s206_478 : Runs 206 478 ls (.int j :: .int i :: st) h Q ↔ Runs 206 479 ls (.int (i + j) :: st) h Q := R_iadd rfl
theorem s206_479 (ht : tg a = 20) : Runs 206 479 ls (.int i :: .ref a :: st) (n, tg, ln, I, J, O) Q ↔ ((0 ≤ i ∧ i < Int32.ofNat (ln a)) ∧ Runs 206 480 ls (.int (I a i) :: st) (n, tg, ln, I, J, O) Q) := R_iald rfl ht
theorem s206_479q (ht : tg a = 30) : Runs 206 479 ls (.int i :: .ref a :: st) (n, tg, ln, I, J, O) Q ↔ ((0 ≤ i ∧ i < Int32.ofNat (ln a)) ∧ Runs 206 480 ls (.int (I a i) :: st) (n, tg, ln, I, J, O) Q) := R_iald0 rfl ht
theorem s206_480 (ht : tg a = 9) (hs : zsumc st ≤ 8) : Runs 206 480 ls (.int i0 :: .ref a :: st) (n, tg, ln, I, J, O) Q ↔ Runs 93 0 [some (.ref a), some (.int i0), none] [] (n, tg, ln, I, J, O) (fun v h2 => Runs 206 483 ls (v.toList ++ st) h2 Q) := R_callv (a := a) (rest := st) rfl rfl rfl rfl rfl rfl rfl ht hs
theorem s206_483 : Runs 206 483 [x0, x1, some (.ref a), x3] st h Q ↔ Runs 206 484 [x0, x1, some (.ref a), x3] (.ref a :: st) h Q := R_aldn rfl rfl
theorem s206_483q : Runs 206 483 [x0, x1, some (zrf r), x3] st h Q ↔ Runs 206 484 [x0, x1, some (zrf r), x3] (zrf r :: st) h Q := R_aldnq rfl rfl
theorem s206_484 : Runs 206 484 [some (.ref a), x1, x2, x3] st h Q ↔ Runs 206 485 [some (.ref a), x1, x2, x3] (.ref a :: st) h Q := R_aldn rfl rfl
theorem s206_484q : Runs 206 484 [some (zrf r), x1, x2, x3] st h Q ↔ Runs 206 485 [some (zrf r), x1, x2, x3] (zrf r :: st) h Q := R_aldnq rfl rfl
theorem s206_485 : Runs 206 485 [x0, x1, x2, some (.int i)] st h Q ↔ Runs 206 486 [x0, x1, x2, some (.int i)] (.int i :: st) h Q := R_ildn rfl rfl
theorem s206_486 : Runs 206 486 ls st h Q ↔ Runs 206 487 ls (.int 1 :: st) h Q := R_iconst rfl rfl
theorem s206_487 : Runs 206 487 ls (.int j :: .int i :: st) h Q ↔ Runs 206 488 ls (.int (i + j) :: st) h Q := R_iadd rfl
theorem s206_488 (ht : tg a = 20) : Runs 206 488 ls (.int i :: .ref a :: st) (n, tg, ln, I, J, O) Q ↔ ((0 ≤ i ∧ i < Int32.ofNat (ln a)) ∧ Runs 206 489 ls (.int (I a i) :: st) (n, tg, ln, I, J, O) Q) := R_iald rfl ht
theorem s206_488q (ht : tg a = 30) : Runs 206 488 ls (.int i :: .ref a :: st) (n, tg, ln, I, J, O) Q ↔ ((0 ≤ i ∧ i < Int32.ofNat (ln a)) ∧ Runs 206 489 ls (.int (I a i) :: st) (n, tg, ln, I, J, O) Q) := R_iald0 rfl ht
theorem s206_489 (ht : tg a = 10) (hs : zsumc st ≤ 8) : Runs 206 489 ls (.int i0 :: .ref a :: st) (n, tg, ln, I, J, O) Q ↔ Runs 171 0 [some (.ref a), some (.int i0), none] [] (n, tg, ln, I, J, O) (fun v h2 => Runs 206 492 ls (v.toList ++ st) h2 Q) := R_callv (a := a) (rest := st) rfl rfl rfl rfl rfl rfl rfl ht hs
theorem s206_492 : Runs 206 492 ls (.int j :: .int i :: st) h Q ↔ if i = j then Runs 206 1193 ls st h Q else Runs 206 495 ls st h Q := R_iceq rfl rfl
theorem s206_495 : Runs 206 495 ls st h Q ↔ Runs 206 496 ls (.int 0 :: st) h Q := R_iconst rfl rfl
theorem s206_496 (hx : i = 0 ∨ i = 1) : Runs 206 496 ls [.int i] h Q ↔ Q (some (.int i)) h := R_zret rfl rfl hx
theorem s206_497 : Runs 206 497 [x0, some (.ref a), x2, x3] st h Q ↔ Runs 206 498 [x0, some (.ref a), x2, x3] (.ref a :: st) h Q := R_aldn rfl rfl
theorem s206_497q : Runs 206 497 [x0, some (zrf r), x2, x3] st h Q ↔ Runs 206 498 [x0, some (zrf r), x2, x3] (zrf r :: st) h Q := R_aldnq rfl rfl
theorem s206_498 (ht : tg a = 9) (hs : zsumc st ≤ 8) : Runs 206 498 ls (.ref a :: st) (n, tg, ln, I, J, O) Q ↔ Runs 94 0 [some (.ref a)] [] (n, tg, ln, I, J, O) (fun v h2 => Runs 206 501 ls (v.toList ++ st) h2 Q) := R_callv (a := a) (rest := st) rfl rfl rfl rfl rfl rfl rfl ht hs
theorem s206_501 : Runs 206 501 [x0, x1, some (.ref a), x3] st h Q ↔ Runs 206 502 [x0, x1, some (.ref a), x3] (.ref a :: st) h Q := R_aldn rfl rfl
theorem s206_501q : Runs 206 501 [x0, x1, some (zrf r), x3] st h Q ↔ Runs 206 502 [x0, x1, some (zrf r), x3] (zrf r :: st) h Q := R_aldnq rfl rfl
theorem s206_502 (ht : tg a = 10) (hs : zsumc st ≤ 8) : Runs 206 502 ls (.ref a :: st) (n, tg, ln, I, J, O) Q ↔ Runs 172 0 [some (.ref a)] [] (n, tg, ln, I, J, O) (fun v h2 => Runs 206 505 ls (v.toList ++ st) h2 Q) := R_callv (a := a) (rest := st) rfl rfl rfl rfl rfl rfl rfl ht hs
theorem s206_505 : Runs 206 505 ls (.int j :: .int i :: st) h Q ↔ if i = j then Runs 206 1193 ls st h Q else Runs 206 508 ls st h Q := R_iceq rfl rfl
theorem s206_508 : Runs 206 508 ls st h Q ↔ Runs 206 509 ls (.int 0 :: st) h Q := R_iconst rfl rfl
theorem s206_509 (hx : i = 0 ∨ i = 1) : Runs 206 509 ls [.int i] h Q ↔ Q (some (.int i)) h := R_zret rfl rfl hx
theorem s206_510 : Runs 206 510 [x0, some (.ref a), x2, x3] st h Q ↔ Runs 206 511 [x0, some (.ref a), x2, x3] (.ref a :: st) h Q := R_aldn rfl rfl
theorem s206_510q : Runs 206 510 [x0, some (zrf r), x2, x3] st h Q ↔ Runs 206 511 [x0, some (zrf r), x2, x3] (zrf r :: st) h Q := R_aldnq rfl rfl
theorem s206_511 : Runs 206 511 [some (.ref a), x1, x2, x3] st h Q ↔ Runs 206 512 [some (.ref a), x1, x2, x3] (.ref a :: st) h Q := R_aldn rfl rfl
theorem s206_511q : Runs 206 511 [some (zrf r), x1, x2, x3] st h Q ↔ Runs 206 512 [some (zrf r), x1, x2, x3] (zrf r :: st) h Q := R_aldnq rfl rfl
theorem s206_512 : Runs 206 512 [x0, x1, x2, some (.int i)] st h Q ↔ Runs 206 513 [x0, x1, x2, some (.int i)] (.int i :: st) h Q := R_ildn rfl rfl
theorem s206_513 : Runs 206 513 ls st h Q ↔ Runs 206 514 ls (.int 1 :: st) h Q := R_iconst rfl rfl
theorem s206_514 : Runs 206 514 ls (.int j :: .int i :: st) h Q ↔ Runs 206 515 ls (.int (i + j) :: st) h Q := R_iadd rfl
theorem s206_515 (ht : tg a = 20) : Runs 206 515 ls (.int i :: .ref a :: st) (n, tg, ln, I, J, O) Q ↔ ((0 ≤ i ∧ i < Int32.ofNat (ln a)) ∧ Runs 206 516 ls (.int (I a i) :: st) (n, tg, ln, I, J, O) Q) := R_iald rfl ht
theorem s206_515q (ht : tg a = 30) : Runs 206 515 ls (.int i :: .ref a :: st) (n, tg, ln, I, J, O) Q ↔ ((0 ≤ i ∧ i < Int32.ofNat (ln a)) ∧ Runs 206 516 ls (.int (I a i) :: st) (n, tg, ln, I, J, O) Q) := R_iald0 rfl ht
theorem s206_516 (ht : tg a = 9) (hs : zsumc st ≤ 8) : Runs 206 516 ls (.int i0 :: .ref a :: st) (n, tg, ln, I, J, O) Q ↔ Runs 95 0 [some (.ref a), some (.int i0)] [] (n, tg, ln, I, J, O) (fun v h2 => Runs 206 519 ls (v.toList ++ st) h2 Q) := R_callv (a := a) (rest := st) rfl rfl rfl rfl rfl rfl rfl ht hs
theorem s206_519 : Runs 206 519 [x0, x1, some (.ref a), x3] st h Q ↔ Runs 206 520 [x0, x1, some (.ref a), x3] (.ref a :: st) h Q := R_aldn rfl rfl
theorem s206_519q : Runs 206 519 [x0, x1, some (zrf r), x3] st h Q ↔ Runs 206 520 [x0, x1, some (zrf r), x3] (zrf r :: st) h Q := R_aldnq rfl rfl
theorem s206_520 : Runs 206 520 [some (.ref a), x1, x2, x3] st h Q ↔ Runs 206 521 [some (.ref a), x1, x2, x3] (.ref a :: st) h Q := R_aldn rfl rfl
theorem s206_520q : Runs 206 520 [some (zrf r), x1, x2, x3] st h Q ↔ Runs 206 521 [some (zrf r), x1, x2, x3] (zrf r :: st) h Q := R_aldnq rfl rfl
theorem s206_521 : Runs 206 521 [x0, x1, x2, some (.int i)] st h Q ↔ Runs 206 522 [x0, x1, x2, some (.int i)] (.int i :: st) h Q := R_ildn rfl rfl
theorem s206_522 : Runs 206 522 ls st h Q ↔ Runs 206 523 ls (.int 1 :: st) h Q := R_iconst rfl rfl
theorem s206_523 : Runs 206 523 ls (.int j :: .int i :: st) h Q ↔ Runs 206 524 ls (.int (i + j) :: st) h Q := R_iadd rfl
theorem s206_524 (ht : tg a = 20) : Runs 206 524 ls (.int i :: .ref a :: st) (n, tg, ln, I, J, O) Q ↔ ((0 ≤ i ∧ i < Int32.ofNat (ln a)) ∧ Runs 206 525 ls (.int (I a i) :: st) (n, tg, ln, I, J, O) Q) := R_iald rfl ht
theorem s206_524q (ht : tg a = 30) : Runs 206 524 ls (.int i :: .ref a :: st) (n, tg, ln, I, J, O) Q ↔ ((0 ≤ i ∧ i < Int32.ofNat (ln a)) ∧ Runs 206 525 ls (.int (I a i) :: st) (n, tg, ln, I, J, O) Q) := R_iald0 rfl ht
theorem s206_525 (ht : tg a = 10) (hs : zsumc st ≤ 8) : Runs 206 525 ls (.int i0 :: .ref a :: st) (n, tg, ln, I, J, O) Q ↔ Runs 173 0 [some (.ref a), some (.int i0)] [] (n, tg, ln, I, J, O) (fun v h2 => Runs 206 528 ls (v.toList ++ st) h2 Q) := R_callv (a := a) (rest := st) rfl rfl rfl rfl rfl rfl rfl ht hs
theorem s206_528 : Runs 206 528 ls (.int j :: .int i :: st) h Q ↔ if i = j then Runs 206 1193 ls st h Q else Runs 206 531 ls st h Q := R_iceq rfl rfl
theorem s206_531 : Runs 206 531 ls st h Q ↔ Runs 206 532 ls (.int 0 :: st) h Q := R_iconst rfl rfl
theorem s206_532 (hx : i = 0 ∨ i = 1) : Runs 206 532 ls [.int i] h Q ↔ Q (some (.int i)) h := R_zret rfl rfl hx
theorem s206_533 : Runs 206 533 [x0, some (.ref a), x2, x3] st h Q ↔ Runs 206 534 [x0, some (.ref a), x2, x3] (.ref a :: st) h Q := R_aldn rfl rfl
theorem s206_533q : Runs 206 533 [x0, some (zrf r), x2, x3] st h Q ↔ Runs 206 534 [x0, some (zrf r), x2, x3] (zrf r :: st) h Q := R_aldnq rfl rfl
theorem s206_534 : Runs 206 534 [some (.ref a), x1, x2, x3] st h Q ↔ Runs 206 535 [some (.ref a), x1, x2, x3] (.ref a :: st) h Q := R_aldn rfl rfl
theorem s206_534q : Runs 206 534 [some (zrf r), x1, x2, x3] st h Q ↔ Runs 206 535 [some (zrf r), x1, x2, x3] (zrf r :: st) h Q := R_aldnq rfl rfl
theorem s206_535 : Runs 206 535 [x0, x1, x2, some (.int i)] st h Q ↔ Runs 206 536 [x0, x1, x2, some (.int i)] (.int i :: st) h Q := R_ildn rfl rfl
theorem s206_536 : Runs 206 536 ls st h Q ↔ Runs 206 537 ls (.int 1 :: st) h Q := R_iconst rfl rfl
theorem s206_537 : Runs 206 537 ls (.int j :: .int i :: st) h Q ↔ Runs 206 538 ls (.int (i + j) :: st) h Q := R_iadd rfl
theorem s206_538 (ht : tg a = 20) : Runs 206 538 ls (.int i :: .ref a :: st) (n, tg, ln, I, J, O) Q ↔ ((0 ≤ i ∧ i < Int32.ofNat (ln a)) ∧ Runs 206 539 ls (.int (I a i) :: st) (n, tg, ln, I, J, O) Q) := R_iald rfl ht
theorem s206_538q (ht : tg a = 30) : Runs 206 538 ls (.int i :: .ref a :: st) (n, tg, ln, I, J, O) Q ↔ ((0 ≤ i ∧ i < Int32.ofNat (ln a)) ∧ Runs 206 539 ls (.int (I a i) :: st) (n, tg, ln, I, J, O) Q) := R_iald0 rfl ht
theorem s206_539 (ht : tg a = 9) (hs : zsumc st ≤ 8) : Runs 206 539 ls (.int i0 :: .ref a :: st) (n, tg, ln, I, J, O) Q ↔ Runs 96 0 [some (.ref a), some (.int i0)] [] (n, tg, ln, I, J, O) (fun v h2 => Runs 206 542 ls (v.toList ++ st) h2 Q) := R_callv (a := a) (rest := st) rfl rfl rfl rfl rfl rfl rfl ht hs
theorem s206_542 : Runs 206 542 [x0, x1, some (.ref a), x3] st h Q ↔ Runs 206 543 [x0, x1, some (.ref a), x3] (.ref a :: st) h Q := R_aldn rfl rfl
theorem s206_542q : Runs 206 542 [x0, x1, some (zrf r), x3] st h Q ↔ Runs 206 543 [x0, x1, some (zrf r), x3] (zrf r :: st) h Q := R_aldnq rfl rfl
theorem s206_543 : Runs 206 543 [some (.ref a), x1, x2, x3] st h Q ↔ Runs 206 544 [some (.ref a), x1, x2, x3] (.ref a :: st) h Q := R_aldn rfl rfl
theorem s206_543q : Runs 206 543 [some (zrf r), x1, x2, x3] st h Q ↔ Runs 206 544 [some (zrf r), x1, x2, x3] (zrf r :: st) h Q := R_aldnq rfl rfl
theorem s206_544 : Runs 206 544 [x0, x1, x2, some (.int i)] st h Q ↔ Runs 206 545 [x0, x1, x2, some (.int i)] (.int i :: st) h Q := R_ildn rfl rfl
theorem s206_545 : Runs 206 545 ls st h Q ↔ Runs 206 546 ls (.int 1 :: st) h Q := R_iconst rfl rfl
theorem s206_546 : Runs 206 546 ls (.int j :: .int i :: st) h Q ↔ Runs 206 547 ls (.int (i + j) :: st) h Q := R_iadd rfl
theorem s206_547 (ht : tg a = 20) : Runs 206 547 ls (.int i :: .ref a :: st) (n, tg, ln, I, J, O) Q ↔ ((0 ≤ i ∧ i < Int32.ofNat (ln a)) ∧ Runs 206 548 ls (.int (I a i) :: st) (n, tg, ln, I, J, O) Q) := R_iald rfl ht
theorem s206_547q (ht : tg a = 30) : Runs 206 547 ls (.int i :: .ref a :: st) (n, tg, ln, I, J, O) Q ↔ ((0 ≤ i ∧ i < Int32.ofNat (ln a)) ∧ Runs 206 548 ls (.int (I a i) :: st) (n, tg, ln, I, J, O) Q) := R_iald0 rfl ht
theorem s206_548 (ht : tg a = 10) (hs : zsumc st ≤ 8) : Runs 206 548 ls (.int i0 :: .ref a :: st) (n, tg, ln, I, J, O) Q ↔ Runs 174 0 [some (.ref a), some (.int i0)] [] (n, tg, ln, I, J, O) (fun v h2 => Runs 206 551 ls (v.toList ++ st) h2 Q) := R_callv (a := a) (rest := st) rfl rfl rfl rfl rfl rfl rfl ht hs
theorem s206_551 : Runs 206 551 ls (.int j :: .int i :: st) h Q ↔ if i = j then Runs 206 1193 ls st h Q else Runs 206 554 ls st h Q := R_iceq rfl rfl
theorem s206_554 : Runs 206 554 ls st h Q ↔ Runs 206 555 ls (.int 0 :: st) h Q := R_iconst rfl rfl
theorem s206_555 (hx : i = 0 ∨ i = 1) : Runs 206 555 ls [.int i] h Q ↔ Q (some (.int i)) h := R_zret rfl rfl hx
theorem s206_556 : Runs 206 556 [x0, some (.ref a), x2, x3] st h Q ↔ Runs 206 557 [x0, some (.ref a), x2, x3] (.ref a :: st) h Q := R_aldn rfl rfl
theorem s206_556q : Runs 206 556 [x0, some (zrf r), x2, x3] st h Q ↔ Runs 206 557 [x0, some (zrf r), x2, x3] (zrf r :: st) h Q := R_aldnq rfl rfl
theorem s206_557 : Runs 206 557 [some (.ref a), x1, x2, x3] st h Q ↔ Runs 206 558 [some (.ref a), x1, x2, x3] (.ref a :: st) h Q := R_aldn rfl rfl
theorem s206_557q : Runs 206 557 [some (zrf r), x1, x2, x3] st h Q ↔ Runs 206 558 [some (zrf r), x1, x2, x3] (zrf r :: st) h Q := R_aldnq rfl rfl
theorem s206_558 : Runs 206 558 [x0, x1, x2, some (.int i)] st h Q ↔ Runs 206 559 [x0, x1, x2, some (.int i)] (.int i :: st) h Q := R_ildn rfl rfl
theorem s206_559 : Runs 206 559 ls st h Q ↔ Runs 206 560 ls (.int 1 :: st) h Q := R_iconst rfl rfl
theorem s206_560 : Runs 206 560 ls (.int j :: .int i :: st) h Q ↔ Runs 206 561 ls (.int (i + j) :: st) h Q := R_iadd rfl
theorem s206_561 (ht : tg a = 20) : Runs 206 561 ls (.int i :: .ref a :: st) (n, tg, ln, I, J, O) Q ↔ ((0 ≤ i ∧ i < Int32.ofNat (ln a)) ∧ Runs 206 562 ls (.int (I a i) :: st) (n, tg, ln, I, J, O) Q) := R_iald rfl ht
theorem s206_561q (ht : tg a = 30) : Runs 206 561 ls (.int i :: .ref a :: st) (n, tg, ln, I, J, O) Q ↔ ((0 ≤ i ∧ i < Int32.ofNat (ln a)) ∧ Runs 206 562 ls (.int (I a i) :: st) (n, tg, ln, I, J, O) Q) := R_iald0 rfl ht
theorem s206_562 (ht : tg a = 9) (hs : zsumc st ≤ 8) : Runs 206 562 ls (.int i0 :: .ref a :: st) (n, tg, ln, I, J, O) Q ↔ Runs 97 0 [some (.ref a), some (.int i0)] [] (n, tg, ln, I, J, O) (fun v h2 => Runs 206 565 ls (v.toList ++ st) h2 Q) := R_callv (a := a) (rest := st) rfl rfl rfl rfl rfl rfl rfl ht hs
theorem s206_565 : Runs 206 565 [x0, x1, some (.ref a), x3] st h Q ↔ Runs 206 566 [x0, x1, some (.ref a), x3] (.ref a :: st) h Q := R_aldn rfl rfl
theorem s206_565q : Runs 206 565 [x0, x1, some (zrf r), x3] st h Q ↔ Runs 206 566 [x0, x1, some (zrf r), x3] (zrf r :: st) h Q := R_aldnq rfl rfl
theorem s206_566 : Runs 206 566 [some (.ref a), x1, x2, x3] st h Q ↔ Runs 206 567 [some (.ref a), x1, x2, x3] (.ref a :: st) h Q := R_aldn rfl rfl
theorem s206_566q : Runs 206 566 [some (zrf r), x1, x2, x3] st h Q ↔ Runs 206 567 [some (zrf r), x1, x2, x3] (zrf r :: st) h Q := R_aldnq rfl rfl
theorem s206_567 : Runs 206 567 [x0, x1, x2, some (.int i)] st h Q ↔ Runs 206 568 [x0, x1, x2, some (.int i)] (.int i :: st) h Q := R_ildn rfl rfl
theorem s206_568 : Runs 206 568 ls st h Q ↔ Runs 206 569 ls (.int 1 :: st) h Q := R_iconst rfl rfl
theorem s206_569 : Runs 206 569 ls (.int j :: .int i :: st) h Q ↔ Runs 206 570 ls (.int (i + j) :: st) h Q := R_iadd rfl
theorem s206_570 (ht : tg a = 20) : Runs 206 570 ls (.int i :: .ref a :: st) (n, tg, ln, I, J, O) Q ↔ ((0 ≤ i ∧ i < Int32.ofNat (ln a)) ∧ Runs 206 571 ls (.int (I a i) :: st) (n, tg, ln, I, J, O) Q) := R_iald rfl ht
theorem s206_570q (ht : tg a = 30) : Runs 206 570 ls (.int i :: .ref a :: st) (n, tg, ln, I, J, O) Q ↔ ((0 ≤ i ∧ i < Int32.ofNat (ln a)) ∧ Runs 206 571 ls (.int (I a i) :: st) (n, tg, ln, I, J, O) Q) := R_iald0 rfl ht
theorem s206_571 (ht : tg a = 10) (hs : zsumc st ≤ 8) : Runs 206 571 ls (.int i0 :: .ref a :: st) (n, tg, ln, I, J, O) Q ↔ Runs 177 0 [some (.ref a), some (.int i0)] [] (n, tg, ln, I, J, O) (fun v h2 => Runs 206 574 ls (v.toList ++ st) h2 Q) := R_callv (a := a) (rest := st) rfl rfl rfl rfl rfl rfl rfl ht hs
theorem s206_574 : Runs 206 574 ls (.int j :: .int i :: st) h Q ↔ if i = j then Runs 206 1193 ls st h Q else Runs 206 577 ls st h Q := R_iceq rfl rfl
theorem s206_577 : Runs 206 577 ls st h Q ↔ Runs 206 578 ls (.int 0 :: st) h Q := R_iconst rfl rfl
theorem s206_578 (hx : i = 0 ∨ i = 1) : Runs 206 578 ls [.int i] h Q ↔ Q (some (.int i)) h := R_zret rfl rfl hx
theorem s206_579 : Runs 206 579 [x0, some (.ref a), x2, x3] st h Q ↔ Runs 206 580 [x0, some (.ref a), x2, x3] (.ref a :: st) h Q := R_aldn rfl rfl
theorem s206_579q : Runs 206 579 [x0, some (zrf r), x2, x3] st h Q ↔ Runs 206 580 [x0, some (zrf r), x2, x3] (zrf r :: st) h Q := R_aldnq rfl rfl
theorem s206_580 : Runs 206 580 [some (.ref a), x1, x2, x3] st h Q ↔ Runs 206 581 [some (.ref a), x1, x2, x3] (.ref a :: st) h Q := R_aldn rfl rfl
theorem s206_580q : Runs 206 580 [some (zrf r), x1, x2, x3] st h Q ↔ Runs 206 581 [some (zrf r), x1, x2, x3] (zrf r :: st) h Q := R_aldnq rfl rfl
theorem s206_581 : Runs 206 581 [x0, x1, x2, some (.int i)] st h Q ↔ Runs 206 582 [x0, x1, x2, some (.int i)] (.int i :: st) h Q := R_ildn rfl rfl
theorem s206_582 : Runs 206 582 ls st h Q ↔ Runs 206 583 ls (.int 1 :: st) h Q := R_iconst rfl rfl
theorem s206_583 : Runs 206 583 ls (.int j :: .int i :: st) h Q ↔ Runs 206 584 ls (.int (i + j) :: st) h Q := R_iadd rfl
theorem s206_584 (ht : tg a = 20) : Runs 206 584 ls (.int i :: .ref a :: st) (n, tg, ln, I, J, O) Q ↔ ((0 ≤ i ∧ i < Int32.ofNat (ln a)) ∧ Runs 206 585 ls (.int (I a i) :: st) (n, tg, ln, I, J, O) Q) := R_iald rfl ht
theorem s206_584q (ht : tg a = 30) : Runs 206 584 ls (.int i :: .ref a :: st) (n, tg, ln, I, J, O) Q ↔ ((0 ≤ i ∧ i < Int32.ofNat (ln a)) ∧ Runs 206 585 ls (.int (I a i) :: st) (n, tg, ln, I, J, O) Q) := R_iald0 rfl ht
theorem s206_585 : Runs 206 585 [some (.ref a), x1, x2, x3] st h Q ↔ Runs 206 586 [some (.ref a), x1, x2, x3] (.ref a :: st) h Q := R_aldn rfl rfl
theorem s206_585q : Runs 206 585 [some (zrf r), x1, x2, x3] st h Q ↔ Runs 206 586 [some (zrf r), x1, x2, x3] (zrf r :: st) h Q := R_aldnq rfl rfl
theorem s206_586 : Runs 206 586 [x0, x1, x2, some (.int i)] st h Q ↔ Runs 206 587 [x0, x1, x2, some (.int i)] (.int i :: st) h Q := R_ildn rfl rfl
theorem s206_587 : Runs 206 587 ls st h Q ↔ Runs 206 588 ls (.int 2 :: st) h Q := R_iconst rfl rfl
theorem s206_588 : Runs 206 588 ls (.int j :: .int i :: st) h Q ↔ Runs 206 589 ls (.int (i + j) :: st) h Q := R_iadd rfl
theorem s206_589 (ht : tg a = 20) : Runs 206 589 ls (.int i :: .ref a :: st) (n, tg, ln, I, J, O) Q ↔ ((0 ≤ i ∧ i < Int32.ofNat (ln a)) ∧ Runs 206 590 ls (.int (I a i) :: st) (n, tg, ln, I, J, O) Q) := R_iald rfl ht
theorem s206_589q (ht : tg a = 30) : Runs 206 589 ls (.int i :: .ref a :: st) (n, tg, ln, I, J, O) Q ↔ ((0 ≤ i ∧ i < Int32.ofNat (ln a)) ∧ Runs 206 590 ls (.int (I a i) :: st) (n, tg, ln, I, J, O) Q) := R_iald0 rfl ht
theorem s206_590 (ht : tg a = 9) (hs : zsumc st ≤ 8) : Runs 206 590 ls (.int i1 :: .int i0 :: .ref a :: st) (n, tg, ln, I, J, O) Q ↔ Runs 98 0 [some (.ref a), some (.int i0), some (.int i1), none] [] (n, tg, ln, I, J, O) (fun v h2 => Runs 206 593 ls (v.toList ++ st) h2 Q) := R_callv (a := a) (rest := st) rfl rfl rfl rfl rfl rfl rfl ht hs
theorem s206_593 : Runs 206 593 [x0, x1, some (.ref a), x3] st h Q ↔ Runs 206 594 [x0, x1, some (.ref a), x3] (.ref a :: st) h Q := R_aldn rfl rfl
theorem s206_593q : Runs 206 593 [x0, x1, some (zrf r), x3] st h Q ↔ Runs 206 594 [x0, x1, some (zrf r), x3] (zrf r :: st) h Q := R_aldnq rfl rfl
theorem s206_594 : Runs 206 594 [some (.ref a), x1, x2, x3] st h Q ↔ Runs 206 595 [some (.ref a), x1, x2, x3] (.ref a :: st) h Q := R_aldn rfl rfl
theorem s206_594q : Runs 206 594 [some (zrf r), x1, x2, x3] st h Q ↔ Runs 206 595 [some (zrf r), x1, x2, x3] (zrf r :: st) h Q := R_aldnq rfl rfl
theorem s206_595 : Runs 206 595 [x0, x1, x2, some (.int i)] st h Q ↔ Runs 206 596 [x0, x1, x2, some (.int i)] (.int i :: st) h Q := R_ildn rfl rfl
theorem s206_596 : Runs 206 596 ls st h Q ↔ Runs 206 597 ls (.int 1 :: st) h Q := R_iconst rfl rfl
theorem s206_597 : Runs 206 597 ls (.int j :: .int i :: st) h Q ↔ Runs 206 598 ls (.int (i + j) :: st) h Q := R_iadd rfl
theorem s206_598 (ht : tg a = 20) : Runs 206 598 ls (.int i :: .ref a :: st) (n, tg, ln, I, J, O) Q ↔ ((0 ≤ i ∧ i < Int32.ofNat (ln a)) ∧ Runs 206 599 ls (.int (I a i) :: st) (n, tg, ln, I, J, O) Q) := R_iald rfl ht
theorem s206_598q (ht : tg a = 30) : Runs 206 598 ls (.int i :: .ref a :: st) (n, tg, ln, I, J, O) Q ↔ ((0 ≤ i ∧ i < Int32.ofNat (ln a)) ∧ Runs 206 599 ls (.int (I a i) :: st) (n, tg, ln, I, J, O) Q) := R_iald0 rfl ht
theorem s206_599 : Runs 206 599 [some (.ref a), x1, x2, x3] st h Q ↔ Runs 206 600 [some (.ref a), x1, x2, x3] (.ref a :: st) h Q := R_aldn rfl rfl
theorem s206_599q : Runs 206 599 [some (zrf r), x1, x2, x3] st h Q ↔ Runs 206 600 [some (zrf r), x1, x2, x3] (zrf r :: st) h Q := R_aldnq rfl rfl
theorem s206_600 : Runs 206 600 [x0, x1, x2, some (.int i)] st h Q ↔ Runs 206 601 [x0, x1, x2, some (.int i)] (.int i :: st) h Q := R_ildn rfl rfl
theorem s206_601 : Runs 206 601 ls st h Q ↔ Runs 206 602 ls (.int 2 :: st) h Q := R_iconst rfl rfl
theorem s206_602 : Runs 206 602 ls (.int j :: .int i :: st) h Q ↔ Runs 206 603 ls (.int (i + j) :: st) h Q := R_iadd rfl
theorem s206_603 (ht : tg a = 20) : Runs 206 603 ls (.int i :: .ref a :: st) (n, tg, ln, I, J, O) Q ↔ ((0 ≤ i ∧ i < Int32.ofNat (ln a)) ∧ Runs 206 604 ls (.int (I a i) :: st) (n, tg, ln, I, J, O) Q) := R_iald rfl ht
theorem s206_603q (ht : tg a = 30) : Runs 206 603 ls (.int i :: .ref a :: st) (n, tg, ln, I, J, O) Q ↔ ((0 ≤ i ∧ i < Int32.ofNat (ln a)) ∧ Runs 206 604 ls (.int (I a i) :: st) (n, tg, ln, I, J, O) Q) := R_iald0 rfl ht
theorem s206_604 (ht : tg a = 10) (hs : zsumc st ≤ 8) : Runs 206 604 ls (.int i1 :: .int i0 :: .ref a :: st) (n, tg, ln, I, J, O) Q ↔ Runs 178 0 [some (.ref a), some (.int i0), some (.int i1), none] [] (n, tg, ln, I, J, O) (fun v h2 => Runs 206 607 ls (v.toList ++ st) h2 Q) := R_callv (a := a) (rest := st) rfl rfl rfl rfl rfl rfl rfl ht hs
theorem s206_607 : Runs 206 607 ls (.int j :: .int i :: st) h Q ↔ if i = j then Runs 206 1193 ls st h Q else Runs 206 610 ls st h Q := R_iceq rfl rfl
theorem s206_610 : Runs 206 610 ls st h Q ↔ Runs 206 611 ls (.int 0 :: st) h Q := R_iconst rfl rfl
theorem s206_611 (hx : i = 0 ∨ i = 1) : Runs 206 611 ls [.int i] h Q ↔ Q (some (.int i)) h := R_zret rfl rfl hx
theorem s206_612 : Runs 206 612 [x0, some (.ref a), x2, x3] st h Q ↔ Runs 206 613 [x0, some (.ref a), x2, x3] (.ref a :: st) h Q := R_aldn rfl rfl
theorem s206_612q : Runs 206 612 [x0, some (zrf r), x2, x3] st h Q ↔ Runs 206 613 [x0, some (zrf r), x2, x3] (zrf r :: st) h Q := R_aldnq rfl rfl
theorem s206_613 : Runs 206 613 [some (.ref a), x1, x2, x3] st h Q ↔ Runs 206 614 [some (.ref a), x1, x2, x3] (.ref a :: st) h Q := R_aldn rfl rfl
theorem s206_613q : Runs 206 613 [some (zrf r), x1, x2, x3] st h Q ↔ Runs 206 614 [some (zrf r), x1, x2, x3] (zrf r :: st) h Q := R_aldnq rfl rfl
theorem s206_614 : Runs 206 614 [x0, x1, x2, some (.int i)] st h Q ↔ Runs 206 615 [x0, x1, x2, some (.int i)] (.int i :: st) h Q := R_ildn rfl rfl
theorem s206_615 : Runs 206 615 ls st h Q ↔ Runs 206 616 ls (.int 1 :: st) h Q := R_iconst rfl rfl
theorem s206_616 : Runs 206 616 ls (.int j :: .int i :: st) h Q ↔ Runs 206 617 ls (.int (i + j) :: st) h Q := R_iadd rfl
theorem s206_617 (ht : tg a = 20) : Runs 206 617 ls (.int i :: .ref a :: st) (n, tg, ln, I, J, O) Q ↔ ((0 ≤ i ∧ i < Int32.ofNat (ln a)) ∧ Runs 206 618 ls (.int (I a i) :: st) (n, tg, ln, I, J, O) Q) := R_iald rfl ht
theorem s206_617q (ht : tg a = 30) : Runs 206 617 ls (.int i :: .ref a :: st) (n, tg, ln, I, J, O) Q ↔ ((0 ≤ i ∧ i < Int32.ofNat (ln a)) ∧ Runs 206 618 ls (.int (I a i) :: st) (n, tg, ln, I, J, O) Q) := R_iald0 rfl ht
theorem s206_618 (ht : tg a = 9) (hs : zsumc st ≤ 8) : Runs 206 618 ls (.int i0 :: .ref a :: st) (n, tg, ln, I, J, O) Q ↔ Runs 99 0 [some (.ref a), some (.int i0), none, none, none] [] (n, tg, ln, I, J, O) (fun v h2 => Runs 206 621 ls (v.toList ++ st) h2 Q) := R_callv (a := a) (rest := st) rfl rfl rfl rfl rfl rfl rfl ht hs
theorem s206_621 : Runs 206 621 [x0, x1, some (.ref a), x3] st h Q ↔ Runs 206 622 [x0, x1, some (.ref a), x3] (.ref a :: st) h Q := R_aldn rfl rfl
theorem s206_621q : Runs 206 621 [x0, x1, some (zrf r), x3] st h Q ↔ Runs 206 622 [x0, x1, some (zrf r), x3] (zrf r :: st) h Q := R_aldnq rfl rfl
theorem s206_622 : Runs 206 622 [some (.ref a), x1, x2, x3] st h Q ↔ Runs 206 623 [some (.ref a), x1, x2, x3] (.ref a :: st) h Q := R_aldn rfl rfl
theorem s206_622q : Runs 206 622 [some (zrf r), x1, x2, x3] st h Q ↔ Runs 206 623 [some (zrf r), x1, x2, x3] (zrf r :: st) h Q := R_aldnq rfl rfl
theorem s206_623 : Runs 206 623 [x0, x1, x2, some (.int i)] st h Q ↔ Runs 206 624 [x0, x1, x2, some (.int i)] (.int i :: st) h Q := R_ildn rfl rfl
theorem s206_624 : Runs 206 624 ls st h Q ↔ Runs 206 625 ls (.int 1 :: st) h Q := R_iconst rfl rfl
theorem s206_625 : Runs 206 625 ls (.int j :: .int i :: st) h Q ↔ Runs 206 626 ls (.int (i + j) :: st) h Q := R_iadd rfl
theorem s206_626 (ht : tg a = 20) : Runs 206 626 ls (.int i :: .ref a :: st) (n, tg, ln, I, J, O) Q ↔ ((0 ≤ i ∧ i < Int32.ofNat (ln a)) ∧ Runs 206 627 ls (.int (I a i) :: st) (n, tg, ln, I, J, O) Q) := R_iald rfl ht
theorem s206_626q (ht : tg a = 30) : Runs 206 626 ls (.int i :: .ref a :: st) (n, tg, ln, I, J, O) Q ↔ ((0 ≤ i ∧ i < Int32.ofNat (ln a)) ∧ Runs 206 627 ls (.int (I a i) :: st) (n, tg, ln, I, J, O) Q) := R_iald0 rfl ht
theorem s206_627 (ht : tg a = 10) (hs : zsumc st ≤ 8) : Runs 206 627 ls (.int i0 :: .ref a :: st) (n, tg, ln, I, J, O) Q ↔ Runs 179 0 [some (.ref a), some (.int i0), none, none, none, none] [] (n, tg, ln, I, J, O) (fun v h2 => Runs 206 630 ls (v.toList ++ st) h2 Q) := R_callv (a := a) (rest := st) rfl rfl rfl rfl rfl rfl rfl ht hs
theorem s206_630 : Runs 206 630 ls (.int j :: .int i :: st) h Q ↔ if i = j then Runs 206 1193 ls st h Q else Runs 206 633 ls st h Q := R_iceq rfl rfl
theorem s206_633 : Runs 206 633 ls st h Q ↔ Runs 206 634 ls (.int 0 :: st) h Q := R_iconst rfl rfl
theorem s206_634 (hx : i = 0 ∨ i = 1) : Runs 206 634 ls [.int i] h Q ↔ Q (some (.int i)) h := R_zret rfl rfl hx
theorem s206_635 : Runs 206 635 [x0, some (.ref a), x2, x3] st h Q ↔ Runs 206 636 [x0, some (.ref a), x2, x3] (.ref a :: st) h Q := R_aldn rfl rfl
theorem s206_635q : Runs 206 635 [x0, some (zrf r), x2, x3] st h Q ↔ Runs 206 636 [x0, some (zrf r), x2, x3] (zrf r :: st) h Q := R_aldnq rfl rfl
theorem s206_636 : Runs 206 636 [some (.ref a), x1, x2, x3] st h Q ↔ Runs 206 637 [some (.ref a), x1, x2, x3] (.ref a :: st) h Q := R_aldn rfl rfl
theorem s206_636q : Runs 206 636 [some (zrf r), x1, x2, x3] st h Q ↔ Runs 206 637 [some (zrf r), x1, x2, x3] (zrf r :: st) h Q := R_aldnq rfl rfl
theorem s206_637 : Runs 206 637 [x0, x1, x2, some (.int i)] st h Q ↔ Runs 206 638 [x0, x1, x2, some (.int i)] (.int i :: st) h Q := R_ildn rfl rfl
theorem s206_638 : Runs 206 638 ls st h Q ↔ Runs 206 639 ls (.int 1 :: st) h Q := R_iconst rfl rfl
theorem s206_639 : Runs 206 639 ls (.int j :: .int i :: st) h Q ↔ Runs 206 640 ls (.int (i + j) :: st) h Q := R_iadd rfl
theorem s206_640 (ht : tg a = 20) : Runs 206 640 ls (.int i :: .ref a :: st) (n, tg, ln, I, J, O) Q ↔ ((0 ≤ i ∧ i < Int32.ofNat (ln a)) ∧ Runs 206 641 ls (.int (I a i) :: st) (n, tg, ln, I, J, O) Q) := R_iald rfl ht
theorem s206_640q (ht : tg a = 30) : Runs 206 640 ls (.int i :: .ref a :: st) (n, tg, ln, I, J, O) Q ↔ ((0 ≤ i ∧ i < Int32.ofNat (ln a)) ∧ Runs 206 641 ls (.int (I a i) :: st) (n, tg, ln, I, J, O) Q) := R_iald0 rfl ht
theorem s206_641 : Runs 206 641 [some (.ref a), x1, x2, x3] st h Q ↔ Runs 206 642 [some (.ref a), x1, x2, x3] (.ref a :: st) h Q := R_aldn rfl rfl
theorem s206_641q : Runs 206 641 [some (zrf r), x1, x2, x3] st h Q ↔ Runs 206 642 [some (zrf r), x1, x2, x3] (zrf r :: st) h Q := R_aldnq rfl rfl
theorem s206_642 : Runs 206 642 [x0, x1, x2, some (.int i)] st h Q ↔ Runs 206 643 [x0, x1, x2, some (.int i)] (.int i :: st) h Q := R_ildn rfl rfl
theorem s206_643 : Runs 206 643 ls st h Q ↔ Runs 206 644 ls (.int 2 :: st) h Q := R_iconst rfl rfl
theorem s206_644 : Runs 206 644 ls (.int j :: .int i :: st) h Q ↔ Runs 206 645 ls (.int (i + j) :: st) h Q := R_iadd rfl
theorem s206_645 (ht : tg a = 20) : Runs 206 645 ls (.int i :: .ref a :: st) (n, tg, ln, I, J, O) Q ↔ ((0 ≤ i ∧ i < Int32.ofNat (ln a)) ∧ Runs 206 646 ls (.int (I a i) :: st) (n, tg, ln, I, J, O) Q) := R_iald rfl ht
theorem s206_645q (ht : tg a = 30) : Runs 206 645 ls (.int i :: .ref a :: st) (n, tg, ln, I, J, O) Q ↔ ((0 ≤ i ∧ i < Int32.ofNat (ln a)) ∧ Runs 206 646 ls (.int (I a i) :: st) (n, tg, ln, I, J, O) Q) := R_iald0 rfl ht
theorem s206_646 (ht : tg a = 9) (hs : zsumc st ≤ 8) : Runs 206 646 ls (.int i1 :: .int i0 :: .ref a :: st) (n, tg, ln, I, J, O) Q ↔ Runs 100 0 [some (.ref a), some (.int i0), some (.int i1), none, none, none, none] [] (n, tg, ln, I, J, O) (fun v h2 => Runs 206 649 ls (v.toList ++ st) h2 Q) := R_callv (a := a) (rest := st) rfl rfl rfl rfl rfl rfl rfl ht hs
theorem s206_649 : Runs 206 649 [x0, x1, some (.ref a), x3] st h Q ↔ Runs 206 650 [x0, x1, some (.ref a), x3] (.ref a :: st) h Q := R_aldn rfl rfl
theorem s206_649q : Runs 206 649 [x0, x1, some (zrf r), x3] st h Q ↔ Runs 206 650 [x0, x1, some (zrf r), x3] (zrf r :: st) h Q := R_aldnq rfl rfl
theorem s206_650 : Runs 206 650 [some (.ref a), x1, x2, x3] st h Q ↔ Runs 206 651 [some (.ref a), x1, x2, x3] (.ref a :: st) h Q := R_aldn rfl rfl
theorem s206_650q : Runs 206 650 [some (zrf r), x1, x2, x3] st h Q ↔ Runs 206 651 [some (zrf r), x1, x2, x3] (zrf r :: st) h Q := R_aldnq rfl rfl
theorem s206_651 : Runs 206 651 [x0, x1, x2, some (.int i)] st h Q ↔ Runs 206 652 [x0, x1, x2, some (.int i)] (.int i :: st) h Q := R_ildn rfl rfl
theorem s206_652 : Runs 206 652 ls st h Q ↔ Runs 206 653 ls (.int 1 :: st) h Q := R_iconst rfl rfl
theorem s206_653 : Runs 206 653 ls (.int j :: .int i :: st) h Q ↔ Runs 206 654 ls (.int (i + j) :: st) h Q := R_iadd rfl
theorem s206_654 (ht : tg a = 20) : Runs 206 654 ls (.int i :: .ref a :: st) (n, tg, ln, I, J, O) Q ↔ ((0 ≤ i ∧ i < Int32.ofNat (ln a)) ∧ Runs 206 655 ls (.int (I a i) :: st) (n, tg, ln, I, J, O) Q) := R_iald rfl ht
theorem s206_654q (ht : tg a = 30) : Runs 206 654 ls (.int i :: .ref a :: st) (n, tg, ln, I, J, O) Q ↔ ((0 ≤ i ∧ i < Int32.ofNat (ln a)) ∧ Runs 206 655 ls (.int (I a i) :: st) (n, tg, ln, I, J, O) Q) := R_iald0 rfl ht
theorem s206_655 : Runs 206 655 [some (.ref a), x1, x2, x3] st h Q ↔ Runs 206 656 [some (.ref a), x1, x2, x3] (.ref a :: st) h Q := R_aldn rfl rfl
theorem s206_655q : Runs 206 655 [some (zrf r), x1, x2, x3] st h Q ↔ Runs 206 656 [some (zrf r), x1, x2, x3] (zrf r :: st) h Q := R_aldnq rfl rfl
theorem s206_656 : Runs 206 656 [x0, x1, x2, some (.int i)] st h Q ↔ Runs 206 657 [x0, x1, x2, some (.int i)] (.int i :: st) h Q := R_ildn rfl rfl
theorem s206_657 : Runs 206 657 ls st h Q ↔ Runs 206 658 ls (.int 2 :: st) h Q := R_iconst rfl rfl
theorem s206_658 : Runs 206 658 ls (.int j :: .int i :: st) h Q ↔ Runs 206 659 ls (.int (i + j) :: st) h Q := R_iadd rfl
theorem s206_659 (ht : tg a = 20) : Runs 206 659 ls (.int i :: .ref a :: st) (n, tg, ln, I, J, O) Q ↔ ((0 ≤ i ∧ i < Int32.ofNat (ln a)) ∧ Runs 206 660 ls (.int (I a i) :: st) (n, tg, ln, I, J, O) Q) := R_iald rfl ht
theorem s206_659q (ht : tg a = 30) : Runs 206 659 ls (.int i :: .ref a :: st) (n, tg, ln, I, J, O) Q ↔ ((0 ≤ i ∧ i < Int32.ofNat (ln a)) ∧ Runs 206 660 ls (.int (I a i) :: st) (n, tg, ln, I, J, O) Q) := R_iald0 rfl ht
theorem s206_660 (ht : tg a = 10) (hs : zsumc st ≤ 8) : Runs 206 660 ls (.int i1 :: .int i0 :: .ref a :: st) (n, tg, ln, I, J, O) Q ↔ Runs 181 0 [some (.ref a), some (.int i0), some (.int i1), none, none] [] (n, tg, ln, I, J, O) (fun v h2 => Runs 206 663 ls (v.toList ++ st) h2 Q) := R_callv (a := a) (rest := st) rfl rfl rfl rfl rfl rfl rfl ht hs
theorem s206_663 : Runs 206 663 ls (.int j :: .int i :: st) h Q ↔ if i = j then Runs 206 1193 ls st h Q else Runs 206 666 ls st h Q := R_iceq rfl rfl
theorem s206_666 : Runs 206 666 ls st h Q ↔ Runs 206 667 ls (.int 0 :: st) h Q := R_iconst rfl rfl
theorem s206_667 (hx : i = 0 ∨ i = 1) : Runs 206 667 ls [.int i] h Q ↔ Q (some (.int i)) h := R_zret rfl rfl hx
theorem s206_668 : Runs 206 668 [x0, some (.ref a), x2, x3] st h Q ↔ Runs 206 669 [x0, some (.ref a), x2, x3] (.ref a :: st) h Q := R_aldn rfl rfl
theorem s206_668q : Runs 206 668 [x0, some (zrf r), x2, x3] st h Q ↔ Runs 206 669 [x0, some (zrf r), x2, x3] (zrf r :: st) h Q := R_aldnq rfl rfl
theorem s206_669 : Runs 206 669 [some (.ref a), x1, x2, x3] st h Q ↔ Runs 206 670 [some (.ref a), x1, x2, x3] (.ref a :: st) h Q := R_aldn rfl rfl
theorem s206_669q : Runs 206 669 [some (zrf r), x1, x2, x3] st h Q ↔ Runs 206 670 [some (zrf r), x1, x2, x3] (zrf r :: st) h Q := R_aldnq rfl rfl
theorem s206_670 : Runs 206 670 [x0, x1, x2, some (.int i)] st h Q ↔ Runs 206 671 [x0, x1, x2, some (.int i)] (.int i :: st) h Q := R_ildn rfl rfl
theorem s206_671 : Runs 206 671 ls st h Q ↔ Runs 206 672 ls (.int 1 :: st) h Q := R_iconst rfl rfl
theorem s206_672 : Runs 206 672 ls (.int j :: .int i :: st) h Q ↔ Runs 206 673 ls (.int (i + j) :: st) h Q := R_iadd rfl
theorem s206_673 (ht : tg a = 20) : Runs 206 673 ls (.int i :: .ref a :: st) (n, tg, ln, I, J, O) Q ↔ ((0 ≤ i ∧ i < Int32.ofNat (ln a)) ∧ Runs 206 674 ls (.int (I a i) :: st) (n, tg, ln, I, J, O) Q) := R_iald rfl ht
theorem s206_673q (ht : tg a = 30) : Runs 206 673 ls (.int i :: .ref a :: st) (n, tg, ln, I, J, O) Q ↔ ((0 ≤ i ∧ i < Int32.ofNat (ln a)) ∧ Runs 206 674 ls (.int (I a i) :: st) (n, tg, ln, I, J, O) Q) := R_iald0 rfl ht
theorem s206_674 : Runs 206 674 [some (.ref a), x1, x2, x3] st h Q ↔ Runs 206 675 [some (.ref a), x1, x2, x3] (.ref a :: st) h Q := R_aldn rfl rfl
theorem s206_674q : Runs 206 674 [some (zrf r), x1, x2, x3] st h Q ↔ Runs 206 675 [some (zrf r), x1, x2, x3] (zrf r :: st) h Q := R_aldnq rfl rfl
theorem s206_675 : Runs 206 675 [x0, x1, x2, some (.int i)] st h Q ↔ Runs 206 676 [x0, x1, x2, some (.int i)] (.int i :: st) h Q := R_ildn rfl rfl
theorem s206_676 : Runs 206 676 ls st h Q ↔ Runs 206 677 ls (.int 2 :: st) h Q := R_iconst rfl rfl
theorem s206_677 : Runs 206 677 ls (.int j :: .int i :: st) h Q ↔ Runs 206 678 ls (.int (i + j) :: st) h Q := R_iadd rfl
theorem s206_678 (ht : tg a = 20) : Runs 206 678 ls (.int i :: .ref a :: st) (n, tg, ln, I, J, O) Q ↔ ((0 ≤ i ∧ i < Int32.ofNat (ln a)) ∧ Runs 206 679 ls (.int (I a i) :: st) (n, tg, ln, I, J, O) Q) := R_iald rfl ht
theorem s206_678q (ht : tg a = 30) : Runs 206 678 ls (.int i :: .ref a :: st) (n, tg, ln, I, J, O) Q ↔ ((0 ≤ i ∧ i < Int32.ofNat (ln a)) ∧ Runs 206 679 ls (.int (I a i) :: st) (n, tg, ln, I, J, O) Q) := R_iald0 rfl ht
theorem s206_679 (ht : tg a = 9) (hs : zsumc st ≤ 8) : Runs 206 679 ls (.int i1 :: .int i0 :: .ref a :: st) (n, tg, ln, I, J, O) Q ↔ Runs 101 0 [some (.ref a), some (.int i0), some (.int i1)] [] (n, tg, ln, I, J, O) (fun v h2 => Runs 206 682 ls (v.toList ++ st) h2 Q) := R_callv (a := a) (rest := st) rfl rfl rfl rfl rfl rfl rfl ht hs
theorem s206_682 : Runs 206 682 [x0, x1, some (.ref a), x3] st h Q ↔ Runs 206 683 [x0, x1, some (.ref a), x3] (.ref a :: st) h Q := R_aldn rfl rfl
theorem s206_682q : Runs 206 682 [x0, x1, some (zrf r), x3] st h Q ↔ Runs 206 683 [x0, x1, some (zrf r), x3] (zrf r :: st) h Q := R_aldnq rfl rfl
theorem s206_683 : Runs 206 683 [some (.ref a), x1, x2, x3] st h Q ↔ Runs 206 684 [some (.ref a), x1, x2, x3] (.ref a :: st) h Q := R_aldn rfl rfl
theorem s206_683q : Runs 206 683 [some (zrf r), x1, x2, x3] st h Q ↔ Runs 206 684 [some (zrf r), x1, x2, x3] (zrf r :: st) h Q := R_aldnq rfl rfl
theorem s206_684 : Runs 206 684 [x0, x1, x2, some (.int i)] st h Q ↔ Runs 206 685 [x0, x1, x2, some (.int i)] (.int i :: st) h Q := R_ildn rfl rfl
theorem s206_685 : Runs 206 685 ls st h Q ↔ Runs 206 686 ls (.int 1 :: st) h Q := R_iconst rfl rfl
theorem s206_686 : Runs 206 686 ls (.int j :: .int i :: st) h Q ↔ Runs 206 687 ls (.int (i + j) :: st) h Q := R_iadd rfl
theorem s206_687 (ht : tg a = 20) : Runs 206 687 ls (.int i :: .ref a :: st) (n, tg, ln, I, J, O) Q ↔ ((0 ≤ i ∧ i < Int32.ofNat (ln a)) ∧ Runs 206 688 ls (.int (I a i) :: st) (n, tg, ln, I, J, O) Q) := R_iald rfl ht
theorem s206_687q (ht : tg a = 30) : Runs 206 687 ls (.int i :: .ref a :: st) (n, tg, ln, I, J, O) Q ↔ ((0 ≤ i ∧ i < Int32.ofNat (ln a)) ∧ Runs 206 688 ls (.int (I a i) :: st) (n, tg, ln, I, J, O) Q) := R_iald0 rfl ht
theorem s206_688 : Runs 206 688 [some (.ref a), x1, x2, x3] st h Q ↔ Runs 206 689 [some (.ref a), x1, x2, x3] (.ref a :: st) h Q := R_aldn rfl rfl
theorem s206_688q : Runs 206 688 [some (zrf r), x1, x2, x3] st h Q ↔ Runs 206 689 [some (zrf r), x1, x2, x3] (zrf r :: st) h Q := R_aldnq rfl rfl
theorem s206_689 : Runs 206 689 [x0, x1, x2, some (.int i)] st h Q ↔ Runs 206 690 [x0, x1, x2, some (.int i)] (.int i :: st) h Q := R_ildn rfl rfl
theorem s206_690 : Runs 206 690 ls st h Q ↔ Runs 206 691 ls (.int 2 :: st) h Q := R_iconst rfl rfl
theorem s206_691 : Runs 206 691 ls (.int j :: .int i :: st) h Q ↔ Runs 206 692 ls (.int (i + j) :: st) h Q := R_iadd rfl
theorem s206_692 (ht : tg a = 20) : Runs 206 692 ls (.int i :: .ref a :: st) (n, tg, ln, I, J, O) Q ↔ ((0 ≤ i ∧ i < Int32.ofNat (ln a)) ∧ Runs 206 693 ls (.int (I a i) :: st) (n, tg, ln, I, J, O) Q) := R_iald rfl ht
theorem s206_692q (ht : tg a = 30) : Runs 206 692 ls (.int i :: .ref a :: st) (n, tg, ln, I, J, O) Q ↔ ((0 ≤ i ∧ i < Int32.ofNat (ln a)) ∧ Runs 206 693 ls (.int (I a i) :: st) (n, tg, ln, I, J, O) Q) := R_iald0 rfl ht
theorem s206_693 (ht : tg a = 10) (hs : zsumc st ≤ 8) : Runs 206 693 ls (.int i1 :: .int i0 :: .ref a :: st) (n, tg, ln, I, J, O) Q ↔ Runs 183 0 [some (.ref a), some (.int i0), some (.int i1), none, none, none] [] (n, tg, ln, I, J, O) (fun v h2 => Runs 206 696 ls (v.toList ++ st) h2 Q) := R_callv (a := a) (rest := st) rfl rfl rfl rfl rfl rfl rfl ht hs
theorem s206_696 : Runs 206 696 ls (.int j :: .int i :: st) h Q ↔ if i = j then Runs 206 1193 ls st h Q else Runs 206 699 ls st h Q := R_iceq rfl rfl
theorem s206_699 : Runs 206 699 ls st h Q ↔ Runs 206 700 ls (.int 0 :: st) h Q := R_iconst rfl rfl
theorem s206_700 (hx : i = 0 ∨ i = 1) : Runs 206 700 ls [.int i] h Q ↔ Q (some (.int i)) h := R_zret rfl rfl hx
theorem s206_701 : Runs 206 701 [x0, some (.ref a), x2, x3] st h Q ↔ Runs 206 702 [x0, some (.ref a), x2, x3] (.ref a :: st) h Q := R_aldn rfl rfl
theorem s206_701q : Runs 206 701 [x0, some (zrf r), x2, x3] st h Q ↔ Runs 206 702 [x0, some (zrf r), x2, x3] (zrf r :: st) h Q := R_aldnq rfl rfl
theorem s206_702 : Runs 206 702 [some (.ref a), x1, x2, x3] st h Q ↔ Runs 206 703 [some (.ref a), x1, x2, x3] (.ref a :: st) h Q := R_aldn rfl rfl
theorem s206_702q : Runs 206 702 [some (zrf r), x1, x2, x3] st h Q ↔ Runs 206 703 [some (zrf r), x1, x2, x3] (zrf r :: st) h Q := R_aldnq rfl rfl
theorem s206_703 : Runs 206 703 [x0, x1, x2, some (.int i)] st h Q ↔ Runs 206 704 [x0, x1, x2, some (.int i)] (.int i :: st) h Q := R_ildn rfl rfl
theorem s206_704 : Runs 206 704 ls st h Q ↔ Runs 206 705 ls (.int 1 :: st) h Q := R_iconst rfl rfl
theorem s206_705 : Runs 206 705 ls (.int j :: .int i :: st) h Q ↔ Runs 206 706 ls (.int (i + j) :: st) h Q := R_iadd rfl
theorem s206_706 (ht : tg a = 20) : Runs 206 706 ls (.int i :: .ref a :: st) (n, tg, ln, I, J, O) Q ↔ ((0 ≤ i ∧ i < Int32.ofNat (ln a)) ∧ Runs 206 707 ls (.int (I a i) :: st) (n, tg, ln, I, J, O) Q) := R_iald rfl ht
theorem s206_706q (ht : tg a = 30) : Runs 206 706 ls (.int i :: .ref a :: st) (n, tg, ln, I, J, O) Q ↔ ((0 ≤ i ∧ i < Int32.ofNat (ln a)) ∧ Runs 206 707 ls (.int (I a i) :: st) (n, tg, ln, I, J, O) Q) := R_iald0 rfl ht
theorem s206_707 (ht : tg a = 9) (hs : zsumc st ≤ 8) : Runs 206 707 ls (.int i0 :: .ref a :: st) (n, tg, ln, I, J, O) Q ↔ Runs 102 0 [some (.ref a), some (.int i0), none, none] [] (n, tg, ln, I, J, O) (fun v h2 => Runs 206 710 ls (v.toList ++ st) h2 Q) := R_callv (a := a) (rest := st) rfl rfl rfl rfl rfl rfl rfl ht hs
theorem s206_710 : Runs 206 710 [x0, x1, some (.ref a), x3] st h Q ↔ Runs 206 711 [x0, x1, some (.ref a), x3] (.ref a :: st) h Q := R_aldn rfl rfl
theorem s206_710q : Runs 206 710 [x0, x1, some (zrf r), x3] st h Q ↔ Runs 206 711 [x0, x1, some (zrf r), x3] (zrf r :: st) h Q := R_aldnq rfl rfl
theorem s206_711 : Runs 206 711 [some (.ref a), x1, x2, x3] st h Q ↔ Runs 206 712 [some (.ref a), x1, x2, x3] (.ref a :: st) h Q := R_aldn rfl rfl
theorem s206_711q : Runs 206 711 [some (zrf r), x1, x2, x3] st h Q ↔ Runs 206 712 [some (zrf r), x1, x2, x3] (zrf r :: st) h Q := R_aldnq rfl rfl
theorem s206_712 : Runs 206 712 [x0, x1, x2, some (.int i)] st h Q ↔ Runs 206 713 [x0, x1, x2, some (.int i)] (.int i :: st) h Q := R_ildn rfl rfl
theorem s206_713 : Runs 206 713 ls st h Q ↔ Runs 206 714 ls (.int 1 :: st) h Q := R_iconst rfl rfl
theorem s206_714 : Runs 206 714 ls (.int j :: .int i :: st) h Q ↔ Runs 206 715 ls (.int (i + j) :: st) h Q := R_iadd rfl
theorem s206_715 (ht : tg a = 20) : Runs 206 715 ls (.int i :: .ref a :: st) (n, tg, ln, I, J, O) Q ↔ ((0 ≤ i ∧ i < Int32.ofNat (ln a)) ∧ Runs 206 716 ls (.int (I a i) :: st) (n, tg, ln, I, J, O) Q) := R_iald rfl ht
theorem s206_715q (ht : tg a = 30) : Runs 206 715 ls (.int i :: .ref a :: st) (n, tg, ln, I, J, O) Q ↔ ((0 ≤ i ∧ i < Int32.ofNat (ln a)) ∧ Runs 206 716 ls (.int (I a i) :: st) (n, tg, ln, I, J, O) Q) := R_iald0 rfl ht
theorem s206_716 (ht : tg a = 10) (hs : zsumc st ≤ 8) : Runs 206 716 ls (.int i0 :: .ref a :: st) (n, tg, ln, I, J, O) Q ↔ Runs 184 0 [some (.ref a), some (.int i0), none, none, none, none] [] (n, tg, ln, I, J, O) (fun v h2 => Runs 206 719 ls (v.toList ++ st) h2 Q) := R_callv (a := a) (rest := st) rfl rfl rfl rfl rfl rfl rfl ht hs
theorem s206_719 : Runs 206 719 ls (.int j :: .int i :: st) h Q ↔ if i = j then Runs 206 1193 ls st h Q else Runs 206 722 ls st h Q := R_iceq rfl rfl
theorem s206_722 : Runs 206 722 ls st h Q ↔ Runs 206 723 ls (.int 0 :: st) h Q := R_iconst rfl rfl
theorem s206_723 (hx : i = 0 ∨ i = 1) : Runs 206 723 ls [.int i] h Q ↔ Q (some (.int i)) h := R_zret rfl rfl hx
theorem s206_724 : Runs 206 724 [x0, some (.ref a), x2, x3] st h Q ↔ Runs 206 725 [x0, some (.ref a), x2, x3] (.ref a :: st) h Q := R_aldn rfl rfl
theorem s206_724q : Runs 206 724 [x0, some (zrf r), x2, x3] st h Q ↔ Runs 206 725 [x0, some (zrf r), x2, x3] (zrf r :: st) h Q := R_aldnq rfl rfl
theorem s206_725 : Runs 206 725 [some (.ref a), x1, x2, x3] st h Q ↔ Runs 206 726 [some (.ref a), x1, x2, x3] (.ref a :: st) h Q := R_aldn rfl rfl
theorem s206_725q : Runs 206 725 [some (zrf r), x1, x2, x3] st h Q ↔ Runs 206 726 [some (zrf r), x1, x2, x3] (zrf r :: st) h Q := R_aldnq rfl rfl
theorem s206_726 : Runs 206 726 [x0, x1, x2, some (.int i)] st h Q ↔ Runs 206 727 [x0, x1, x2, some (.int i)] (.int i :: st) h Q := R_ildn rfl rfl
theorem s206_727 : Runs 206 727 ls st h Q ↔ Runs 206 728 ls (.int 1 :: st) h Q := R_iconst rfl rfl
theorem s206_728 : Runs 206 728 ls (.int j :: .int i :: st) h Q ↔ Runs 206 729 ls (.int (i + j) :: st) h Q := R_iadd rfl
theorem s206_729 (ht : tg a = 20) : Runs 206 729 ls (.int i :: .ref a :: st) (n, tg, ln, I, J, O) Q ↔ ((0 ≤ i ∧ i < Int32.ofNat (ln a)) ∧ Runs 206 730 ls (.int (I a i) :: st) (n, tg, ln, I, J, O) Q) := R_iald rfl ht
theorem s206_729q (ht : tg a = 30) : Runs 206 729 ls (.int i :: .ref a :: st) (n, tg, ln, I, J, O) Q ↔ ((0 ≤ i ∧ i < Int32.ofNat (ln a)) ∧ Runs 206 730 ls (.int (I a i) :: st) (n, tg, ln, I, J, O) Q) := R_iald0 rfl ht
theorem s206_730 : Runs 206 730 [some (.ref a), x1, x2, x3] st h Q ↔ Runs 206 731 [some (.ref a), x1, x2, x3] (.ref a :: st) h Q := R_aldn rfl rfl
theorem s206_730q : Runs 206 730 [some (zrf r), x1, x2, x3] st h Q ↔ Runs 206 731 [some (zrf r), x1, x2, x3] (zrf r :: st) h Q := R_aldnq rfl rfl
theorem s206_731 : Runs 206 731 [x0, x1, x2, some (.int i)] st h Q ↔ Runs 206 732 [x0, x1, x2, some (.int i)] (.int i :: st) h Q := R_ildn rfl rfl
theorem s206_732 : Runs 206 732 ls st h Q ↔ Runs 206 733 ls (.int 2 :: st) h Q := R_iconst rfl rfl
theorem s206_733 : Runs 206 733 ls (.int j :: .int i :: st) h Q ↔ Runs 206 734 ls (.int (i + j) :: st) h Q := R_iadd rfl
theorem s206_734 (ht : tg a = 20) : Runs 206 734 ls (.int i :: .ref a :: st) (n, tg, ln, I, J, O) Q ↔ ((0 ≤ i ∧ i < Int32.ofNat (ln a)) ∧ Runs 206 735 ls (.int (I a i) :: st) (n, tg, ln, I, J, O) Q) := R_iald rfl ht
theorem s206_734q (ht : tg a = 30) : Runs 206 734 ls (.int i :: .ref a :: st) (n, tg, ln, I, J, O) Q ↔ ((0 ≤ i ∧ i < Int32.ofNat (ln a)) ∧ Runs 206 735 ls (.int (I a i) :: st) (n, tg, ln, I, J, O) Q) := R_iald0 rfl ht
theorem s206_735 (ht : tg a = 9) (hs : zsumc st ≤ 8) : Runs 206 735 ls (.int i1 :: .int i0 :: .ref a :: st) (n, tg, ln, I, J, O) Q ↔ Runs 103 0 [some (.ref a), some (.int i0), some (.int i1)] [] (n, tg, ln, I, J, O) (fun v h2 => Runs 206 738 ls (v.toList ++ st) h2 Q) := R_callv (a := a) (rest := st) rfl rfl rfl rfl rfl rfl rfl ht hs
theorem s206_738 : Runs 206 738 [x0, x1, some (.ref a), x3] st h Q ↔ Runs 206 739 [x0, x1, some (.ref a), x3] (.ref a :: st) h Q := R_aldn rfl rfl
theorem s206_738q : Runs 206 738 [x0, x1, some (zrf r), x3] st h Q ↔ Runs 206 739 [x0, x1, some (zrf r), x3] (zrf r :: st) h Q := R_aldnq rfl rfl
theorem s206_739 : Runs 206 739 [some (.ref a), x1, x2, x3] st h Q ↔ Runs 206 740 [some (.ref a), x1, x2, x3] (.ref a :: st) h Q := R_aldn rfl rfl
theorem s206_739q : Runs 206 739 [some (zrf r), x1, x2, x3] st h Q ↔ Runs 206 740 [some (zrf r), x1, x2, x3] (zrf r :: st) h Q := R_aldnq rfl rfl
theorem s206_740 : Runs 206 740 [x0, x1, x2, some (.int i)] st h Q ↔ Runs 206 741 [x0, x1, x2, some (.int i)] (.int i :: st) h Q := R_ildn rfl rfl
theorem s206_741 : Runs 206 741 ls st h Q ↔ Runs 206 742 ls (.int 1 :: st) h Q := R_iconst rfl rfl
theorem s206_742 : Runs 206 742 ls (.int j :: .int i :: st) h Q ↔ Runs 206 743 ls (.int (i + j) :: st) h Q := R_iadd rfl
theorem s206_743 (ht : tg a = 20) : Runs 206 743 ls (.int i :: .ref a :: st) (n, tg, ln, I, J, O) Q ↔ ((0 ≤ i ∧ i < Int32.ofNat (ln a)) ∧ Runs 206 744 ls (.int (I a i) :: st) (n, tg, ln, I, J, O) Q) := R_iald rfl ht
theorem s206_743q (ht : tg a = 30) : Runs 206 743 ls (.int i :: .ref a :: st) (n, tg, ln, I, J, O) Q ↔ ((0 ≤ i ∧ i < Int32.ofNat (ln a)) ∧ Runs 206 744 ls (.int (I a i) :: st) (n, tg, ln, I, J, O) Q) := R_iald0 rfl ht
theorem s206_744 : Runs 206 744 [some (.ref a), x1, x2, x3] st h Q ↔ Runs 206 745 [some (.ref a), x1, x2, x3] (.ref a :: st) h Q := R_aldn rfl rfl
theorem s206_744q : Runs 206 744 [some (zrf r), x1, x2, x3] st h Q ↔ Runs 206 745 [some (zrf r), x1, x2, x3] (zrf r :: st) h Q := R_aldnq rfl rfl
theorem s206_745 : Runs 206 745 [x0, x1, x2, some (.int i)] st h Q ↔ Runs 206 746 [x0, x1, x2, some (.int i)] (.int i :: st) h Q := R_ildn rfl rfl
theorem s206_746 : Runs 206 746 ls st h Q ↔ Runs 206 747 ls (.int 2 :: st) h Q := R_iconst rfl rfl
theorem s206_747 : Runs 206 747 ls (.int j :: .int i :: st) h Q ↔ Runs 206 748 ls (.int (i + j) :: st) h Q := R_iadd rfl
theorem s206_748 (ht : tg a = 20) : Runs 206 748 ls (.int i :: .ref a :: st) (n, tg, ln, I, J, O) Q ↔ ((0 ≤ i ∧ i < Int32.ofNat (ln a)) ∧ Runs 206 749 ls (.int (I a i) :: st) (n, tg, ln, I, J, O) Q) := R_iald rfl ht
theorem s206_748q (ht : tg a = 30) : Runs 206 748 ls (.int i :: .ref a :: st) (n, tg, ln, I, J, O) Q ↔ ((0 ≤ i ∧ i < Int32.ofNat (ln a)) ∧ Runs 206 749 ls (.int (I a i) :: st) (n, tg, ln, I, J, O) Q) := R_iald0 rfl ht
theorem s206_749 (ht : tg a = 10) (hs : zsumc st ≤ 8) : Runs 206 749 ls (.int i1 :: .int i0 :: .ref a :: st) (n, tg, ln, I, J, O) Q ↔ Runs 185 0 [some (.ref a), some (.int i0), some (.int i1)] [] (n, tg, ln, I, J, O) (fun v h2 => Runs 206 752 ls (v.toList ++ st) h2 Q) := R_callv (a := a) (rest := st) rfl rfl rfl rfl rfl rfl rfl ht hs
theorem s206_752 : Runs 206 752 ls (.int j :: .int i :: st) h Q ↔ if i = j then Runs 206 1193 ls st h Q else Runs 206 755 ls st h Q := R_iceq rfl rfl
theorem s206_755 : Runs 206 755 ls st h Q ↔ Runs 206 756 ls (.int 0 :: st) h Q := R_iconst rfl rfl
theorem s206_756 (hx : i = 0 ∨ i = 1) : Runs 206 756 ls [.int i] h Q ↔ Q (some (.int i)) h := R_zret rfl rfl hx
theorem s206_757 : Runs 206 757 [x0, some (.ref a), x2, x3] st h Q ↔ Runs 206 758 [x0, some (.ref a), x2, x3] (.ref a :: st) h Q := R_aldn rfl rfl
theorem s206_757q : Runs 206 757 [x0, some (zrf r), x2, x3] st h Q ↔ Runs 206 758 [x0, some (zrf r), x2, x3] (zrf r :: st) h Q := R_aldnq rfl rfl
theorem s206_758 (ht : tg a = 9) (hs : zsumc st ≤ 8) : Runs 206 758 ls (.ref a :: st) (n, tg, ln, I, J, O) Q ↔ Runs 104 0 [some (.ref a), none] [] (n, tg, ln, I, J, O) (fun v h2 => Runs 206 761 ls (v.toList ++ st) h2 Q) := R_callv (a := a) (rest := st) rfl rfl rfl rfl rfl rfl rfl ht hs
theorem s206_761 : Runs 206 761 [x0, x1, some (.ref a), x3] st h Q ↔ Runs 206 762 [x0, x1, some (.ref a), x3] (.ref a :: st) h Q := R_aldn rfl rfl
theorem s206_761q : Runs 206 761 [x0, x1, some (zrf r), x3] st h Q ↔ Runs 206 762 [x0, x1, some (zrf r), x3] (zrf r :: st) h Q := R_aldnq rfl rfl
theorem s206_762 (ht : tg a = 10) (hs : zsumc st ≤ 8) : Runs 206 762 ls (.ref a :: st) (n, tg, ln, I, J, O) Q ↔ Runs 186 0 [some (.ref a), none] [] (n, tg, ln, I, J, O) (fun v h2 => Runs 206 765 ls (v.toList ++ st) h2 Q) := R_callv (a := a) (rest := st) rfl rfl rfl rfl rfl rfl rfl ht hs
theorem s206_765 : Runs 206 765 ls (.int j :: .int i :: st) h Q ↔ if i = j then Runs 206 1193 ls st h Q else Runs 206 768 ls st h Q := R_iceq rfl rfl
theorem s206_768 : Runs 206 768 ls st h Q ↔ Runs 206 769 ls (.int 0 :: st) h Q := R_iconst rfl rfl
theorem s206_769 (hx : i = 0 ∨ i = 1) : Runs 206 769 ls [.int i] h Q ↔ Q (some (.int i)) h := R_zret rfl rfl hx
theorem s206_770 : Runs 206 770 [x0, some (.ref a), x2, x3] st h Q ↔ Runs 206 771 [x0, some (.ref a), x2, x3] (.ref a :: st) h Q := R_aldn rfl rfl
theorem s206_770q : Runs 206 770 [x0, some (zrf r), x2, x3] st h Q ↔ Runs 206 771 [x0, some (zrf r), x2, x3] (zrf r :: st) h Q := R_aldnq rfl rfl
theorem s206_771 (ht : tg a = 9) (hs : zsumc st ≤ 8) : Runs 206 771 ls (.ref a :: st) (n, tg, ln, I, J, O) Q ↔ Runs 105 0 [some (.ref a), none, none] [] (n, tg, ln, I, J, O) (fun v h2 => Runs 206 774 ls (v.toList ++ st) h2 Q) := R_callv (a := a) (rest := st) rfl rfl rfl rfl rfl rfl rfl ht hs
theorem s206_774 : Runs 206 774 [x0, x1, some (.ref a), x3] st h Q ↔ Runs 206 775 [x0, x1, some (.ref a), x3] (.ref a :: st) h Q := R_aldn rfl rfl
theorem s206_774q : Runs 206 774 [x0, x1, some (zrf r), x3] st h Q ↔ Runs 206 775 [x0, x1, some (zrf r), x3] (zrf r :: st) h Q := R_aldnq rfl rfl
theorem s206_775 (ht : tg a = 10) (hs : zsumc st ≤ 8) : Runs 206 775 ls (.ref a :: st) (n, tg, ln, I, J, O) Q ↔ Runs 188 0 [some (.ref a), none, none] [] (n, tg, ln, I, J, O) (fun v h2 => Runs 206 778 ls (v.toList ++ st) h2 Q) := R_callv (a := a) (rest := st) rfl rfl rfl rfl rfl rfl rfl ht hs
theorem s206_778 : Runs 206 778 ls (.int j :: .int i :: st) h Q ↔ if i = j then Runs 206 1193 ls st h Q else Runs 206 781 ls st h Q := R_iceq rfl rfl
theorem s206_781 : Runs 206 781 ls st h Q ↔ Runs 206 782 ls (.int 0 :: st) h Q := R_iconst rfl rfl
theorem s206_782 (hx : i = 0 ∨ i = 1) : Runs 206 782 ls [.int i] h Q ↔ Q (some (.int i)) h := R_zret rfl rfl hx
theorem s206_783 : Runs 206 783 [x0, some (.ref a), x2, x3] st h Q ↔ Runs 206 784 [x0, some (.ref a), x2, x3] (.ref a :: st) h Q := R_aldn rfl rfl
theorem s206_783q : Runs 206 783 [x0, some (zrf r), x2, x3] st h Q ↔ Runs 206 784 [x0, some (zrf r), x2, x3] (zrf r :: st) h Q := R_aldnq rfl rfl
theorem s206_784 : Runs 206 784 [some (.ref a), x1, x2, x3] st h Q ↔ Runs 206 785 [some (.ref a), x1, x2, x3] (.ref a :: st) h Q := R_aldn rfl rfl
theorem s206_784q : Runs 206 784 [some (zrf r), x1, x2, x3] st h Q ↔ Runs 206 785 [some (zrf r), x1, x2, x3] (zrf r :: st) h Q := R_aldnq rfl rfl
theorem s206_785 : Runs 206 785 [x0, x1, x2, some (.int i)] st h Q ↔ Runs 206 786 [x0, x1, x2, some (.int i)] (.int i :: st) h Q := R_ildn rfl rfl
theorem s206_786 : Runs 206 786 ls st h Q ↔ Runs 206 787 ls (.int 1 :: st) h Q := R_iconst rfl rfl
theorem s206_787 : Runs 206 787 ls (.int j :: .int i :: st) h Q ↔ Runs 206 788 ls (.int (i + j) :: st) h Q := R_iadd rfl
theorem s206_788 (ht : tg a = 20) : Runs 206 788 ls (.int i :: .ref a :: st) (n, tg, ln, I, J, O) Q ↔ ((0 ≤ i ∧ i < Int32.ofNat (ln a)) ∧ Runs 206 789 ls (.int (I a i) :: st) (n, tg, ln, I, J, O) Q) := R_iald rfl ht
theorem s206_788q (ht : tg a = 30) : Runs 206 788 ls (.int i :: .ref a :: st) (n, tg, ln, I, J, O) Q ↔ ((0 ≤ i ∧ i < Int32.ofNat (ln a)) ∧ Runs 206 789 ls (.int (I a i) :: st) (n, tg, ln, I, J, O) Q) := R_iald0 rfl ht
theorem s206_789 (ht : tg a = 9) (hs : zsumc st ≤ 8) : Runs 206 789 ls (.int i0 :: .ref a :: st) (n, tg, ln, I, J, O) Q ↔ Runs 106 0 [some (.ref a), some (.int i0), none, none] [] (n, tg, ln, I, J, O) (fun v h2 => Runs 206 792 ls (v.toList ++ st) h2 Q) := R_callv (a := a) (rest := st) rfl rfl rfl rfl rfl rfl rfl ht hs
theorem s206_792 : Runs 206 792 [x0, x1, some (.ref a), x3] st h Q ↔ Runs 206 793 [x0, x1, some (.ref a), x3] (.ref a :: st) h Q := R_aldn rfl rfl
theorem s206_792q : Runs 206 792 [x0, x1, some (zrf r), x3] st h Q ↔ Runs 206 793 [x0, x1, some (zrf r), x3] (zrf r :: st) h Q := R_aldnq rfl rfl
theorem s206_793 : Runs 206 793 [some (.ref a), x1, x2, x3] st h Q ↔ Runs 206 794 [some (.ref a), x1, x2, x3] (.ref a :: st) h Q := R_aldn rfl rfl
theorem s206_793q : Runs 206 793 [some (zrf r), x1, x2, x3] st h Q ↔ Runs 206 794 [some (zrf r), x1, x2, x3] (zrf r :: st) h Q := R_aldnq rfl rfl
theorem s206_794 : Runs 206 794 [x0, x1, x2, some (.int i)] st h Q ↔ Runs 206 795 [x0, x1, x2, some (.int i)] (.int i :: st) h Q := R_ildn rfl rfl
theorem s206_795 : Runs 206 795 ls st h Q ↔ Runs 206 796 ls (.int 1 :: st) h Q := R_iconst rfl rfl
theorem s206_796 : Runs 206 796 ls (.int j :: .int i :: st) h Q ↔ Runs 206 797 ls (.int (i + j) :: st) h Q := R_iadd rfl
theorem s206_797 (ht : tg a = 20) : Runs 206 797 ls (.int i :: .ref a :: st) (n, tg, ln, I, J, O) Q ↔ ((0 ≤ i ∧ i < Int32.ofNat (ln a)) ∧ Runs 206 798 ls (.int (I a i) :: st) (n, tg, ln, I, J, O) Q) := R_iald rfl ht
theorem s206_797q (ht : tg a = 30) : Runs 206 797 ls (.int i :: .ref a :: st) (n, tg, ln, I, J, O) Q ↔ ((0 ≤ i ∧ i < Int32.ofNat (ln a)) ∧ Runs 206 798 ls (.int (I a i) :: st) (n, tg, ln, I, J, O) Q) := R_iald0 rfl ht
theorem s206_798 (ht : tg a = 10) (hs : zsumc st ≤ 8) : Runs 206 798 ls (.int i0 :: .ref a :: st) (n, tg, ln, I, J, O) Q ↔ Runs 189 0 [some (.ref a), some (.int i0), none, none] [] (n, tg, ln, I, J, O) (fun v h2 => Runs 206 801 ls (v.toList ++ st) h2 Q) := R_callv (a := a) (rest := st) rfl rfl rfl rfl rfl rfl rfl ht hs
theorem s206_801 : Runs 206 801 ls (.int j :: .int i :: st) h Q ↔ if i = j then Runs 206 1193 ls st h Q else Runs 206 804 ls st h Q := R_iceq rfl rfl
theorem s206_804 : Runs 206 804 ls st h Q ↔ Runs 206 805 ls (.int 0 :: st) h Q := R_iconst rfl rfl
theorem s206_805 (hx : i = 0 ∨ i = 1) : Runs 206 805 ls [.int i] h Q ↔ Q (some (.int i)) h := R_zret rfl rfl hx
theorem s206_806 : Runs 206 806 [x0, some (.ref a), x2, x3] st h Q ↔ Runs 206 807 [x0, some (.ref a), x2, x3] (.ref a :: st) h Q := R_aldn rfl rfl
theorem s206_806q : Runs 206 806 [x0, some (zrf r), x2, x3] st h Q ↔ Runs 206 807 [x0, some (zrf r), x2, x3] (zrf r :: st) h Q := R_aldnq rfl rfl
theorem s206_807 : Runs 206 807 [some (.ref a), x1, x2, x3] st h Q ↔ Runs 206 808 [some (.ref a), x1, x2, x3] (.ref a :: st) h Q := R_aldn rfl rfl
theorem s206_807q : Runs 206 807 [some (zrf r), x1, x2, x3] st h Q ↔ Runs 206 808 [some (zrf r), x1, x2, x3] (zrf r :: st) h Q := R_aldnq rfl rfl
theorem s206_808 : Runs 206 808 [x0, x1, x2, some (.int i)] st h Q ↔ Runs 206 809 [x0, x1, x2, some (.int i)] (.int i :: st) h Q := R_ildn rfl rfl
theorem s206_809 : Runs 206 809 ls st h Q ↔ Runs 206 810 ls (.int 1 :: st) h Q := R_iconst rfl rfl
theorem s206_810 : Runs 206 810 ls (.int j :: .int i :: st) h Q ↔ Runs 206 811 ls (.int (i + j) :: st) h Q := R_iadd rfl
theorem s206_811 (ht : tg a = 20) : Runs 206 811 ls (.int i :: .ref a :: st) (n, tg, ln, I, J, O) Q ↔ ((0 ≤ i ∧ i < Int32.ofNat (ln a)) ∧ Runs 206 812 ls (.int (I a i) :: st) (n, tg, ln, I, J, O) Q) := R_iald rfl ht
theorem s206_811q (ht : tg a = 30) : Runs 206 811 ls (.int i :: .ref a :: st) (n, tg, ln, I, J, O) Q ↔ ((0 ≤ i ∧ i < Int32.ofNat (ln a)) ∧ Runs 206 812 ls (.int (I a i) :: st) (n, tg, ln, I, J, O) Q) := R_iald0 rfl ht
theorem s206_812 : Runs 206 812 [some (.ref a), x1, x2, x3] st h Q ↔ Runs 206 813 [some (.ref a), x1, x2, x3] (.ref a :: st) h Q := R_aldn rfl rfl
theorem s206_812q : Runs 206 812 [some (zrf r), x1, x2, x3] st h Q ↔ Runs 206 813 [some (zrf r), x1, x2, x3] (zrf r :: st) h Q := R_aldnq rfl rfl
theorem s206_813 : Runs 206 813 [x0, x1, x2, some (.int i)] st h Q ↔ Runs 206 814 [x0, x1, x2, some (.int i)] (.int i :: st) h Q := R_ildn rfl rfl
theorem s206_814 : Runs 206 814 ls st h Q ↔ Runs 206 815 ls (.int 2 :: st) h Q := R_iconst rfl rfl
theorem s206_815 : Runs 206 815 ls (.int j :: .int i :: st) h Q ↔ Runs 206 816 ls (.int (i + j) :: st) h Q := R_iadd rfl
theorem s206_816 (ht : tg a = 20) : Runs 206 816 ls (.int i :: .ref a :: st) (n, tg, ln, I, J, O) Q ↔ ((0 ≤ i ∧ i < Int32.ofNat (ln a)) ∧ Runs 206 817 ls (.int (I a i) :: st) (n, tg, ln, I, J, O) Q) := R_iald rfl ht
theorem s206_816q (ht : tg a = 30) : Runs 206 816 ls (.int i :: .ref a :: st) (n, tg, ln, I, J, O) Q ↔ ((0 ≤ i ∧ i < Int32.ofNat (ln a)) ∧ Runs 206 817 ls (.int (I a i) :: st) (n, tg, ln, I, J, O) Q) := R_iald0 rfl ht
theorem s206_817 : Runs 206 817 [some (.ref a), x1, x2, x3] st h Q ↔ Runs 206 818 [some (.ref a), x1, x2, x3] (.ref a :: st) h Q := R_aldn rfl rfl
theorem s206_817q : Runs 206 817 [some (zrf r), x1, x2, x3] st h Q ↔ Runs 206 818 [some (zrf r), x1, x2, x3] (zrf r :: st) h Q := R_aldnq rfl rfl
theorem s206_818 : Runs 206 818 [x0, x1, x2, some (.int i)] st h Q ↔ Runs 206 819 [x0, x1, x2, some (.int i)] (.int i :: st) h Q := R_ildn rfl rfl
theorem s206_819 : Runs 206 819 ls st h Q ↔ Runs 206 820 ls (.int 3 :: st) h Q := R_iconst rfl rfl
theorem s206_820 : Runs 206 820 ls (.int j :: .int i :: st) h Q ↔ Runs 206 821 ls (.int (i + j) :: st) h Q := R_iadd rfl
theorem s206_821 (ht : tg a = 20) : Runs 206 821 ls (.int i :: .ref a :: st) (n, tg, ln, I, J, O) Q ↔ ((0 ≤ i ∧ i < Int32.ofNat (ln a)) ∧ Runs 206 822 ls (.int (I a i) :: st) (n, tg, ln, I, J, O) Q) := R_iald rfl ht
theorem s206_821q (ht : tg a = 30) : Runs 206 821 ls (.int i :: .ref a :: st) (n, tg, ln, I, J, O) Q ↔ ((0 ≤ i ∧ i < Int32.ofNat (ln a)) ∧ Runs 206 822 ls (.int (I a i) :: st) (n, tg, ln, I, J, O) Q) := R_iald0 rfl ht
theorem s206_822 : Runs 206 822 [some (.ref a), x1, x2, x3] st h Q ↔ Runs 206 823 [some (.ref a), x1, x2, x3] (.ref a :: st) h Q := R_aldn rfl rfl
theorem s206_822q : Runs 206 822 [some (zrf r), x1, x2, x3] st h Q ↔ Runs 206 823 [some (zrf r), x1, x2, x3] (zrf r :: st) h Q := R_aldnq rfl rfl
theorem s206_823 : Runs 206 823 [x0, x1, x2, some (.int i)] st h Q ↔ Runs 206 824 [x0, x1, x2, some (.int i)] (.int i :: st) h Q := R_ildn rfl rfl
theorem s206_824 : Runs 206 824 ls st h Q ↔ Runs 206 825 ls (.int 4 :: st) h Q := R_iconst rfl rfl
theorem s206_825 : Runs 206 825 ls (.int j :: .int i :: st) h Q ↔ Runs 206 826 ls (.int (i + j) :: st) h Q := R_iadd rfl
theorem s206_826 (ht : tg a = 20) : Runs 206 826 ls (.int i :: .ref a :: st) (n, tg, ln, I, J, O) Q ↔ ((0 ≤ i ∧ i < Int32.ofNat (ln a)) ∧ Runs 206 827 ls (.int (I a i) :: st) (n, tg, ln, I, J, O) Q) := R_iald rfl ht
theorem s206_826q (ht : tg a = 30) : Runs 206 826 ls (.int i :: .ref a :: st) (n, tg, ln, I, J, O) Q ↔ ((0 ≤ i ∧ i < Int32.ofNat (ln a)) ∧ Runs 206 827 ls (.int (I a i) :: st) (n, tg, ln, I, J, O) Q) := R_iald0 rfl ht
theorem s206_827 (ht : tg a = 9) (hs : zsumc st ≤ 8) : Runs 206 827 ls (.int i3 :: .int i2 :: .int i1 :: .int i0 :: .ref a :: st) (n, tg, ln, I, J, O) Q ↔ Runs 107 0 [some (.ref a), some (.int i0), some (.int i1), some (.int i2), some (.int i3), none, none, none, none, none, none] [] (n, tg, ln, I, J, O) (fun v h2 => Runs 206 830 ls (v.toList ++ st) h2 Q) := R_callv (a := a) (rest := st) rfl rfl rfl rfl rfl rfl rfl ht hs
theorem s206_830 : Runs 206 830 [x0, x1, some (.ref a), x3] st h Q ↔ Runs 206 831 [x0, x1, some (.ref a), x3] (.ref a :: st) h Q := R_aldn rfl rfl
theorem s206_830q : Runs 206 830 [x0, x1, some (zrf r), x3] st h Q ↔ Runs 206 831 [x0, x1, some (zrf r), x3] (zrf r :: st) h Q := R_aldnq rfl rfl
theorem s206_831 : Runs 206 831 [some (.ref a), x1, x2, x3] st h Q ↔ Runs 206 832 [some (.ref a), x1, x2, x3] (.ref a :: st) h Q := R_aldn rfl rfl
theorem s206_831q : Runs 206 831 [some (zrf r), x1, x2, x3] st h Q ↔ Runs 206 832 [some (zrf r), x1, x2, x3] (zrf r :: st) h Q := R_aldnq rfl rfl
theorem s206_832 : Runs 206 832 [x0, x1, x2, some (.int i)] st h Q ↔ Runs 206 833 [x0, x1, x2, some (.int i)] (.int i :: st) h Q := R_ildn rfl rfl
theorem s206_833 : Runs 206 833 ls st h Q ↔ Runs 206 834 ls (.int 1 :: st) h Q := R_iconst rfl rfl
theorem s206_834 : Runs 206 834 ls (.int j :: .int i :: st) h Q ↔ Runs 206 835 ls (.int (i + j) :: st) h Q := R_iadd rfl
theorem s206_835 (ht : tg a = 20) : Runs 206 835 ls (.int i :: .ref a :: st) (n, tg, ln, I, J, O) Q ↔ ((0 ≤ i ∧ i < Int32.ofNat (ln a)) ∧ Runs 206 836 ls (.int (I a i) :: st) (n, tg, ln, I, J, O) Q) := R_iald rfl ht
theorem s206_835q (ht : tg a = 30) : Runs 206 835 ls (.int i :: .ref a :: st) (n, tg, ln, I, J, O) Q ↔ ((0 ≤ i ∧ i < Int32.ofNat (ln a)) ∧ Runs 206 836 ls (.int (I a i) :: st) (n, tg, ln, I, J, O) Q) := R_iald0 rfl ht
theorem s206_836 : Runs 206 836 [some (.ref a), x1, x2, x3] st h Q ↔ Runs 206 837 [some (.ref a), x1, x2, x3] (.ref a :: st) h Q := R_aldn rfl rfl
theorem s206_836q : Runs 206 836 [some (zrf r), x1, x2, x3] st h Q ↔ Runs 206 837 [some (zrf r), x1, x2, x3] (zrf r :: st) h Q := R_aldnq rfl rfl
theorem s206_837 : Runs 206 837 [x0, x1, x2, some (.int i)] st h Q ↔ Runs 206 838 [x0, x1, x2, some (.int i)] (.int i :: st) h Q := R_ildn rfl rfl
theorem s206_838 : Runs 206 838 ls st h Q ↔ Runs 206 839 ls (.int 2 :: st) h Q := R_iconst rfl rfl
theorem s206_839 : Runs 206 839 ls (.int j :: .int i :: st) h Q ↔ Runs 206 840 ls (.int (i + j) :: st) h Q := R_iadd rfl
theorem s206_840 (ht : tg a = 20) : Runs 206 840 ls (.int i :: .ref a :: st) (n, tg, ln, I, J, O) Q ↔ ((0 ≤ i ∧ i < Int32.ofNat (ln a)) ∧ Runs 206 841 ls (.int (I a i) :: st) (n, tg, ln, I, J, O) Q) := R_iald rfl ht
theorem s206_840q (ht : tg a = 30) : Runs 206 840 ls (.int i :: .ref a :: st) (n, tg, ln, I, J, O) Q ↔ ((0 ≤ i ∧ i < Int32.ofNat (ln a)) ∧ Runs 206 841 ls (.int (I a i) :: st) (n, tg, ln, I, J, O) Q) := R_iald0 rfl ht
theorem s206_841 : Runs 206 841 [some (.ref a), x1, x2, x3] st h Q ↔ Runs 206 842 [some (.ref a), x1, x2, x3] (.ref a :: st) h Q := R_aldn rfl rfl
theorem s206_841q : Runs 206 841 [some (zrf r), x1, x2, x3] st h Q ↔ Runs 206 842 [some (zrf r), x1, x2, x3] (zrf r :: st) h Q := R_aldnq rfl rfl
theorem s206_842 : Runs 206 842 [x0, x1, x2, some (.int i)] st h Q ↔ Runs 206 843 [x0, x1, x2, some (.int i)] (.int i :: st) h Q := R_ildn rfl rfl
theorem s206_843 : Runs 206 843 ls st h Q ↔ Runs 206 844 ls (.int 3 :: st) h Q := R_iconst rfl rfl
theorem s206_844 : Runs 206 844 ls (.int j :: .int i :: st) h Q ↔ Runs 206 845 ls (.int (i + j) :: st) h Q := R_iadd rfl
theorem s206_845 (ht : tg a = 20) : Runs 206 845 ls (.int i :: .ref a :: st) (n, tg, ln, I, J, O) Q ↔ ((0 ≤ i ∧ i < Int32.ofNat (ln a)) ∧ Runs 206 846 ls (.int (I a i) :: st) (n, tg, ln, I, J, O) Q) := R_iald rfl ht
theorem s206_845q (ht : tg a = 30) : Runs 206 845 ls (.int i :: .ref a :: st) (n, tg, ln, I, J, O) Q ↔ ((0 ≤ i ∧ i < Int32.ofNat (ln a)) ∧ Runs 206 846 ls (.int (I a i) :: st) (n, tg, ln, I, J, O) Q) := R_iald0 rfl ht
theorem s206_846 : Runs 206 846 [some (.ref a), x1, x2, x3] st h Q ↔ Runs 206 847 [some (.ref a), x1, x2, x3] (.ref a :: st) h Q := R_aldn rfl rfl
theorem s206_846q : Runs 206 846 [some (zrf r), x1, x2, x3] st h Q ↔ Runs 206 847 [some (zrf r), x1, x2, x3] (zrf r :: st) h Q := R_aldnq rfl rfl
theorem s206_847 : Runs 206 847 [x0, x1, x2, some (.int i)] st h Q ↔ Runs 206 848 [x0, x1, x2, some (.int i)] (.int i :: st) h Q := R_ildn rfl rfl
theorem s206_848 : Runs 206 848 ls st h Q ↔ Runs 206 849 ls (.int 4 :: st) h Q := R_iconst rfl rfl
theorem s206_849 : Runs 206 849 ls (.int j :: .int i :: st) h Q ↔ Runs 206 850 ls (.int (i + j) :: st) h Q := R_iadd rfl
theorem s206_850 (ht : tg a = 20) : Runs 206 850 ls (.int i :: .ref a :: st) (n, tg, ln, I, J, O) Q ↔ ((0 ≤ i ∧ i < Int32.ofNat (ln a)) ∧ Runs 206 851 ls (.int (I a i) :: st) (n, tg, ln, I, J, O) Q) := R_iald rfl ht
theorem s206_850q (ht : tg a = 30) : Runs 206 850 ls (.int i :: .ref a :: st) (n, tg, ln, I, J, O) Q ↔ ((0 ≤ i ∧ i < Int32.ofNat (ln a)) ∧ Runs 206 851 ls (.int (I a i) :: st) (n, tg, ln, I, J, O) Q) := R_iald0 rfl ht
theorem s206_851 (ht : tg a = 10) (hs : zsumc st ≤ 8) : Runs 206 851 ls (.int i3 :: .int i2 :: .int i1 :: .int i0 :: .ref a :: st) (n, tg, ln, I, J, O) Q ↔ Runs 190 0 [some (.ref a), some (.int i0), some (.int i1), some (.int i2), some (.int i3), none, none, none, none, none, none, none, none, none, none, none, none] [] (n, tg, ln, I, J, O) (fun v h2 => Runs 206 854 ls (v.toList ++ st) h2 Q) := R_callv (a := a) (rest := st) rfl rfl rfl rfl rfl rfl rfl ht hs
theorem s206_854 : Runs 206 854 ls (.int j :: .int i :: st) h Q ↔ if i = j then Runs 206 1193 ls st h Q else Runs 206 857 ls st h Q := R_iceq rfl rfl
theorem s206_857 : Runs 206 857 ls st h Q ↔ Runs 206 858 ls (.int 0 :: st) h Q := R_iconst rfl rfl
theorem s206_858 (hx : i = 0 ∨ i = 1) : Runs 206 858 ls [.int i] h Q ↔ Q (some (.int i)) h := R_zret rfl rfl hx
theorem s206_859 : Runs 206 859 [x0, some (.ref a), x2, x3] st h Q ↔ Runs 206 860 [x0, some (.ref a), x2, x3] (.ref a :: st) h Q := R_aldn rfl rfl
theorem s206_859q : Runs 206 859 [x0, some (zrf r), x2, x3] st h Q ↔ Runs 206 860 [x0, some (zrf r), x2, x3] (zrf r :: st) h Q := R_aldnq rfl rfl
theorem s206_860 : Runs 206 860 [some (.ref a), x1, x2, x3] st h Q ↔ Runs 206 861 [some (.ref a), x1, x2, x3] (.ref a :: st) h Q := R_aldn rfl rfl
theorem s206_860q : Runs 206 860 [some (zrf r), x1, x2, x3] st h Q ↔ Runs 206 861 [some (zrf r), x1, x2, x3] (zrf r :: st) h Q := R_aldnq rfl rfl
theorem s206_861 : Runs 206 861 [x0, x1, x2, some (.int i)] st h Q ↔ Runs 206 862 [x0, x1, x2, some (.int i)] (.int i :: st) h Q := R_ildn rfl rfl
theorem s206_862 : Runs 206 862 ls st h Q ↔ Runs 206 863 ls (.int 1 :: st) h Q := R_iconst rfl rfl
theorem s206_863 : Runs 206 863 ls (.int j :: .int i :: st) h Q ↔ Runs 206 864 ls (.int (i + j) :: st) h Q := R_iadd rfl
theorem s206_864 (ht : tg a = 20) : Runs 206 864 ls (.int i :: .ref a :: st) (n, tg, ln, I, J, O) Q ↔ ((0 ≤ i ∧ i < Int32.ofNat (ln a)) ∧ Runs 206 865 ls (.int (I a i) :: st) (n, tg, ln, I, J, O) Q) := R_iald rfl ht
theorem s206_864q (ht : tg a = 30) : Runs 206 864 ls (.int i :: .ref a :: st) (n, tg, ln, I, J, O) Q ↔ ((0 ≤ i ∧ i < Int32.ofNat (ln a)) ∧ Runs 206 865 ls (.int (I a i) :: st) (n, tg, ln, I, J, O) Q) := R_iald0 rfl ht
theorem s206_865 : Runs 206 865 [some (.ref a), x1, x2, x3] st h Q ↔ Runs 206 866 [some (.ref a), x1, x2, x3] (.ref a :: st) h Q := R_aldn rfl rfl
theorem s206_865q : Runs 206 865 [some (zrf r), x1, x2, x3] st h Q ↔ Runs 206 866 [some (zrf r), x1, x2, x3] (zrf r :: st) h Q := R_aldnq rfl rfl
theorem s206_866 : Runs 206 866 [x0, x1, x2, some (.int i)] st h Q ↔ Runs 206 867 [x0, x1, x2, some (.int i)] (.int i :: st) h Q := R_ildn rfl rfl
theorem s206_867 : Runs 206 867 ls st h Q ↔ Runs 206 868 ls (.int 2 :: st) h Q := R_iconst rfl rfl
theorem s206_868 : Runs 206 868 ls (.int j :: .int i :: st) h Q ↔ Runs 206 869 ls (.int (i + j) :: st) h Q := R_iadd rfl
theorem s206_869 (ht : tg a = 20) : Runs 206 869 ls (.int i :: .ref a :: st) (n, tg, ln, I, J, O) Q ↔ ((0 ≤ i ∧ i < Int32.ofNat (ln a)) ∧ Runs 206 870 ls (.int (I a i) :: st) (n, tg, ln, I, J, O) Q) := R_iald rfl ht
theorem s206_869q (ht : tg a = 30) : Runs 206 869 ls (.int i :: .ref a :: st) (n, tg, ln, I, J, O) Q ↔ ((0 ≤ i ∧ i < Int32.ofNat (ln a)) ∧ Runs 206 870 ls (.int (I a i) :: st) (n, tg, ln, I, J, O) Q) := R_iald0 rfl ht
theorem s206_870 (ht : tg a = 9) (hs : zsumc st ≤ 8) : Runs 206 870 ls (.int i1 :: .int i0 :: .ref a :: st) (n, tg, ln, I, J, O) Q ↔ Runs 108 0 [some (.ref a), some (.int i0), some (.int i1)] [] (n, tg, ln, I, J, O) (fun v h2 => Runs 206 873 ls (v.toList ++ st) h2 Q) := R_callv (a := a) (rest := st) rfl rfl rfl rfl rfl rfl rfl ht hs
theorem s206_873 : Runs 206 873 [x0, x1, some (.ref a), x3] st h Q ↔ Runs 206 874 [x0, x1, some (.ref a), x3] (.ref a :: st) h Q := R_aldn rfl rfl
theorem s206_873q : Runs 206 873 [x0, x1, some (zrf r), x3] st h Q ↔ Runs 206 874 [x0, x1, some (zrf r), x3] (zrf r :: st) h Q := R_aldnq rfl rfl
theorem s206_874 : Runs 206 874 [some (.ref a), x1, x2, x3] st h Q ↔ Runs 206 875 [some (.ref a), x1, x2, x3] (.ref a :: st) h Q := R_aldn rfl rfl
theorem s206_874q : Runs 206 874 [some (zrf r), x1, x2, x3] st h Q ↔ Runs 206 875 [some (zrf r), x1, x2, x3] (zrf r :: st) h Q := R_aldnq rfl rfl
theorem s206_875 : Runs 206 875 [x0, x1, x2, some (.int i)] st h Q ↔ Runs 206 876 [x0, x1, x2, some (.int i)] (.int i :: st) h Q := R_ildn rfl rfl
theorem s206_876 : Runs 206 876 ls st h Q ↔ Runs 206 877 ls (.int 1 :: st) h Q := R_iconst rfl rfl
theorem s206_877 : Runs 206 877 ls (.int j :: .int i :: st) h Q ↔ Runs 206 878 ls (.int (i + j) :: st) h Q := R_iadd rfl
theorem s206_878 (ht : tg a = 20) : Runs 206 878 ls (.int i :: .ref a :: st) (n, tg, ln, I, J, O) Q ↔ ((0 ≤ i ∧ i < Int32.ofNat (ln a)) ∧ Runs 206 879 ls (.int (I a i) :: st) (n, tg, ln, I, J, O) Q) := R_iald rfl ht
theorem s206_878q (ht : tg a = 30) : Runs 206 878 ls (.int i :: .ref a :: st) (n, tg, ln, I, J, O) Q ↔ ((0 ≤ i ∧ i < Int32.ofNat (ln a)) ∧ Runs 206 879 ls (.int (I a i) :: st) (n, tg, ln, I, J, O) Q) := R_iald0 rfl ht
theorem s206_879 : Runs 206 879 [some (.ref a), x1, x2, x3] st h Q ↔ Runs 206 880 [some (.ref a), x1, x2, x3] (.ref a :: st) h Q := R_aldn rfl rfl
theorem s206_879q : Runs 206 879 [some (zrf r), x1, x2, x3] st h Q ↔ Runs 206 880 [some (zrf r), x1, x2, x3] (zrf r :: st) h Q := R_aldnq rfl rfl
theorem s206_880 : Runs 206 880 [x0, x1, x2, some (.int i)] st h Q ↔ Runs 206 881 [x0, x1, x2, some (.int i)] (.int i :: st) h Q := R_ildn rfl rfl
theorem s206_881 : Runs 206 881 ls st h Q ↔ Runs 206 882 ls (.int 2 :: st) h Q := R_iconst rfl rfl
theorem s206_882 : Runs 206 882 ls (.int j :: .int i :: st) h Q ↔ Runs 206 883 ls (.int (i + j) :: st) h Q := R_iadd rfl
theorem s206_883 (ht : tg a = 20) : Runs 206 883 ls (.int i :: .ref a :: st) (n, tg, ln, I, J, O) Q ↔ ((0 ≤ i ∧ i < Int32.ofNat (ln a)) ∧ Runs 206 884 ls (.int (I a i) :: st) (n, tg, ln, I, J, O) Q) := R_iald rfl ht
theorem s206_883q (ht : tg a = 30) : Runs 206 883 ls (.int i :: .ref a :: st) (n, tg, ln, I, J, O) Q ↔ ((0 ≤ i ∧ i < Int32.ofNat (ln a)) ∧ Runs 206 884 ls (.int (I a i) :: st) (n, tg, ln, I, J, O) Q) := R_iald0 rfl ht
theorem s206_884 (ht : tg a = 10) (hs : zsumc st ≤ 8) : Runs 206 884 ls (.int i1 :: .int i0 :: .ref a :: st) (n, tg, ln, I, J, O) Q ↔ Runs 192 0 [some (.ref a), some (.int i0), some (.int i1), none] [] (n, tg, ln, I, J, O) (fun v h2 => Runs 206 887 ls (v.toList ++ st) h2 Q) := R_callv (a := a) (rest := st) rfl rfl rfl rfl rfl rfl rfl ht hs
theorem s206_887 : Runs 206 887 ls (.int j :: .int i :: st) h Q ↔ if i = j then Runs 206 1193 ls st h Q else Runs 206 890 ls st h Q := R_iceq rfl rfl
theorem s206_890 : Runs 206 890 ls st h Q ↔ Runs 206 891 ls (.int 0 :: st) h Q := R_iconst rfl rfl
theorem s206_891 (hx : i = 0 ∨ i = 1) : Runs 206 891 ls [.int i] h Q ↔ Q (some (.int i)) h := R_zret rfl rfl hx
theorem s206_892 : Runs 206 892 [x0, some (.ref a), x2, x3] st h Q ↔ Runs 206 893 [x0, some (.ref a), x2, x3] (.ref a :: st) h Q := R_aldn rfl rfl
theorem s206_892q : Runs 206 892 [x0, some (zrf r), x2, x3] st h Q ↔ Runs 206 893 [x0, some (zrf r), x2, x3] (zrf r :: st) h Q := R_aldnq rfl rfl
theorem s206_893 : Runs 206 893 [some (.ref a), x1, x2, x3] st h Q ↔ Runs 206 894 [some (.ref a), x1, x2, x3] (.ref a :: st) h Q := R_aldn rfl rfl
theorem s206_893q : Runs 206 893 [some (zrf r), x1, x2, x3] st h Q ↔ Runs 206 894 [some (zrf r), x1, x2, x3] (zrf r :: st) h Q := R_aldnq rfl rfl
theorem s206_894 : Runs 206 894 [x0, x1, x2, some (.int i)] st h Q ↔ Runs 206 895 [x0, x1, x2, some (.int i)] (.int i :: st) h Q := R_ildn rfl rfl
theorem s206_895 : Runs 206 895 ls st h Q ↔ Runs 206 896 ls (.int 1 :: st) h Q := R_iconst rfl rfl
theorem s206_896 : Runs 206 896 ls (.int j :: .int i :: st) h Q ↔ Runs 206 897 ls (.int (i + j) :: st) h Q := R_iadd rfl
theorem s206_897 (ht : tg a = 20) : Runs 206 897 ls (.int i :: .ref a :: st) (n, tg, ln, I, J, O) Q ↔ ((0 ≤ i ∧ i < Int32.ofNat (ln a)) ∧ Runs 206 898 ls (.int (I a i) :: st) (n, tg, ln, I, J, O) Q) := R_iald rfl ht
theorem s206_897q (ht : tg a = 30) : Runs 206 897 ls (.int i :: .ref a :: st) (n, tg, ln, I, J, O) Q ↔ ((0 ≤ i ∧ i < Int32.ofNat (ln a)) ∧ Runs 206 898 ls (.int (I a i) :: st) (n, tg, ln, I, J, O) Q) := R_iald0 rfl ht
theorem s206_898 : Runs 206 898 [some (.ref a), x1, x2, x3] st h Q ↔ Runs 206 899 [some (.ref a), x1, x2, x3] (.ref a :: st) h Q := R_aldn rfl rfl
theorem s206_898q : Runs 206 898 [some (zrf r), x1, x2, x3] st h Q ↔ Runs 206 899 [some (zrf r), x1, x2, x3] (zrf r :: st) h Q := R_aldnq rfl rfl
theorem s206_899 : Runs 206 899 [x0, x1, x2, some (.int i)] st h Q ↔ Runs 206 900 [x0, x1, x2, some (.int i)] (.int i :: st) h Q := R_ildn rfl rfl
theorem s206_900 : Runs 206 900 ls st h Q ↔ Runs 206 901 ls (.int 2 :: st) h Q := R_iconst rfl rfl
theorem s206_901 : Runs 206 901 ls (.int j :: .int i :: st) h Q ↔ Runs 206 902 ls (.int (i + j) :: st) h Q := R_iadd rfl
theorem s206_902 (ht : tg a = 20) : Runs 206 902 ls (.int i :: .ref a :: st) (n, tg, ln, I, J, O) Q ↔ ((0 ≤ i ∧ i < Int32.ofNat (ln a)) ∧ Runs 206 903 ls (.int (I a i) :: st) (n, tg, ln, I, J, O) Q) := R_iald rfl ht
theorem s206_902q (ht : tg a = 30) : Runs 206 902 ls (.int i :: .ref a :: st) (n, tg, ln, I, J, O) Q ↔ ((0 ≤ i ∧ i < Int32.ofNat (ln a)) ∧ Runs 206 903 ls (.int (I a i) :: st) (n, tg, ln, I, J, O) Q) := R_iald0 rfl ht
theorem s206_903 : Runs 206 903 [some (.ref a), x1, x2, x3] st h Q ↔ Runs 206 904 [some (.ref a), x1, x2, x3] (.ref a :: st) h Q := R_aldn rfl rfl
theorem s206_903q : Runs 206 903 [some (zrf r), x1, x2, x3] st h Q ↔ Runs 206 904 [some (zrf r), x1, x2, x3] (zrf r :: st) h Q := R_aldnq rfl rfl
theorem s206_904 : Runs 206 904 [x0, x1, x2, some (.int i)] st h Q ↔ Runs 206 905 [x0, x1, x2, some (.int i)] (.int i :: st) h Q := R_ildn rfl rfl
theorem s206_905 : Runs 206 905 ls st h Q ↔ Runs 206 906 ls (.int 3 :: st) h Q := R_iconst rfl rfl
theorem s206_906 : Runs 206 906 ls (.int j :: .int i :: st) h Q ↔ Runs 206 907 ls (.int (i + j) :: st) h Q := R_iadd rfl
theorem s206_907 (ht : tg a = 20) : Runs 206 907 ls (.int i :: .ref a :: st) (n, tg, ln, I, J, O) Q ↔ ((0 ≤ i ∧ i < Int32.ofNat (ln a)) ∧ Runs 206 908 ls (.int (I a i) :: st) (n, tg, ln, I, J, O) Q) := R_iald rfl ht
theorem s206_907q (ht : tg a = 30) : Runs 206 907 ls (.int i :: .ref a :: st) (n, tg, ln, I, J, O) Q ↔ ((0 ≤ i ∧ i < Int32.ofNat (ln a)) ∧ Runs 206 908 ls (.int (I a i) :: st) (n, tg, ln, I, J, O) Q) := R_iald0 rfl ht
theorem s206_908 : Runs 206 908 [some (.ref a), x1, x2, x3] st h Q ↔ Runs 206 909 [some (.ref a), x1, x2, x3] (.ref a :: st) h Q := R_aldn rfl rfl
theorem s206_908q : Runs 206 908 [some (zrf r), x1, x2, x3] st h Q ↔ Runs 206 909 [some (zrf r), x1, x2, x3] (zrf r :: st) h Q := R_aldnq rfl rfl
theorem s206_909 : Runs 206 909 [x0, x1, x2, some (.int i)] st h Q ↔ Runs 206 910 [x0, x1, x2, some (.int i)] (.int i :: st) h Q := R_ildn rfl rfl
theorem s206_910 : Runs 206 910 ls st h Q ↔ Runs 206 911 ls (.int 4 :: st) h Q := R_iconst rfl rfl
theorem s206_911 : Runs 206 911 ls (.int j :: .int i :: st) h Q ↔ Runs 206 912 ls (.int (i + j) :: st) h Q := R_iadd rfl
theorem s206_912 (ht : tg a = 20) : Runs 206 912 ls (.int i :: .ref a :: st) (n, tg, ln, I, J, O) Q ↔ ((0 ≤ i ∧ i < Int32.ofNat (ln a)) ∧ Runs 206 913 ls (.int (I a i) :: st) (n, tg, ln, I, J, O) Q) := R_iald rfl ht
theorem s206_912q (ht : tg a = 30) : Runs 206 912 ls (.int i :: .ref a :: st) (n, tg, ln, I, J, O) Q ↔ ((0 ≤ i ∧ i < Int32.ofNat (ln a)) ∧ Runs 206 913 ls (.int (I a i) :: st) (n, tg, ln, I, J, O) Q) := R_iald0 rfl ht
theorem s206_913 : Runs 206 913 ls (.int i :: st) h Q ↔ Runs 206 914 ls (.long i.toInt64 :: st) h Q := R_i2l rfl
theorem s206_914 : Runs 206 914 ls st h Q ↔ Runs 206 916 ls (.int 32 :: st) h Q := R_bipush rfl (by decide)
theorem s206_916 : Runs 206 916 ls (.int j :: .long u :: st) h Q ↔ Runs 206 917 ls (.long (u <<< (j.toInt64 &&& 63)) :: st) h Q := R_lshl rfl
theorem s206_917 : Runs 206 917 [some (.ref a), x1, x2, x3] st h Q ↔ Runs 206 918 [some (.ref a), x1, x2, x3] (.ref a :: st) h Q := R_aldn rfl rfl
theorem s206_917q : Runs 206 917 [some (zrf r), x1, x2, x3] st h Q ↔ Runs 206 918 [some (zrf r), x1, x2, x3] (zrf r :: st) h Q := R_aldnq rfl rfl
theorem s206_918 : Runs 206 918 [x0, x1, x2, some (.int i)] st h Q ↔ Runs 206 919 [x0, x1, x2, some (.int i)] (.int i :: st) h Q := R_ildn rfl rfl
theorem s206_919 : Runs 206 919 ls st h Q ↔ Runs 206 920 ls (.int 5 :: st) h Q := R_iconst rfl rfl
theorem s206_920 : Runs 206 920 ls (.int j :: .int i :: st) h Q ↔ Runs 206 921 ls (.int (i + j) :: st) h Q := R_iadd rfl
theorem s206_921 (ht : tg a = 20) : Runs 206 921 ls (.int i :: .ref a :: st) (n, tg, ln, I, J, O) Q ↔ ((0 ≤ i ∧ i < Int32.ofNat (ln a)) ∧ Runs 206 922 ls (.int (I a i) :: st) (n, tg, ln, I, J, O) Q) := R_iald rfl ht
theorem s206_921q (ht : tg a = 30) : Runs 206 921 ls (.int i :: .ref a :: st) (n, tg, ln, I, J, O) Q ↔ ((0 ≤ i ∧ i < Int32.ofNat (ln a)) ∧ Runs 206 922 ls (.int (I a i) :: st) (n, tg, ln, I, J, O) Q) := R_iald0 rfl ht
theorem s206_922 : Runs 206 922 ls (.int i :: st) h Q ↔ Runs 206 923 ls (.long i.toInt64 :: st) h Q := R_i2l rfl
theorem s206_923 : Runs 206 923 ls st h Q ↔ Runs 206 926 ls (.long 4294967295 :: st) h Q := R_ldc2 rfl rfl
theorem s206_926 : Runs 206 926 ls (.long w :: .long u :: st) h Q ↔ Runs 206 927 ls (.long (u &&& w) :: st) h Q := R_land rfl
theorem s206_927 : Runs 206 927 ls (.long w :: .long u :: st) h Q ↔ Runs 206 928 ls (.long (u ||| w) :: st) h Q := R_lor rfl
theorem s206_928 (ht : tg a = 9) (hs : zsumc st ≤ 8) : Runs 206 928 ls (.long u3 :: .int i2 :: .int i1 :: .int i0 :: .ref a :: st) (n, tg, ln, I, J, O) Q ↔ Runs 109 0 [some (.ref a), some (.int i0), some (.int i1), some (.int i2), some (.long u3), none, none] [] (n, tg, ln, I, J, O) (fun v h2 => Runs 206 931 ls (v.toList ++ st) h2 Q) := R_callv (a := a) (rest := st) rfl rfl rfl rfl rfl rfl rfl ht hs
theorem s206_931 : Runs 206 931 [x0, x1, some (.ref a), x3] st h Q ↔ Runs 206 932 [x0, x1, some (.ref a), x3] (.ref a :: st) h Q := R_aldn rfl rfl
theorem s206_931q : Runs 206 931 [x0, x1, some (zrf r), x3] st h Q ↔ Runs 206 932 [x0, x1, some (zrf r), x3] (zrf r :: st) h Q := R_aldnq rfl rfl
theorem s206_932 : Runs 206 932 [some (.ref a), x1, x2, x3] st h Q ↔ Runs 206 933 [some (.ref a), x1, x2, x3] (.ref a :: st) h Q := R_aldn rfl rfl
theorem s206_932q : Runs 206 932 [some (zrf r), x1, x2, x3] st h Q ↔ Runs 206 933 [some (zrf r), x1, x2, x3] (zrf r :: st) h Q := R_aldnq rfl rfl
theorem s206_933 : Runs 206 933 [x0, x1, x2, some (.int i)] st h Q ↔ Runs 206 934 [x0, x1, x2, some (.int i)] (.int i :: st) h Q := R_ildn rfl rfl
theorem s206_934 : Runs 206 934 ls st h Q ↔ Runs 206 935 ls (.int 1 :: st) h Q := R_iconst rfl rfl
theorem s206_935 : Runs 206 935 ls (.int j :: .int i :: st) h Q ↔ Runs 206 936 ls (.int (i + j) :: st) h Q := R_iadd rfl
theorem s206_936 (ht : tg a = 20) : Runs 206 936 ls (.int i :: .ref a :: st) (n, tg, ln, I, J, O) Q ↔ ((0 ≤ i ∧ i < Int32.ofNat (ln a)) ∧ Runs 206 937 ls (.int (I a i) :: st) (n, tg, ln, I, J, O) Q) := R_iald rfl ht
theorem s206_936q (ht : tg a = 30) : Runs 206 936 ls (.int i :: .ref a :: st) (n, tg, ln, I, J, O) Q ↔ ((0 ≤ i ∧ i < Int32.ofNat (ln a)) ∧ Runs 206 937 ls (.int (I a i) :: st) (n, tg, ln, I, J, O) Q) := R_iald0 rfl ht
theorem s206_937 : Runs 206 937 [some (.ref a), x1, x2, x3] st h Q ↔ Runs 206 938 [some (.ref a), x1, x2, x3] (.ref a :: st) h Q := R_aldn rfl rfl
theorem s206_937q : Runs 206 937 [some (zrf r), x1, x2, x3] st h Q ↔ Runs 206 938 [some (zrf r), x1, x2, x3] (zrf r :: st) h Q := R_aldnq rfl rfl
theorem s206_938 : Runs 206 938 [x0, x1, x2, some (.int i)] st h Q ↔ Runs 206 939 [x0, x1, x2, some (.int i)] (.int i :: st) h Q := R_ildn rfl rfl
theorem s206_939 : Runs 206 939 ls st h Q ↔ Runs 206 940 ls (.int 2 :: st) h Q := R_iconst rfl rfl
theorem s206_940 : Runs 206 940 ls (.int j :: .int i :: st) h Q ↔ Runs 206 941 ls (.int (i + j) :: st) h Q := R_iadd rfl
theorem s206_941 (ht : tg a = 20) : Runs 206 941 ls (.int i :: .ref a :: st) (n, tg, ln, I, J, O) Q ↔ ((0 ≤ i ∧ i < Int32.ofNat (ln a)) ∧ Runs 206 942 ls (.int (I a i) :: st) (n, tg, ln, I, J, O) Q) := R_iald rfl ht
theorem s206_941q (ht : tg a = 30) : Runs 206 941 ls (.int i :: .ref a :: st) (n, tg, ln, I, J, O) Q ↔ ((0 ≤ i ∧ i < Int32.ofNat (ln a)) ∧ Runs 206 942 ls (.int (I a i) :: st) (n, tg, ln, I, J, O) Q) := R_iald0 rfl ht
theorem s206_942 : Runs 206 942 [some (.ref a), x1, x2, x3] st h Q ↔ Runs 206 943 [some (.ref a), x1, x2, x3] (.ref a :: st) h Q := R_aldn rfl rfl
theorem s206_942q : Runs 206 942 [some (zrf r), x1, x2, x3] st h Q ↔ Runs 206 943 [some (zrf r), x1, x2, x3] (zrf r :: st) h Q := R_aldnq rfl rfl
theorem s206_943 : Runs 206 943 [x0, x1, x2, some (.int i)] st h Q ↔ Runs 206 944 [x0, x1, x2, some (.int i)] (.int i :: st) h Q := R_ildn rfl rfl
theorem s206_944 : Runs 206 944 ls st h Q ↔ Runs 206 945 ls (.int 3 :: st) h Q := R_iconst rfl rfl
theorem s206_945 : Runs 206 945 ls (.int j :: .int i :: st) h Q ↔ Runs 206 946 ls (.int (i + j) :: st) h Q := R_iadd rfl
theorem s206_946 (ht : tg a = 20) : Runs 206 946 ls (.int i :: .ref a :: st) (n, tg, ln, I, J, O) Q ↔ ((0 ≤ i ∧ i < Int32.ofNat (ln a)) ∧ Runs 206 947 ls (.int (I a i) :: st) (n, tg, ln, I, J, O) Q) := R_iald rfl ht
theorem s206_946q (ht : tg a = 30) : Runs 206 946 ls (.int i :: .ref a :: st) (n, tg, ln, I, J, O) Q ↔ ((0 ≤ i ∧ i < Int32.ofNat (ln a)) ∧ Runs 206 947 ls (.int (I a i) :: st) (n, tg, ln, I, J, O) Q) := R_iald0 rfl ht
theorem s206_947 : Runs 206 947 [some (.ref a), x1, x2, x3] st h Q ↔ Runs 206 948 [some (.ref a), x1, x2, x3] (.ref a :: st) h Q := R_aldn rfl rfl
theorem s206_947q : Runs 206 947 [some (zrf r), x1, x2, x3] st h Q ↔ Runs 206 948 [some (zrf r), x1, x2, x3] (zrf r :: st) h Q := R_aldnq rfl rfl
theorem s206_948 : Runs 206 948 [x0, x1, x2, some (.int i)] st h Q ↔ Runs 206 949 [x0, x1, x2, some (.int i)] (.int i :: st) h Q := R_ildn rfl rfl
theorem s206_949 : Runs 206 949 ls st h Q ↔ Runs 206 950 ls (.int 4 :: st) h Q := R_iconst rfl rfl
theorem s206_950 : Runs 206 950 ls (.int j :: .int i :: st) h Q ↔ Runs 206 951 ls (.int (i + j) :: st) h Q := R_iadd rfl
theorem s206_951 (ht : tg a = 20) : Runs 206 951 ls (.int i :: .ref a :: st) (n, tg, ln, I, J, O) Q ↔ ((0 ≤ i ∧ i < Int32.ofNat (ln a)) ∧ Runs 206 952 ls (.int (I a i) :: st) (n, tg, ln, I, J, O) Q) := R_iald rfl ht
theorem s206_951q (ht : tg a = 30) : Runs 206 951 ls (.int i :: .ref a :: st) (n, tg, ln, I, J, O) Q ↔ ((0 ≤ i ∧ i < Int32.ofNat (ln a)) ∧ Runs 206 952 ls (.int (I a i) :: st) (n, tg, ln, I, J, O) Q) := R_iald0 rfl ht
theorem s206_952 : Runs 206 952 ls (.int i :: st) h Q ↔ Runs 206 953 ls (.long i.toInt64 :: st) h Q := R_i2l rfl
theorem s206_953 : Runs 206 953 ls st h Q ↔ Runs 206 955 ls (.int 32 :: st) h Q := R_bipush rfl (by decide)
theorem s206_955 : Runs 206 955 ls (.int j :: .long u :: st) h Q ↔ Runs 206 956 ls (.long (u <<< (j.toInt64 &&& 63)) :: st) h Q := R_lshl rfl
theorem s206_956 : Runs 206 956 [some (.ref a), x1, x2, x3] st h Q ↔ Runs 206 957 [some (.ref a), x1, x2, x3] (.ref a :: st) h Q := R_aldn rfl rfl
theorem s206_956q : Runs 206 956 [some (zrf r), x1, x2, x3] st h Q ↔ Runs 206 957 [some (zrf r), x1, x2, x3] (zrf r :: st) h Q := R_aldnq rfl rfl
theorem s206_957 : Runs 206 957 [x0, x1, x2, some (.int i)] st h Q ↔ Runs 206 958 [x0, x1, x2, some (.int i)] (.int i :: st) h Q := R_ildn rfl rfl
theorem s206_958 : Runs 206 958 ls st h Q ↔ Runs 206 959 ls (.int 5 :: st) h Q := R_iconst rfl rfl
theorem s206_959 : Runs 206 959 ls (.int j :: .int i :: st) h Q ↔ Runs 206 960 ls (.int (i + j) :: st) h Q := R_iadd rfl
theorem s206_960 (ht : tg a = 20) : Runs 206 960 ls (.int i :: .ref a :: st) (n, tg, ln, I, J, O) Q ↔ ((0 ≤ i ∧ i < Int32.ofNat (ln a)) ∧ Runs 206 961 ls (.int (I a i) :: st) (n, tg, ln, I, J, O) Q) := R_iald rfl ht
theorem s206_960q (ht : tg a = 30) : Runs 206 960 ls (.int i :: .ref a :: st) (n, tg, ln, I, J, O) Q ↔ ((0 ≤ i ∧ i < Int32.ofNat (ln a)) ∧ Runs 206 961 ls (.int (I a i) :: st) (n, tg, ln, I, J, O) Q) := R_iald0 rfl ht
theorem s206_961 : Runs 206 961 ls (.int i :: st) h Q ↔ Runs 206 962 ls (.long i.toInt64 :: st) h Q := R_i2l rfl
theorem s206_962 : Runs 206 962 ls st h Q ↔ Runs 206 965 ls (.long 4294967295 :: st) h Q := R_ldc2 rfl rfl
theorem s206_965 : Runs 206 965 ls (.long w :: .long u :: st) h Q ↔ Runs 206 966 ls (.long (u &&& w) :: st) h Q := R_land rfl
theorem s206_966 : Runs 206 966 ls (.long w :: .long u :: st) h Q ↔ Runs 206 967 ls (.long (u ||| w) :: st) h Q := R_lor rfl
theorem s206_967 (ht : tg a = 10) (hs : zsumc st ≤ 8) : Runs 206 967 ls (.long u3 :: .int i2 :: .int i1 :: .int i0 :: .ref a :: st) (n, tg, ln, I, J, O) Q ↔ Runs 194 0 [some (.ref a), some (.int i0), some (.int i1), some (.int i2), some (.long u3), none, none] [] (n, tg, ln, I, J, O) (fun v h2 => Runs 206 970 ls (v.toList ++ st) h2 Q) := R_callv (a := a) (rest := st) rfl rfl rfl rfl rfl rfl rfl ht hs
theorem s206_970 : Runs 206 970 ls (.int j :: .int i :: st) h Q ↔ if i = j then Runs 206 1193 ls st h Q else Runs 206 973 ls st h Q := R_iceq rfl rfl
theorem s206_973 : Runs 206 973 ls st h Q ↔ Runs 206 974 ls (.int 0 :: st) h Q := R_iconst rfl rfl
theorem s206_974 (hx : i = 0 ∨ i = 1) : Runs 206 974 ls [.int i] h Q ↔ Q (some (.int i)) h := R_zret rfl rfl hx
theorem s206_975 : Runs 206 975 [x0, some (.ref a), x2, x3] st h Q ↔ Runs 206 976 [x0, some (.ref a), x2, x3] (.ref a :: st) h Q := R_aldn rfl rfl
theorem s206_975q : Runs 206 975 [x0, some (zrf r), x2, x3] st h Q ↔ Runs 206 976 [x0, some (zrf r), x2, x3] (zrf r :: st) h Q := R_aldnq rfl rfl
theorem s206_976 : Runs 206 976 [some (.ref a), x1, x2, x3] st h Q ↔ Runs 206 977 [some (.ref a), x1, x2, x3] (.ref a :: st) h Q := R_aldn rfl rfl
theorem s206_976q : Runs 206 976 [some (zrf r), x1, x2, x3] st h Q ↔ Runs 206 977 [some (zrf r), x1, x2, x3] (zrf r :: st) h Q := R_aldnq rfl rfl
theorem s206_977 : Runs 206 977 [x0, x1, x2, some (.int i)] st h Q ↔ Runs 206 978 [x0, x1, x2, some (.int i)] (.int i :: st) h Q := R_ildn rfl rfl
theorem s206_978 : Runs 206 978 ls st h Q ↔ Runs 206 979 ls (.int 1 :: st) h Q := R_iconst rfl rfl
theorem s206_979 : Runs 206 979 ls (.int j :: .int i :: st) h Q ↔ Runs 206 980 ls (.int (i + j) :: st) h Q := R_iadd rfl
theorem s206_980 (ht : tg a = 20) : Runs 206 980 ls (.int i :: .ref a :: st) (n, tg, ln, I, J, O) Q ↔ ((0 ≤ i ∧ i < Int32.ofNat (ln a)) ∧ Runs 206 981 ls (.int (I a i) :: st) (n, tg, ln, I, J, O) Q) := R_iald rfl ht
theorem s206_980q (ht : tg a = 30) : Runs 206 980 ls (.int i :: .ref a :: st) (n, tg, ln, I, J, O) Q ↔ ((0 ≤ i ∧ i < Int32.ofNat (ln a)) ∧ Runs 206 981 ls (.int (I a i) :: st) (n, tg, ln, I, J, O) Q) := R_iald0 rfl ht
theorem s206_981 : Runs 206 981 [some (.ref a), x1, x2, x3] st h Q ↔ Runs 206 982 [some (.ref a), x1, x2, x3] (.ref a :: st) h Q := R_aldn rfl rfl
theorem s206_981q : Runs 206 981 [some (zrf r), x1, x2, x3] st h Q ↔ Runs 206 982 [some (zrf r), x1, x2, x3] (zrf r :: st) h Q := R_aldnq rfl rfl
theorem s206_982 : Runs 206 982 [x0, x1, x2, some (.int i)] st h Q ↔ Runs 206 983 [x0, x1, x2, some (.int i)] (.int i :: st) h Q := R_ildn rfl rfl
theorem s206_983 : Runs 206 983 ls st h Q ↔ Runs 206 984 ls (.int 2 :: st) h Q := R_iconst rfl rfl
theorem s206_984 : Runs 206 984 ls (.int j :: .int i :: st) h Q ↔ Runs 206 985 ls (.int (i + j) :: st) h Q := R_iadd rfl
theorem s206_985 (ht : tg a = 20) : Runs 206 985 ls (.int i :: .ref a :: st) (n, tg, ln, I, J, O) Q ↔ ((0 ≤ i ∧ i < Int32.ofNat (ln a)) ∧ Runs 206 986 ls (.int (I a i) :: st) (n, tg, ln, I, J, O) Q) := R_iald rfl ht
theorem s206_985q (ht : tg a = 30) : Runs 206 985 ls (.int i :: .ref a :: st) (n, tg, ln, I, J, O) Q ↔ ((0 ≤ i ∧ i < Int32.ofNat (ln a)) ∧ Runs 206 986 ls (.int (I a i) :: st) (n, tg, ln, I, J, O) Q) := R_iald0 rfl ht
theorem s206_986 (ht : tg a = 9) (hs : zsumc st ≤ 8) : Runs 206 986 ls (.int i1 :: .int i0 :: .ref a :: st) (n, tg, ln, I, J, O) Q ↔ Runs 110 0 [some (.ref a), some (.int i0), some (.int i1), none, none] [] (n, tg, ln, I, J, O) (fun v h2 => Runs 206 989 ls (v.toList ++ st) h2 Q) := R_callv (a := a) (rest := st) rfl rfl rfl rfl rfl rfl rfl ht hs
theorem s206_989 : Runs 206 989 [x0, x1, some (.ref a), x3] st h Q ↔ Runs 206 990 [x0, x1, some (.ref a), x3] (.ref a :: st) h Q := R_aldn rfl rfl
theorem s206_989q : Runs 206 989 [x0, x1, some (zrf r), x3] st h Q ↔ Runs 206 990 [x0, x1, some (zrf r), x3] (zrf r :: st) h Q := R_aldnq rfl rfl
theorem s206_990 : Runs 206 990 [some (.ref a), x1, x2, x3] st h Q ↔ Runs 206 991 [some (.ref a), x1, x2, x3] (.ref a :: st) h Q := R_aldn rfl rfl
theorem s206_990q : Runs 206 990 [some (zrf r), x1, x2, x3] st h Q ↔ Runs 206 991 [some (zrf r), x1, x2, x3] (zrf r :: st) h Q := R_aldnq rfl rfl
theorem s206_991 : Runs 206 991 [x0, x1, x2, some (.int i)] st h Q ↔ Runs 206 992 [x0, x1, x2, some (.int i)] (.int i :: st) h Q := R_ildn rfl rfl
theorem s206_992 : Runs 206 992 ls st h Q ↔ Runs 206 993 ls (.int 1 :: st) h Q := R_iconst rfl rfl
theorem s206_993 : Runs 206 993 ls (.int j :: .int i :: st) h Q ↔ Runs 206 994 ls (.int (i + j) :: st) h Q := R_iadd rfl
theorem s206_994 (ht : tg a = 20) : Runs 206 994 ls (.int i :: .ref a :: st) (n, tg, ln, I, J, O) Q ↔ ((0 ≤ i ∧ i < Int32.ofNat (ln a)) ∧ Runs 206 995 ls (.int (I a i) :: st) (n, tg, ln, I, J, O) Q) := R_iald rfl ht
theorem s206_994q (ht : tg a = 30) : Runs 206 994 ls (.int i :: .ref a :: st) (n, tg, ln, I, J, O) Q ↔ ((0 ≤ i ∧ i < Int32.ofNat (ln a)) ∧ Runs 206 995 ls (.int (I a i) :: st) (n, tg, ln, I, J, O) Q) := R_iald0 rfl ht
theorem s206_995 : Runs 206 995 [some (.ref a), x1, x2, x3] st h Q ↔ Runs 206 996 [some (.ref a), x1, x2, x3] (.ref a :: st) h Q := R_aldn rfl rfl
theorem s206_995q : Runs 206 995 [some (zrf r), x1, x2, x3] st h Q ↔ Runs 206 996 [some (zrf r), x1, x2, x3] (zrf r :: st) h Q := R_aldnq rfl rfl
theorem s206_996 : Runs 206 996 [x0, x1, x2, some (.int i)] st h Q ↔ Runs 206 997 [x0, x1, x2, some (.int i)] (.int i :: st) h Q := R_ildn rfl rfl
theorem s206_997 : Runs 206 997 ls st h Q ↔ Runs 206 998 ls (.int 2 :: st) h Q := R_iconst rfl rfl
theorem s206_998 : Runs 206 998 ls (.int j :: .int i :: st) h Q ↔ Runs 206 999 ls (.int (i + j) :: st) h Q := R_iadd rfl
theorem s206_999 (ht : tg a = 20) : Runs 206 999 ls (.int i :: .ref a :: st) (n, tg, ln, I, J, O) Q ↔ ((0 ≤ i ∧ i < Int32.ofNat (ln a)) ∧ Runs 206 1000 ls (.int (I a i) :: st) (n, tg, ln, I, J, O) Q) := R_iald rfl ht
theorem s206_999q (ht : tg a = 30) : Runs 206 999 ls (.int i :: .ref a :: st) (n, tg, ln, I, J, O) Q ↔ ((0 ≤ i ∧ i < Int32.ofNat (ln a)) ∧ Runs 206 1000 ls (.int (I a i) :: st) (n, tg, ln, I, J, O) Q) := R_iald0 rfl ht
theorem s206_1000 (ht : tg a = 10) (hs : zsumc st ≤ 8) : Runs 206 1000 ls (.int i1 :: .int i0 :: .ref a :: st) (n, tg, ln, I, J, O) Q ↔ Runs 195 0 [some (.ref a), some (.int i0), some (.int i1), none, none] [] (n, tg, ln, I, J, O) (fun v h2 => Runs 206 1003 ls (v.toList ++ st) h2 Q) := R_callv (a := a) (rest := st) rfl rfl rfl rfl rfl rfl rfl ht hs
theorem s206_1003 : Runs 206 1003 ls (.int j :: .int i :: st) h Q ↔ if i = j then Runs 206 1193 ls st h Q else Runs 206 1006 ls st h Q := R_iceq rfl rfl
theorem s206_1006 : Runs 206 1006 ls st h Q ↔ Runs 206 1007 ls (.int 0 :: st) h Q := R_iconst rfl rfl
theorem s206_1007 (hx : i = 0 ∨ i = 1) : Runs 206 1007 ls [.int i] h Q ↔ Q (some (.int i)) h := R_zret rfl rfl hx
theorem s206_1008 : Runs 206 1008 [x0, some (.ref a), x2, x3] st h Q ↔ Runs 206 1009 [x0, some (.ref a), x2, x3] (.ref a :: st) h Q := R_aldn rfl rfl
theorem s206_1008q : Runs 206 1008 [x0, some (zrf r), x2, x3] st h Q ↔ Runs 206 1009 [x0, some (zrf r), x2, x3] (zrf r :: st) h Q := R_aldnq rfl rfl
theorem s206_1009 : Runs 206 1009 [some (.ref a), x1, x2, x3] st h Q ↔ Runs 206 1010 [some (.ref a), x1, x2, x3] (.ref a :: st) h Q := R_aldn rfl rfl
theorem s206_1009q : Runs 206 1009 [some (zrf r), x1, x2, x3] st h Q ↔ Runs 206 1010 [some (zrf r), x1, x2, x3] (zrf r :: st) h Q := R_aldnq rfl rfl
theorem s206_1010 : Runs 206 1010 [x0, x1, x2, some (.int i)] st h Q ↔ Runs 206 1011 [x0, x1, x2, some (.int i)] (.int i :: st) h Q := R_ildn rfl rfl
theorem s206_1011 : Runs 206 1011 ls st h Q ↔ Runs 206 1012 ls (.int 1 :: st) h Q := R_iconst rfl rfl
theorem s206_1012 : Runs 206 1012 ls (.int j :: .int i :: st) h Q ↔ Runs 206 1013 ls (.int (i + j) :: st) h Q := R_iadd rfl
theorem s206_1013 (ht : tg a = 20) : Runs 206 1013 ls (.int i :: .ref a :: st) (n, tg, ln, I, J, O) Q ↔ ((0 ≤ i ∧ i < Int32.ofNat (ln a)) ∧ Runs 206 1014 ls (.int (I a i) :: st) (n, tg, ln, I, J, O) Q) := R_iald rfl ht
theorem s206_1013q (ht : tg a = 30) : Runs 206 1013 ls (.int i :: .ref a :: st) (n, tg, ln, I, J, O) Q ↔ ((0 ≤ i ∧ i < Int32.ofNat (ln a)) ∧ Runs 206 1014 ls (.int (I a i) :: st) (n, tg, ln, I, J, O) Q) := R_iald0 rfl ht
theorem s206_1014 : Runs 206 1014 [some (.ref a), x1, x2, x3] st h Q ↔ Runs 206 1015 [some (.ref a), x1, x2, x3] (.ref a :: st) h Q := R_aldn rfl rfl
theorem s206_1014q : Runs 206 1014 [some (zrf r), x1, x2, x3] st h Q ↔ Runs 206 1015 [some (zrf r), x1, x2, x3] (zrf r :: st) h Q := R_aldnq rfl rfl
theorem s206_1015 : Runs 206 1015 [x0, x1, x2, some (.int i)] st h Q ↔ Runs 206 1016 [x0, x1, x2, some (.int i)] (.int i :: st) h Q := R_ildn rfl rfl
theorem s206_1016 : Runs 206 1016 ls st h Q ↔ Runs 206 1017 ls (.int 2 :: st) h Q := R_iconst rfl rfl
theorem s206_1017 : Runs 206 1017 ls (.int j :: .int i :: st) h Q ↔ Runs 206 1018 ls (.int (i + j) :: st) h Q := R_iadd rfl
theorem s206_1018 (ht : tg a = 20) : Runs 206 1018 ls (.int i :: .ref a :: st) (n, tg, ln, I, J, O) Q ↔ ((0 ≤ i ∧ i < Int32.ofNat (ln a)) ∧ Runs 206 1019 ls (.int (I a i) :: st) (n, tg, ln, I, J, O) Q) := R_iald rfl ht
theorem s206_1018q (ht : tg a = 30) : Runs 206 1018 ls (.int i :: .ref a :: st) (n, tg, ln, I, J, O) Q ↔ ((0 ≤ i ∧ i < Int32.ofNat (ln a)) ∧ Runs 206 1019 ls (.int (I a i) :: st) (n, tg, ln, I, J, O) Q) := R_iald0 rfl ht
theorem s206_1019 (ht : tg a = 9) (hs : zsumc st ≤ 8) : Runs 206 1019 ls (.int i1 :: .int i0 :: .ref a :: st) (n, tg, ln, I, J, O) Q ↔ Runs 111 0 [some (.ref a), some (.int i0), some (.int i1), none, none] [] (n, tg, ln, I, J, O) (fun v h2 => Runs 206 1022 ls (v.toList ++ st) h2 Q) := R_callv (a := a) (rest := st) rfl rfl rfl rfl rfl rfl rfl ht hs
theorem s206_1022 : Runs 206 1022 [x0, x1, some (.ref a), x3] st h Q ↔ Runs 206 1023 [x0, x1, some (.ref a), x3] (.ref a :: st) h Q := R_aldn rfl rfl
theorem s206_1022q : Runs 206 1022 [x0, x1, some (zrf r), x3] st h Q ↔ Runs 206 1023 [x0, x1, some (zrf r), x3] (zrf r :: st) h Q := R_aldnq rfl rfl
theorem s206_1023 : Runs 206 1023 [some (.ref a), x1, x2, x3] st h Q ↔ Runs 206 1024 [some (.ref a), x1, x2, x3] (.ref a :: st) h Q := R_aldn rfl rfl
theorem s206_1023q : Runs 206 1023 [some (zrf r), x1, x2, x3] st h Q ↔ Runs 206 1024 [some (zrf r), x1, x2, x3] (zrf r :: st) h Q := R_aldnq rfl rfl
theorem s206_1024 : Runs 206 1024 [x0, x1, x2, some (.int i)] st h Q ↔ Runs 206 1025 [x0, x1, x2, some (.int i)] (.int i :: st) h Q := R_ildn rfl rfl
theorem s206_1025 : Runs 206 1025 ls st h Q ↔ Runs 206 1026 ls (.int 1 :: st) h Q := R_iconst rfl rfl
theorem s206_1026 : Runs 206 1026 ls (.int j :: .int i :: st) h Q ↔ Runs 206 1027 ls (.int (i + j) :: st) h Q := R_iadd rfl
theorem s206_1027 (ht : tg a = 20) : Runs 206 1027 ls (.int i :: .ref a :: st) (n, tg, ln, I, J, O) Q ↔ ((0 ≤ i ∧ i < Int32.ofNat (ln a)) ∧ Runs 206 1028 ls (.int (I a i) :: st) (n, tg, ln, I, J, O) Q) := R_iald rfl ht
theorem s206_1027q (ht : tg a = 30) : Runs 206 1027 ls (.int i :: .ref a :: st) (n, tg, ln, I, J, O) Q ↔ ((0 ≤ i ∧ i < Int32.ofNat (ln a)) ∧ Runs 206 1028 ls (.int (I a i) :: st) (n, tg, ln, I, J, O) Q) := R_iald0 rfl ht
theorem s206_1028 : Runs 206 1028 [some (.ref a), x1, x2, x3] st h Q ↔ Runs 206 1029 [some (.ref a), x1, x2, x3] (.ref a :: st) h Q := R_aldn rfl rfl
theorem s206_1028q : Runs 206 1028 [some (zrf r), x1, x2, x3] st h Q ↔ Runs 206 1029 [some (zrf r), x1, x2, x3] (zrf r :: st) h Q := R_aldnq rfl rfl
theorem s206_1029 : Runs 206 1029 [x0, x1, x2, some (.int i)] st h Q ↔ Runs 206 1030 [x0, x1, x2, some (.int i)] (.int i :: st) h Q := R_ildn rfl rfl
theorem s206_1030 : Runs 206 1030 ls st h Q ↔ Runs 206 1031 ls (.int 2 :: st) h Q := R_iconst rfl rfl
theorem s206_1031 : Runs 206 1031 ls (.int j :: .int i :: st) h Q ↔ Runs 206 1032 ls (.int (i + j) :: st) h Q := R_iadd rfl
theorem s206_1032 (ht : tg a = 20) : Runs 206 1032 ls (.int i :: .ref a :: st) (n, tg, ln, I, J, O) Q ↔ ((0 ≤ i ∧ i < Int32.ofNat (ln a)) ∧ Runs 206 1033 ls (.int (I a i) :: st) (n, tg, ln, I, J, O) Q) := R_iald rfl ht
theorem s206_1032q (ht : tg a = 30) : Runs 206 1032 ls (.int i :: .ref a :: st) (n, tg, ln, I, J, O) Q ↔ ((0 ≤ i ∧ i < Int32.ofNat (ln a)) ∧ Runs 206 1033 ls (.int (I a i) :: st) (n, tg, ln, I, J, O) Q) := R_iald0 rfl ht
theorem s206_1033 (ht : tg a = 10) (hs : zsumc st ≤ 8) : Runs 206 1033 ls (.int i1 :: .int i0 :: .ref a :: st) (n, tg, ln, I, J, O) Q ↔ Runs 197 0 [some (.ref a), some (.int i0), some (.int i1), none, none] [] (n, tg, ln, I, J, O) (fun v h2 => Runs 206 1036 ls (v.toList ++ st) h2 Q) := R_callv (a := a) (rest := st) rfl rfl rfl rfl rfl rfl rfl ht hs
theorem s206_1036 : Runs 206 1036 ls (.int j :: .int i :: st) h Q ↔ if i = j then Runs 206 1193 ls st h Q else Runs 206 1039 ls st h Q := R_iceq rfl rfl
theorem s206_1039 : Runs 206 1039 ls st h Q ↔ Runs 206 1040 ls (.int 0 :: st) h Q := R_iconst rfl rfl
theorem s206_1040 (hx : i = 0 ∨ i = 1) : Runs 206 1040 ls [.int i] h Q ↔ Q (some (.int i)) h := R_zret rfl rfl hx
theorem s206_1041 : Runs 206 1041 [x0, some (.ref a), x2, x3] st h Q ↔ Runs 206 1042 [x0, some (.ref a), x2, x3] (.ref a :: st) h Q := R_aldn rfl rfl
theorem s206_1041q : Runs 206 1041 [x0, some (zrf r), x2, x3] st h Q ↔ Runs 206 1042 [x0, some (zrf r), x2, x3] (zrf r :: st) h Q := R_aldnq rfl rfl
theorem s206_1042 : Runs 206 1042 [some (.ref a), x1, x2, x3] st h Q ↔ Runs 206 1043 [some (.ref a), x1, x2, x3] (.ref a :: st) h Q := R_aldn rfl rfl
theorem s206_1042q : Runs 206 1042 [some (zrf r), x1, x2, x3] st h Q ↔ Runs 206 1043 [some (zrf r), x1, x2, x3] (zrf r :: st) h Q := R_aldnq rfl rfl
theorem s206_1043 : Runs 206 1043 [x0, x1, x2, some (.int i)] st h Q ↔ Runs 206 1044 [x0, x1, x2, some (.int i)] (.int i :: st) h Q := R_ildn rfl rfl
theorem s206_1044 : Runs 206 1044 ls st h Q ↔ Runs 206 1045 ls (.int 1 :: st) h Q := R_iconst rfl rfl
theorem s206_1045 : Runs 206 1045 ls (.int j :: .int i :: st) h Q ↔ Runs 206 1046 ls (.int (i + j) :: st) h Q := R_iadd rfl
theorem s206_1046 (ht : tg a = 20) : Runs 206 1046 ls (.int i :: .ref a :: st) (n, tg, ln, I, J, O) Q ↔ ((0 ≤ i ∧ i < Int32.ofNat (ln a)) ∧ Runs 206 1047 ls (.int (I a i) :: st) (n, tg, ln, I, J, O) Q) := R_iald rfl ht
theorem s206_1046q (ht : tg a = 30) : Runs 206 1046 ls (.int i :: .ref a :: st) (n, tg, ln, I, J, O) Q ↔ ((0 ≤ i ∧ i < Int32.ofNat (ln a)) ∧ Runs 206 1047 ls (.int (I a i) :: st) (n, tg, ln, I, J, O) Q) := R_iald0 rfl ht
theorem s206_1047 : Runs 206 1047 [some (.ref a), x1, x2, x3] st h Q ↔ Runs 206 1048 [some (.ref a), x1, x2, x3] (.ref a :: st) h Q := R_aldn rfl rfl
theorem s206_1047q : Runs 206 1047 [some (zrf r), x1, x2, x3] st h Q ↔ Runs 206 1048 [some (zrf r), x1, x2, x3] (zrf r :: st) h Q := R_aldnq rfl rfl
theorem s206_1048 : Runs 206 1048 [x0, x1, x2, some (.int i)] st h Q ↔ Runs 206 1049 [x0, x1, x2, some (.int i)] (.int i :: st) h Q := R_ildn rfl rfl
theorem s206_1049 : Runs 206 1049 ls st h Q ↔ Runs 206 1050 ls (.int 2 :: st) h Q := R_iconst rfl rfl
theorem s206_1050 : Runs 206 1050 ls (.int j :: .int i :: st) h Q ↔ Runs 206 1051 ls (.int (i + j) :: st) h Q := R_iadd rfl
theorem s206_1051 (ht : tg a = 20) : Runs 206 1051 ls (.int i :: .ref a :: st) (n, tg, ln, I, J, O) Q ↔ ((0 ≤ i ∧ i < Int32.ofNat (ln a)) ∧ Runs 206 1052 ls (.int (I a i) :: st) (n, tg, ln, I, J, O) Q) := R_iald rfl ht
theorem s206_1051q (ht : tg a = 30) : Runs 206 1051 ls (.int i :: .ref a :: st) (n, tg, ln, I, J, O) Q ↔ ((0 ≤ i ∧ i < Int32.ofNat (ln a)) ∧ Runs 206 1052 ls (.int (I a i) :: st) (n, tg, ln, I, J, O) Q) := R_iald0 rfl ht
theorem s206_1052 : Runs 206 1052 [some (.ref a), x1, x2, x3] st h Q ↔ Runs 206 1053 [some (.ref a), x1, x2, x3] (.ref a :: st) h Q := R_aldn rfl rfl
theorem s206_1052q : Runs 206 1052 [some (zrf r), x1, x2, x3] st h Q ↔ Runs 206 1053 [some (zrf r), x1, x2, x3] (zrf r :: st) h Q := R_aldnq rfl rfl
theorem s206_1053 : Runs 206 1053 [x0, x1, x2, some (.int i)] st h Q ↔ Runs 206 1054 [x0, x1, x2, some (.int i)] (.int i :: st) h Q := R_ildn rfl rfl
theorem s206_1054 : Runs 206 1054 ls st h Q ↔ Runs 206 1055 ls (.int 3 :: st) h Q := R_iconst rfl rfl
theorem s206_1055 : Runs 206 1055 ls (.int j :: .int i :: st) h Q ↔ Runs 206 1056 ls (.int (i + j) :: st) h Q := R_iadd rfl
theorem s206_1056 (ht : tg a = 20) : Runs 206 1056 ls (.int i :: .ref a :: st) (n, tg, ln, I, J, O) Q ↔ ((0 ≤ i ∧ i < Int32.ofNat (ln a)) ∧ Runs 206 1057 ls (.int (I a i) :: st) (n, tg, ln, I, J, O) Q) := R_iald rfl ht
theorem s206_1056q (ht : tg a = 30) : Runs 206 1056 ls (.int i :: .ref a :: st) (n, tg, ln, I, J, O) Q ↔ ((0 ≤ i ∧ i < Int32.ofNat (ln a)) ∧ Runs 206 1057 ls (.int (I a i) :: st) (n, tg, ln, I, J, O) Q) := R_iald0 rfl ht
theorem s206_1057 (ht : tg a = 9) (hs : zsumc st ≤ 8) : Runs 206 1057 ls (.int i2 :: .int i1 :: .int i0 :: .ref a :: st) (n, tg, ln, I, J, O) Q ↔ Runs 112 0 [some (.ref a), some (.int i0), some (.int i1), some (.int i2), none] [] (n, tg, ln, I, J, O) (fun v h2 => Runs 206 1060 ls (v.toList ++ st) h2 Q) := R_callv (a := a) (rest := st) rfl rfl rfl rfl rfl rfl rfl ht hs
theorem s206_1060 : Runs 206 1060 [x0, x1, some (.ref a), x3] st h Q ↔ Runs 206 1061 [x0, x1, some (.ref a), x3] (.ref a :: st) h Q := R_aldn rfl rfl
theorem s206_1060q : Runs 206 1060 [x0, x1, some (zrf r), x3] st h Q ↔ Runs 206 1061 [x0, x1, some (zrf r), x3] (zrf r :: st) h Q := R_aldnq rfl rfl
theorem s206_1061 : Runs 206 1061 [some (.ref a), x1, x2, x3] st h Q ↔ Runs 206 1062 [some (.ref a), x1, x2, x3] (.ref a :: st) h Q := R_aldn rfl rfl
theorem s206_1061q : Runs 206 1061 [some (zrf r), x1, x2, x3] st h Q ↔ Runs 206 1062 [some (zrf r), x1, x2, x3] (zrf r :: st) h Q := R_aldnq rfl rfl
theorem s206_1062 : Runs 206 1062 [x0, x1, x2, some (.int i)] st h Q ↔ Runs 206 1063 [x0, x1, x2, some (.int i)] (.int i :: st) h Q := R_ildn rfl rfl
theorem s206_1063 : Runs 206 1063 ls st h Q ↔ Runs 206 1064 ls (.int 1 :: st) h Q := R_iconst rfl rfl
theorem s206_1064 : Runs 206 1064 ls (.int j :: .int i :: st) h Q ↔ Runs 206 1065 ls (.int (i + j) :: st) h Q := R_iadd rfl
theorem s206_1065 (ht : tg a = 20) : Runs 206 1065 ls (.int i :: .ref a :: st) (n, tg, ln, I, J, O) Q ↔ ((0 ≤ i ∧ i < Int32.ofNat (ln a)) ∧ Runs 206 1066 ls (.int (I a i) :: st) (n, tg, ln, I, J, O) Q) := R_iald rfl ht
theorem s206_1065q (ht : tg a = 30) : Runs 206 1065 ls (.int i :: .ref a :: st) (n, tg, ln, I, J, O) Q ↔ ((0 ≤ i ∧ i < Int32.ofNat (ln a)) ∧ Runs 206 1066 ls (.int (I a i) :: st) (n, tg, ln, I, J, O) Q) := R_iald0 rfl ht
theorem s206_1066 : Runs 206 1066 [some (.ref a), x1, x2, x3] st h Q ↔ Runs 206 1067 [some (.ref a), x1, x2, x3] (.ref a :: st) h Q := R_aldn rfl rfl
theorem s206_1066q : Runs 206 1066 [some (zrf r), x1, x2, x3] st h Q ↔ Runs 206 1067 [some (zrf r), x1, x2, x3] (zrf r :: st) h Q := R_aldnq rfl rfl
theorem s206_1067 : Runs 206 1067 [x0, x1, x2, some (.int i)] st h Q ↔ Runs 206 1068 [x0, x1, x2, some (.int i)] (.int i :: st) h Q := R_ildn rfl rfl
theorem s206_1068 : Runs 206 1068 ls st h Q ↔ Runs 206 1069 ls (.int 2 :: st) h Q := R_iconst rfl rfl
theorem s206_1069 : Runs 206 1069 ls (.int j :: .int i :: st) h Q ↔ Runs 206 1070 ls (.int (i + j) :: st) h Q := R_iadd rfl
theorem s206_1070 (ht : tg a = 20) : Runs 206 1070 ls (.int i :: .ref a :: st) (n, tg, ln, I, J, O) Q ↔ ((0 ≤ i ∧ i < Int32.ofNat (ln a)) ∧ Runs 206 1071 ls (.int (I a i) :: st) (n, tg, ln, I, J, O) Q) := R_iald rfl ht
theorem s206_1070q (ht : tg a = 30) : Runs 206 1070 ls (.int i :: .ref a :: st) (n, tg, ln, I, J, O) Q ↔ ((0 ≤ i ∧ i < Int32.ofNat (ln a)) ∧ Runs 206 1071 ls (.int (I a i) :: st) (n, tg, ln, I, J, O) Q) := R_iald0 rfl ht
theorem s206_1071 : Runs 206 1071 [some (.ref a), x1, x2, x3] st h Q ↔ Runs 206 1072 [some (.ref a), x1, x2, x3] (.ref a :: st) h Q := R_aldn rfl rfl
theorem s206_1071q : Runs 206 1071 [some (zrf r), x1, x2, x3] st h Q ↔ Runs 206 1072 [some (zrf r), x1, x2, x3] (zrf r :: st) h Q := R_aldnq rfl rfl
theorem s206_1072 : Runs 206 1072 [x0, x1, x2, some (.int i)] st h Q ↔ Runs 206 1073 [x0, x1, x2, some (.int i)] (.int i :: st) h Q := R_ildn rfl rfl
theorem s206_1073 : Runs 206 1073 ls st h Q ↔ Runs 206 1074 ls (.int 3 :: st) h Q := R_iconst rfl rfl
theorem s206_1074 : Runs 206 1074 ls (.int j :: .int i :: st) h Q ↔ Runs 206 1075 ls (.int (i + j) :: st) h Q := R_iadd rfl
theorem s206_1075 (ht : tg a = 20) : Runs 206 1075 ls (.int i :: .ref a :: st) (n, tg, ln, I, J, O) Q ↔ ((0 ≤ i ∧ i < Int32.ofNat (ln a)) ∧ Runs 206 1076 ls (.int (I a i) :: st) (n, tg, ln, I, J, O) Q) := R_iald rfl ht
theorem s206_1075q (ht : tg a = 30) : Runs 206 1075 ls (.int i :: .ref a :: st) (n, tg, ln, I, J, O) Q ↔ ((0 ≤ i ∧ i < Int32.ofNat (ln a)) ∧ Runs 206 1076 ls (.int (I a i) :: st) (n, tg, ln, I, J, O) Q) := R_iald0 rfl ht
theorem s206_1076 (ht : tg a = 10) (hs : zsumc st ≤ 8) : Runs 206 1076 ls (.int i2 :: .int i1 :: .int i0 :: .ref a :: st) (n, tg, ln, I, J, O) Q ↔ Runs 198 0 [some (.ref a), some (.int i0), some (.int i1), some (.int i2), none, none, none, none] [] (n, tg, ln, I, J, O) (fun v h2 => Runs 206 1079 ls (v.toList ++ st) h2 Q) := R_callv (a := a) (rest := st) rfl rfl rfl rfl rfl rfl rfl ht hs
theorem s206_1079 : Runs 206 1079 ls (.int j :: .int i :: st) h Q ↔ if i = j then Runs 206 1193 ls st h Q else Runs 206 1082 ls st h Q := R_iceq rfl rfl
theorem s206_1082 : Runs 206 1082 ls st h Q ↔ Runs 206 1083 ls (.int 0 :: st) h Q := R_iconst rfl rfl
theorem s206_1083 (hx : i = 0 ∨ i = 1) : Runs 206 1083 ls [.int i] h Q ↔ Q (some (.int i)) h := R_zret rfl rfl hx
theorem s206_1084 : Runs 206 1084 [x0, some (.ref a), x2, x3] st h Q ↔ Runs 206 1085 [x0, some (.ref a), x2, x3] (.ref a :: st) h Q := R_aldn rfl rfl
theorem s206_1084q : Runs 206 1084 [x0, some (zrf r), x2, x3] st h Q ↔ Runs 206 1085 [x0, some (zrf r), x2, x3] (zrf r :: st) h Q := R_aldnq rfl rfl
theorem s206_1085 : Runs 206 1085 [some (.ref a), x1, x2, x3] st h Q ↔ Runs 206 1086 [some (.ref a), x1, x2, x3] (.ref a :: st) h Q := R_aldn rfl rfl
theorem s206_1085q : Runs 206 1085 [some (zrf r), x1, x2, x3] st h Q ↔ Runs 206 1086 [some (zrf r), x1, x2, x3] (zrf r :: st) h Q := R_aldnq rfl rfl
theorem s206_1086 : Runs 206 1086 [x0, x1, x2, some (.int i)] st h Q ↔ Runs 206 1087 [x0, x1, x2, some (.int i)] (.int i :: st) h Q := R_ildn rfl rfl
theorem s206_1087 : Runs 206 1087 ls st h Q ↔ Runs 206 1088 ls (.int 1 :: st) h Q := R_iconst rfl rfl
theorem s206_1088 : Runs 206 1088 ls (.int j :: .int i :: st) h Q ↔ Runs 206 1089 ls (.int (i + j) :: st) h Q := R_iadd rfl
theorem s206_1089 (ht : tg a = 20) : Runs 206 1089 ls (.int i :: .ref a :: st) (n, tg, ln, I, J, O) Q ↔ ((0 ≤ i ∧ i < Int32.ofNat (ln a)) ∧ Runs 206 1090 ls (.int (I a i) :: st) (n, tg, ln, I, J, O) Q) := R_iald rfl ht
theorem s206_1089q (ht : tg a = 30) : Runs 206 1089 ls (.int i :: .ref a :: st) (n, tg, ln, I, J, O) Q ↔ ((0 ≤ i ∧ i < Int32.ofNat (ln a)) ∧ Runs 206 1090 ls (.int (I a i) :: st) (n, tg, ln, I, J, O) Q) := R_iald0 rfl ht
theorem s206_1090 : Runs 206 1090 [some (.ref a), x1, x2, x3] st h Q ↔ Runs 206 1091 [some (.ref a), x1, x2, x3] (.ref a :: st) h Q := R_aldn rfl rfl
theorem s206_1090q : Runs 206 1090 [some (zrf r), x1, x2, x3] st h Q ↔ Runs 206 1091 [some (zrf r), x1, x2, x3] (zrf r :: st) h Q := R_aldnq rfl rfl
theorem s206_1091 : Runs 206 1091 [x0, x1, x2, some (.int i)] st h Q ↔ Runs 206 1092 [x0, x1, x2, some (.int i)] (.int i :: st) h Q := R_ildn rfl rfl
theorem s206_1092 : Runs 206 1092 ls st h Q ↔ Runs 206 1093 ls (.int 2 :: st) h Q := R_iconst rfl rfl
theorem s206_1093 : Runs 206 1093 ls (.int j :: .int i :: st) h Q ↔ Runs 206 1094 ls (.int (i + j) :: st) h Q := R_iadd rfl
theorem s206_1094 (ht : tg a = 20) : Runs 206 1094 ls (.int i :: .ref a :: st) (n, tg, ln, I, J, O) Q ↔ ((0 ≤ i ∧ i < Int32.ofNat (ln a)) ∧ Runs 206 1095 ls (.int (I a i) :: st) (n, tg, ln, I, J, O) Q) := R_iald rfl ht
theorem s206_1094q (ht : tg a = 30) : Runs 206 1094 ls (.int i :: .ref a :: st) (n, tg, ln, I, J, O) Q ↔ ((0 ≤ i ∧ i < Int32.ofNat (ln a)) ∧ Runs 206 1095 ls (.int (I a i) :: st) (n, tg, ln, I, J, O) Q) := R_iald0 rfl ht
theorem s206_1095 : Runs 206 1095 [some (.ref a), x1, x2, x3] st h Q ↔ Runs 206 1096 [some (.ref a), x1, x2, x3] (.ref a :: st) h Q := R_aldn rfl rfl
theorem s206_1095q : Runs 206 1095 [some (zrf r), x1, x2, x3] st h Q ↔ Runs 206 1096 [some (zrf r), x1, x2, x3] (zrf r :: st) h Q := R_aldnq rfl rfl
theorem s206_1096 : Runs 206 1096 [x0, x1, x2, some (.int i)] st h Q ↔ Runs 206 1097 [x0, x1, x2, some (.int i)] (.int i :: st) h Q := R_ildn rfl rfl
theorem s206_1097 : Runs 206 1097 ls st h Q ↔ Runs 206 1098 ls (.int 3 :: st) h Q := R_iconst rfl rfl
theorem s206_1098 : Runs 206 1098 ls (.int j :: .int i :: st) h Q ↔ Runs 206 1099 ls (.int (i + j) :: st) h Q := R_iadd rfl
theorem s206_1099 (ht : tg a = 20) : Runs 206 1099 ls (.int i :: .ref a :: st) (n, tg, ln, I, J, O) Q ↔ ((0 ≤ i ∧ i < Int32.ofNat (ln a)) ∧ Runs 206 1100 ls (.int (I a i) :: st) (n, tg, ln, I, J, O) Q) := R_iald rfl ht
theorem s206_1099q (ht : tg a = 30) : Runs 206 1099 ls (.int i :: .ref a :: st) (n, tg, ln, I, J, O) Q ↔ ((0 ≤ i ∧ i < Int32.ofNat (ln a)) ∧ Runs 206 1100 ls (.int (I a i) :: st) (n, tg, ln, I, J, O) Q) := R_iald0 rfl ht
theorem s206_1100 : Runs 206 1100 [some (.ref a), x1, x2, x3] st h Q ↔ Runs 206 1101 [some (.ref a), x1, x2, x3] (.ref a :: st) h Q := R_aldn rfl rfl
theorem s206_1100q : Runs 206 1100 [some (zrf r), x1, x2, x3] st h Q ↔ Runs 206 1101 [some (zrf r), x1, x2, x3] (zrf r :: st) h Q := R_aldnq rfl rfl
theorem s206_1101 : Runs 206 1101 [x0, x1, x2, some (.int i)] st h Q ↔ Runs 206 1102 [x0, x1, x2, some (.int i)] (.int i :: st) h Q := R_ildn rfl rfl
theorem s206_1102 : Runs 206 1102 ls st h Q ↔ Runs 206 1103 ls (.int 4 :: st) h Q := R_iconst rfl rfl
theorem s206_1103 : Runs 206 1103 ls (.int j :: .int i :: st) h Q ↔ Runs 206 1104 ls (.int (i + j) :: st) h Q := R_iadd rfl
theorem s206_1104 (ht : tg a = 20) : Runs 206 1104 ls (.int i :: .ref a :: st) (n, tg, ln, I, J, O) Q ↔ ((0 ≤ i ∧ i < Int32.ofNat (ln a)) ∧ Runs 206 1105 ls (.int (I a i) :: st) (n, tg, ln, I, J, O) Q) := R_iald rfl ht
theorem s206_1104q (ht : tg a = 30) : Runs 206 1104 ls (.int i :: .ref a :: st) (n, tg, ln, I, J, O) Q ↔ ((0 ≤ i ∧ i < Int32.ofNat (ln a)) ∧ Runs 206 1105 ls (.int (I a i) :: st) (n, tg, ln, I, J, O) Q) := R_iald0 rfl ht
theorem s206_1105 : Runs 206 1105 [some (.ref a), x1, x2, x3] st h Q ↔ Runs 206 1106 [some (.ref a), x1, x2, x3] (.ref a :: st) h Q := R_aldn rfl rfl
theorem s206_1105q : Runs 206 1105 [some (zrf r), x1, x2, x3] st h Q ↔ Runs 206 1106 [some (zrf r), x1, x2, x3] (zrf r :: st) h Q := R_aldnq rfl rfl
theorem s206_1106 : Runs 206 1106 [x0, x1, x2, some (.int i)] st h Q ↔ Runs 206 1107 [x0, x1, x2, some (.int i)] (.int i :: st) h Q := R_ildn rfl rfl
theorem s206_1107 : Runs 206 1107 ls st h Q ↔ Runs 206 1108 ls (.int 5 :: st) h Q := R_iconst rfl rfl
theorem s206_1108 : Runs 206 1108 ls (.int j :: .int i :: st) h Q ↔ Runs 206 1109 ls (.int (i + j) :: st) h Q := R_iadd rfl
theorem s206_1109 (ht : tg a = 20) : Runs 206 1109 ls (.int i :: .ref a :: st) (n, tg, ln, I, J, O) Q ↔ ((0 ≤ i ∧ i < Int32.ofNat (ln a)) ∧ Runs 206 1110 ls (.int (I a i) :: st) (n, tg, ln, I, J, O) Q) := R_iald rfl ht
theorem s206_1109q (ht : tg a = 30) : Runs 206 1109 ls (.int i :: .ref a :: st) (n, tg, ln, I, J, O) Q ↔ ((0 ≤ i ∧ i < Int32.ofNat (ln a)) ∧ Runs 206 1110 ls (.int (I a i) :: st) (n, tg, ln, I, J, O) Q) := R_iald0 rfl ht
theorem s206_1110 (ht : tg a = 9) (hs : zsumc st ≤ 8) : Runs 206 1110 ls (.int i4 :: .int i3 :: .int i2 :: .int i1 :: .int i0 :: .ref a :: st) (n, tg, ln, I, J, O) Q ↔ Runs 113 0 [some (.ref a), some (.int i0), some (.int i1), some (.int i2), some (.int i3), some (.int i4)] [] (n, tg, ln, I, J, O) (fun v h2 => Runs 206 1113 ls (v.toList ++ st) h2 Q) := R_callv (a := a) (rest := st) rfl rfl rfl rfl rfl rfl rfl ht hs
theorem s206_1113 : Runs 206 1113 [x0, x1, some (.ref a), x3] st h Q ↔ Runs 206 1114 [x0, x1, some (.ref a), x3] (.ref a :: st) h Q := R_aldn rfl rfl
theorem s206_1113q : Runs 206 1113 [x0, x1, some (zrf r), x3] st h Q ↔ Runs 206 1114 [x0, x1, some (zrf r), x3] (zrf r :: st) h Q := R_aldnq rfl rfl
theorem s206_1114 : Runs 206 1114 [some (.ref a), x1, x2, x3] st h Q ↔ Runs 206 1115 [some (.ref a), x1, x2, x3] (.ref a :: st) h Q := R_aldn rfl rfl
theorem s206_1114q : Runs 206 1114 [some (zrf r), x1, x2, x3] st h Q ↔ Runs 206 1115 [some (zrf r), x1, x2, x3] (zrf r :: st) h Q := R_aldnq rfl rfl
theorem s206_1115 : Runs 206 1115 [x0, x1, x2, some (.int i)] st h Q ↔ Runs 206 1116 [x0, x1, x2, some (.int i)] (.int i :: st) h Q := R_ildn rfl rfl
theorem s206_1116 : Runs 206 1116 ls st h Q ↔ Runs 206 1117 ls (.int 1 :: st) h Q := R_iconst rfl rfl
theorem s206_1117 : Runs 206 1117 ls (.int j :: .int i :: st) h Q ↔ Runs 206 1118 ls (.int (i + j) :: st) h Q := R_iadd rfl
theorem s206_1118 (ht : tg a = 20) : Runs 206 1118 ls (.int i :: .ref a :: st) (n, tg, ln, I, J, O) Q ↔ ((0 ≤ i ∧ i < Int32.ofNat (ln a)) ∧ Runs 206 1119 ls (.int (I a i) :: st) (n, tg, ln, I, J, O) Q) := R_iald rfl ht
theorem s206_1118q (ht : tg a = 30) : Runs 206 1118 ls (.int i :: .ref a :: st) (n, tg, ln, I, J, O) Q ↔ ((0 ≤ i ∧ i < Int32.ofNat (ln a)) ∧ Runs 206 1119 ls (.int (I a i) :: st) (n, tg, ln, I, J, O) Q) := R_iald0 rfl ht
theorem s206_1119 : Runs 206 1119 [some (.ref a), x1, x2, x3] st h Q ↔ Runs 206 1120 [some (.ref a), x1, x2, x3] (.ref a :: st) h Q := R_aldn rfl rfl
theorem s206_1119q : Runs 206 1119 [some (zrf r), x1, x2, x3] st h Q ↔ Runs 206 1120 [some (zrf r), x1, x2, x3] (zrf r :: st) h Q := R_aldnq rfl rfl
theorem s206_1120 : Runs 206 1120 [x0, x1, x2, some (.int i)] st h Q ↔ Runs 206 1121 [x0, x1, x2, some (.int i)] (.int i :: st) h Q := R_ildn rfl rfl
theorem s206_1121 : Runs 206 1121 ls st h Q ↔ Runs 206 1122 ls (.int 2 :: st) h Q := R_iconst rfl rfl
theorem s206_1122 : Runs 206 1122 ls (.int j :: .int i :: st) h Q ↔ Runs 206 1123 ls (.int (i + j) :: st) h Q := R_iadd rfl
theorem s206_1123 (ht : tg a = 20) : Runs 206 1123 ls (.int i :: .ref a :: st) (n, tg, ln, I, J, O) Q ↔ ((0 ≤ i ∧ i < Int32.ofNat (ln a)) ∧ Runs 206 1124 ls (.int (I a i) :: st) (n, tg, ln, I, J, O) Q) := R_iald rfl ht
theorem s206_1123q (ht : tg a = 30) : Runs 206 1123 ls (.int i :: .ref a :: st) (n, tg, ln, I, J, O) Q ↔ ((0 ≤ i ∧ i < Int32.ofNat (ln a)) ∧ Runs 206 1124 ls (.int (I a i) :: st) (n, tg, ln, I, J, O) Q) := R_iald0 rfl ht
theorem s206_1124 : Runs 206 1124 [some (.ref a), x1, x2, x3] st h Q ↔ Runs 206 1125 [some (.ref a), x1, x2, x3] (.ref a :: st) h Q := R_aldn rfl rfl
theorem s206_1124q : Runs 206 1124 [some (zrf r), x1, x2, x3] st h Q ↔ Runs 206 1125 [some (zrf r), x1, x2, x3] (zrf r :: st) h Q := R_aldnq rfl rfl
theorem s206_1125 : Runs 206 1125 [x0, x1, x2, some (.int i)] st h Q ↔ Runs 206 1126 [x0, x1, x2, some (.int i)] (.int i :: st) h Q := R_ildn rfl rfl
theorem s206_1126 : Runs 206 1126 ls st h Q ↔ Runs 206 1127 ls (.int 3 :: st) h Q := R_iconst rfl rfl
theorem s206_1127 : Runs 206 1127 ls (.int j :: .int i :: st) h Q ↔ Runs 206 1128 ls (.int (i + j) :: st) h Q := R_iadd rfl
theorem s206_1128 (ht : tg a = 20) : Runs 206 1128 ls (.int i :: .ref a :: st) (n, tg, ln, I, J, O) Q ↔ ((0 ≤ i ∧ i < Int32.ofNat (ln a)) ∧ Runs 206 1129 ls (.int (I a i) :: st) (n, tg, ln, I, J, O) Q) := R_iald rfl ht
theorem s206_1128q (ht : tg a = 30) : Runs 206 1128 ls (.int i :: .ref a :: st) (n, tg, ln, I, J, O) Q ↔ ((0 ≤ i ∧ i < Int32.ofNat (ln a)) ∧ Runs 206 1129 ls (.int (I a i) :: st) (n, tg, ln, I, J, O) Q) := R_iald0 rfl ht
theorem s206_1129 : Runs 206 1129 [some (.ref a), x1, x2, x3] st h Q ↔ Runs 206 1130 [some (.ref a), x1, x2, x3] (.ref a :: st) h Q := R_aldn rfl rfl
theorem s206_1129q : Runs 206 1129 [some (zrf r), x1, x2, x3] st h Q ↔ Runs 206 1130 [some (zrf r), x1, x2, x3] (zrf r :: st) h Q := R_aldnq rfl rfl
theorem s206_1130 : Runs 206 1130 [x0, x1, x2, some (.int i)] st h Q ↔ Runs 206 1131 [x0, x1, x2, some (.int i)] (.int i :: st) h Q := R_ildn rfl rfl
theorem s206_1131 : Runs 206 1131 ls st h Q ↔ Runs 206 1132 ls (.int 4 :: st) h Q := R_iconst rfl rfl
theorem s206_1132 : Runs 206 1132 ls (.int j :: .int i :: st) h Q ↔ Runs 206 1133 ls (.int (i + j) :: st) h Q := R_iadd rfl
theorem s206_1133 (ht : tg a = 20) : Runs 206 1133 ls (.int i :: .ref a :: st) (n, tg, ln, I, J, O) Q ↔ ((0 ≤ i ∧ i < Int32.ofNat (ln a)) ∧ Runs 206 1134 ls (.int (I a i) :: st) (n, tg, ln, I, J, O) Q) := R_iald rfl ht
theorem s206_1133q (ht : tg a = 30) : Runs 206 1133 ls (.int i :: .ref a :: st) (n, tg, ln, I, J, O) Q ↔ ((0 ≤ i ∧ i < Int32.ofNat (ln a)) ∧ Runs 206 1134 ls (.int (I a i) :: st) (n, tg, ln, I, J, O) Q) := R_iald0 rfl ht
theorem s206_1134 : Runs 206 1134 [some (.ref a), x1, x2, x3] st h Q ↔ Runs 206 1135 [some (.ref a), x1, x2, x3] (.ref a :: st) h Q := R_aldn rfl rfl
theorem s206_1134q : Runs 206 1134 [some (zrf r), x1, x2, x3] st h Q ↔ Runs 206 1135 [some (zrf r), x1, x2, x3] (zrf r :: st) h Q := R_aldnq rfl rfl
theorem s206_1135 : Runs 206 1135 [x0, x1, x2, some (.int i)] st h Q ↔ Runs 206 1136 [x0, x1, x2, some (.int i)] (.int i :: st) h Q := R_ildn rfl rfl
theorem s206_1136 : Runs 206 1136 ls st h Q ↔ Runs 206 1137 ls (.int 5 :: st) h Q := R_iconst rfl rfl
theorem s206_1137 : Runs 206 1137 ls (.int j :: .int i :: st) h Q ↔ Runs 206 1138 ls (.int (i + j) :: st) h Q := R_iadd rfl
theorem s206_1138 (ht : tg a = 20) : Runs 206 1138 ls (.int i :: .ref a :: st) (n, tg, ln, I, J, O) Q ↔ ((0 ≤ i ∧ i < Int32.ofNat (ln a)) ∧ Runs 206 1139 ls (.int (I a i) :: st) (n, tg, ln, I, J, O) Q) := R_iald rfl ht
theorem s206_1138q (ht : tg a = 30) : Runs 206 1138 ls (.int i :: .ref a :: st) (n, tg, ln, I, J, O) Q ↔ ((0 ≤ i ∧ i < Int32.ofNat (ln a)) ∧ Runs 206 1139 ls (.int (I a i) :: st) (n, tg, ln, I, J, O) Q) := R_iald0 rfl ht
theorem s206_1139 (ht : tg a = 10) (hs : zsumc st ≤ 8) : Runs 206 1139 ls (.int i4 :: .int i3 :: .int i2 :: .int i1 :: .int i0 :: .ref a :: st) (n, tg, ln, I, J, O) Q ↔ Runs 200 0 [some (.ref a), some (.int i0), some (.int i1), some (.int i2), some (.int i3), some (.int i4), none] [] (n, tg, ln, I, J, O) (fun v h2 => Runs 206 1142 ls (v.toList ++ st) h2 Q) := R_callv (a := a) (rest := st) rfl rfl rfl rfl rfl rfl rfl ht hs
theorem s206_1142 : Runs 206 1142 ls (.int j :: .int i :: st) h Q ↔ if i = j then Runs 206 1193 ls st h Q else Runs 206 1145 ls st h Q := R_iceq rfl rfl
theorem s206_1145 : Runs 206 1145 ls st h Q ↔ Runs 206 1146 ls (.int 0 :: st) h Q := R_iconst rfl rfl
theorem s206_1146 (hx : i = 0 ∨ i = 1) : Runs 206 1146 ls [.int i] h Q ↔ Q (some (.int i)) h := R_zret rfl rfl hx
theorem s206_1147 : Runs 206 1147 [x0, some (.ref a), x2, x3] st h Q ↔ Runs 206 1148 [x0, some (.ref a), x2, x3] (.ref a :: st) h Q := R_aldn rfl rfl
theorem s206_1147q : Runs 206 1147 [x0, some (zrf r), x2, x3] st h Q ↔ Runs 206 1148 [x0, some (zrf r), x2, x3] (zrf r :: st) h Q := R_aldnq rfl rfl
theorem s206_1148 : Runs 206 1148 [some (.ref a), x1, x2, x3] st h Q ↔ Runs 206 1149 [some (.ref a), x1, x2, x3] (.ref a :: st) h Q := R_aldn rfl rfl
theorem s206_1148q : Runs 206 1148 [some (zrf r), x1, x2, x3] st h Q ↔ Runs 206 1149 [some (zrf r), x1, x2, x3] (zrf r :: st) h Q := R_aldnq rfl rfl
theorem s206_1149 : Runs 206 1149 [x0, x1, x2, some (.int i)] st h Q ↔ Runs 206 1150 [x0, x1, x2, some (.int i)] (.int i :: st) h Q := R_ildn rfl rfl
theorem s206_1150 : Runs 206 1150 ls st h Q ↔ Runs 206 1151 ls (.int 1 :: st) h Q := R_iconst rfl rfl
theorem s206_1151 : Runs 206 1151 ls (.int j :: .int i :: st) h Q ↔ Runs 206 1152 ls (.int (i + j) :: st) h Q := R_iadd rfl
theorem s206_1152 (ht : tg a = 20) : Runs 206 1152 ls (.int i :: .ref a :: st) (n, tg, ln, I, J, O) Q ↔ ((0 ≤ i ∧ i < Int32.ofNat (ln a)) ∧ Runs 206 1153 ls (.int (I a i) :: st) (n, tg, ln, I, J, O) Q) := R_iald rfl ht
theorem s206_1152q (ht : tg a = 30) : Runs 206 1152 ls (.int i :: .ref a :: st) (n, tg, ln, I, J, O) Q ↔ ((0 ≤ i ∧ i < Int32.ofNat (ln a)) ∧ Runs 206 1153 ls (.int (I a i) :: st) (n, tg, ln, I, J, O) Q) := R_iald0 rfl ht
theorem s206_1153 (ht : tg a = 9) (hs : zsumc st ≤ 8) : Runs 206 1153 ls (.int i0 :: .ref a :: st) (n, tg, ln, I, J, O) Q ↔ Runs 114 0 [some (.ref a), some (.int i0), none] [] (n, tg, ln, I, J, O) (fun v h2 => Runs 206 1156 ls (v.toList ++ st) h2 Q) := R_callv (a := a) (rest := st) rfl rfl rfl rfl rfl rfl rfl ht hs
theorem s206_1156 : Runs 206 1156 [x0, x1, some (.ref a), x3] st h Q ↔ Runs 206 1157 [x0, x1, some (.ref a), x3] (.ref a :: st) h Q := R_aldn rfl rfl
theorem s206_1156q : Runs 206 1156 [x0, x1, some (zrf r), x3] st h Q ↔ Runs 206 1157 [x0, x1, some (zrf r), x3] (zrf r :: st) h Q := R_aldnq rfl rfl
theorem s206_1157 : Runs 206 1157 [some (.ref a), x1, x2, x3] st h Q ↔ Runs 206 1158 [some (.ref a), x1, x2, x3] (.ref a :: st) h Q := R_aldn rfl rfl
theorem s206_1157q : Runs 206 1157 [some (zrf r), x1, x2, x3] st h Q ↔ Runs 206 1158 [some (zrf r), x1, x2, x3] (zrf r :: st) h Q := R_aldnq rfl rfl
theorem s206_1158 : Runs 206 1158 [x0, x1, x2, some (.int i)] st h Q ↔ Runs 206 1159 [x0, x1, x2, some (.int i)] (.int i :: st) h Q := R_ildn rfl rfl
theorem s206_1159 : Runs 206 1159 ls st h Q ↔ Runs 206 1160 ls (.int 1 :: st) h Q := R_iconst rfl rfl
theorem s206_1160 : Runs 206 1160 ls (.int j :: .int i :: st) h Q ↔ Runs 206 1161 ls (.int (i + j) :: st) h Q := R_iadd rfl
theorem s206_1161 (ht : tg a = 20) : Runs 206 1161 ls (.int i :: .ref a :: st) (n, tg, ln, I, J, O) Q ↔ ((0 ≤ i ∧ i < Int32.ofNat (ln a)) ∧ Runs 206 1162 ls (.int (I a i) :: st) (n, tg, ln, I, J, O) Q) := R_iald rfl ht
theorem s206_1161q (ht : tg a = 30) : Runs 206 1161 ls (.int i :: .ref a :: st) (n, tg, ln, I, J, O) Q ↔ ((0 ≤ i ∧ i < Int32.ofNat (ln a)) ∧ Runs 206 1162 ls (.int (I a i) :: st) (n, tg, ln, I, J, O) Q) := R_iald0 rfl ht
theorem s206_1162 (ht : tg a = 10) (hs : zsumc st ≤ 8) : Runs 206 1162 ls (.int i0 :: .ref a :: st) (n, tg, ln, I, J, O) Q ↔ Runs 201 0 [some (.ref a), some (.int i0), none, none] [] (n, tg, ln, I, J, O) (fun v h2 => Runs 206 1165 ls (v.toList ++ st) h2 Q) := R_callv (a := a) (rest := st) rfl rfl rfl rfl rfl rfl rfl ht hs
theorem s206_1165 : Runs 206 1165 ls (.int j :: .int i :: st) h Q ↔ if i = j then Runs 206 1193 ls st h Q else Runs 206 1168 ls st h Q := R_iceq rfl rfl
theorem s206_1168 : Runs 206 1168 ls st h Q ↔ Runs 206 1169 ls (.int 0 :: st) h Q := R_iconst rfl rfl
theorem s206_1169 (hx : i = 0 ∨ i = 1) : Runs 206 1169 ls [.int i] h Q ↔ Q (some (.int i)) h := R_zret rfl rfl hx
theorem s206_1170 : Runs 206 1170 [x0, some (.ref a), x2, x3] st h Q ↔ Runs 206 1171 [x0, some (.ref a), x2, x3] (.ref a :: st) h Q := R_aldn rfl rfl
theorem s206_1170q : Runs 206 1170 [x0, some (zrf r), x2, x3] st h Q ↔ Runs 206 1171 [x0, some (zrf r), x2, x3] (zrf r :: st) h Q := R_aldnq rfl rfl
theorem s206_1171 : Runs 206 1171 [some (.ref a), x1, x2, x3] st h Q ↔ Runs 206 1172 [some (.ref a), x1, x2, x3] (.ref a :: st) h Q := R_aldn rfl rfl
theorem s206_1171q : Runs 206 1171 [some (zrf r), x1, x2, x3] st h Q ↔ Runs 206 1172 [some (zrf r), x1, x2, x3] (zrf r :: st) h Q := R_aldnq rfl rfl
theorem s206_1172 : Runs 206 1172 [x0, x1, x2, some (.int i)] st h Q ↔ Runs 206 1173 [x0, x1, x2, some (.int i)] (.int i :: st) h Q := R_ildn rfl rfl
theorem s206_1173 : Runs 206 1173 ls st h Q ↔ Runs 206 1174 ls (.int 1 :: st) h Q := R_iconst rfl rfl
theorem s206_1174 : Runs 206 1174 ls (.int j :: .int i :: st) h Q ↔ Runs 206 1175 ls (.int (i + j) :: st) h Q := R_iadd rfl
theorem s206_1175 (ht : tg a = 20) : Runs 206 1175 ls (.int i :: .ref a :: st) (n, tg, ln, I, J, O) Q ↔ ((0 ≤ i ∧ i < Int32.ofNat (ln a)) ∧ Runs 206 1176 ls (.int (I a i) :: st) (n, tg, ln, I, J, O) Q) := R_iald rfl ht
theorem s206_1175q (ht : tg a = 30) : Runs 206 1175 ls (.int i :: .ref a :: st) (n, tg, ln, I, J, O) Q ↔ ((0 ≤ i ∧ i < Int32.ofNat (ln a)) ∧ Runs 206 1176 ls (.int (I a i) :: st) (n, tg, ln, I, J, O) Q) := R_iald0 rfl ht
theorem s206_1176 (ht : tg a = 9) (hs : zsumc st ≤ 8) : Runs 206 1176 ls (.int i0 :: .ref a :: st) (n, tg, ln, I, J, O) Q ↔ Runs 115 0 [some (.ref a), some (.int i0)] [] (n, tg, ln, I, J, O) (fun v h2 => Runs 206 1179 ls (v.toList ++ st) h2 Q) := R_callv (a := a) (rest := st) rfl rfl rfl rfl rfl rfl rfl ht hs
theorem s206_1179 : Runs 206 1179 [x0, x1, some (.ref a), x3] st h Q ↔ Runs 206 1180 [x0, x1, some (.ref a), x3] (.ref a :: st) h Q := R_aldn rfl rfl
theorem s206_1179q : Runs 206 1179 [x0, x1, some (zrf r), x3] st h Q ↔ Runs 206 1180 [x0, x1, some (zrf r), x3] (zrf r :: st) h Q := R_aldnq rfl rfl
theorem s206_1180 : Runs 206 1180 [some (.ref a), x1, x2, x3] st h Q ↔ Runs 206 1181 [some (.ref a), x1, x2, x3] (.ref a :: st) h Q := R_aldn rfl rfl
theorem s206_1180q : Runs 206 1180 [some (zrf r), x1, x2, x3] st h Q ↔ Runs 206 1181 [some (zrf r), x1, x2, x3] (zrf r :: st) h Q := R_aldnq rfl rfl
theorem s206_1181 : Runs 206 1181 [x0, x1, x2, some (.int i)] st h Q ↔ Runs 206 1182 [x0, x1, x2, some (.int i)] (.int i :: st) h Q := R_ildn rfl rfl
theorem s206_1182 : Runs 206 1182 ls st h Q ↔ Runs 206 1183 ls (.int 1 :: st) h Q := R_iconst rfl rfl
theorem s206_1183 : Runs 206 1183 ls (.int j :: .int i :: st) h Q ↔ Runs 206 1184 ls (.int (i + j) :: st) h Q := R_iadd rfl
theorem s206_1184 (ht : tg a = 20) : Runs 206 1184 ls (.int i :: .ref a :: st) (n, tg, ln, I, J, O) Q ↔ ((0 ≤ i ∧ i < Int32.ofNat (ln a)) ∧ Runs 206 1185 ls (.int (I a i) :: st) (n, tg, ln, I, J, O) Q) := R_iald rfl ht
theorem s206_1184q (ht : tg a = 30) : Runs 206 1184 ls (.int i :: .ref a :: st) (n, tg, ln, I, J, O) Q ↔ ((0 ≤ i ∧ i < Int32.ofNat (ln a)) ∧ Runs 206 1185 ls (.int (I a i) :: st) (n, tg, ln, I, J, O) Q) := R_iald0 rfl ht
theorem s206_1185 (ht : tg a = 10) (hs : zsumc st ≤ 8) : Runs 206 1185 ls (.int i0 :: .ref a :: st) (n, tg, ln, I, J, O) Q ↔ Runs 204 0 [some (.ref a), some (.int i0)] [] (n, tg, ln, I, J, O) (fun v h2 => Runs 206 1188 ls (v.toList ++ st) h2 Q) := R_callv (a := a) (rest := st) rfl rfl rfl rfl rfl rfl rfl ht hs
theorem s206_1188 : Runs 206 1188 ls (.int j :: .int i :: st) h Q ↔ if i = j then Runs 206 1193 ls st h Q else Runs 206 1191 ls st h Q := R_iceq rfl rfl
theorem s206_1191 : Runs 206 1191 ls st h Q ↔ Runs 206 1192 ls (.int 0 :: st) h Q := R_iconst rfl rfl
theorem s206_1192 (hx : i = 0 ∨ i = 1) : Runs 206 1192 ls [.int i] h Q ↔ Q (some (.int i)) h := R_zret rfl rfl hx
theorem s206_1193 : Runs 206 1193 [x0, x1, x2, some (.int i)] st h Q ↔ Runs 206 1196 [x0, x1, zdrop x2, some (.int (i + 6))] st h Q := R_iinc rfl rfl rfl rfl rfl
theorem s206_1196 : Runs 206 1196 ls st h Q ↔ Runs 206 18 ls st h Q := R_goto rfl rfl
theorem s206_1199 : Runs 206 1199 ls st h Q ↔ Runs 206 1200 ls (.int 1 :: st) h Q := R_iconst rfl rfl
theorem s206_1200 (hx : i = 0 ∨ i = 1) : Runs 206 1200 ls [.int i] h Q ↔ Q (some (.int i)) h := R_zret rfl rfl hx
end ZROWS
