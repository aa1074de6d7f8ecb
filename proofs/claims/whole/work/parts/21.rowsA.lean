section ZROWS
variable {ls : List (Option Value)} {st : List Value} {h : ZH} {Q : Option Value → ZH → Prop} {n : Nat} {tg ln : Nat → Nat} {I : Nat → Int32 → Int32} {J : Nat → Int32 → Int64} {O : Nat → Int32 → Option Nat} {i j i0 i1 i2 i3 i4 : Int32} {u w u0 u1 u2 u3 : Int64} {a b b0 b1 b2 : Nat} {r r0 r1 r2 : Option Nat}
variable {x0 x1 x2 x3 x4 x5 x6 x7 x8 x9 x10 x11 x12 x13 x14 x15 x16 x17 x18 x19 : Option Value}
theorem s17_0 : Runs 17 0 [some (.int i)] st h Q ↔ Runs 17 1 [some (.int i)] (.int i :: st) h Q := R_ildn rfl rfl
theorem s17_1 : Runs 17 1 ls (.int i :: st) h Q ↔ if i = 0 then Runs 17 36 ls st h Q else if i = 1 then Runs 17 36 ls st h Q else if i = 2 then Runs 17 38 ls st h Q else if i = 3 then Runs 17 42 ls st h Q else if i = 4 then Runs 17 40 ls st h Q else Runs 17 42 ls st h Q := by
  by_cases h0 : i = 0
  · rw [if_pos h0]; subst h0; exact R_tabI rfl (by decide) rfl rfl
  rw [if_neg h0]
  by_cases h1 : i = 1
  · rw [if_pos h1]; subst h1; exact R_tabI rfl (by decide) rfl rfl
  rw [if_neg h1]
  by_cases h2 : i = 2
  · rw [if_pos h2]; subst h2; exact R_tabI rfl (by decide) rfl rfl
  rw [if_neg h2]
  by_cases h3 : i = 3
  · rw [if_pos h3]; subst h3; exact R_tabI rfl (by decide) rfl rfl
  rw [if_neg h3]
  by_cases h4 : i = 4
  · rw [if_pos h4]; subst h4; exact R_tabI rfl (by decide) rfl rfl
  rw [if_neg h4]
  exact R_tabO rfl (zout 4 i (by decide) (fun v hv => match v, hv with
    | 0, _ => h0
    | 1, _ => h1
    | 2, _ => h2
    | 3, _ => h3
    | 4, _ => h4
    | z + 5, hv => absurd hv (by omega))) rfl
theorem s17_36 : Runs 17 36 ls st h Q ↔ Runs 17 37 ls (.int 1 :: st) h Q := R_iconst rfl rfl
theorem s17_37 : Runs 17 37 ls [.int i] h Q ↔ Q (some (.int i)) h := R_iret rfl rfl
theorem s17_38 : Runs 17 38 ls st h Q ↔ Runs 17 39 ls (.int 2 :: st) h Q := R_iconst rfl rfl
theorem s17_39 : Runs 17 39 ls [.int i] h Q ↔ Q (some (.int i)) h := R_iret rfl rfl
theorem s17_40 : Runs 17 40 ls st h Q ↔ Runs 17 41 ls (.int 3 :: st) h Q := R_iconst rfl rfl
theorem s17_41 : Runs 17 41 ls [.int i] h Q ↔ Q (some (.int i)) h := R_iret rfl rfl
theorem s17_42 : Runs 17 42 ls st h Q ↔ Runs 17 43 ls (.int 0 :: st) h Q := R_iconst rfl rfl
theorem s17_43 : Runs 17 43 ls [.int i] h Q ↔ Q (some (.int i)) h := R_iret rfl rfl
theorem s18_0 : Runs 18 0 [some (.int i)] st h Q ↔ Runs 18 1 [some (.int i)] (.int i :: st) h Q := R_ildn rfl rfl
theorem s18_1 : Runs 18 1 ls st h Q ↔ Runs 18 2 ls (.int 1 :: st) h Q := R_iconst rfl rfl
theorem s18_2 : Runs 18 2 ls (.int j :: .int i :: st) h Q ↔ if ¬ i = j then Runs 18 9 ls st h Q else Runs 18 5 ls st h Q := R_icne rfl rfl
theorem s18_5 : Runs 18 5 ls st h Q ↔ Runs 18 6 ls (.int 1 :: st) h Q := R_iconst rfl rfl
theorem s18_6 : Runs 18 6 ls st h Q ↔ Runs 18 10 ls st h Q := R_goto rfl rfl
theorem s18_9 : Runs 18 9 ls st h Q ↔ Runs 18 10 ls (.int 0 :: st) h Q := R_iconst rfl rfl
theorem s18_10 (hx : i = 0 ∨ i = 1) : Runs 18 10 ls [.int i] h Q ↔ Q (some (.int i)) h := R_zret rfl rfl hx
theorem s19_0 : Runs 19 0 [some (.int i)] st h Q ↔ Runs 19 1 [some (.int i)] (.int i :: st) h Q := R_ildn rfl rfl
theorem s19_1 : Runs 19 1 ls (.int i :: st) h Q ↔ if i = 0 then Runs 19 14 ls st h Q else Runs 19 4 ls st h Q := R_ifeq rfl rfl
theorem s19_4 : Runs 19 4 [some (.int i)] st h Q ↔ Runs 19 5 [some (.int i)] (.int i :: st) h Q := R_ildn rfl rfl
theorem s19_5 : Runs 19 5 ls st h Q ↔ Runs 19 6 ls (.int 1 :: st) h Q := R_iconst rfl rfl
theorem s19_6 : Runs 19 6 ls (.int j :: .int i :: st) h Q ↔ if i = j then Runs 19 14 ls st h Q else Runs 19 9 ls st h Q := R_iceq rfl rfl
theorem s19_9 : Runs 19 9 [some (.int i)] st h Q ↔ Runs 19 10 [some (.int i)] (.int i :: st) h Q := R_ildn rfl rfl
theorem s19_10 : Runs 19 10 ls st h Q ↔ Runs 19 11 ls (.int 2 :: st) h Q := R_iconst rfl rfl
theorem s19_11 : Runs 19 11 ls (.int j :: .int i :: st) h Q ↔ if ¬ i = j then Runs 19 18 ls st h Q else Runs 19 14 ls st h Q := R_icne rfl rfl
theorem s19_14 : Runs 19 14 ls st h Q ↔ Runs 19 15 ls (.int 1 :: st) h Q := R_iconst rfl rfl
theorem s19_15 : Runs 19 15 ls st h Q ↔ Runs 19 19 ls st h Q := R_goto rfl rfl
theorem s19_18 : Runs 19 18 ls st h Q ↔ Runs 19 19 ls (.int 0 :: st) h Q := R_iconst rfl rfl
theorem s19_19 (hx : i = 0 ∨ i = 1) : Runs 19 19 ls [.int i] h Q ↔ Q (some (.int i)) h := R_zret rfl rfl hx
theorem s20_0 : Runs 20 0 [x0, some (.int i)] st h Q ↔ Runs 20 1 [x0, some (.int i)] (.int i :: st) h Q := R_ildn rfl rfl
theorem s20_1 : Runs 20 1 ls (.int i :: st) h Q ↔ if i = 0 then Runs 20 36 ls st h Q else if i = 1 then Runs 20 38 ls st h Q else if i = 2 then Runs 20 74 ls st h Q else if i = 3 then Runs 20 74 ls st h Q else if i = 4 then Runs 20 58 ls st h Q else Runs 20 74 ls st h Q := by
  by_cases h0 : i = 0
  · rw [if_pos h0]; subst h0; exact R_tabI rfl (by decide) rfl rfl
  rw [if_neg h0]
  by_cases h1 : i = 1
  · rw [if_pos h1]; subst h1; exact R_tabI rfl (by decide) rfl rfl
  rw [if_neg h1]
  by_cases h2 : i = 2
  · rw [if_pos h2]; subst h2; exact R_tabI rfl (by decide) rfl rfl
  rw [if_neg h2]
  by_cases h3 : i = 3
  · rw [if_pos h3]; subst h3; exact R_tabI rfl (by decide) rfl rfl
  rw [if_neg h3]
  by_cases h4 : i = 4
  · rw [if_pos h4]; subst h4; exact R_tabI rfl (by decide) rfl rfl
  rw [if_neg h4]
  exact R_tabO rfl (zout 4 i (by decide) (fun v hv => match v, hv with
    | 0, _ => h0
    | 1, _ => h1
    | 2, _ => h2
    | 3, _ => h3
    | 4, _ => h4
    | z + 5, hv => absurd hv (by omega))) rfl
theorem s20_36 : Runs 20 36 ls st h Q ↔ Runs 20 37 ls (.int 1 :: st) h Q := R_iconst rfl rfl
theorem s20_37 (hx : i = 0 ∨ i = 1) : Runs 20 37 ls [.int i] h Q ↔ Q (some (.int i)) h := R_zret rfl rfl hx
theorem s20_38 : Runs 20 38 [some (.int i), x1] st h Q ↔ Runs 20 39 [some (.int i), x1] (.int i :: st) h Q := R_ildn rfl rfl
theorem s20_39 : Runs 20 39 ls (.int i :: st) h Q ↔ if i = 0 then Runs 20 52 ls st h Q else Runs 20 42 ls st h Q := R_ifeq rfl rfl
theorem s20_42 : Runs 20 42 [some (.int i), x1] st h Q ↔ Runs 20 43 [some (.int i), x1] (.int i :: st) h Q := R_ildn rfl rfl
theorem s20_43 : Runs 20 43 ls st h Q ↔ Runs 20 44 ls (.int 1 :: st) h Q := R_iconst rfl rfl
theorem s20_44 : Runs 20 44 ls (.int j :: .int i :: st) h Q ↔ if i = j then Runs 20 52 ls st h Q else Runs 20 47 ls st h Q := R_iceq rfl rfl
theorem s20_47 : Runs 20 47 [some (.int i), x1] st h Q ↔ Runs 20 48 [some (.int i), x1] (.int i :: st) h Q := R_ildn rfl rfl
theorem s20_48 : Runs 20 48 ls st h Q ↔ Runs 20 49 ls (.int 2 :: st) h Q := R_iconst rfl rfl
theorem s20_49 : Runs 20 49 ls (.int j :: .int i :: st) h Q ↔ if ¬ i = j then Runs 20 56 ls st h Q else Runs 20 52 ls st h Q := R_icne rfl rfl
theorem s20_52 : Runs 20 52 ls st h Q ↔ Runs 20 53 ls (.int 1 :: st) h Q := R_iconst rfl rfl
theorem s20_53 : Runs 20 53 ls st h Q ↔ Runs 20 57 ls st h Q := R_goto rfl rfl
theorem s20_56 : Runs 20 56 ls st h Q ↔ Runs 20 57 ls (.int 0 :: st) h Q := R_iconst rfl rfl
theorem s20_57 (hx : i = 0 ∨ i = 1) : Runs 20 57 ls [.int i] h Q ↔ Q (some (.int i)) h := R_zret rfl rfl hx
theorem s20_58 : Runs 20 58 [some (.int i), x1] st h Q ↔ Runs 20 59 [some (.int i), x1] (.int i :: st) h Q := R_ildn rfl rfl
theorem s20_59 : Runs 20 59 ls st h Q ↔ Runs 20 60 ls (.int 3 :: st) h Q := R_iconst rfl rfl
theorem s20_60 : Runs 20 60 ls (.int j :: .int i :: st) h Q ↔ if i = j then Runs 20 68 ls st h Q else Runs 20 63 ls st h Q := R_iceq rfl rfl
theorem s20_63 : Runs 20 63 [some (.int i), x1] st h Q ↔ Runs 20 64 [some (.int i), x1] (.int i :: st) h Q := R_ildn rfl rfl
theorem s20_64 : Runs 20 64 ls st h Q ↔ Runs 20 65 ls (.int 4 :: st) h Q := R_iconst rfl rfl
theorem s20_65 : Runs 20 65 ls (.int j :: .int i :: st) h Q ↔ if ¬ i = j then Runs 20 72 ls st h Q else Runs 20 68 ls st h Q := R_icne rfl rfl
theorem s20_68 : Runs 20 68 ls st h Q ↔ Runs 20 69 ls (.int 1 :: st) h Q := R_iconst rfl rfl
theorem s20_69 : Runs 20 69 ls st h Q ↔ Runs 20 73 ls st h Q := R_goto rfl rfl
theorem s20_72 : Runs 20 72 ls st h Q ↔ Runs 20 73 ls (.int 0 :: st) h Q := R_iconst rfl rfl
theorem s20_73 (hx : i = 0 ∨ i = 1) : Runs 20 73 ls [.int i] h Q ↔ Q (some (.int i)) h := R_zret rfl rfl hx
theorem s20_74 : Runs 20 74 [x0, some (.int i)] st h Q ↔ Runs 20 75 [x0, some (.int i)] (.int i :: st) h Q := R_ildn rfl rfl
theorem s20_75 : Runs 20 75 [some (.int i), x1] st h Q ↔ Runs 20 76 [some (.int i), x1] (.int i :: st) h Q := R_ildn rfl rfl
theorem s20_76 : Runs 20 76 ls st h Q ↔ Runs 20 77 ls (.int 1 :: st) h Q := R_iconst rfl rfl
theorem s20_77 : Runs 20 77 ls (.int j :: .int i :: st) h Q ↔ Runs 20 78 ls (.int (i + j) :: st) h Q := R_iadd rfl
theorem s20_78 : Runs 20 78 ls (.int j :: .int i :: st) h Q ↔ if ¬ i = j then Runs 20 85 ls st h Q else Runs 20 81 ls st h Q := R_icne rfl rfl
theorem s20_81 : Runs 20 81 ls st h Q ↔ Runs 20 82 ls (.int 1 :: st) h Q := R_iconst rfl rfl
theorem s20_82 : Runs 20 82 ls st h Q ↔ Runs 20 86 ls st h Q := R_goto rfl rfl
theorem s20_85 : Runs 20 85 ls st h Q ↔ Runs 20 86 ls (.int 0 :: st) h Q := R_iconst rfl rfl
theorem s20_86 (hx : i = 0 ∨ i = 1) : Runs 20 86 ls [.int i] h Q ↔ Q (some (.int i)) h := R_zret rfl rfl hx
theorem s21_0 : Runs 21 0 [some (.ref a)] st h Q ↔ Runs 21 1 [some (.ref a)] (.ref a :: st) h Q := R_aldn rfl rfl
theorem s21_0q : Runs 21 0 [some (zrf r)] st h Q ↔ Runs 21 1 [some (zrf r)] (zrf r :: st) h Q := R_aldnq rfl rfl
theorem s21_1 (hs : zsumc st ≤ 8) : Runs 21 1 ls (.ref a :: st) h Q ↔ Runs 21 4 ls st h Q := R_objI rfl rfl hs
theorem s21_4 : Runs 21 4 [some (.ref a)] st h Q ↔ Runs 21 5 [some (.ref a)] (.ref a :: st) h Q := R_aldn rfl rfl
theorem s21_4q : Runs 21 4 [some (zrf r)] st h Q ↔ Runs 21 5 [some (zrf r)] (zrf r :: st) h Q := R_aldnq rfl rfl
theorem s21_5 : Runs 21 5 ls st h Q ↔ Runs 21 7 ls (.int 12 :: st) h Q := R_bipush rfl (by decide)
theorem s21_9 (ht : tg a = 4) : Runs 21 9 ls (zrf r :: .ref a :: st) (n, tg, ln, I, J, O) Q ↔ Runs 21 12 ls st (n, tg, ln, I, J, zu O a 0 r) Q := R_putr rfl rfl rfl rfl rfl ht
theorem s21_9q (ht : tg a = 4) : Runs 21 9 ls (.ref b :: .ref a :: st) (n, tg, ln, I, J, O) Q ↔ Runs 21 12 ls st (n, tg, ln, I, J, zu O a 0 (some b)) Q := R_putr (x := some b) rfl rfl rfl rfl rfl ht
theorem s21_12 : Runs 21 12 [some (.ref a)] st h Q ↔ Runs 21 13 [some (.ref a)] (.ref a :: st) h Q := R_aldn rfl rfl
theorem s21_12q : Runs 21 12 [some (zrf r)] st h Q ↔ Runs 21 13 [some (zrf r)] (zrf r :: st) h Q := R_aldnq rfl rfl
theorem s21_13 : Runs 21 13 ls st h Q ↔ Runs 21 14 ls (.int 0 :: st) h Q := R_iconst rfl rfl
theorem s21_14 (ht : tg a = 4) : Runs 21 14 ls (.int i :: .ref a :: st) (n, tg, ln, I, J, O) Q ↔ Runs 21 17 ls st (n, tg, ln, zu I a 1 i, J, O) Q := R_puti rfl rfl rfl rfl rfl rfl ht
theorem s21_17 : Runs 21 17 ls [] h Q ↔ Q none h := R_vret rfl rfl
theorem s22_0 : Runs 22 0 ls st h Q ↔ Runs 22 2 ls (.int 50 :: st) h Q := R_bipush rfl (by decide)
theorem s22_2 : Runs 22 2 [some (.int i)] st h Q ↔ Runs 22 3 [some (.int i)] (.int i :: st) h Q := R_ildn rfl rfl
theorem s22_3 : Runs 22 3 ls (.int j :: .int i :: st) h Q ↔ Runs 22 4 ls (.int (i + j) :: st) h Q := R_iadd rfl
theorem s22_4 : Runs 22 4 ls [.int i] h Q ↔ Q (some (.int i)) h := R_iret rfl rfl
theorem s23_0 : Runs 23 0 [some (.int i)] st h Q ↔ Runs 23 1 [some (.int i)] (.int i :: st) h Q := R_ildn rfl rfl
theorem s23_1 : Runs 23 1 ls st h Q ↔ Runs 23 3 ls (.int 50 :: st) h Q := R_bipush rfl (by decide)
theorem s23_3 : Runs 23 3 ls (.int j :: .int i :: st) h Q ↔ if i < j then Runs 23 10 ls st h Q else Runs 23 6 ls st h Q := R_iclt rfl rfl
theorem s23_6 : Runs 23 6 ls st h Q ↔ Runs 23 7 ls (.int 1 :: st) h Q := R_iconst rfl rfl
theorem s23_7 : Runs 23 7 ls st h Q ↔ Runs 23 11 ls st h Q := R_goto rfl rfl
theorem s23_10 : Runs 23 10 ls st h Q ↔ Runs 23 11 ls (.int 0 :: st) h Q := R_iconst rfl rfl
theorem s23_11 (hx : i = 0 ∨ i = 1) : Runs 23 11 ls [.int i] h Q ↔ Q (some (.int i)) h := R_zret rfl rfl hx
theorem s24_0 : Runs 24 0 [x0, some (.int i)] st h Q ↔ Runs 24 1 [x0, some (.int i)] (.int i :: st) h Q := R_ildn rfl rfl
theorem s24_1 : Runs 24 1 ls (.int i :: st) h Q ↔ if i < 0 then Runs 24 16 ls st h Q else Runs 24 4 ls st h Q := R_iflt rfl rfl
theorem s24_4 : Runs 24 4 [x0, some (.int i)] st h Q ↔ Runs 24 5 [x0, some (.int i)] (.int i :: st) h Q := R_ildn rfl rfl
theorem s24_5 : Runs 24 5 [some (.ref a), x1] st h Q ↔ Runs 24 6 [some (.ref a), x1] (.ref a :: st) h Q := R_aldn rfl rfl
theorem s24_5q : Runs 24 5 [some (zrf r), x1] st h Q ↔ Runs 24 6 [some (zrf r), x1] (zrf r :: st) h Q := R_aldnq rfl rfl
theorem s24_6 (ht : tg a = 4) : Runs 24 6 ls (.ref a :: st) (n, tg, ln, I, J, O) Q ↔ Runs 24 9 ls (.int (I a 1) :: st) (n, tg, ln, I, J, O) Q := R_geti rfl rfl rfl rfl ht
theorem s24_9 : Runs 24 9 ls (.int j :: .int i :: st) h Q ↔ if j ≤ i then Runs 24 16 ls st h Q else Runs 24 12 ls st h Q := R_icge rfl rfl
theorem s24_12 : Runs 24 12 ls st h Q ↔ Runs 24 13 ls (.int 1 :: st) h Q := R_iconst rfl rfl
theorem s24_13 : Runs 24 13 ls st h Q ↔ Runs 24 17 ls st h Q := R_goto rfl rfl
theorem s24_16 : Runs 24 16 ls st h Q ↔ Runs 24 17 ls (.int 0 :: st) h Q := R_iconst rfl rfl
theorem s24_17 (hx : i = 0 ∨ i = 1) : Runs 24 17 ls [.int i] h Q ↔ Q (some (.int i)) h := R_zret rfl rfl hx
theorem s25_0 : Runs 25 0 [some (.ref a)] st h Q ↔ Runs 25 1 [some (.ref a)] (.ref a :: st) h Q := R_aldn rfl rfl
theorem s25_0q : Runs 25 0 [some (zrf r)] st h Q ↔ Runs 25 1 [some (zrf r)] (zrf r :: st) h Q := R_aldnq rfl rfl
theorem s25_1 (ht : tg a = 4) : Runs 25 1 ls (.ref a :: st) (n, tg, ln, I, J, O) Q ↔ Runs 25 4 ls (.int (I a 1) :: st) (n, tg, ln, I, J, O) Q := R_geti rfl rfl rfl rfl ht
theorem s25_4 : Runs 25 4 ls st h Q ↔ Runs 25 6 ls (.int 12 :: st) h Q := R_bipush rfl (by decide)
theorem s25_6 : Runs 25 6 ls (.int j :: .int i :: st) h Q ↔ if i < j then Runs 25 13 ls st h Q else Runs 25 9 ls st h Q := R_iclt rfl rfl
theorem s25_9 : Runs 25 9 ls st h Q ↔ Runs 25 10 ls (.int 1 :: st) h Q := R_iconst rfl rfl
theorem s25_10 : Runs 25 10 ls st h Q ↔ Runs 25 14 ls st h Q := R_goto rfl rfl
theorem s25_13 : Runs 25 13 ls st h Q ↔ Runs 25 14 ls (.int 0 :: st) h Q := R_iconst rfl rfl
theorem s25_14 (hx : i = 0 ∨ i = 1) : Runs 25 14 ls [.int i] h Q ↔ Q (some (.int i)) h := R_zret rfl rfl hx
theorem s26_0 : Runs 26 0 [some (.ref a)] st h Q ↔ Runs 26 1 [some (.ref a)] (.ref a :: st) h Q := R_aldn rfl rfl
theorem s26_0q : Runs 26 0 [some (zrf r)] st h Q ↔ Runs 26 1 [some (zrf r)] (zrf r :: st) h Q := R_aldnq rfl rfl
theorem s26_1 : Runs 26 1 ls st h Q ↔ Runs 26 2 ls (.int 0 :: st) h Q := R_iconst rfl rfl
theorem s26_2 (ht : tg a = 4) : Runs 26 2 ls (.int i :: .ref a :: st) (n, tg, ln, I, J, O) Q ↔ Runs 26 5 ls st (n, tg, ln, zu I a 1 i, J, O) Q := R_puti rfl rfl rfl rfl rfl rfl ht
theorem s26_5 : Runs 26 5 ls [] h Q ↔ Q none h := R_vret rfl rfl
theorem s27_0 : Runs 27 0 [x0, some (.ref a)] st h Q ↔ Runs 27 1 [x0, some (.ref a)] (.ref a :: st) h Q := R_aldn rfl rfl
theorem s27_0q : Runs 27 0 [x0, some (zrf r)] st h Q ↔ Runs 27 1 [x0, some (zrf r)] (zrf r :: st) h Q := R_aldnq rfl rfl
theorem s27_1 (ht : tg a = 4) : Runs 27 1 ls (.ref a :: st) (n, tg, ln, I, J, O) Q ↔ Runs 27 4 ls (zrf (O a 0) :: st) (n, tg, ln, I, J, O) Q := R_getr rfl rfl rfl rfl ht
theorem s27_4 : Runs 27 4 ls st h Q ↔ Runs 27 5 ls (.int 0 :: st) h Q := R_iconst rfl rfl
theorem s27_5 : Runs 27 5 [some (.ref a), x1] st h Q ↔ Runs 27 6 [some (.ref a), x1] (.ref a :: st) h Q := R_aldn rfl rfl
theorem s27_5q : Runs 27 5 [some (zrf r), x1] st h Q ↔ Runs 27 6 [some (zrf r), x1] (zrf r :: st) h Q := R_aldnq rfl rfl
theorem s27_6 (ht : tg a = 4) : Runs 27 6 ls (.ref a :: st) (n, tg, ln, I, J, O) Q ↔ Runs 27 9 ls (zrf (O a 0) :: st) (n, tg, ln, I, J, O) Q := R_getr rfl rfl rfl rfl ht
theorem s27_9 : Runs 27 9 ls st h Q ↔ Runs 27 10 ls (.int 0 :: st) h Q := R_iconst rfl rfl
theorem s27_10 : Runs 27 10 ls st h Q ↔ Runs 27 12 ls (.int 12 :: st) h Q := R_bipush rfl (by decide)
theorem s27_12 (ht : tg a = 20) (ht2 : tg b = 20) (hs : zsumc st ≤ 8) : Runs 27 12 ls (.int i :: .int 0 :: .ref a :: .int 0 :: .ref b :: st) (n, tg, ln, I, J, O) Q ↔ ((0 ≤ i ∧ i ≤ Int32.ofNat (ln a) ∧ i ≤ Int32.ofNat (ln b)) ∧ Runs 27 15 ls st (n, tg, ln, zcpy I a b i, J, O) Q) := R_copy rfl rfl ht ht2 hs
theorem s27_15 : Runs 27 15 [some (.ref a), x1] st h Q ↔ Runs 27 16 [some (.ref a), x1] (.ref a :: st) h Q := R_aldn rfl rfl
theorem s27_15q : Runs 27 15 [some (zrf r), x1] st h Q ↔ Runs 27 16 [some (zrf r), x1] (zrf r :: st) h Q := R_aldnq rfl rfl
theorem s27_16 : Runs 27 16 [x0, some (.ref a)] st h Q ↔ Runs 27 17 [x0, some (.ref a)] (.ref a :: st) h Q := R_aldn rfl rfl
theorem s27_16q : Runs 27 16 [x0, some (zrf r)] st h Q ↔ Runs 27 17 [x0, some (zrf r)] (zrf r :: st) h Q := R_aldnq rfl rfl
theorem s27_17 (ht : tg a = 4) : Runs 27 17 ls (.ref a :: st) (n, tg, ln, I, J, O) Q ↔ Runs 27 20 ls (.int (I a 1) :: st) (n, tg, ln, I, J, O) Q := R_geti rfl rfl rfl rfl ht
theorem s27_20 (ht : tg a = 4) : Runs 27 20 ls (.int i :: .ref a :: st) (n, tg, ln, I, J, O) Q ↔ Runs 27 23 ls st (n, tg, ln, zu I a 1 i, J, O) Q := R_puti rfl rfl rfl rfl rfl rfl ht
theorem s27_23 : Runs 27 23 ls [] h Q ↔ Q none h := R_vret rfl rfl
theorem s28_0 : Runs 28 0 [some (.ref a), x1] st h Q ↔ Runs 28 1 [some (.ref a), x1] (.ref a :: st) h Q := R_aldn rfl rfl
theorem s28_0q : Runs 28 0 [some (zrf r), x1] st h Q ↔ Runs 28 1 [some (zrf r), x1] (zrf r :: st) h Q := R_aldnq rfl rfl
theorem s28_1 (ht : tg a = 4) (hs : zsumc st ≤ 8) : Runs 28 1 ls (.ref a :: st) (n, tg, ln, I, J, O) Q ↔ Runs 25 0 [some (.ref a)] [] (n, tg, ln, I, J, O) (fun v h2 => Runs 28 4 ls (v.toList ++ st) h2 Q) := R_callv (a := a) (rest := st) rfl rfl rfl rfl rfl rfl rfl ht hs
theorem s28_4 : Runs 28 4 ls (.int i :: st) h Q ↔ if ¬ i = 0 then Runs 28 27 ls st h Q else Runs 28 7 ls st h Q := R_ifne rfl rfl
theorem s28_7 : Runs 28 7 [some (.ref a), x1] st h Q ↔ Runs 28 8 [some (.ref a), x1] (.ref a :: st) h Q := R_aldn rfl rfl
theorem s28_7q : Runs 28 7 [some (zrf r), x1] st h Q ↔ Runs 28 8 [some (zrf r), x1] (zrf r :: st) h Q := R_aldnq rfl rfl
theorem s28_8 (ht : tg a = 4) : Runs 28 8 ls (.ref a :: st) (n, tg, ln, I, J, O) Q ↔ Runs 28 11 ls (zrf (O a 0) :: st) (n, tg, ln, I, J, O) Q := R_getr rfl rfl rfl rfl ht
theorem s28_11 : Runs 28 11 [some (.ref a), x1] st h Q ↔ Runs 28 12 [some (.ref a), x1] (.ref a :: st) h Q := R_aldn rfl rfl
theorem s28_11q : Runs 28 11 [some (zrf r), x1] st h Q ↔ Runs 28 12 [some (zrf r), x1] (zrf r :: st) h Q := R_aldnq rfl rfl
theorem s28_12 (ht : tg a = 4) : Runs 28 12 ls (.ref a :: st) (n, tg, ln, I, J, O) Q ↔ Runs 28 15 ls (.int (I a 1) :: st) (n, tg, ln, I, J, O) Q := R_geti rfl rfl rfl rfl ht
theorem s28_15 : Runs 28 15 [x0, some (.int i)] st h Q ↔ Runs 28 16 [x0, some (.int i)] (.int i :: st) h Q := R_ildn rfl rfl
theorem s28_16 (ht : tg a = 20) : Runs 28 16 ls (.int j :: .int i :: .ref a :: st) (n, tg, ln, I, J, O) Q ↔ ((0 ≤ i ∧ i < Int32.ofNat (ln a)) ∧ Runs 28 17 ls st (n, tg, ln, zu I a i j, J, O) Q) := R_iast rfl ht
theorem s28_17 : Runs 28 17 [some (.ref a), x1] st h Q ↔ Runs 28 18 [some (.ref a), x1] (.ref a :: st) h Q := R_aldn rfl rfl
theorem s28_17q : Runs 28 17 [some (zrf r), x1] st h Q ↔ Runs 28 18 [some (zrf r), x1] (zrf r :: st) h Q := R_aldnq rfl rfl
theorem s28_18 : Runs 28 18 ls (.int i :: st) h Q ↔ Runs 28 19 ls (.int i :: .int i :: st) h Q := R_dupi rfl
theorem s28_18q : Runs 28 18 ls (.ref a :: st) h Q ↔ Runs 28 19 ls (.ref a :: .ref a :: st) h Q := R_dupr rfl
theorem s28_19 (ht : tg a = 4) : Runs 28 19 ls (.ref a :: st) (n, tg, ln, I, J, O) Q ↔ Runs 28 22 ls (.int (I a 1) :: st) (n, tg, ln, I, J, O) Q := R_geti rfl rfl rfl rfl ht
theorem s28_22 : Runs 28 22 ls st h Q ↔ Runs 28 23 ls (.int 1 :: st) h Q := R_iconst rfl rfl
theorem s28_23 : Runs 28 23 ls (.int j :: .int i :: st) h Q ↔ Runs 28 24 ls (.int (i + j) :: st) h Q := R_iadd rfl
theorem s28_24 (ht : tg a = 4) : Runs 28 24 ls (.int i :: .ref a :: st) (n, tg, ln, I, J, O) Q ↔ Runs 28 27 ls st (n, tg, ln, zu I a 1 i, J, O) Q := R_puti rfl rfl rfl rfl rfl rfl ht
theorem s28_27 : Runs 28 27 ls [] h Q ↔ Q none h := R_vret rfl rfl
theorem s29_0 : Runs 29 0 [some (.ref a), x1, x2] st h Q ↔ Runs 29 1 [some (.ref a), x1, x2] (.ref a :: st) h Q := R_aldn rfl rfl
theorem s29_0q : Runs 29 0 [some (zrf r), x1, x2] st h Q ↔ Runs 29 1 [some (zrf r), x1, x2] (zrf r :: st) h Q := R_aldnq rfl rfl
theorem s29_1 : Runs 29 1 [x0, some (.int i), x2] st h Q ↔ Runs 29 2 [x0, some (.int i), x2] (.int i :: st) h Q := R_ildn rfl rfl
theorem s29_2 (ht : tg a = 4) (hs : zsumc st ≤ 8) : Runs 29 2 ls (.int i0 :: .ref a :: st) (n, tg, ln, I, J, O) Q ↔ Runs 24 0 [some (.ref a), some (.int i0)] [] (n, tg, ln, I, J, O) (fun v h2 => Runs 29 5 ls (v.toList ++ st) h2 Q) := R_callv (a := a) (rest := st) rfl rfl rfl rfl rfl rfl rfl ht hs
theorem s29_5 : Runs 29 5 ls (.int i :: st) h Q ↔ if i = 0 then Runs 29 15 ls st h Q else Runs 29 8 ls st h Q := R_ifeq rfl rfl
theorem s29_8 : Runs 29 8 [some (.ref a), x1, x2] st h Q ↔ Runs 29 9 [some (.ref a), x1, x2] (.ref a :: st) h Q := R_aldn rfl rfl
theorem s29_8q : Runs 29 8 [some (zrf r), x1, x2] st h Q ↔ Runs 29 9 [some (zrf r), x1, x2] (zrf r :: st) h Q := R_aldnq rfl rfl
theorem s29_9 (ht : tg a = 4) : Runs 29 9 ls (.ref a :: st) (n, tg, ln, I, J, O) Q ↔ Runs 29 12 ls (zrf (O a 0) :: st) (n, tg, ln, I, J, O) Q := R_getr rfl rfl rfl rfl ht
theorem s29_12 : Runs 29 12 [x0, some (.int i), x2] st h Q ↔ Runs 29 13 [x0, some (.int i), x2] (.int i :: st) h Q := R_ildn rfl rfl
theorem s29_13 : Runs 29 13 [x0, x1, some (.int i)] st h Q ↔ Runs 29 14 [x0, x1, some (.int i)] (.int i :: st) h Q := R_ildn rfl rfl
theorem s29_14 (ht : tg a = 20) : Runs 29 14 ls (.int j :: .int i :: .ref a :: st) (n, tg, ln, I, J, O) Q ↔ ((0 ≤ i ∧ i < Int32.ofNat (ln a)) ∧ Runs 29 15 ls st (n, tg, ln, zu I a i j, J, O) Q) := R_iast rfl ht
theorem s29_15 : Runs 29 15 ls [] h Q ↔ Q none h := R_vret rfl rfl
theorem s30_0 : Runs 30 0 [some (.ref a), x1, x2] st h Q ↔ Runs 30 1 [some (.ref a), x1, x2] (.ref a :: st) h Q := R_aldn rfl rfl
theorem s30_0q : Runs 30 0 [some (zrf r), x1, x2] st h Q ↔ Runs 30 1 [some (zrf r), x1, x2] (zrf r :: st) h Q := R_aldnq rfl rfl
theorem s30_1 : Runs 30 1 [x0, some (.int i), x2] st h Q ↔ Runs 30 2 [x0, some (.int i), x2] (.int i :: st) h Q := R_ildn rfl rfl
theorem s30_2 (ht : tg a = 4) (hs : zsumc st ≤ 8) : Runs 30 2 ls (.int i0 :: .ref a :: st) (n, tg, ln, I, J, O) Q ↔ Runs 24 0 [some (.ref a), some (.int i0)] [] (n, tg, ln, I, J, O) (fun v h2 => Runs 30 5 ls (v.toList ++ st) h2 Q) := R_callv (a := a) (rest := st) rfl rfl rfl rfl rfl rfl rfl ht hs
theorem s30_5 : Runs 30 5 ls (.int i :: st) h Q ↔ if ¬ i = 0 then Runs 30 9 ls st h Q else Runs 30 8 ls st h Q := R_ifne rfl rfl
theorem s30_8 : Runs 30 8 ls [] h Q ↔ Q none h := R_vret rfl rfl
theorem s30_9 : Runs 30 9 [x0, some (.int i), x2] st h Q ↔ Runs 30 10 [x0, some (.int i), x2] (.int i :: st) h Q := R_ildn rfl rfl
theorem s30_10 : Runs 30 10 ls st h Q ↔ Runs 30 11 ls (.int 1 :: st) h Q := R_iconst rfl rfl
theorem s30_11 : Runs 30 11 ls (.int j :: .int i :: st) h Q ↔ Runs 30 12 ls (.int (i + j) :: st) h Q := R_iadd rfl
theorem s30_12 : Runs 30 12 [x0, x1, x2] (.int i :: st) h Q ↔ Runs 30 13 [x0, zdrop x1, some (.int i)] st h Q := R_istn rfl rfl rfl
theorem s30_13 : Runs 30 13 [x0, x1, some (.int i)] st h Q ↔ Runs 30 14 [x0, x1, some (.int i)] (.int i :: st) h Q := R_ildn rfl rfl
theorem s30_14 : Runs 30 14 [some (.ref a), x1, x2] st h Q ↔ Runs 30 15 [some (.ref a), x1, x2] (.ref a :: st) h Q := R_aldn rfl rfl
theorem s30_14q : Runs 30 14 [some (zrf r), x1, x2] st h Q ↔ Runs 30 15 [some (zrf r), x1, x2] (zrf r :: st) h Q := R_aldnq rfl rfl
theorem s30_15 (ht : tg a = 4) : Runs 30 15 ls (.ref a :: st) (n, tg, ln, I, J, O) Q ↔ Runs 30 18 ls (.int (I a 1) :: st) (n, tg, ln, I, J, O) Q := R_geti rfl rfl rfl rfl ht
theorem s30_18 : Runs 30 18 ls (.int j :: .int i :: st) h Q ↔ if j ≤ i then Runs 30 41 ls st h Q else Runs 30 21 ls st h Q := R_icge rfl rfl
theorem s30_21 : Runs 30 21 [some (.ref a), x1, x2] st h Q ↔ Runs 30 22 [some (.ref a), x1, x2] (.ref a :: st) h Q := R_aldn rfl rfl
theorem s30_21q : Runs 30 21 [some (zrf r), x1, x2] st h Q ↔ Runs 30 22 [some (zrf r), x1, x2] (zrf r :: st) h Q := R_aldnq rfl rfl
theorem s30_22 (ht : tg a = 4) : Runs 30 22 ls (.ref a :: st) (n, tg, ln, I, J, O) Q ↔ Runs 30 25 ls (zrf (O a 0) :: st) (n, tg, ln, I, J, O) Q := R_getr rfl rfl rfl rfl ht
theorem s30_25 : Runs 30 25 [x0, x1, some (.int i)] st h Q ↔ Runs 30 26 [x0, x1, some (.int i)] (.int i :: st) h Q := R_ildn rfl rfl
theorem s30_26 : Runs 30 26 ls st h Q ↔ Runs 30 27 ls (.int 1 :: st) h Q := R_iconst rfl rfl
theorem s30_27 : Runs 30 27 ls (.int j :: .int i :: st) h Q ↔ Runs 30 28 ls (.int (i - j) :: st) h Q := R_isub rfl
theorem s30_28 : Runs 30 28 [some (.ref a), x1, x2] st h Q ↔ Runs 30 29 [some (.ref a), x1, x2] (.ref a :: st) h Q := R_aldn rfl rfl
theorem s30_28q : Runs 30 28 [some (zrf r), x1, x2] st h Q ↔ Runs 30 29 [some (zrf r), x1, x2] (zrf r :: st) h Q := R_aldnq rfl rfl
theorem s30_29 (ht : tg a = 4) : Runs 30 29 ls (.ref a :: st) (n, tg, ln, I, J, O) Q ↔ Runs 30 32 ls (zrf (O a 0) :: st) (n, tg, ln, I, J, O) Q := R_getr rfl rfl rfl rfl ht
theorem s30_32 : Runs 30 32 [x0, x1, some (.int i)] st h Q ↔ Runs 30 33 [x0, x1, some (.int i)] (.int i :: st) h Q := R_ildn rfl rfl
theorem s30_33 (ht : tg a = 20) : Runs 30 33 ls (.int i :: .ref a :: st) (n, tg, ln, I, J, O) Q ↔ ((0 ≤ i ∧ i < Int32.ofNat (ln a)) ∧ Runs 30 34 ls (.int (I a i) :: st) (n, tg, ln, I, J, O) Q) := R_iald rfl ht
theorem s30_34 (ht : tg a = 20) : Runs 30 34 ls (.int j :: .int i :: .ref a :: st) (n, tg, ln, I, J, O) Q ↔ ((0 ≤ i ∧ i < Int32.ofNat (ln a)) ∧ Runs 30 35 ls st (n, tg, ln, zu I a i j, J, O) Q) := R_iast rfl ht
theorem s30_35 : Runs 30 35 [x0, x1, some (.int i)] st h Q ↔ Runs 30 38 [x0, zdrop x1, some (.int (i + 1))] st h Q := R_iinc rfl rfl rfl rfl rfl
theorem s30_38 : Runs 30 38 ls st h Q ↔ Runs 30 13 ls st h Q := R_goto rfl rfl
theorem s30_41 : Runs 30 41 [some (.ref a), x1, x2] st h Q ↔ Runs 30 42 [some (.ref a), x1, x2] (.ref a :: st) h Q := R_aldn rfl rfl
theorem s30_41q : Runs 30 41 [some (zrf r), x1, x2] st h Q ↔ Runs 30 42 [some (zrf r), x1, x2] (zrf r :: st) h Q := R_aldnq rfl rfl
theorem s30_42 : Runs 30 42 ls (.int i :: st) h Q ↔ Runs 30 43 ls (.int i :: .int i :: st) h Q := R_dupi rfl
theorem s30_42q : Runs 30 42 ls (.ref a :: st) h Q ↔ Runs 30 43 ls (.ref a :: .ref a :: st) h Q := R_dupr rfl
theorem s30_43 (ht : tg a = 4) : Runs 30 43 ls (.ref a :: st) (n, tg, ln, I, J, O) Q ↔ Runs 30 46 ls (.int (I a 1) :: st) (n, tg, ln, I, J, O) Q := R_geti rfl rfl rfl rfl ht
theorem s30_46 : Runs 30 46 ls st h Q ↔ Runs 30 47 ls (.int 1 :: st) h Q := R_iconst rfl rfl
theorem s30_47 : Runs 30 47 ls (.int j :: .int i :: st) h Q ↔ Runs 30 48 ls (.int (i - j) :: st) h Q := R_isub rfl
theorem s30_48 (ht : tg a = 4) : Runs 30 48 ls (.int i :: .ref a :: st) (n, tg, ln, I, J, O) Q ↔ Runs 30 51 ls st (n, tg, ln, zu I a 1 i, J, O) Q := R_puti rfl rfl rfl rfl rfl rfl ht
theorem s30_51 : Runs 30 51 ls [] h Q ↔ Q none h := R_vret rfl rfl
theorem s31_0 : Runs 31 0 ls st h Q ↔ Runs 31 1 ls (.int 0 :: st) h Q := R_iconst rfl rfl
theorem s31_1 : Runs 31 1 [x0, x1, x2] (.int i :: st) h Q ↔ Runs 31 2 [x0, zdrop x1, some (.int i)] st h Q := R_istn rfl rfl rfl
theorem s31_2 : Runs 31 2 [x0, x1, some (.int i)] st h Q ↔ Runs 31 3 [x0, x1, some (.int i)] (.int i :: st) h Q := R_ildn rfl rfl
theorem s31_3 : Runs 31 3 [some (.ref a), x1, x2] st h Q ↔ Runs 31 4 [some (.ref a), x1, x2] (.ref a :: st) h Q := R_aldn rfl rfl
theorem s31_3q : Runs 31 3 [some (zrf r), x1, x2] st h Q ↔ Runs 31 4 [some (zrf r), x1, x2] (zrf r :: st) h Q := R_aldnq rfl rfl
theorem s31_4 (ht : tg a = 4) : Runs 31 4 ls (.ref a :: st) (n, tg, ln, I, J, O) Q ↔ Runs 31 7 ls (.int (I a 1) :: st) (n, tg, ln, I, J, O) Q := R_geti rfl rfl rfl rfl ht
theorem s31_7 : Runs 31 7 ls (.int j :: .int i :: st) h Q ↔ if j ≤ i then Runs 31 28 ls st h Q else Runs 31 10 ls st h Q := R_icge rfl rfl
theorem s31_10 : Runs 31 10 [some (.ref a), x1, x2] st h Q ↔ Runs 31 11 [some (.ref a), x1, x2] (.ref a :: st) h Q := R_aldn rfl rfl
theorem s31_10q : Runs 31 10 [some (zrf r), x1, x2] st h Q ↔ Runs 31 11 [some (zrf r), x1, x2] (zrf r :: st) h Q := R_aldnq rfl rfl
theorem s31_11 (ht : tg a = 4) : Runs 31 11 ls (.ref a :: st) (n, tg, ln, I, J, O) Q ↔ Runs 31 14 ls (zrf (O a 0) :: st) (n, tg, ln, I, J, O) Q := R_getr rfl rfl rfl rfl ht
theorem s31_14 : Runs 31 14 [x0, x1, some (.int i)] st h Q ↔ Runs 31 15 [x0, x1, some (.int i)] (.int i :: st) h Q := R_ildn rfl rfl
theorem s31_15 (ht : tg a = 20) : Runs 31 15 ls (.int i :: .ref a :: st) (n, tg, ln, I, J, O) Q ↔ ((0 ≤ i ∧ i < Int32.ofNat (ln a)) ∧ Runs 31 16 ls (.int (I a i) :: st) (n, tg, ln, I, J, O) Q) := R_iald rfl ht
theorem s31_16 : Runs 31 16 [x0, some (.int i), x2] st h Q ↔ Runs 31 17 [x0, some (.int i), x2] (.int i :: st) h Q := R_ildn rfl rfl
theorem s31_17 : Runs 31 17 ls (.int j :: .int i :: st) h Q ↔ if ¬ i = j then Runs 31 22 ls st h Q else Runs 31 20 ls st h Q := R_icne rfl rfl
theorem s31_20 : Runs 31 20 [x0, x1, some (.int i)] st h Q ↔ Runs 31 21 [x0, x1, some (.int i)] (.int i :: st) h Q := R_ildn rfl rfl
theorem s31_21 : Runs 31 21 ls [.int i] h Q ↔ Q (some (.int i)) h := R_iret rfl rfl
theorem s31_22 : Runs 31 22 [x0, x1, some (.int i)] st h Q ↔ Runs 31 25 [x0, zdrop x1, some (.int (i + 1))] st h Q := R_iinc rfl rfl rfl rfl rfl
theorem s31_25 : Runs 31 25 ls st h Q ↔ Runs 31 2 ls st h Q := R_goto rfl rfl
theorem s31_28 : Runs 31 28 ls st h Q ↔ Runs 31 29 ls (.int (-1) :: st) h Q := R_iconst rfl rfl
theorem s31_29 : Runs 31 29 ls [.int i] h Q ↔ Q (some (.int i)) h := R_iret rfl rfl
theorem s37_0 : Runs 37 0 [some (.ref a)] st h Q ↔ Runs 37 1 [some (.ref a)] (.ref a :: st) h Q := R_aldn rfl rfl
theorem s37_0q : Runs 37 0 [some (zrf r)] st h Q ↔ Runs 37 1 [some (zrf r)] (zrf r :: st) h Q := R_aldnq rfl rfl
theorem s37_1 (ht : tg a = 5) : Runs 37 1 ls (.ref a :: st) (n, tg, ln, I, J, O) Q ↔ Runs 37 4 ls (zrf (O a 9) :: st) (n, tg, ln, I, J, O) Q := R_getr rfl rfl rfl rfl ht
theorem s37_4 (ht : tg a = 4) (hs : zsumc st ≤ 8) : Runs 37 4 ls (.ref a :: st) (n, tg, ln, I, J, O) Q ↔ Runs 26 0 [some (.ref a)] [] (n, tg, ln, I, J, O) (fun v h2 => Runs 37 7 ls (v.toList ++ st) h2 Q) := R_callv (a := a) (rest := st) rfl rfl rfl rfl rfl rfl rfl ht hs
theorem s37_7 : Runs 37 7 [some (.ref a)] st h Q ↔ Runs 37 8 [some (.ref a)] (.ref a :: st) h Q := R_aldn rfl rfl
theorem s37_7q : Runs 37 7 [some (zrf r)] st h Q ↔ Runs 37 8 [some (zrf r)] (zrf r :: st) h Q := R_aldnq rfl rfl
theorem s37_8 (ht : tg a = 5) : Runs 37 8 ls (.ref a :: st) (n, tg, ln, I, J, O) Q ↔ Runs 37 11 ls (zrf (O a 10) :: st) (n, tg, ln, I, J, O) Q := R_getr rfl rfl rfl rfl ht
theorem s37_11 (ht : tg a = 4) (hs : zsumc st ≤ 8) : Runs 37 11 ls (.ref a :: st) (n, tg, ln, I, J, O) Q ↔ Runs 26 0 [some (.ref a)] [] (n, tg, ln, I, J, O) (fun v h2 => Runs 37 14 ls (v.toList ++ st) h2 Q) := R_callv (a := a) (rest := st) rfl rfl rfl rfl rfl rfl rfl ht hs
theorem s37_14 : Runs 37 14 [some (.ref a)] st h Q ↔ Runs 37 15 [some (.ref a)] (.ref a :: st) h Q := R_aldn rfl rfl
theorem s37_14q : Runs 37 14 [some (zrf r)] st h Q ↔ Runs 37 15 [some (zrf r)] (zrf r :: st) h Q := R_aldnq rfl rfl
theorem s37_15 : Runs 37 15 ls st h Q ↔ Runs 37 16 ls (.int 0 :: st) h Q := R_iconst rfl rfl
theorem s37_16 (ht : tg a = 5) : Runs 37 16 ls (.int i :: .ref a :: st) (n, tg, ln, I, J, O) Q ↔ Runs 37 19 ls st (n, tg, ln, zu I a 5 i, J, O) Q := R_puti rfl rfl rfl rfl rfl rfl ht
theorem s37_19 : Runs 37 19 [some (.ref a)] st h Q ↔ Runs 37 20 [some (.ref a)] (.ref a :: st) h Q := R_aldn rfl rfl
theorem s37_19q : Runs 37 19 [some (zrf r)] st h Q ↔ Runs 37 20 [some (zrf r)] (zrf r :: st) h Q := R_aldnq rfl rfl
theorem s37_20 : Runs 37 20 ls st h Q ↔ Runs 37 21 ls (.int 0 :: st) h Q := R_iconst rfl rfl
theorem s37_21 (ht : tg a = 5) : Runs 37 21 ls (.int i :: .ref a :: st) (n, tg, ln, I, J, O) Q ↔ Runs 37 24 ls st (n, tg, ln, zu I a 6 i, J, O) Q := R_puti rfl rfl rfl rfl rfl rfl ht
theorem s37_24 : Runs 37 24 [some (.ref a)] st h Q ↔ Runs 37 25 [some (.ref a)] (.ref a :: st) h Q := R_aldn rfl rfl
theorem s37_24q : Runs 37 24 [some (zrf r)] st h Q ↔ Runs 37 25 [some (zrf r)] (zrf r :: st) h Q := R_aldnq rfl rfl
theorem s37_25 : Runs 37 25 ls st h Q ↔ Runs 37 26 ls (.int 0 :: st) h Q := R_iconst rfl rfl
theorem s37_26 (ht : tg a = 5) : Runs 37 26 ls (.int i :: .ref a :: st) (n, tg, ln, I, J, O) Q ↔ Runs 37 29 ls st (n, tg, ln, zu I a 7 i, J, O) Q := R_puti rfl rfl rfl rfl rfl rfl ht
theorem s37_29 : Runs 37 29 [some (.ref a)] st h Q ↔ Runs 37 30 [some (.ref a)] (.ref a :: st) h Q := R_aldn rfl rfl
theorem s37_29q : Runs 37 29 [some (zrf r)] st h Q ↔ Runs 37 30 [some (zrf r)] (zrf r :: st) h Q := R_aldnq rfl rfl
theorem s37_30 : Runs 37 30 ls st h Q ↔ Runs 37 31 ls (.int 0 :: st) h Q := R_iconst rfl rfl
theorem s37_31 (ht : tg a = 5) : Runs 37 31 ls (.int i :: .ref a :: st) (n, tg, ln, I, J, O) Q ↔ Runs 37 34 ls st (n, tg, ln, zu I a 8 i, J, O) Q := R_puti rfl rfl rfl rfl rfl rfl ht
theorem s37_34 : Runs 37 34 ls [] h Q ↔ Q none h := R_vret rfl rfl
theorem s38_0 : Runs 38 0 [x0, some (.ref a)] st h Q ↔ Runs 38 1 [x0, some (.ref a)] (.ref a :: st) h Q := R_aldn rfl rfl
theorem s38_0q : Runs 38 0 [x0, some (zrf r)] st h Q ↔ Runs 38 1 [x0, some (zrf r)] (zrf r :: st) h Q := R_aldnq rfl rfl
theorem s38_1 (ht : tg a = 5) : Runs 38 1 ls (.ref a :: st) (n, tg, ln, I, J, O) Q ↔ Runs 38 4 ls (zrf (O a 0) :: st) (n, tg, ln, I, J, O) Q := R_getr rfl rfl rfl rfl ht
theorem s38_4 : Runs 38 4 ls st h Q ↔ Runs 38 5 ls (.int 0 :: st) h Q := R_iconst rfl rfl
theorem s38_5 : Runs 38 5 [some (.ref a), x1] st h Q ↔ Runs 38 6 [some (.ref a), x1] (.ref a :: st) h Q := R_aldn rfl rfl
theorem s38_5q : Runs 38 5 [some (zrf r), x1] st h Q ↔ Runs 38 6 [some (zrf r), x1] (zrf r :: st) h Q := R_aldnq rfl rfl
theorem s38_6 (ht : tg a = 5) : Runs 38 6 ls (.ref a :: st) (n, tg, ln, I, J, O) Q ↔ Runs 38 9 ls (zrf (O a 0) :: st) (n, tg, ln, I, J, O) Q := R_getr rfl rfl rfl rfl ht
theorem s38_9 : Runs 38 9 ls st h Q ↔ Runs 38 10 ls (.int 0 :: st) h Q := R_iconst rfl rfl
theorem s38_10 : Runs 38 10 ls st h Q ↔ Runs 38 12 ls (.int 12 :: st) h Q := R_bipush rfl (by decide)
theorem s38_12 (ht : tg a = 20) (ht2 : tg b = 20) (hs : zsumc st ≤ 8) : Runs 38 12 ls (.int i :: .int 0 :: .ref a :: .int 0 :: .ref b :: st) (n, tg, ln, I, J, O) Q ↔ ((0 ≤ i ∧ i ≤ Int32.ofNat (ln a) ∧ i ≤ Int32.ofNat (ln b)) ∧ Runs 38 15 ls st (n, tg, ln, zcpy I a b i, J, O) Q) := R_copy rfl rfl ht ht2 hs
theorem s38_15 : Runs 38 15 [x0, some (.ref a)] st h Q ↔ Runs 38 16 [x0, some (.ref a)] (.ref a :: st) h Q := R_aldn rfl rfl
theorem s38_15q : Runs 38 15 [x0, some (zrf r)] st h Q ↔ Runs 38 16 [x0, some (zrf r)] (zrf r :: st) h Q := R_aldnq rfl rfl
theorem s38_16 (ht : tg a = 5) : Runs 38 16 ls (.ref a :: st) (n, tg, ln, I, J, O) Q ↔ Runs 38 19 ls (zrf (O a 1) :: st) (n, tg, ln, I, J, O) Q := R_getr rfl rfl rfl rfl ht
theorem s38_19 : Runs 38 19 ls st h Q ↔ Runs 38 20 ls (.int 0 :: st) h Q := R_iconst rfl rfl
theorem s38_20 : Runs 38 20 [some (.ref a), x1] st h Q ↔ Runs 38 21 [some (.ref a), x1] (.ref a :: st) h Q := R_aldn rfl rfl
theorem s38_20q : Runs 38 20 [some (zrf r), x1] st h Q ↔ Runs 38 21 [some (zrf r), x1] (zrf r :: st) h Q := R_aldnq rfl rfl
theorem s38_21 (ht : tg a = 5) : Runs 38 21 ls (.ref a :: st) (n, tg, ln, I, J, O) Q ↔ Runs 38 24 ls (zrf (O a 1) :: st) (n, tg, ln, I, J, O) Q := R_getr rfl rfl rfl rfl ht
theorem s38_24 : Runs 38 24 ls st h Q ↔ Runs 38 25 ls (.int 0 :: st) h Q := R_iconst rfl rfl
theorem s38_25 : Runs 38 25 ls st h Q ↔ Runs 38 27 ls (.int 12 :: st) h Q := R_bipush rfl (by decide)
theorem s38_27 (ht : tg a = 20) (ht2 : tg b = 20) (hs : zsumc st ≤ 8) : Runs 38 27 ls (.int i :: .int 0 :: .ref a :: .int 0 :: .ref b :: st) (n, tg, ln, I, J, O) Q ↔ ((0 ≤ i ∧ i ≤ Int32.ofNat (ln a) ∧ i ≤ Int32.ofNat (ln b)) ∧ Runs 38 30 ls st (n, tg, ln, zcpy I a b i, J, O) Q) := R_copy rfl rfl ht ht2 hs
theorem s38_30 : Runs 38 30 [x0, some (.ref a)] st h Q ↔ Runs 38 31 [x0, some (.ref a)] (.ref a :: st) h Q := R_aldn rfl rfl
theorem s38_30q : Runs 38 30 [x0, some (zrf r)] st h Q ↔ Runs 38 31 [x0, some (zrf r)] (zrf r :: st) h Q := R_aldnq rfl rfl
theorem s38_31 (ht : tg a = 5) : Runs 38 31 ls (.ref a :: st) (n, tg, ln, I, J, O) Q ↔ Runs 38 34 ls (zrf (O a 2) :: st) (n, tg, ln, I, J, O) Q := R_getr rfl rfl rfl rfl ht
theorem s38_34 : Runs 38 34 ls st h Q ↔ Runs 38 35 ls (.int 0 :: st) h Q := R_iconst rfl rfl
theorem s38_35 : Runs 38 35 [some (.ref a), x1] st h Q ↔ Runs 38 36 [some (.ref a), x1] (.ref a :: st) h Q := R_aldn rfl rfl
theorem s38_35q : Runs 38 35 [some (zrf r), x1] st h Q ↔ Runs 38 36 [some (zrf r), x1] (zrf r :: st) h Q := R_aldnq rfl rfl
theorem s38_36 (ht : tg a = 5) : Runs 38 36 ls (.ref a :: st) (n, tg, ln, I, J, O) Q ↔ Runs 38 39 ls (zrf (O a 2) :: st) (n, tg, ln, I, J, O) Q := R_getr rfl rfl rfl rfl ht
theorem s38_39 : Runs 38 39 ls st h Q ↔ Runs 38 40 ls (.int 0 :: st) h Q := R_iconst rfl rfl
theorem s38_40 : Runs 38 40 ls st h Q ↔ Runs 38 42 ls (.int 12 :: st) h Q := R_bipush rfl (by decide)
theorem s38_42 (ht : tg a = 20) (ht2 : tg b = 20) (hs : zsumc st ≤ 8) : Runs 38 42 ls (.int i :: .int 0 :: .ref a :: .int 0 :: .ref b :: st) (n, tg, ln, I, J, O) Q ↔ ((0 ≤ i ∧ i ≤ Int32.ofNat (ln a) ∧ i ≤ Int32.ofNat (ln b)) ∧ Runs 38 45 ls st (n, tg, ln, zcpy I a b i, J, O) Q) := R_copy rfl rfl ht ht2 hs
theorem s38_45 : Runs 38 45 [x0, some (.ref a)] st h Q ↔ Runs 38 46 [x0, some (.ref a)] (.ref a :: st) h Q := R_aldn rfl rfl
theorem s38_45q : Runs 38 45 [x0, some (zrf r)] st h Q ↔ Runs 38 46 [x0, some (zrf r)] (zrf r :: st) h Q := R_aldnq rfl rfl
theorem s38_46 (ht : tg a = 5) : Runs 38 46 ls (.ref a :: st) (n, tg, ln, I, J, O) Q ↔ Runs 38 49 ls (zrf (O a 3) :: st) (n, tg, ln, I, J, O) Q := R_getr rfl rfl rfl rfl ht
theorem s38_49 : Runs 38 49 ls st h Q ↔ Runs 38 50 ls (.int 0 :: st) h Q := R_iconst rfl rfl
theorem s38_50 : Runs 38 50 [some (.ref a), x1] st h Q ↔ Runs 38 51 [some (.ref a), x1] (.ref a :: st) h Q := R_aldn rfl rfl
theorem s38_50q : Runs 38 50 [some (zrf r), x1] st h Q ↔ Runs 38 51 [some (zrf r), x1] (zrf r :: st) h Q := R_aldnq rfl rfl
theorem s38_51 (ht : tg a = 5) : Runs 38 51 ls (.ref a :: st) (n, tg, ln, I, J, O) Q ↔ Runs 38 54 ls (zrf (O a 3) :: st) (n, tg, ln, I, J, O) Q := R_getr rfl rfl rfl rfl ht
theorem s38_54 : Runs 38 54 ls st h Q ↔ Runs 38 55 ls (.int 0 :: st) h Q := R_iconst rfl rfl
theorem s38_55 : Runs 38 55 ls st h Q ↔ Runs 38 57 ls (.int 12 :: st) h Q := R_bipush rfl (by decide)
theorem s38_57 (ht : tg a = 20) (ht2 : tg b = 20) (hs : zsumc st ≤ 8) : Runs 38 57 ls (.int i :: .int 0 :: .ref a :: .int 0 :: .ref b :: st) (n, tg, ln, I, J, O) Q ↔ ((0 ≤ i ∧ i ≤ Int32.ofNat (ln a) ∧ i ≤ Int32.ofNat (ln b)) ∧ Runs 38 60 ls st (n, tg, ln, zcpy I a b i, J, O) Q) := R_copy rfl rfl ht ht2 hs
theorem s38_60 : Runs 38 60 [x0, some (.ref a)] st h Q ↔ Runs 38 61 [x0, some (.ref a)] (.ref a :: st) h Q := R_aldn rfl rfl
theorem s38_60q : Runs 38 60 [x0, some (zrf r)] st h Q ↔ Runs 38 61 [x0, some (zrf r)] (zrf r :: st) h Q := R_aldnq rfl rfl
theorem s38_61 (ht : tg a = 5) : Runs 38 61 ls (.ref a :: st) (n, tg, ln, I, J, O) Q ↔ Runs 38 64 ls (zrf (O a 4) :: st) (n, tg, ln, I, J, O) Q := R_getr rfl rfl rfl rfl ht
theorem s38_64 : Runs 38 64 ls st h Q ↔ Runs 38 65 ls (.int 0 :: st) h Q := R_iconst rfl rfl
theorem s38_65 : Runs 38 65 [some (.ref a), x1] st h Q ↔ Runs 38 66 [some (.ref a), x1] (.ref a :: st) h Q := R_aldn rfl rfl
theorem s38_65q : Runs 38 65 [some (zrf r), x1] st h Q ↔ Runs 38 66 [some (zrf r), x1] (zrf r :: st) h Q := R_aldnq rfl rfl
theorem s38_66 (ht : tg a = 5) : Runs 38 66 ls (.ref a :: st) (n, tg, ln, I, J, O) Q ↔ Runs 38 69 ls (zrf (O a 4) :: st) (n, tg, ln, I, J, O) Q := R_getr rfl rfl rfl rfl ht
theorem s38_69 : Runs 38 69 ls st h Q ↔ Runs 38 70 ls (.int 0 :: st) h Q := R_iconst rfl rfl
theorem s38_70 : Runs 38 70 ls st h Q ↔ Runs 38 72 ls (.int 12 :: st) h Q := R_bipush rfl (by decide)
theorem s38_72 (ht : tg a = 20) (ht2 : tg b = 20) (hs : zsumc st ≤ 8) : Runs 38 72 ls (.int i :: .int 0 :: .ref a :: .int 0 :: .ref b :: st) (n, tg, ln, I, J, O) Q ↔ ((0 ≤ i ∧ i ≤ Int32.ofNat (ln a) ∧ i ≤ Int32.ofNat (ln b)) ∧ Runs 38 75 ls st (n, tg, ln, zcpy I a b i, J, O) Q) := R_copy rfl rfl ht ht2 hs
theorem s38_75 : Runs 38 75 [some (.ref a), x1] st h Q ↔ Runs 38 76 [some (.ref a), x1] (.ref a :: st) h Q := R_aldn rfl rfl
theorem s38_75q : Runs 38 75 [some (zrf r), x1] st h Q ↔ Runs 38 76 [some (zrf r), x1] (zrf r :: st) h Q := R_aldnq rfl rfl
theorem s38_76 : Runs 38 76 [x0, some (.ref a)] st h Q ↔ Runs 38 77 [x0, some (.ref a)] (.ref a :: st) h Q := R_aldn rfl rfl
theorem s38_76q : Runs 38 76 [x0, some (zrf r)] st h Q ↔ Runs 38 77 [x0, some (zrf r)] (zrf r :: st) h Q := R_aldnq rfl rfl
theorem s38_77 (ht : tg a = 5) : Runs 38 77 ls (.ref a :: st) (n, tg, ln, I, J, O) Q ↔ Runs 38 80 ls (.int (I a 5) :: st) (n, tg, ln, I, J, O) Q := R_geti rfl rfl rfl rfl ht
theorem s38_80 (ht : tg a = 5) : Runs 38 80 ls (.int i :: .ref a :: st) (n, tg, ln, I, J, O) Q ↔ Runs 38 83 ls st (n, tg, ln, zu I a 5 i, J, O) Q := R_puti rfl rfl rfl rfl rfl rfl ht
theorem s38_83 : Runs 38 83 [some (.ref a), x1] st h Q ↔ Runs 38 84 [some (.ref a), x1] (.ref a :: st) h Q := R_aldn rfl rfl
theorem s38_83q : Runs 38 83 [some (zrf r), x1] st h Q ↔ Runs 38 84 [some (zrf r), x1] (zrf r :: st) h Q := R_aldnq rfl rfl
theorem s38_84 : Runs 38 84 [x0, some (.ref a)] st h Q ↔ Runs 38 85 [x0, some (.ref a)] (.ref a :: st) h Q := R_aldn rfl rfl
theorem s38_84q : Runs 38 84 [x0, some (zrf r)] st h Q ↔ Runs 38 85 [x0, some (zrf r)] (zrf r :: st) h Q := R_aldnq rfl rfl
theorem s38_85 (ht : tg a = 5) : Runs 38 85 ls (.ref a :: st) (n, tg, ln, I, J, O) Q ↔ Runs 38 88 ls (.int (I a 6) :: st) (n, tg, ln, I, J, O) Q := R_geti rfl rfl rfl rfl ht
theorem s38_88 (ht : tg a = 5) : Runs 38 88 ls (.int i :: .ref a :: st) (n, tg, ln, I, J, O) Q ↔ Runs 38 91 ls st (n, tg, ln, zu I a 6 i, J, O) Q := R_puti rfl rfl rfl rfl rfl rfl ht
theorem s38_91 : Runs 38 91 [some (.ref a), x1] st h Q ↔ Runs 38 92 [some (.ref a), x1] (.ref a :: st) h Q := R_aldn rfl rfl
theorem s38_91q : Runs 38 91 [some (zrf r), x1] st h Q ↔ Runs 38 92 [some (zrf r), x1] (zrf r :: st) h Q := R_aldnq rfl rfl
theorem s38_92 : Runs 38 92 [x0, some (.ref a)] st h Q ↔ Runs 38 93 [x0, some (.ref a)] (.ref a :: st) h Q := R_aldn rfl rfl
theorem s38_92q : Runs 38 92 [x0, some (zrf r)] st h Q ↔ Runs 38 93 [x0, some (zrf r)] (zrf r :: st) h Q := R_aldnq rfl rfl
theorem s38_93 (ht : tg a = 5) : Runs 38 93 ls (.ref a :: st) (n, tg, ln, I, J, O) Q ↔ Runs 38 96 ls (.int (I a 7) :: st) (n, tg, ln, I, J, O) Q := R_geti rfl rfl rfl rfl ht
theorem s38_96 (ht : tg a = 5) : Runs 38 96 ls (.int i :: .ref a :: st) (n, tg, ln, I, J, O) Q ↔ Runs 38 99 ls st (n, tg, ln, zu I a 7 i, J, O) Q := R_puti rfl rfl rfl rfl rfl rfl ht
theorem s38_99 : Runs 38 99 [some (.ref a), x1] st h Q ↔ Runs 38 100 [some (.ref a), x1] (.ref a :: st) h Q := R_aldn rfl rfl
theorem s38_99q : Runs 38 99 [some (zrf r), x1] st h Q ↔ Runs 38 100 [some (zrf r), x1] (zrf r :: st) h Q := R_aldnq rfl rfl
theorem s38_100 : Runs 38 100 [x0, some (.ref a)] st h Q ↔ Runs 38 101 [x0, some (.ref a)] (.ref a :: st) h Q := R_aldn rfl rfl
theorem s38_100q : Runs 38 100 [x0, some (zrf r)] st h Q ↔ Runs 38 101 [x0, some (zrf r)] (zrf r :: st) h Q := R_aldnq rfl rfl
theorem s38_101 (ht : tg a = 5) : Runs 38 101 ls (.ref a :: st) (n, tg, ln, I, J, O) Q ↔ Runs 38 104 ls (.int (I a 8) :: st) (n, tg, ln, I, J, O) Q := R_geti rfl rfl rfl rfl ht
theorem s38_104 (ht : tg a = 5) : Runs 38 104 ls (.int i :: .ref a :: st) (n, tg, ln, I, J, O) Q ↔ Runs 38 107 ls st (n, tg, ln, zu I a 8 i, J, O) Q := R_puti rfl rfl rfl rfl rfl rfl ht
theorem s38_107 : Runs 38 107 [some (.ref a), x1] st h Q ↔ Runs 38 108 [some (.ref a), x1] (.ref a :: st) h Q := R_aldn rfl rfl
theorem s38_107q : Runs 38 107 [some (zrf r), x1] st h Q ↔ Runs 38 108 [some (zrf r), x1] (zrf r :: st) h Q := R_aldnq rfl rfl
theorem s38_108 (ht : tg a = 5) : Runs 38 108 ls (.ref a :: st) (n, tg, ln, I, J, O) Q ↔ Runs 38 111 ls (zrf (O a 9) :: st) (n, tg, ln, I, J, O) Q := R_getr rfl rfl rfl rfl ht
theorem s38_111 : Runs 38 111 [x0, some (.ref a)] st h Q ↔ Runs 38 112 [x0, some (.ref a)] (.ref a :: st) h Q := R_aldn rfl rfl
theorem s38_111q : Runs 38 111 [x0, some (zrf r)] st h Q ↔ Runs 38 112 [x0, some (zrf r)] (zrf r :: st) h Q := R_aldnq rfl rfl
theorem s38_112 (ht : tg a = 5) : Runs 38 112 ls (.ref a :: st) (n, tg, ln, I, J, O) Q ↔ Runs 38 115 ls (zrf (O a 9) :: st) (n, tg, ln, I, J, O) Q := R_getr rfl rfl rfl rfl ht
theorem s38_115 (ht : tg a = 4) (hs : zsumc st ≤ 8) : Runs 38 115 ls (.ref b0 :: .ref a :: st) (n, tg, ln, I, J, O) Q ↔ Runs 27 0 [some (.ref a), some (.ref b0)] [] (n, tg, ln, I, J, O) (fun v h2 => Runs 38 118 ls (v.toList ++ st) h2 Q) := R_callv (a := a) (rest := st) rfl rfl rfl rfl rfl rfl rfl ht hs
theorem s38_115q (ht : tg a = 4) (hs : zsumc st ≤ 8) : Runs 38 115 ls (zrf r0 :: .ref a :: st) (n, tg, ln, I, J, O) Q ↔ Runs 27 0 [some (.ref a), some (zrf r0)] [] (n, tg, ln, I, J, O) (fun v h2 => Runs 38 118 ls (v.toList ++ st) h2 Q) := by cases r0 <;> exact R_callv (a := a) (rest := st) rfl rfl rfl rfl rfl rfl rfl ht hs
theorem s38_118 : Runs 38 118 [some (.ref a), x1] st h Q ↔ Runs 38 119 [some (.ref a), x1] (.ref a :: st) h Q := R_aldn rfl rfl
theorem s38_118q : Runs 38 118 [some (zrf r), x1] st h Q ↔ Runs 38 119 [some (zrf r), x1] (zrf r :: st) h Q := R_aldnq rfl rfl
theorem s38_119 (ht : tg a = 5) : Runs 38 119 ls (.ref a :: st) (n, tg, ln, I, J, O) Q ↔ Runs 38 122 ls (zrf (O a 10) :: st) (n, tg, ln, I, J, O) Q := R_getr rfl rfl rfl rfl ht
theorem s38_122 : Runs 38 122 [x0, some (.ref a)] st h Q ↔ Runs 38 123 [x0, some (.ref a)] (.ref a :: st) h Q := R_aldn rfl rfl
theorem s38_122q : Runs 38 122 [x0, some (zrf r)] st h Q ↔ Runs 38 123 [x0, some (zrf r)] (zrf r :: st) h Q := R_aldnq rfl rfl
theorem s38_123 (ht : tg a = 5) : Runs 38 123 ls (.ref a :: st) (n, tg, ln, I, J, O) Q ↔ Runs 38 126 ls (zrf (O a 10) :: st) (n, tg, ln, I, J, O) Q := R_getr rfl rfl rfl rfl ht
theorem s38_126 (ht : tg a = 4) (hs : zsumc st ≤ 8) : Runs 38 126 ls (.ref b0 :: .ref a :: st) (n, tg, ln, I, J, O) Q ↔ Runs 27 0 [some (.ref a), some (.ref b0)] [] (n, tg, ln, I, J, O) (fun v h2 => Runs 38 129 ls (v.toList ++ st) h2 Q) := R_callv (a := a) (rest := st) rfl rfl rfl rfl rfl rfl rfl ht hs
theorem s38_126q (ht : tg a = 4) (hs : zsumc st ≤ 8) : Runs 38 126 ls (zrf r0 :: .ref a :: st) (n, tg, ln, I, J, O) Q ↔ Runs 27 0 [some (.ref a), some (zrf r0)] [] (n, tg, ln, I, J, O) (fun v h2 => Runs 38 129 ls (v.toList ++ st) h2 Q) := by cases r0 <;> exact R_callv (a := a) (rest := st) rfl rfl rfl rfl rfl rfl rfl ht hs
theorem s38_129 : Runs 38 129 ls [] h Q ↔ Q none h := R_vret rfl rfl
theorem s39_0 : Runs 39 0 [x0, some (.int i)] st h Q ↔ Runs 39 1 [x0, some (.int i)] (.int i :: st) h Q := R_ildn rfl rfl
theorem s39_1 : Runs 39 1 ls (.int i :: st) h Q ↔ if i < 0 then Runs 39 16 ls st h Q else Runs 39 4 ls st h Q := R_iflt rfl rfl
theorem s39_4 : Runs 39 4 [x0, some (.int i)] st h Q ↔ Runs 39 5 [x0, some (.int i)] (.int i :: st) h Q := R_ildn rfl rfl
theorem s39_5 : Runs 39 5 [some (.ref a), x1] st h Q ↔ Runs 39 6 [some (.ref a), x1] (.ref a :: st) h Q := R_aldn rfl rfl
theorem s39_5q : Runs 39 5 [some (zrf r), x1] st h Q ↔ Runs 39 6 [some (zrf r), x1] (zrf r :: st) h Q := R_aldnq rfl rfl
theorem s39_6 (ht : tg a = 5) : Runs 39 6 ls (.ref a :: st) (n, tg, ln, I, J, O) Q ↔ Runs 39 9 ls (.int (I a 5) :: st) (n, tg, ln, I, J, O) Q := R_geti rfl rfl rfl rfl ht
theorem s39_9 : Runs 39 9 ls (.int j :: .int i :: st) h Q ↔ if j ≤ i then Runs 39 16 ls st h Q else Runs 39 12 ls st h Q := R_icge rfl rfl
theorem s39_12 : Runs 39 12 ls st h Q ↔ Runs 39 13 ls (.int 1 :: st) h Q := R_iconst rfl rfl
theorem s39_13 : Runs 39 13 ls st h Q ↔ Runs 39 17 ls st h Q := R_goto rfl rfl
theorem s39_16 : Runs 39 16 ls st h Q ↔ Runs 39 17 ls (.int 0 :: st) h Q := R_iconst rfl rfl
theorem s39_17 (hx : i = 0 ∨ i = 1) : Runs 39 17 ls [.int i] h Q ↔ Q (some (.int i)) h := R_zret rfl rfl hx
theorem s40_0 : Runs 40 0 [some (.ref a), x1] st h Q ↔ Runs 40 1 [some (.ref a), x1] (.ref a :: st) h Q := R_aldn rfl rfl
theorem s40_0q : Runs 40 0 [some (zrf r), x1] st h Q ↔ Runs 40 1 [some (zrf r), x1] (zrf r :: st) h Q := R_aldnq rfl rfl
theorem s40_1 : Runs 40 1 [x0, some (.int i)] st h Q ↔ Runs 40 2 [x0, some (.int i)] (.int i :: st) h Q := R_ildn rfl rfl
theorem s40_2 (ht : tg a = 5) (hs : zsumc st ≤ 8) : Runs 40 2 ls (.int i0 :: .ref a :: st) (n, tg, ln, I, J, O) Q ↔ Runs 39 0 [some (.ref a), some (.int i0)] [] (n, tg, ln, I, J, O) (fun v h2 => Runs 40 5 ls (v.toList ++ st) h2 Q) := R_callv (a := a) (rest := st) rfl rfl rfl rfl rfl rfl rfl ht hs
theorem s40_5 : Runs 40 5 ls (.int i :: st) h Q ↔ if i = 0 then Runs 40 21 ls st h Q else Runs 40 8 ls st h Q := R_ifeq rfl rfl
theorem s40_8 : Runs 40 8 [some (.ref a), x1] st h Q ↔ Runs 40 9 [some (.ref a), x1] (.ref a :: st) h Q := R_aldn rfl rfl
theorem s40_8q : Runs 40 8 [some (zrf r), x1] st h Q ↔ Runs 40 9 [some (zrf r), x1] (zrf r :: st) h Q := R_aldnq rfl rfl
theorem s40_9 (ht : tg a = 5) : Runs 40 9 ls (.ref a :: st) (n, tg, ln, I, J, O) Q ↔ Runs 40 12 ls (zrf (O a 3) :: st) (n, tg, ln, I, J, O) Q := R_getr rfl rfl rfl rfl ht
theorem s40_12 : Runs 40 12 [x0, some (.int i)] st h Q ↔ Runs 40 13 [x0, some (.int i)] (.int i :: st) h Q := R_ildn rfl rfl
theorem s40_13 (ht : tg a = 20) : Runs 40 13 ls (.int i :: .ref a :: st) (n, tg, ln, I, J, O) Q ↔ ((0 ≤ i ∧ i < Int32.ofNat (ln a)) ∧ Runs 40 14 ls (.int (I a i) :: st) (n, tg, ln, I, J, O) Q) := R_iald rfl ht
theorem s40_14 : Runs 40 14 ls (.int i :: st) h Q ↔ if ¬ i = 0 then Runs 40 21 ls st h Q else Runs 40 17 ls st h Q := R_ifne rfl rfl
theorem s40_17 : Runs 40 17 ls st h Q ↔ Runs 40 18 ls (.int 1 :: st) h Q := R_iconst rfl rfl
theorem s40_18 : Runs 40 18 ls st h Q ↔ Runs 40 22 ls st h Q := R_goto rfl rfl
theorem s40_21 : Runs 40 21 ls st h Q ↔ Runs 40 22 ls (.int 0 :: st) h Q := R_iconst rfl rfl
theorem s40_22 (hx : i = 0 ∨ i = 1) : Runs 40 22 ls [.int i] h Q ↔ Q (some (.int i)) h := R_zret rfl rfl hx
theorem s41_0 : Runs 41 0 [x0, some (.int i)] st h Q ↔ Runs 41 1 [x0, some (.int i)] (.int i :: st) h Q := R_ildn rfl rfl
theorem s41_1 : Runs 41 1 ls (.int i :: st) h Q ↔ if ¬ i = 0 then Runs 41 11 ls st h Q else Runs 41 4 ls st h Q := R_ifne rfl rfl
theorem s41_4 : Runs 41 4 [some (.ref a), x1] st h Q ↔ Runs 41 5 [some (.ref a), x1] (.ref a :: st) h Q := R_aldn rfl rfl
theorem s41_4q : Runs 41 4 [some (zrf r), x1] st h Q ↔ Runs 41 5 [some (zrf r), x1] (zrf r :: st) h Q := R_aldnq rfl rfl
theorem s41_5 (ht : tg a = 5) : Runs 41 5 ls (.ref a :: st) (n, tg, ln, I, J, O) Q ↔ Runs 41 8 ls (zrf (O a 9) :: st) (n, tg, ln, I, J, O) Q := R_getr rfl rfl rfl rfl ht
theorem s41_8 : Runs 41 8 ls st h Q ↔ Runs 41 15 ls st h Q := R_goto rfl rfl
theorem s41_11 : Runs 41 11 [some (.ref a), x1] st h Q ↔ Runs 41 12 [some (.ref a), x1] (.ref a :: st) h Q := R_aldn rfl rfl
theorem s41_11q : Runs 41 11 [some (zrf r), x1] st h Q ↔ Runs 41 12 [some (zrf r), x1] (zrf r :: st) h Q := R_aldnq rfl rfl
theorem s41_12 (ht : tg a = 5) : Runs 41 12 ls (.ref a :: st) (n, tg, ln, I, J, O) Q ↔ Runs 41 15 ls (zrf (O a 10) :: st) (n, tg, ln, I, J, O) Q := R_getr rfl rfl rfl rfl ht
theorem s41_15 : Runs 41 15 ls [.ref a] h Q ↔ Q (some (.ref a)) h := R_aret rfl rfl
theorem s41_15q : Runs 41 15 ls [zrf r] h Q ↔ Q (some (zrf r)) h := R_aretq rfl rfl
theorem s42_0 : Runs 42 0 [some (.ref a)] st h Q ↔ Runs 42 1 [some (.ref a)] (.ref a :: st) h Q := R_aldn rfl rfl
theorem s42_0q : Runs 42 0 [some (zrf r)] st h Q ↔ Runs 42 1 [some (zrf r)] (zrf r :: st) h Q := R_aldnq rfl rfl
theorem s42_1 (ht : tg a = 5) : Runs 42 1 ls (.ref a :: st) (n, tg, ln, I, J, O) Q ↔ Runs 42 4 ls (zrf (O a 9) :: st) (n, tg, ln, I, J, O) Q := R_getr rfl rfl rfl rfl ht
theorem s42_4 (ht : tg a = 4) : Runs 42 4 ls (.ref a :: st) (n, tg, ln, I, J, O) Q ↔ Runs 42 7 ls (.int (I a 1) :: st) (n, tg, ln, I, J, O) Q := R_geti rfl rfl rfl rfl ht
theorem s42_7 : Runs 42 7 ls (.int i :: st) h Q ↔ if ¬ i = 0 then Runs 42 24 ls st h Q else Runs 42 10 ls st h Q := R_ifne rfl rfl
theorem s42_10 : Runs 42 10 [some (.ref a)] st h Q ↔ Runs 42 11 [some (.ref a)] (.ref a :: st) h Q := R_aldn rfl rfl
theorem s42_10q : Runs 42 10 [some (zrf r)] st h Q ↔ Runs 42 11 [some (zrf r)] (zrf r :: st) h Q := R_aldnq rfl rfl
theorem s42_11 (ht : tg a = 5) : Runs 42 11 ls (.ref a :: st) (n, tg, ln, I, J, O) Q ↔ Runs 42 14 ls (zrf (O a 10) :: st) (n, tg, ln, I, J, O) Q := R_getr rfl rfl rfl rfl ht
theorem s42_14 (ht : tg a = 4) : Runs 42 14 ls (.ref a :: st) (n, tg, ln, I, J, O) Q ↔ Runs 42 17 ls (.int (I a 1) :: st) (n, tg, ln, I, J, O) Q := R_geti rfl rfl rfl rfl ht
theorem s42_17 : Runs 42 17 ls (.int i :: st) h Q ↔ if ¬ i = 0 then Runs 42 24 ls st h Q else Runs 42 20 ls st h Q := R_ifne rfl rfl
theorem s42_20 : Runs 42 20 ls st h Q ↔ Runs 42 21 ls (.int 1 :: st) h Q := R_iconst rfl rfl
theorem s42_21 : Runs 42 21 ls st h Q ↔ Runs 42 25 ls st h Q := R_goto rfl rfl
theorem s42_24 : Runs 42 24 ls st h Q ↔ Runs 42 25 ls (.int 0 :: st) h Q := R_iconst rfl rfl
theorem s42_25 (hx : i = 0 ∨ i = 1) : Runs 42 25 ls [.int i] h Q ↔ Q (some (.int i)) h := R_zret rfl rfl hx
theorem s43_0 : Runs 43 0 [some (.ref a), x1] st h Q ↔ Runs 43 1 [some (.ref a), x1] (.ref a :: st) h Q := R_aldn rfl rfl
theorem s43_0q : Runs 43 0 [some (zrf r), x1] st h Q ↔ Runs 43 1 [some (zrf r), x1] (zrf r :: st) h Q := R_aldnq rfl rfl
theorem s43_1 : Runs 43 1 [x0, some (.int i)] st h Q ↔ Runs 43 2 [x0, some (.int i)] (.int i :: st) h Q := R_ildn rfl rfl
theorem s43_2 (ht : tg a = 5) (hs : zsumc st ≤ 8) : Runs 43 2 ls (.int i0 :: .ref a :: st) (n, tg, ln, I, J, O) Q ↔ Runs 40 0 [some (.ref a), some (.int i0)] [] (n, tg, ln, I, J, O) (fun v h2 => Runs 43 5 ls (v.toList ++ st) h2 Q) := R_callv (a := a) (rest := st) rfl rfl rfl rfl rfl rfl rfl ht hs
theorem s43_5 : Runs 43 5 ls (.int i :: st) h Q ↔ if i = 0 then Runs 43 25 ls st h Q else Runs 43 8 ls st h Q := R_ifeq rfl rfl
theorem s43_8 : Runs 43 8 [some (.ref a), x1] st h Q ↔ Runs 43 9 [some (.ref a), x1] (.ref a :: st) h Q := R_aldn rfl rfl
theorem s43_8q : Runs 43 8 [some (zrf r), x1] st h Q ↔ Runs 43 9 [some (zrf r), x1] (zrf r :: st) h Q := R_aldnq rfl rfl
theorem s43_9 : Runs 43 9 [some (.ref a), x1] st h Q ↔ Runs 43 10 [some (.ref a), x1] (.ref a :: st) h Q := R_aldn rfl rfl
theorem s43_9q : Runs 43 9 [some (zrf r), x1] st h Q ↔ Runs 43 10 [some (zrf r), x1] (zrf r :: st) h Q := R_aldnq rfl rfl
theorem s43_10 (ht : tg a = 5) : Runs 43 10 ls (.ref a :: st) (n, tg, ln, I, J, O) Q ↔ Runs 43 13 ls (zrf (O a 4) :: st) (n, tg, ln, I, J, O) Q := R_getr rfl rfl rfl rfl ht
theorem s43_13 : Runs 43 13 [x0, some (.int i)] st h Q ↔ Runs 43 14 [x0, some (.int i)] (.int i :: st) h Q := R_ildn rfl rfl
theorem s43_14 (ht : tg a = 20) : Runs 43 14 ls (.int i :: .ref a :: st) (n, tg, ln, I, J, O) Q ↔ ((0 ≤ i ∧ i < Int32.ofNat (ln a)) ∧ Runs 43 15 ls (.int (I a i) :: st) (n, tg, ln, I, J, O) Q) := R_iald rfl ht
theorem s43_15 (ht : tg a = 5) (hs : zsumc st ≤ 8) : Runs 43 15 ls (.int i0 :: .ref a :: st) (n, tg, ln, I, J, O) Q ↔ Runs 41 0 [some (.ref a), some (.int i0)] [] (n, tg, ln, I, J, O) (fun v h2 => Runs 43 18 ls (v.toList ++ st) h2 Q) := R_callv (a := a) (rest := st) rfl rfl rfl rfl rfl rfl rfl ht hs
theorem s43_18 : Runs 43 18 [x0, some (.int i)] st h Q ↔ Runs 43 19 [x0, some (.int i)] (.int i :: st) h Q := R_ildn rfl rfl
theorem s43_19 (ht : tg a = 4) (hs : zsumc st ≤ 8) : Runs 43 19 ls (.int i0 :: .ref a :: st) (n, tg, ln, I, J, O) Q ↔ Runs 31 0 [some (.ref a), some (.int i0), none] [] (n, tg, ln, I, J, O) (fun v h2 => Runs 43 22 ls (v.toList ++ st) h2 Q) := R_callv (a := a) (rest := st) rfl rfl rfl rfl rfl rfl rfl ht hs
theorem s43_22 : Runs 43 22 ls st h Q ↔ Runs 43 26 ls st h Q := R_goto rfl rfl
theorem s43_25 : Runs 43 25 ls st h Q ↔ Runs 43 26 ls (.int (-1) :: st) h Q := R_iconst rfl rfl
theorem s43_26 : Runs 43 26 ls [.int i] h Q ↔ Q (some (.int i)) h := R_iret rfl rfl
theorem s44_0 : Runs 44 0 ls st h Q ↔ Runs 44 1 ls (.int 0 :: st) h Q := R_iconst rfl rfl
theorem s44_1 : Runs 44 1 [x0, x1, x2, x3] (.int i :: st) h Q ↔ Runs 44 2 [x0, zdrop x1, some (.int i), x3] st h Q := R_istn rfl rfl rfl
theorem s44_2 : Runs 44 2 ls st h Q ↔ Runs 44 3 ls (.int 0 :: st) h Q := R_iconst rfl rfl
theorem s44_3 : Runs 44 3 [x0, x1, x2, x3] (.int i :: st) h Q ↔ Runs 44 4 [x0, x1, zdrop x2, some (.int i)] st h Q := R_istn rfl rfl rfl
theorem s44_4 : Runs 44 4 [x0, x1, x2, some (.int i)] st h Q ↔ Runs 44 5 [x0, x1, x2, some (.int i)] (.int i :: st) h Q := R_ildn rfl rfl
theorem s44_5 : Runs 44 5 [some (.ref a), x1, x2, x3] st h Q ↔ Runs 44 6 [some (.ref a), x1, x2, x3] (.ref a :: st) h Q := R_aldn rfl rfl
theorem s44_5q : Runs 44 5 [some (zrf r), x1, x2, x3] st h Q ↔ Runs 44 6 [some (zrf r), x1, x2, x3] (zrf r :: st) h Q := R_aldnq rfl rfl
theorem s44_6 (ht : tg a = 5) : Runs 44 6 ls (.ref a :: st) (n, tg, ln, I, J, O) Q ↔ Runs 44 9 ls (.int (I a 5) :: st) (n, tg, ln, I, J, O) Q := R_geti rfl rfl rfl rfl ht
theorem s44_9 : Runs 44 9 ls (.int j :: .int i :: st) h Q ↔ if j ≤ i then Runs 44 34 ls st h Q else Runs 44 12 ls st h Q := R_icge rfl rfl
theorem s44_12 : Runs 44 12 [some (.ref a), x1, x2, x3] st h Q ↔ Runs 44 13 [some (.ref a), x1, x2, x3] (.ref a :: st) h Q := R_aldn rfl rfl
theorem s44_12q : Runs 44 12 [some (zrf r), x1, x2, x3] st h Q ↔ Runs 44 13 [some (zrf r), x1, x2, x3] (zrf r :: st) h Q := R_aldnq rfl rfl
theorem s44_13 (ht : tg a = 5) : Runs 44 13 ls (.ref a :: st) (n, tg, ln, I, J, O) Q ↔ Runs 44 16 ls (zrf (O a 3) :: st) (n, tg, ln, I, J, O) Q := R_getr rfl rfl rfl rfl ht
theorem s44_16 : Runs 44 16 [x0, x1, x2, some (.int i)] st h Q ↔ Runs 44 17 [x0, x1, x2, some (.int i)] (.int i :: st) h Q := R_ildn rfl rfl
theorem s44_17 (ht : tg a = 20) : Runs 44 17 ls (.int i :: .ref a :: st) (n, tg, ln, I, J, O) Q ↔ ((0 ≤ i ∧ i < Int32.ofNat (ln a)) ∧ Runs 44 18 ls (.int (I a i) :: st) (n, tg, ln, I, J, O) Q) := R_iald rfl ht
theorem s44_18 : Runs 44 18 [x0, some (.int i), x2, x3] st h Q ↔ Runs 44 19 [x0, some (.int i), x2, x3] (.int i :: st) h Q := R_ildn rfl rfl
theorem s44_19 : Runs 44 19 ls (.int j :: .int i :: st) h Q ↔ if ¬ i = j then Runs 44 28 ls st h Q else Runs 44 22 ls st h Q := R_icne rfl rfl
theorem s44_22 : Runs 44 22 [x0, x1, some (.int i), x3] st h Q ↔ Runs 44 23 [x0, x1, some (.int i), x3] (.int i :: st) h Q := R_ildn rfl rfl
theorem s44_23 : Runs 44 23 ls st h Q ↔ Runs 44 24 ls (.int 1 :: st) h Q := R_iconst rfl rfl
theorem s44_24 : Runs 44 24 [x0, x1, x2, some (.int i)] st h Q ↔ Runs 44 25 [x0, x1, x2, some (.int i)] (.int i :: st) h Q := R_ildn rfl rfl
theorem s44_25 : Runs 44 25 ls (.int j :: .int i :: st) h Q ↔ Runs 44 26 ls (.int (i <<< (j &&& 31)) :: st) h Q := R_ishl rfl
theorem s44_26 : Runs 44 26 ls (.int j :: .int i :: st) h Q ↔ Runs 44 27 ls (.int (i ||| j) :: st) h Q := R_ior rfl
theorem s44_27 : Runs 44 27 [x0, x1, x2, x3] (.int i :: st) h Q ↔ Runs 44 28 [x0, zdrop x1, some (.int i), x3] st h Q := R_istn rfl rfl rfl
theorem s44_28 : Runs 44 28 [x0, x1, x2, some (.int i)] st h Q ↔ Runs 44 31 [x0, x1, zdrop x2, some (.int (i + 1))] st h Q := R_iinc rfl rfl rfl rfl rfl
theorem s44_31 : Runs 44 31 ls st h Q ↔ Runs 44 4 ls st h Q := R_goto rfl rfl
theorem s44_34 : Runs 44 34 [x0, x1, some (.int i), x3] st h Q ↔ Runs 44 35 [x0, x1, some (.int i), x3] (.int i :: st) h Q := R_ildn rfl rfl
theorem s44_35 : Runs 44 35 ls [.int i] h Q ↔ Q (some (.int i)) h := R_iret rfl rfl
theorem s45_0 : Runs 45 0 [some (.ref a), x1] st h Q ↔ Runs 45 1 [some (.ref a), x1] (.ref a :: st) h Q := R_aldn rfl rfl
theorem s45_0q : Runs 45 0 [some (zrf r), x1] st h Q ↔ Runs 45 1 [some (zrf r), x1] (zrf r :: st) h Q := R_aldnq rfl rfl
theorem s45_1 (ht : tg a = 5) : Runs 45 1 ls (.ref a :: st) (n, tg, ln, I, J, O) Q ↔ Runs 45 4 ls (.int (I a 5) :: st) (n, tg, ln, I, J, O) Q := R_geti rfl rfl rfl rfl ht
theorem s45_4 : Runs 45 4 ls st h Q ↔ Runs 45 6 ls (.int 12 :: st) h Q := R_bipush rfl (by decide)
theorem s45_6 : Runs 45 6 ls (.int j :: .int i :: st) h Q ↔ if j ≤ i then Runs 45 24 ls st h Q else Runs 45 9 ls st h Q := R_icge rfl rfl
theorem s45_9 : Runs 45 9 [some (.ref a), x1] st h Q ↔ Runs 45 10 [some (.ref a), x1] (.ref a :: st) h Q := R_aldn rfl rfl
theorem s45_9q : Runs 45 9 [some (zrf r), x1] st h Q ↔ Runs 45 10 [some (zrf r), x1] (zrf r :: st) h Q := R_aldnq rfl rfl
theorem s45_10 : Runs 45 10 [x0, some (.int i)] st h Q ↔ Runs 45 11 [x0, some (.int i)] (.int i :: st) h Q := R_ildn rfl rfl
theorem s45_11 (ht : tg a = 5) (hs : zsumc st ≤ 8) : Runs 45 11 ls (.int i0 :: .ref a :: st) (n, tg, ln, I, J, O) Q ↔ Runs 41 0 [some (.ref a), some (.int i0)] [] (n, tg, ln, I, J, O) (fun v h2 => Runs 45 14 ls (v.toList ++ st) h2 Q) := R_callv (a := a) (rest := st) rfl rfl rfl rfl rfl rfl rfl ht hs
theorem s45_14 (ht : tg a = 4) (hs : zsumc st ≤ 8) : Runs 45 14 ls (.ref a :: st) (n, tg, ln, I, J, O) Q ↔ Runs 25 0 [some (.ref a)] [] (n, tg, ln, I, J, O) (fun v h2 => Runs 45 17 ls (v.toList ++ st) h2 Q) := R_callv (a := a) (rest := st) rfl rfl rfl rfl rfl rfl rfl ht hs
theorem s45_17 : Runs 45 17 ls (.int i :: st) h Q ↔ if ¬ i = 0 then Runs 45 24 ls st h Q else Runs 45 20 ls st h Q := R_ifne rfl rfl
theorem s45_20 : Runs 45 20 ls st h Q ↔ Runs 45 21 ls (.int 1 :: st) h Q := R_iconst rfl rfl
theorem s45_21 : Runs 45 21 ls st h Q ↔ Runs 45 25 ls st h Q := R_goto rfl rfl
theorem s45_24 : Runs 45 24 ls st h Q ↔ Runs 45 25 ls (.int 0 :: st) h Q := R_iconst rfl rfl
theorem s45_25 (hx : i = 0 ∨ i = 1) : Runs 45 25 ls [.int i] h Q ↔ Q (some (.int i)) h := R_zret rfl rfl hx
theorem s46_0 : Runs 46 0 [some (.ref a), x1, x2, x3, x4] st h Q ↔ Runs 46 1 [some (.ref a), x1, x2, x3, x4] (.ref a :: st) h Q := R_aldn rfl rfl
theorem s46_0q : Runs 46 0 [some (zrf r), x1, x2, x3, x4] st h Q ↔ Runs 46 1 [some (zrf r), x1, x2, x3, x4] (zrf r :: st) h Q := R_aldnq rfl rfl
theorem s46_1 : Runs 46 1 [x0, some (.int i), x2, x3, x4] st h Q ↔ Runs 46 2 [x0, some (.int i), x2, x3, x4] (.int i :: st) h Q := R_ildn rfl rfl
theorem s46_2 (ht : tg a = 5) (hs : zsumc st ≤ 8) : Runs 46 2 ls (.int i0 :: .ref a :: st) (n, tg, ln, I, J, O) Q ↔ Runs 45 0 [some (.ref a), some (.int i0)] [] (n, tg, ln, I, J, O) (fun v h2 => Runs 46 5 ls (v.toList ++ st) h2 Q) := R_callv (a := a) (rest := st) rfl rfl rfl rfl rfl rfl rfl ht hs
theorem s46_5 : Runs 46 5 ls (.int i :: st) h Q ↔ if ¬ i = 0 then Runs 46 10 ls st h Q else Runs 46 8 ls st h Q := R_ifne rfl rfl
theorem s46_8 : Runs 46 8 ls st h Q ↔ Runs 46 9 ls (.int (-1) :: st) h Q := R_iconst rfl rfl
theorem s46_9 : Runs 46 9 ls [.int i] h Q ↔ Q (some (.int i)) h := R_iret rfl rfl
theorem s46_10 : Runs 46 10 [some (.ref a), x1, x2, x3, x4] st h Q ↔ Runs 46 11 [some (.ref a), x1, x2, x3, x4] (.ref a :: st) h Q := R_aldn rfl rfl
theorem s46_10q : Runs 46 10 [some (zrf r), x1, x2, x3, x4] st h Q ↔ Runs 46 11 [some (zrf r), x1, x2, x3, x4] (zrf r :: st) h Q := R_aldnq rfl rfl
theorem s46_11 (ht : tg a = 5) : Runs 46 11 ls (.ref a :: st) (n, tg, ln, I, J, O) Q ↔ Runs 46 14 ls (.int (I a 5) :: st) (n, tg, ln, I, J, O) Q := R_geti rfl rfl rfl rfl ht
theorem s46_14 : Runs 46 14 [x0, x1, x2, x3, x4] (.int i :: st) h Q ↔ Runs 46 16 [x0, x1, x2, zdrop x3, some (.int i)] st h Q := R_ist rfl rfl rfl
theorem s46_16 : Runs 46 16 [some (.ref a), x1, x2, x3, x4] st h Q ↔ Runs 46 17 [some (.ref a), x1, x2, x3, x4] (.ref a :: st) h Q := R_aldn rfl rfl
theorem s46_16q : Runs 46 16 [some (zrf r), x1, x2, x3, x4] st h Q ↔ Runs 46 17 [some (zrf r), x1, x2, x3, x4] (zrf r :: st) h Q := R_aldnq rfl rfl
theorem s46_17 (ht : tg a = 5) : Runs 46 17 ls (.ref a :: st) (n, tg, ln, I, J, O) Q ↔ Runs 46 20 ls (zrf (O a 0) :: st) (n, tg, ln, I, J, O) Q := R_getr rfl rfl rfl rfl ht
theorem s46_20 : Runs 46 20 [x0, x1, x2, x3, some (.int i)] st h Q ↔ Runs 46 22 [x0, x1, x2, x3, some (.int i)] (.int i :: st) h Q := R_ild rfl rfl
theorem s46_22 : Runs 46 22 [x0, x1, some (.int i), x3, x4] st h Q ↔ Runs 46 23 [x0, x1, some (.int i), x3, x4] (.int i :: st) h Q := R_ildn rfl rfl
theorem s46_23 (ht : tg a = 20) : Runs 46 23 ls (.int j :: .int i :: .ref a :: st) (n, tg, ln, I, J, O) Q ↔ ((0 ≤ i ∧ i < Int32.ofNat (ln a)) ∧ Runs 46 24 ls st (n, tg, ln, zu I a i j, J, O) Q) := R_iast rfl ht
theorem s46_24 : Runs 46 24 [some (.ref a), x1, x2, x3, x4] st h Q ↔ Runs 46 25 [some (.ref a), x1, x2, x3, x4] (.ref a :: st) h Q := R_aldn rfl rfl
theorem s46_24q : Runs 46 24 [some (zrf r), x1, x2, x3, x4] st h Q ↔ Runs 46 25 [some (zrf r), x1, x2, x3, x4] (zrf r :: st) h Q := R_aldnq rfl rfl
theorem s46_25 (ht : tg a = 5) : Runs 46 25 ls (.ref a :: st) (n, tg, ln, I, J, O) Q ↔ Runs 46 28 ls (zrf (O a 1) :: st) (n, tg, ln, I, J, O) Q := R_getr rfl rfl rfl rfl ht
theorem s46_28 : Runs 46 28 [x0, x1, x2, x3, some (.int i)] st h Q ↔ Runs 46 30 [x0, x1, x2, x3, some (.int i)] (.int i :: st) h Q := R_ild rfl rfl
theorem s46_30 : Runs 46 30 [x0, x1, x2, some (.int i), x4] st h Q ↔ Runs 46 31 [x0, x1, x2, some (.int i), x4] (.int i :: st) h Q := R_ildn rfl rfl
theorem s46_31 (ht : tg a = 20) : Runs 46 31 ls (.int j :: .int i :: .ref a :: st) (n, tg, ln, I, J, O) Q ↔ ((0 ≤ i ∧ i < Int32.ofNat (ln a)) ∧ Runs 46 32 ls st (n, tg, ln, zu I a i j, J, O) Q) := R_iast rfl ht
theorem s46_32 : Runs 46 32 [some (.ref a), x1, x2, x3, x4] st h Q ↔ Runs 46 33 [some (.ref a), x1, x2, x3, x4] (.ref a :: st) h Q := R_aldn rfl rfl
theorem s46_32q : Runs 46 32 [some (zrf r), x1, x2, x3, x4] st h Q ↔ Runs 46 33 [some (zrf r), x1, x2, x3, x4] (zrf r :: st) h Q := R_aldnq rfl rfl
theorem s46_33 (ht : tg a = 5) : Runs 46 33 ls (.ref a :: st) (n, tg, ln, I, J, O) Q ↔ Runs 46 36 ls (zrf (O a 2) :: st) (n, tg, ln, I, J, O) Q := R_getr rfl rfl rfl rfl ht
theorem s46_36 : Runs 46 36 [x0, x1, x2, x3, some (.int i)] st h Q ↔ Runs 46 38 [x0, x1, x2, x3, some (.int i)] (.int i :: st) h Q := R_ild rfl rfl
theorem s46_38 : Runs 46 38 ls st h Q ↔ Runs 46 39 ls (.int 0 :: st) h Q := R_iconst rfl rfl
theorem s46_39 (ht : tg a = 20) : Runs 46 39 ls (.int j :: .int i :: .ref a :: st) (n, tg, ln, I, J, O) Q ↔ ((0 ≤ i ∧ i < Int32.ofNat (ln a)) ∧ Runs 46 40 ls st (n, tg, ln, zu I a i j, J, O) Q) := R_iast rfl ht
theorem s46_40 : Runs 46 40 [some (.ref a), x1, x2, x3, x4] st h Q ↔ Runs 46 41 [some (.ref a), x1, x2, x3, x4] (.ref a :: st) h Q := R_aldn rfl rfl
theorem s46_40q : Runs 46 40 [some (zrf r), x1, x2, x3, x4] st h Q ↔ Runs 46 41 [some (zrf r), x1, x2, x3, x4] (zrf r :: st) h Q := R_aldnq rfl rfl
theorem s46_41 (ht : tg a = 5) : Runs 46 41 ls (.ref a :: st) (n, tg, ln, I, J, O) Q ↔ Runs 46 44 ls (zrf (O a 3) :: st) (n, tg, ln, I, J, O) Q := R_getr rfl rfl rfl rfl ht
theorem s46_44 : Runs 46 44 [x0, x1, x2, x3, some (.int i)] st h Q ↔ Runs 46 46 [x0, x1, x2, x3, some (.int i)] (.int i :: st) h Q := R_ild rfl rfl
theorem s46_46 : Runs 46 46 ls st h Q ↔ Runs 46 47 ls (.int 0 :: st) h Q := R_iconst rfl rfl
theorem s46_47 (ht : tg a = 20) : Runs 46 47 ls (.int j :: .int i :: .ref a :: st) (n, tg, ln, I, J, O) Q ↔ ((0 ≤ i ∧ i < Int32.ofNat (ln a)) ∧ Runs 46 48 ls st (n, tg, ln, zu I a i j, J, O) Q) := R_iast rfl ht
theorem s46_48 : Runs 46 48 [some (.ref a), x1, x2, x3, x4] st h Q ↔ Runs 46 49 [some (.ref a), x1, x2, x3, x4] (.ref a :: st) h Q := R_aldn rfl rfl
theorem s46_48q : Runs 46 48 [some (zrf r), x1, x2, x3, x4] st h Q ↔ Runs 46 49 [some (zrf r), x1, x2, x3, x4] (zrf r :: st) h Q := R_aldnq rfl rfl
theorem s46_49 (ht : tg a = 5) : Runs 46 49 ls (.ref a :: st) (n, tg, ln, I, J, O) Q ↔ Runs 46 52 ls (zrf (O a 4) :: st) (n, tg, ln, I, J, O) Q := R_getr rfl rfl rfl rfl ht
theorem s46_52 : Runs 46 52 [x0, x1, x2, x3, some (.int i)] st h Q ↔ Runs 46 54 [x0, x1, x2, x3, some (.int i)] (.int i :: st) h Q := R_ild rfl rfl
theorem s46_54 : Runs 46 54 [x0, some (.int i), x2, x3, x4] st h Q ↔ Runs 46 55 [x0, some (.int i), x2, x3, x4] (.int i :: st) h Q := R_ildn rfl rfl
theorem s46_55 (ht : tg a = 20) : Runs 46 55 ls (.int j :: .int i :: .ref a :: st) (n, tg, ln, I, J, O) Q ↔ ((0 ≤ i ∧ i < Int32.ofNat (ln a)) ∧ Runs 46 56 ls st (n, tg, ln, zu I a i j, J, O) Q) := R_iast rfl ht
theorem s46_56 : Runs 46 56 [some (.ref a), x1, x2, x3, x4] st h Q ↔ Runs 46 57 [some (.ref a), x1, x2, x3, x4] (.ref a :: st) h Q := R_aldn rfl rfl
theorem s46_56q : Runs 46 56 [some (zrf r), x1, x2, x3, x4] st h Q ↔ Runs 46 57 [some (zrf r), x1, x2, x3, x4] (zrf r :: st) h Q := R_aldnq rfl rfl
theorem s46_57 : Runs 46 57 [x0, some (.int i), x2, x3, x4] st h Q ↔ Runs 46 58 [x0, some (.int i), x2, x3, x4] (.int i :: st) h Q := R_ildn rfl rfl
theorem s46_58 (ht : tg a = 5) (hs : zsumc st ≤ 8) : Runs 46 58 ls (.int i0 :: .ref a :: st) (n, tg, ln, I, J, O) Q ↔ Runs 41 0 [some (.ref a), some (.int i0)] [] (n, tg, ln, I, J, O) (fun v h2 => Runs 46 61 ls (v.toList ++ st) h2 Q) := R_callv (a := a) (rest := st) rfl rfl rfl rfl rfl rfl rfl ht hs
theorem s46_61 : Runs 46 61 [x0, x1, x2, x3, some (.int i)] st h Q ↔ Runs 46 63 [x0, x1, x2, x3, some (.int i)] (.int i :: st) h Q := R_ild rfl rfl
theorem s46_63 (ht : tg a = 4) (hs : zsumc st ≤ 8) : Runs 46 63 ls (.int i0 :: .ref a :: st) (n, tg, ln, I, J, O) Q ↔ Runs 28 0 [some (.ref a), some (.int i0)] [] (n, tg, ln, I, J, O) (fun v h2 => Runs 46 66 ls (v.toList ++ st) h2 Q) := R_callv (a := a) (rest := st) rfl rfl rfl rfl rfl rfl rfl ht hs
theorem s46_66 : Runs 46 66 [some (.ref a), x1, x2, x3, x4] st h Q ↔ Runs 46 67 [some (.ref a), x1, x2, x3, x4] (.ref a :: st) h Q := R_aldn rfl rfl
theorem s46_66q : Runs 46 66 [some (zrf r), x1, x2, x3, x4] st h Q ↔ Runs 46 67 [some (zrf r), x1, x2, x3, x4] (zrf r :: st) h Q := R_aldnq rfl rfl
theorem s46_67 : Runs 46 67 ls (.int i :: st) h Q ↔ Runs 46 68 ls (.int i :: .int i :: st) h Q := R_dupi rfl
theorem s46_67q : Runs 46 67 ls (.ref a :: st) h Q ↔ Runs 46 68 ls (.ref a :: .ref a :: st) h Q := R_dupr rfl
theorem s46_68 (ht : tg a = 5) : Runs 46 68 ls (.ref a :: st) (n, tg, ln, I, J, O) Q ↔ Runs 46 71 ls (.int (I a 5) :: st) (n, tg, ln, I, J, O) Q := R_geti rfl rfl rfl rfl ht
theorem s46_71 : Runs 46 71 ls st h Q ↔ Runs 46 72 ls (.int 1 :: st) h Q := R_iconst rfl rfl
theorem s46_72 : Runs 46 72 ls (.int j :: .int i :: st) h Q ↔ Runs 46 73 ls (.int (i + j) :: st) h Q := R_iadd rfl
theorem s46_73 (ht : tg a = 5) : Runs 46 73 ls (.int i :: .ref a :: st) (n, tg, ln, I, J, O) Q ↔ Runs 46 76 ls st (n, tg, ln, zu I a 5 i, J, O) Q := R_puti rfl rfl rfl rfl rfl rfl ht
theorem s46_76 : Runs 46 76 [x0, x1, x2, x3, some (.int i)] st h Q ↔ Runs 46 78 [x0, x1, x2, x3, some (.int i)] (.int i :: st) h Q := R_ild rfl rfl
theorem s46_78 : Runs 46 78 ls [.int i] h Q ↔ Q (some (.int i)) h := R_iret rfl rfl
theorem s47_0 : Runs 47 0 [some (.ref a), x1, x2] st h Q ↔ Runs 47 1 [some (.ref a), x1, x2] (.ref a :: st) h Q := R_aldn rfl rfl
theorem s47_0q : Runs 47 0 [some (zrf r), x1, x2] st h Q ↔ Runs 47 1 [some (zrf r), x1, x2] (zrf r :: st) h Q := R_aldnq rfl rfl
theorem s47_1 : Runs 47 1 [x0, some (.int i), x2] st h Q ↔ Runs 47 2 [x0, some (.int i), x2] (.int i :: st) h Q := R_ildn rfl rfl
theorem s47_2 (ht : tg a = 5) (hs : zsumc st ≤ 8) : Runs 47 2 ls (.int i0 :: .ref a :: st) (n, tg, ln, I, J, O) Q ↔ Runs 43 0 [some (.ref a), some (.int i0)] [] (n, tg, ln, I, J, O) (fun v h2 => Runs 47 5 ls (v.toList ++ st) h2 Q) := R_callv (a := a) (rest := st) rfl rfl rfl rfl rfl rfl rfl ht hs
theorem s47_5 : Runs 47 5 [x0, x1, x2] (.int i :: st) h Q ↔ Runs 47 6 [x0, zdrop x1, some (.int i)] st h Q := R_istn rfl rfl rfl
theorem s47_6 : Runs 47 6 [x0, x1, some (.int i)] st h Q ↔ Runs 47 7 [x0, x1, some (.int i)] (.int i :: st) h Q := R_ildn rfl rfl
theorem s47_7 : Runs 47 7 ls st h Q ↔ Runs 47 8 ls (.int (-1) :: st) h Q := R_iconst rfl rfl
theorem s47_8 : Runs 47 8 ls (.int j :: .int i :: st) h Q ↔ if ¬ i = j then Runs 47 13 ls st h Q else Runs 47 11 ls st h Q := R_icne rfl rfl
theorem s47_11 : Runs 47 11 ls st h Q ↔ Runs 47 12 ls (.int (-1) :: st) h Q := R_iconst rfl rfl
theorem s47_12 : Runs 47 12 ls [.int i] h Q ↔ Q (some (.int i)) h := R_iret rfl rfl
theorem s47_13 : Runs 47 13 [some (.ref a), x1, x2] st h Q ↔ Runs 47 14 [some (.ref a), x1, x2] (.ref a :: st) h Q := R_aldn rfl rfl
theorem s47_13q : Runs 47 13 [some (zrf r), x1, x2] st h Q ↔ Runs 47 14 [some (zrf r), x1, x2] (zrf r :: st) h Q := R_aldnq rfl rfl
theorem s47_14 : Runs 47 14 [some (.ref a), x1, x2] st h Q ↔ Runs 47 15 [some (.ref a), x1, x2] (.ref a :: st) h Q := R_aldn rfl rfl
theorem s47_14q : Runs 47 14 [some (zrf r), x1, x2] st h Q ↔ Runs 47 15 [some (zrf r), x1, x2] (zrf r :: st) h Q := R_aldnq rfl rfl
theorem s47_15 (ht : tg a = 5) : Runs 47 15 ls (.ref a :: st) (n, tg, ln, I, J, O) Q ↔ Runs 47 18 ls (zrf (O a 4) :: st) (n, tg, ln, I, J, O) Q := R_getr rfl rfl rfl rfl ht
theorem s47_18 : Runs 47 18 [x0, some (.int i), x2] st h Q ↔ Runs 47 19 [x0, some (.int i), x2] (.int i :: st) h Q := R_ildn rfl rfl
theorem s47_19 (ht : tg a = 20) : Runs 47 19 ls (.int i :: .ref a :: st) (n, tg, ln, I, J, O) Q ↔ ((0 ≤ i ∧ i < Int32.ofNat (ln a)) ∧ Runs 47 20 ls (.int (I a i) :: st) (n, tg, ln, I, J, O) Q) := R_iald rfl ht
theorem s47_20 (ht : tg a = 5) (hs : zsumc st ≤ 8) : Runs 47 20 ls (.int i0 :: .ref a :: st) (n, tg, ln, I, J, O) Q ↔ Runs 41 0 [some (.ref a), some (.int i0)] [] (n, tg, ln, I, J, O) (fun v h2 => Runs 47 23 ls (v.toList ++ st) h2 Q) := R_callv (a := a) (rest := st) rfl rfl rfl rfl rfl rfl rfl ht hs
theorem s47_23 : Runs 47 23 [x0, x1, some (.int i)] st h Q ↔ Runs 47 24 [x0, x1, some (.int i)] (.int i :: st) h Q := R_ildn rfl rfl
theorem s47_24 : Runs 47 24 [x0, some (.int i), x2] st h Q ↔ Runs 47 25 [x0, some (.int i), x2] (.int i :: st) h Q := R_ildn rfl rfl
theorem s47_25 (hs : zsumc st ≤ 8) : Runs 47 25 ls (.int i0 :: st) h Q ↔ Runs 22 0 [some (.int i0)] [] h (fun v h2 => Runs 47 28 ls (v.toList ++ st) h2 Q) := R_calls (rest := st) rfl rfl rfl (by simp) rfl rfl rfl rfl hs
theorem s47_28 (ht : tg a = 4) (hs : zsumc st ≤ 8) : Runs 47 28 ls (.int i1 :: .int i0 :: .ref a :: st) (n, tg, ln, I, J, O) Q ↔ Runs 29 0 [some (.ref a), some (.int i0), some (.int i1)] [] (n, tg, ln, I, J, O) (fun v h2 => Runs 47 31 ls (v.toList ++ st) h2 Q) := R_callv (a := a) (rest := st) rfl rfl rfl rfl rfl rfl rfl ht hs
theorem s47_31 : Runs 47 31 [some (.ref a), x1, x2] st h Q ↔ Runs 47 32 [some (.ref a), x1, x2] (.ref a :: st) h Q := R_aldn rfl rfl
theorem s47_31q : Runs 47 31 [some (zrf r), x1, x2] st h Q ↔ Runs 47 32 [some (zrf r), x1, x2] (zrf r :: st) h Q := R_aldnq rfl rfl
theorem s47_32 (ht : tg a = 5) : Runs 47 32 ls (.ref a :: st) (n, tg, ln, I, J, O) Q ↔ Runs 47 35 ls (zrf (O a 3) :: st) (n, tg, ln, I, J, O) Q := R_getr rfl rfl rfl rfl ht
theorem s47_35 : Runs 47 35 [x0, some (.int i), x2] st h Q ↔ Runs 47 36 [x0, some (.int i), x2] (.int i :: st) h Q := R_ildn rfl rfl
theorem s47_36 : Runs 47 36 ls st h Q ↔ Runs 47 37 ls (.int 2 :: st) h Q := R_iconst rfl rfl
theorem s47_37 (ht : tg a = 20) : Runs 47 37 ls (.int j :: .int i :: .ref a :: st) (n, tg, ln, I, J, O) Q ↔ ((0 ≤ i ∧ i < Int32.ofNat (ln a)) ∧ Runs 47 38 ls st (n, tg, ln, zu I a i j, J, O) Q) := R_iast rfl ht
theorem s47_38 : Runs 47 38 [x0, x1, some (.int i)] st h Q ↔ Runs 47 39 [x0, x1, some (.int i)] (.int i :: st) h Q := R_ildn rfl rfl
theorem s47_39 : Runs 47 39 ls [.int i] h Q ↔ Q (some (.int i)) h := R_iret rfl rfl
theorem s48_0 : Runs 48 0 [some (.ref a), x1] st h Q ↔ Runs 48 1 [some (.ref a), x1] (.ref a :: st) h Q := R_aldn rfl rfl
theorem s48_0q : Runs 48 0 [some (zrf r), x1] st h Q ↔ Runs 48 1 [some (zrf r), x1] (zrf r :: st) h Q := R_aldnq rfl rfl
theorem s48_1 : Runs 48 1 [x0, some (.int i)] st h Q ↔ Runs 48 2 [x0, some (.int i)] (.int i :: st) h Q := R_ildn rfl rfl
theorem s48_2 (ht : tg a = 5) (hs : zsumc st ≤ 8) : Runs 48 2 ls (.int i0 :: .ref a :: st) (n, tg, ln, I, J, O) Q ↔ Runs 39 0 [some (.ref a), some (.int i0)] [] (n, tg, ln, I, J, O) (fun v h2 => Runs 48 5 ls (v.toList ++ st) h2 Q) := R_callv (a := a) (rest := st) rfl rfl rfl rfl rfl rfl rfl ht hs
theorem s48_5 : Runs 48 5 ls (.int i :: st) h Q ↔ if i = 0 then Runs 48 37 ls st h Q else Runs 48 8 ls st h Q := R_ifeq rfl rfl
theorem s48_8 : Runs 48 8 [some (.ref a), x1] st h Q ↔ Runs 48 9 [some (.ref a), x1] (.ref a :: st) h Q := R_aldn rfl rfl
theorem s48_8q : Runs 48 8 [some (zrf r), x1] st h Q ↔ Runs 48 9 [some (zrf r), x1] (zrf r :: st) h Q := R_aldnq rfl rfl
theorem s48_9 : Runs 48 9 [x0, some (.int i)] st h Q ↔ Runs 48 10 [x0, some (.int i)] (.int i :: st) h Q := R_ildn rfl rfl
theorem s48_10 (ht : tg a = 5) (hs : zsumc st ≤ 8) : Runs 48 10 ls (.int i0 :: .ref a :: st) (n, tg, ln, I, J, O) Q ↔ Runs 50 0 [some (.ref a), some (.int i0)] [] (n, tg, ln, I, J, O) (fun v h2 => Runs 48 13 ls (v.toList ++ st) h2 Q) := R_callv (a := a) (rest := st) rfl rfl rfl rfl rfl rfl rfl ht hs
theorem s48_13 : Runs 48 13 ls st h Q ↔ Runs 48 14 ls (.int (-1) :: st) h Q := R_iconst rfl rfl
theorem s48_14 : Runs 48 14 ls (.int j :: .int i :: st) h Q ↔ if ¬ i = j then Runs 48 33 ls st h Q else Runs 48 17 ls st h Q := R_icne rfl rfl
theorem s48_17 : Runs 48 17 [some (.ref a), x1] st h Q ↔ Runs 48 18 [some (.ref a), x1] (.ref a :: st) h Q := R_aldn rfl rfl
theorem s48_17q : Runs 48 17 [some (zrf r), x1] st h Q ↔ Runs 48 18 [some (zrf r), x1] (zrf r :: st) h Q := R_aldnq rfl rfl
theorem s48_18 : Runs 48 18 [some (.ref a), x1] st h Q ↔ Runs 48 19 [some (.ref a), x1] (.ref a :: st) h Q := R_aldn rfl rfl
theorem s48_18q : Runs 48 18 [some (zrf r), x1] st h Q ↔ Runs 48 19 [some (zrf r), x1] (zrf r :: st) h Q := R_aldnq rfl rfl
theorem s48_19 (ht : tg a = 5) : Runs 48 19 ls (.ref a :: st) (n, tg, ln, I, J, O) Q ↔ Runs 48 22 ls (zrf (O a 4) :: st) (n, tg, ln, I, J, O) Q := R_getr rfl rfl rfl rfl ht
theorem s48_22 : Runs 48 22 [x0, some (.int i)] st h Q ↔ Runs 48 23 [x0, some (.int i)] (.int i :: st) h Q := R_ildn rfl rfl
theorem s48_23 (ht : tg a = 20) : Runs 48 23 ls (.int i :: .ref a :: st) (n, tg, ln, I, J, O) Q ↔ ((0 ≤ i ∧ i < Int32.ofNat (ln a)) ∧ Runs 48 24 ls (.int (I a i) :: st) (n, tg, ln, I, J, O) Q) := R_iald rfl ht
theorem s48_24 (ht : tg a = 5) (hs : zsumc st ≤ 8) : Runs 48 24 ls (.int i0 :: .ref a :: st) (n, tg, ln, I, J, O) Q ↔ Runs 41 0 [some (.ref a), some (.int i0)] [] (n, tg, ln, I, J, O) (fun v h2 => Runs 48 27 ls (v.toList ++ st) h2 Q) := R_callv (a := a) (rest := st) rfl rfl rfl rfl rfl rfl rfl ht hs
theorem s48_27 (ht : tg a = 4) (hs : zsumc st ≤ 8) : Runs 48 27 ls (.ref a :: st) (n, tg, ln, I, J, O) Q ↔ Runs 25 0 [some (.ref a)] [] (n, tg, ln, I, J, O) (fun v h2 => Runs 48 30 ls (v.toList ++ st) h2 Q) := R_callv (a := a) (rest := st) rfl rfl rfl rfl rfl rfl rfl ht hs
theorem s48_30 : Runs 48 30 ls (.int i :: st) h Q ↔ if ¬ i = 0 then Runs 48 37 ls st h Q else Runs 48 33 ls st h Q := R_ifne rfl rfl
theorem s48_33 : Runs 48 33 ls st h Q ↔ Runs 48 34 ls (.int 1 :: st) h Q := R_iconst rfl rfl
theorem s48_34 : Runs 48 34 ls st h Q ↔ Runs 48 38 ls st h Q := R_goto rfl rfl
theorem s48_37 : Runs 48 37 ls st h Q ↔ Runs 48 38 ls (.int 0 :: st) h Q := R_iconst rfl rfl
theorem s48_38 (hx : i = 0 ∨ i = 1) : Runs 48 38 ls [.int i] h Q ↔ Q (some (.int i)) h := R_zret rfl rfl hx
theorem s49_0 : Runs 49 0 [some (.ref a), x1, x2] st h Q ↔ Runs 49 1 [some (.ref a), x1, x2] (.ref a :: st) h Q := R_aldn rfl rfl
theorem s49_0q : Runs 49 0 [some (zrf r), x1, x2] st h Q ↔ Runs 49 1 [some (zrf r), x1, x2] (zrf r :: st) h Q := R_aldnq rfl rfl
theorem s49_1 : Runs 49 1 [x0, some (.int i), x2] st h Q ↔ Runs 49 2 [x0, some (.int i), x2] (.int i :: st) h Q := R_ildn rfl rfl
theorem s49_2 (ht : tg a = 5) (hs : zsumc st ≤ 8) : Runs 49 2 ls (.int i0 :: .ref a :: st) (n, tg, ln, I, J, O) Q ↔ Runs 48 0 [some (.ref a), some (.int i0)] [] (n, tg, ln, I, J, O) (fun v h2 => Runs 49 5 ls (v.toList ++ st) h2 Q) := R_callv (a := a) (rest := st) rfl rfl rfl rfl rfl rfl rfl ht hs
theorem s49_5 : Runs 49 5 ls (.int i :: st) h Q ↔ if ¬ i = 0 then Runs 49 10 ls st h Q else Runs 49 8 ls st h Q := R_ifne rfl rfl
theorem s49_8 : Runs 49 8 ls st h Q ↔ Runs 49 9 ls (.int (-1) :: st) h Q := R_iconst rfl rfl
theorem s49_9 : Runs 49 9 ls [.int i] h Q ↔ Q (some (.int i)) h := R_iret rfl rfl
theorem s49_10 : Runs 49 10 [some (.ref a), x1, x2] st h Q ↔ Runs 49 11 [some (.ref a), x1, x2] (.ref a :: st) h Q := R_aldn rfl rfl
theorem s49_10q : Runs 49 10 [some (zrf r), x1, x2] st h Q ↔ Runs 49 11 [some (zrf r), x1, x2] (zrf r :: st) h Q := R_aldnq rfl rfl
theorem s49_11 : Runs 49 11 [x0, some (.int i), x2] st h Q ↔ Runs 49 12 [x0, some (.int i), x2] (.int i :: st) h Q := R_ildn rfl rfl
theorem s49_12 (ht : tg a = 5) (hs : zsumc st ≤ 8) : Runs 49 12 ls (.int i0 :: .ref a :: st) (n, tg, ln, I, J, O) Q ↔ Runs 50 0 [some (.ref a), some (.int i0)] [] (n, tg, ln, I, J, O) (fun v h2 => Runs 49 15 ls (v.toList ++ st) h2 Q) := R_callv (a := a) (rest := st) rfl rfl rfl rfl rfl rfl rfl ht hs
theorem s49_15 : Runs 49 15 [x0, x1, x2] (.int i :: st) h Q ↔ Runs 49 16 [x0, zdrop x1, some (.int i)] st h Q := R_istn rfl rfl rfl
theorem s49_16 : Runs 49 16 [x0, x1, some (.int i)] st h Q ↔ Runs 49 17 [x0, x1, some (.int i)] (.int i :: st) h Q := R_ildn rfl rfl
theorem s49_17 : Runs 49 17 ls st h Q ↔ Runs 49 18 ls (.int (-1) :: st) h Q := R_iconst rfl rfl
theorem s49_18 : Runs 49 18 ls (.int j :: .int i :: st) h Q ↔ if i = j then Runs 49 39 ls st h Q else Runs 49 21 ls st h Q := R_iceq rfl rfl
theorem s49_21 : Runs 49 21 [some (.ref a), x1, x2] st h Q ↔ Runs 49 22 [some (.ref a), x1, x2] (.ref a :: st) h Q := R_aldn rfl rfl
theorem s49_21q : Runs 49 21 [some (zrf r), x1, x2] st h Q ↔ Runs 49 22 [some (zrf r), x1, x2] (zrf r :: st) h Q := R_aldnq rfl rfl
theorem s49_22 : Runs 49 22 [some (.ref a), x1, x2] st h Q ↔ Runs 49 23 [some (.ref a), x1, x2] (.ref a :: st) h Q := R_aldn rfl rfl
theorem s49_22q : Runs 49 22 [some (zrf r), x1, x2] st h Q ↔ Runs 49 23 [some (zrf r), x1, x2] (zrf r :: st) h Q := R_aldnq rfl rfl
theorem s49_23 (ht : tg a = 5) : Runs 49 23 ls (.ref a :: st) (n, tg, ln, I, J, O) Q ↔ Runs 49 26 ls (zrf (O a 4) :: st) (n, tg, ln, I, J, O) Q := R_getr rfl rfl rfl rfl ht
theorem s49_26 : Runs 49 26 [x0, some (.int i), x2] st h Q ↔ Runs 49 27 [x0, some (.int i), x2] (.int i :: st) h Q := R_ildn rfl rfl
theorem s49_27 (ht : tg a = 20) : Runs 49 27 ls (.int i :: .ref a :: st) (n, tg, ln, I, J, O) Q ↔ ((0 ≤ i ∧ i < Int32.ofNat (ln a)) ∧ Runs 49 28 ls (.int (I a i) :: st) (n, tg, ln, I, J, O) Q) := R_iald rfl ht
theorem s49_28 (ht : tg a = 5) (hs : zsumc st ≤ 8) : Runs 49 28 ls (.int i0 :: .ref a :: st) (n, tg, ln, I, J, O) Q ↔ Runs 41 0 [some (.ref a), some (.int i0)] [] (n, tg, ln, I, J, O) (fun v h2 => Runs 49 31 ls (v.toList ++ st) h2 Q) := R_callv (a := a) (rest := st) rfl rfl rfl rfl rfl rfl rfl ht hs
theorem s49_31 : Runs 49 31 [x0, x1, some (.int i)] st h Q ↔ Runs 49 32 [x0, x1, some (.int i)] (.int i :: st) h Q := R_ildn rfl rfl
theorem s49_32 : Runs 49 32 [x0, some (.int i), x2] st h Q ↔ Runs 49 33 [x0, some (.int i), x2] (.int i :: st) h Q := R_ildn rfl rfl
theorem s49_33 (ht : tg a = 4) (hs : zsumc st ≤ 8) : Runs 49 33 ls (.int i1 :: .int i0 :: .ref a :: st) (n, tg, ln, I, J, O) Q ↔ Runs 29 0 [some (.ref a), some (.int i0), some (.int i1)] [] (n, tg, ln, I, J, O) (fun v h2 => Runs 49 36 ls (v.toList ++ st) h2 Q) := R_callv (a := a) (rest := st) rfl rfl rfl rfl rfl rfl rfl ht hs
theorem s49_36 : Runs 49 36 ls st h Q ↔ Runs 49 60 ls st h Q := R_goto rfl rfl
theorem s49_39 : Runs 49 39 [some (.ref a), x1, x2] st h Q ↔ Runs 49 40 [some (.ref a), x1, x2] (.ref a :: st) h Q := R_aldn rfl rfl
theorem s49_39q : Runs 49 39 [some (zrf r), x1, x2] st h Q ↔ Runs 49 40 [some (zrf r), x1, x2] (zrf r :: st) h Q := R_aldnq rfl rfl
theorem s49_40 : Runs 49 40 [some (.ref a), x1, x2] st h Q ↔ Runs 49 41 [some (.ref a), x1, x2] (.ref a :: st) h Q := R_aldn rfl rfl
theorem s49_40q : Runs 49 40 [some (zrf r), x1, x2] st h Q ↔ Runs 49 41 [some (zrf r), x1, x2] (zrf r :: st) h Q := R_aldnq rfl rfl
theorem s49_41 (ht : tg a = 5) : Runs 49 41 ls (.ref a :: st) (n, tg, ln, I, J, O) Q ↔ Runs 49 44 ls (zrf (O a 4) :: st) (n, tg, ln, I, J, O) Q := R_getr rfl rfl rfl rfl ht
theorem s49_44 : Runs 49 44 [x0, some (.int i), x2] st h Q ↔ Runs 49 45 [x0, some (.int i), x2] (.int i :: st) h Q := R_ildn rfl rfl
theorem s49_45 (ht : tg a = 20) : Runs 49 45 ls (.int i :: .ref a :: st) (n, tg, ln, I, J, O) Q ↔ ((0 ≤ i ∧ i < Int32.ofNat (ln a)) ∧ Runs 49 46 ls (.int (I a i) :: st) (n, tg, ln, I, J, O) Q) := R_iald rfl ht
theorem s49_46 (ht : tg a = 5) (hs : zsumc st ≤ 8) : Runs 49 46 ls (.int i0 :: .ref a :: st) (n, tg, ln, I, J, O) Q ↔ Runs 41 0 [some (.ref a), some (.int i0)] [] (n, tg, ln, I, J, O) (fun v h2 => Runs 49 49 ls (v.toList ++ st) h2 Q) := R_callv (a := a) (rest := st) rfl rfl rfl rfl rfl rfl rfl ht hs
theorem s49_49 : Runs 49 49 [x0, some (.int i), x2] st h Q ↔ Runs 49 50 [x0, some (.int i), x2] (.int i :: st) h Q := R_ildn rfl rfl
theorem s49_50 (ht : tg a = 4) (hs : zsumc st ≤ 8) : Runs 49 50 ls (.int i0 :: .ref a :: st) (n, tg, ln, I, J, O) Q ↔ Runs 28 0 [some (.ref a), some (.int i0)] [] (n, tg, ln, I, J, O) (fun v h2 => Runs 49 53 ls (v.toList ++ st) h2 Q) := R_callv (a := a) (rest := st) rfl rfl rfl rfl rfl rfl rfl ht hs
theorem s49_53 : Runs 49 53 [some (.ref a), x1, x2] st h Q ↔ Runs 49 54 [some (.ref a), x1, x2] (.ref a :: st) h Q := R_aldn rfl rfl
theorem s49_53q : Runs 49 53 [some (zrf r), x1, x2] st h Q ↔ Runs 49 54 [some (zrf r), x1, x2] (zrf r :: st) h Q := R_aldnq rfl rfl
theorem s49_54 (ht : tg a = 5) : Runs 49 54 ls (.ref a :: st) (n, tg, ln, I, J, O) Q ↔ Runs 49 57 ls (zrf (O a 2) :: st) (n, tg, ln, I, J, O) Q := R_getr rfl rfl rfl rfl ht
theorem s49_57 : Runs 49 57 [x0, some (.int i), x2] st h Q ↔ Runs 49 58 [x0, some (.int i), x2] (.int i :: st) h Q := R_ildn rfl rfl
theorem s49_58 : Runs 49 58 ls st h Q ↔ Runs 49 59 ls (.int 0 :: st) h Q := R_iconst rfl rfl
theorem s49_59 (ht : tg a = 20) : Runs 49 59 ls (.int j :: .int i :: .ref a :: st) (n, tg, ln, I, J, O) Q ↔ ((0 ≤ i ∧ i < Int32.ofNat (ln a)) ∧ Runs 49 60 ls st (n, tg, ln, zu I a i j, J, O) Q) := R_iast rfl ht
theorem s49_60 : Runs 49 60 [some (.ref a), x1, x2] st h Q ↔ Runs 49 61 [some (.ref a), x1, x2] (.ref a :: st) h Q := R_aldn rfl rfl
theorem s49_60q : Runs 49 60 [some (zrf r), x1, x2] st h Q ↔ Runs 49 61 [some (zrf r), x1, x2] (zrf r :: st) h Q := R_aldnq rfl rfl
theorem s49_61 (ht : tg a = 5) : Runs 49 61 ls (.ref a :: st) (n, tg, ln, I, J, O) Q ↔ Runs 49 64 ls (zrf (O a 3) :: st) (n, tg, ln, I, J, O) Q := R_getr rfl rfl rfl rfl ht
theorem s49_64 : Runs 49 64 [x0, some (.int i), x2] st h Q ↔ Runs 49 65 [x0, some (.int i), x2] (.int i :: st) h Q := R_ildn rfl rfl
theorem s49_65 : Runs 49 65 ls st h Q ↔ Runs 49 66 ls (.int 0 :: st) h Q := R_iconst rfl rfl
theorem s49_66 (ht : tg a = 20) : Runs 49 66 ls (.int j :: .int i :: .ref a :: st) (n, tg, ln, I, J, O) Q ↔ ((0 ≤ i ∧ i < Int32.ofNat (ln a)) ∧ Runs 49 67 ls st (n, tg, ln, zu I a i j, J, O) Q) := R_iast rfl ht
theorem s49_67 : Runs 49 67 [some (.ref a), x1, x2] st h Q ↔ Runs 49 68 [some (.ref a), x1, x2] (.ref a :: st) h Q := R_aldn rfl rfl
theorem s49_67q : Runs 49 67 [some (zrf r), x1, x2] st h Q ↔ Runs 49 68 [some (zrf r), x1, x2] (zrf r :: st) h Q := R_aldnq rfl rfl
theorem s49_68 : Runs 49 68 [x0, some (.int i), x2] st h Q ↔ Runs 49 69 [x0, some (.int i), x2] (.int i :: st) h Q := R_ildn rfl rfl
theorem s49_69 (ht : tg a = 5) (hs : zsumc st ≤ 8) : Runs 49 69 ls (.int i0 :: .ref a :: st) (n, tg, ln, I, J, O) Q ↔ Runs 43 0 [some (.ref a), some (.int i0)] [] (n, tg, ln, I, J, O) (fun v h2 => Runs 49 72 ls (v.toList ++ st) h2 Q) := R_callv (a := a) (rest := st) rfl rfl rfl rfl rfl rfl rfl ht hs
theorem s49_72 : Runs 49 72 ls [.int i] h Q ↔ Q (some (.int i)) h := R_iret rfl rfl
theorem s50_0 : Runs 50 0 [some (.ref a), x1] st h Q ↔ Runs 50 1 [some (.ref a), x1] (.ref a :: st) h Q := R_aldn rfl rfl
theorem s50_0q : Runs 50 0 [some (zrf r), x1] st h Q ↔ Runs 50 1 [some (zrf r), x1] (zrf r :: st) h Q := R_aldnq rfl rfl
theorem s50_1 : Runs 50 1 [some (.ref a), x1] st h Q ↔ Runs 50 2 [some (.ref a), x1] (.ref a :: st) h Q := R_aldn rfl rfl
theorem s50_1q : Runs 50 1 [some (zrf r), x1] st h Q ↔ Runs 50 2 [some (zrf r), x1] (zrf r :: st) h Q := R_aldnq rfl rfl
theorem s50_2 (ht : tg a = 5) : Runs 50 2 ls (.ref a :: st) (n, tg, ln, I, J, O) Q ↔ Runs 50 5 ls (zrf (O a 4) :: st) (n, tg, ln, I, J, O) Q := R_getr rfl rfl rfl rfl ht
theorem s50_5 : Runs 50 5 [x0, some (.int i)] st h Q ↔ Runs 50 6 [x0, some (.int i)] (.int i :: st) h Q := R_ildn rfl rfl
theorem s50_6 (ht : tg a = 20) : Runs 50 6 ls (.int i :: .ref a :: st) (n, tg, ln, I, J, O) Q ↔ ((0 ≤ i ∧ i < Int32.ofNat (ln a)) ∧ Runs 50 7 ls (.int (I a i) :: st) (n, tg, ln, I, J, O) Q) := R_iald rfl ht
theorem s50_7 (ht : tg a = 5) (hs : zsumc st ≤ 8) : Runs 50 7 ls (.int i0 :: .ref a :: st) (n, tg, ln, I, J, O) Q ↔ Runs 41 0 [some (.ref a), some (.int i0)] [] (n, tg, ln, I, J, O) (fun v h2 => Runs 50 10 ls (v.toList ++ st) h2 Q) := R_callv (a := a) (rest := st) rfl rfl rfl rfl rfl rfl rfl ht hs
theorem s50_10 : Runs 50 10 [x0, some (.int i)] st h Q ↔ Runs 50 11 [x0, some (.int i)] (.int i :: st) h Q := R_ildn rfl rfl
theorem s50_11 (hs : zsumc st ≤ 8) : Runs 50 11 ls (.int i0 :: st) h Q ↔ Runs 22 0 [some (.int i0)] [] h (fun v h2 => Runs 50 14 ls (v.toList ++ st) h2 Q) := R_calls (rest := st) rfl rfl rfl (by simp) rfl rfl rfl rfl hs
theorem s50_14 (ht : tg a = 4) (hs : zsumc st ≤ 8) : Runs 50 14 ls (.int i0 :: .ref a :: st) (n, tg, ln, I, J, O) Q ↔ Runs 31 0 [some (.ref a), some (.int i0), none] [] (n, tg, ln, I, J, O) (fun v h2 => Runs 50 17 ls (v.toList ++ st) h2 Q) := R_callv (a := a) (rest := st) rfl rfl rfl rfl rfl rfl rfl ht hs
theorem s50_17 : Runs 50 17 ls [.int i] h Q ↔ Q (some (.int i)) h := R_iret rfl rfl
theorem s51_0 : Runs 51 0 [some (.ref a), x1, x2] st h Q ↔ Runs 51 1 [some (.ref a), x1, x2] (.ref a :: st) h Q := R_aldn rfl rfl
theorem s51_0q : Runs 51 0 [some (zrf r), x1, x2] st h Q ↔ Runs 51 1 [some (zrf r), x1, x2] (zrf r :: st) h Q := R_aldnq rfl rfl
theorem s51_1 : Runs 51 1 [some (.ref a), x1, x2] st h Q ↔ Runs 51 2 [some (.ref a), x1, x2] (.ref a :: st) h Q := R_aldn rfl rfl
theorem s51_1q : Runs 51 1 [some (zrf r), x1, x2] st h Q ↔ Runs 51 2 [some (zrf r), x1, x2] (zrf r :: st) h Q := R_aldnq rfl rfl
theorem s51_2 (ht : tg a = 5) : Runs 51 2 ls (.ref a :: st) (n, tg, ln, I, J, O) Q ↔ Runs 51 5 ls (zrf (O a 9) :: st) (n, tg, ln, I, J, O) Q := R_getr rfl rfl rfl rfl ht
theorem s51_5 (ht : tg a = 5) (hs : zsumc st ≤ 8) : Runs 51 5 ls (.ref b0 :: .ref a :: st) (n, tg, ln, I, J, O) Q ↔ Runs 52 0 [some (.ref a), some (.ref b0), none, none, none] [] (n, tg, ln, I, J, O) (fun v h2 => Runs 51 8 ls (v.toList ++ st) h2 Q) := R_callv (a := a) (rest := st) rfl rfl rfl rfl rfl rfl rfl ht hs
theorem s51_5q (ht : tg a = 5) (hs : zsumc st ≤ 8) : Runs 51 5 ls (zrf r0 :: .ref a :: st) (n, tg, ln, I, J, O) Q ↔ Runs 52 0 [some (.ref a), some (zrf r0), none, none, none] [] (n, tg, ln, I, J, O) (fun v h2 => Runs 51 8 ls (v.toList ++ st) h2 Q) := by cases r0 <;> exact R_callv (a := a) (rest := st) rfl rfl rfl rfl rfl rfl rfl ht hs
theorem s51_8 : Runs 51 8 [some (.ref a), x1, x2] st h Q ↔ Runs 51 9 [some (.ref a), x1, x2] (.ref a :: st) h Q := R_aldn rfl rfl
theorem s51_8q : Runs 51 8 [some (zrf r), x1, x2] st h Q ↔ Runs 51 9 [some (zrf r), x1, x2] (zrf r :: st) h Q := R_aldnq rfl rfl
theorem s51_9 : Runs 51 9 [some (.ref a), x1, x2] st h Q ↔ Runs 51 10 [some (.ref a), x1, x2] (.ref a :: st) h Q := R_aldn rfl rfl
theorem s51_9q : Runs 51 9 [some (zrf r), x1, x2] st h Q ↔ Runs 51 10 [some (zrf r), x1, x2] (zrf r :: st) h Q := R_aldnq rfl rfl
theorem s51_10 (ht : tg a = 5) : Runs 51 10 ls (.ref a :: st) (n, tg, ln, I, J, O) Q ↔ Runs 51 13 ls (zrf (O a 10) :: st) (n, tg, ln, I, J, O) Q := R_getr rfl rfl rfl rfl ht
theorem s51_13 (ht : tg a = 5) (hs : zsumc st ≤ 8) : Runs 51 13 ls (.ref b0 :: .ref a :: st) (n, tg, ln, I, J, O) Q ↔ Runs 52 0 [some (.ref a), some (.ref b0), none, none, none] [] (n, tg, ln, I, J, O) (fun v h2 => Runs 51 16 ls (v.toList ++ st) h2 Q) := R_callv (a := a) (rest := st) rfl rfl rfl rfl rfl rfl rfl ht hs
theorem s51_13q (ht : tg a = 5) (hs : zsumc st ≤ 8) : Runs 51 13 ls (zrf r0 :: .ref a :: st) (n, tg, ln, I, J, O) Q ↔ Runs 52 0 [some (.ref a), some (zrf r0), none, none, none] [] (n, tg, ln, I, J, O) (fun v h2 => Runs 51 16 ls (v.toList ++ st) h2 Q) := by cases r0 <;> exact R_callv (a := a) (rest := st) rfl rfl rfl rfl rfl rfl rfl ht hs
theorem s51_16 : Runs 51 16 ls st h Q ↔ Runs 51 18 ls (.int 99 :: st) h Q := R_bipush rfl (by decide)
theorem s51_18 : Runs 51 18 [x0, x1, x2] (.int i :: st) h Q ↔ Runs 51 19 [zdrop x0, some (.int i), x2] st h Q := R_istn rfl rfl rfl
theorem s51_19 : Runs 51 19 [some (.ref a), x1, x2] st h Q ↔ Runs 51 20 [some (.ref a), x1, x2] (.ref a :: st) h Q := R_aldn rfl rfl
theorem s51_19q : Runs 51 19 [some (zrf r), x1, x2] st h Q ↔ Runs 51 20 [some (zrf r), x1, x2] (zrf r :: st) h Q := R_aldnq rfl rfl
theorem s51_20 (ht : tg a = 5) (hs : zsumc st ≤ 8) : Runs 51 20 ls (.ref a :: st) (n, tg, ln, I, J, O) Q ↔ Runs 54 0 [some (.ref a)] [] (n, tg, ln, I, J, O) (fun v h2 => Runs 51 23 ls (v.toList ++ st) h2 Q) := R_callv (a := a) (rest := st) rfl rfl rfl rfl rfl rfl rfl ht hs
theorem s51_23 : Runs 51 23 [x0, x1, x2] (.int i :: st) h Q ↔ Runs 51 24 [x0, zdrop x1, some (.int i)] st h Q := R_istn rfl rfl rfl
theorem s51_24 : Runs 51 24 [x0, x1, some (.int i)] st h Q ↔ Runs 51 25 [x0, x1, some (.int i)] (.int i :: st) h Q := R_ildn rfl rfl
theorem s51_25 : Runs 51 25 ls st h Q ↔ Runs 51 26 ls (.int (-1) :: st) h Q := R_iconst rfl rfl
theorem s51_26 : Runs 51 26 ls (.int j :: .int i :: st) h Q ↔ if i = j then Runs 51 39 ls st h Q else Runs 51 29 ls st h Q := R_iceq rfl rfl
theorem s51_29 : Runs 51 29 [some (.ref a), x1, x2] st h Q ↔ Runs 51 30 [some (.ref a), x1, x2] (.ref a :: st) h Q := R_aldn rfl rfl
theorem s51_29q : Runs 51 29 [some (zrf r), x1, x2] st h Q ↔ Runs 51 30 [some (zrf r), x1, x2] (zrf r :: st) h Q := R_aldnq rfl rfl
theorem s51_30 : Runs 51 30 [some (.ref a), x1, x2] st h Q ↔ Runs 51 31 [some (.ref a), x1, x2] (.ref a :: st) h Q := R_aldn rfl rfl
theorem s51_30q : Runs 51 30 [some (zrf r), x1, x2] st h Q ↔ Runs 51 31 [some (zrf r), x1, x2] (zrf r :: st) h Q := R_aldnq rfl rfl
theorem s51_31 : Runs 51 31 [x0, x1, some (.int i)] st h Q ↔ Runs 51 32 [x0, x1, some (.int i)] (.int i :: st) h Q := R_ildn rfl rfl
theorem s51_32 (ht : tg a = 5) (hs : zsumc st ≤ 8) : Runs 51 32 ls (.int i0 :: .ref a :: st) (n, tg, ln, I, J, O) Q ↔ Runs 41 0 [some (.ref a), some (.int i0)] [] (n, tg, ln, I, J, O) (fun v h2 => Runs 51 35 ls (v.toList ++ st) h2 Q) := R_callv (a := a) (rest := st) rfl rfl rfl rfl rfl rfl rfl ht hs
theorem s51_35 (ht : tg a = 5) (hs : zsumc st ≤ 8) : Runs 51 35 ls (.ref b0 :: .ref a :: st) (n, tg, ln, I, J, O) Q ↔ Runs 56 0 [some (.ref a), some (.ref b0), none, none] [] (n, tg, ln, I, J, O) (fun v h2 => Runs 51 38 ls (v.toList ++ st) h2 Q) := R_callv (a := a) (rest := st) rfl rfl rfl rfl rfl rfl rfl ht hs
theorem s51_35q (ht : tg a = 5) (hs : zsumc st ≤ 8) : Runs 51 35 ls (zrf r0 :: .ref a :: st) (n, tg, ln, I, J, O) Q ↔ Runs 56 0 [some (.ref a), some (zrf r0), none, none] [] (n, tg, ln, I, J, O) (fun v h2 => Runs 51 38 ls (v.toList ++ st) h2 Q) := by cases r0 <;> exact R_callv (a := a) (rest := st) rfl rfl rfl rfl rfl rfl rfl ht hs
theorem s51_38 : Runs 51 38 [x0, x1, x2] (.int i :: st) h Q ↔ Runs 51 39 [zdrop x0, some (.int i), x2] st h Q := R_istn rfl rfl rfl
theorem s51_39 : Runs 51 39 [x0, x1, some (.int i)] st h Q ↔ Runs 51 40 [x0, x1, some (.int i)] (.int i :: st) h Q := R_ildn rfl rfl
theorem s51_40 : Runs 51 40 ls st h Q ↔ Runs 51 41 ls (.int (-1) :: st) h Q := R_iconst rfl rfl
theorem s51_41 : Runs 51 41 ls (.int j :: .int i :: st) h Q ↔ if i = j then Runs 51 58 ls st h Q else Runs 51 44 ls st h Q := R_iceq rfl rfl
theorem s51_44 : Runs 51 44 [some (.ref a), x1, x2] st h Q ↔ Runs 51 45 [some (.ref a), x1, x2] (.ref a :: st) h Q := R_aldn rfl rfl
theorem s51_44q : Runs 51 44 [some (zrf r), x1, x2] st h Q ↔ Runs 51 45 [some (zrf r), x1, x2] (zrf r :: st) h Q := R_aldnq rfl rfl
theorem s51_45 (ht : tg a = 5) : Runs 51 45 ls (.ref a :: st) (n, tg, ln, I, J, O) Q ↔ Runs 51 48 ls (.int (I a 6) :: st) (n, tg, ln, I, J, O) Q := R_geti rfl rfl rfl rfl ht
theorem s51_48 : Runs 51 48 ls (.int i :: st) h Q ↔ if ¬ i = 0 then Runs 51 58 ls st h Q else Runs 51 51 ls st h Q := R_ifne rfl rfl
theorem s51_51 : Runs 51 51 [some (.ref a), x1, x2] st h Q ↔ Runs 51 52 [some (.ref a), x1, x2] (.ref a :: st) h Q := R_aldn rfl rfl
theorem s51_51q : Runs 51 51 [some (zrf r), x1, x2] st h Q ↔ Runs 51 52 [some (zrf r), x1, x2] (zrf r :: st) h Q := R_aldnq rfl rfl
theorem s51_52 : Runs 51 52 ls st h Q ↔ Runs 51 53 ls (.int 1 :: st) h Q := R_iconst rfl rfl
theorem s51_53 : Runs 51 53 [x0, x1, some (.int i)] st h Q ↔ Runs 51 54 [x0, x1, some (.int i)] (.int i :: st) h Q := R_ildn rfl rfl
theorem s51_54 : Runs 51 54 ls (.int j :: .int i :: st) h Q ↔ Runs 51 55 ls (.int (i - j) :: st) h Q := R_isub rfl
theorem s51_55 (ht : tg a = 5) : Runs 51 55 ls (.int i :: .ref a :: st) (n, tg, ln, I, J, O) Q ↔ Runs 51 58 ls st (n, tg, ln, zu I a 7 i, J, O) Q := R_puti rfl rfl rfl rfl rfl rfl ht
theorem s51_58 : Runs 51 58 [some (.ref a), x1, x2] st h Q ↔ Runs 51 59 [some (.ref a), x1, x2] (.ref a :: st) h Q := R_aldn rfl rfl
theorem s51_58q : Runs 51 58 [some (zrf r), x1, x2] st h Q ↔ Runs 51 59 [some (zrf r), x1, x2] (zrf r :: st) h Q := R_aldnq rfl rfl
theorem s51_59 : Runs 51 59 ls (.int i :: st) h Q ↔ Runs 51 60 ls (.int i :: .int i :: st) h Q := R_dupi rfl
theorem s51_59q : Runs 51 59 ls (.ref a :: st) h Q ↔ Runs 51 60 ls (.ref a :: .ref a :: st) h Q := R_dupr rfl
theorem s51_60 (ht : tg a = 5) : Runs 51 60 ls (.ref a :: st) (n, tg, ln, I, J, O) Q ↔ Runs 51 63 ls (.int (I a 8) :: st) (n, tg, ln, I, J, O) Q := R_geti rfl rfl rfl rfl ht
theorem s51_63 : Runs 51 63 ls st h Q ↔ Runs 51 64 ls (.int 1 :: st) h Q := R_iconst rfl rfl
theorem s51_64 : Runs 51 64 ls (.int j :: .int i :: st) h Q ↔ Runs 51 65 ls (.int (i + j) :: st) h Q := R_iadd rfl
theorem s51_65 (ht : tg a = 5) : Runs 51 65 ls (.int i :: .ref a :: st) (n, tg, ln, I, J, O) Q ↔ Runs 51 68 ls st (n, tg, ln, zu I a 8 i, J, O) Q := R_puti rfl rfl rfl rfl rfl rfl ht
theorem s51_68 : Runs 51 68 [x0, some (.int i), x2] st h Q ↔ Runs 51 69 [x0, some (.int i), x2] (.int i :: st) h Q := R_ildn rfl rfl
theorem s51_69 : Runs 51 69 ls [.int i] h Q ↔ Q (some (.int i)) h := R_iret rfl rfl
theorem s52_0 : Runs 52 0 ls st h Q ↔ Runs 52 1 ls (.int 1 :: st) h Q := R_iconst rfl rfl
theorem s52_1 : Runs 52 1 [x0, x1, x2, x3, x4] (.int i :: st) h Q ↔ Runs 52 2 [x0, zdrop x1, some (.int i), x3, x4] st h Q := R_istn rfl rfl rfl
theorem s52_2 : Runs 52 2 [x0, x1, some (.int i), x3, x4] st h Q ↔ Runs 52 3 [x0, x1, some (.int i), x3, x4] (.int i :: st) h Q := R_ildn rfl rfl
theorem s52_3 : Runs 52 3 [x0, some (.ref a), x2, x3, x4] st h Q ↔ Runs 52 4 [x0, some (.ref a), x2, x3, x4] (.ref a :: st) h Q := R_aldn rfl rfl
theorem s52_3q : Runs 52 3 [x0, some (zrf r), x2, x3, x4] st h Q ↔ Runs 52 4 [x0, some (zrf r), x2, x3, x4] (zrf r :: st) h Q := R_aldnq rfl rfl
theorem s52_4 (ht : tg a = 4) : Runs 52 4 ls (.ref a :: st) (n, tg, ln, I, J, O) Q ↔ Runs 52 7 ls (.int (I a 1) :: st) (n, tg, ln, I, J, O) Q := R_geti rfl rfl rfl rfl ht
theorem s52_7 : Runs 52 7 ls (.int j :: .int i :: st) h Q ↔ if j ≤ i then Runs 52 58 ls st h Q else Runs 52 10 ls st h Q := R_icge rfl rfl
theorem s52_10 : Runs 52 10 [x0, some (.ref a), x2, x3, x4] st h Q ↔ Runs 52 11 [x0, some (.ref a), x2, x3, x4] (.ref a :: st) h Q := R_aldn rfl rfl
theorem s52_10q : Runs 52 10 [x0, some (zrf r), x2, x3, x4] st h Q ↔ Runs 52 11 [x0, some (zrf r), x2, x3, x4] (zrf r :: st) h Q := R_aldnq rfl rfl
theorem s52_11 (ht : tg a = 4) : Runs 52 11 ls (.ref a :: st) (n, tg, ln, I, J, O) Q ↔ Runs 52 14 ls (zrf (O a 0) :: st) (n, tg, ln, I, J, O) Q := R_getr rfl rfl rfl rfl ht
theorem s52_14 : Runs 52 14 [x0, x1, some (.int i), x3, x4] st h Q ↔ Runs 52 15 [x0, x1, some (.int i), x3, x4] (.int i :: st) h Q := R_ildn rfl rfl
theorem s52_15 (ht : tg a = 20) : Runs 52 15 ls (.int i :: .ref a :: st) (n, tg, ln, I, J, O) Q ↔ ((0 ≤ i ∧ i < Int32.ofNat (ln a)) ∧ Runs 52 16 ls (.int (I a i) :: st) (n, tg, ln, I, J, O) Q) := R_iald rfl ht
theorem s52_16 : Runs 52 16 [x0, x1, x2, x3, x4] (.int i :: st) h Q ↔ Runs 52 17 [x0, x1, zdrop x2, some (.int i), x4] st h Q := R_istn rfl rfl rfl
theorem s52_17 : Runs 52 17 [x0, some (.ref a), x2, x3, x4] st h Q ↔ Runs 52 18 [x0, some (.ref a), x2, x3, x4] (.ref a :: st) h Q := R_aldn rfl rfl
theorem s52_17q : Runs 52 17 [x0, some (zrf r), x2, x3, x4] st h Q ↔ Runs 52 18 [x0, some (zrf r), x2, x3, x4] (zrf r :: st) h Q := R_aldnq rfl rfl
theorem s52_18 (ht : tg a = 4) : Runs 52 18 ls (.ref a :: st) (n, tg, ln, I, J, O) Q ↔ Runs 52 21 ls (zrf (O a 0) :: st) (n, tg, ln, I, J, O) Q := R_getr rfl rfl rfl rfl ht
theorem s52_21 : Runs 52 21 [x0, x1, some (.int i), x3, x4] st h Q ↔ Runs 52 22 [x0, x1, some (.int i), x3, x4] (.int i :: st) h Q := R_ildn rfl rfl
theorem s52_22 : Runs 52 22 ls st h Q ↔ Runs 52 23 ls (.int 1 :: st) h Q := R_iconst rfl rfl
theorem s52_23 : Runs 52 23 ls (.int j :: .int i :: st) h Q ↔ Runs 52 24 ls (.int (i - j) :: st) h Q := R_isub rfl
theorem s52_24 (ht : tg a = 20) : Runs 52 24 ls (.int i :: .ref a :: st) (n, tg, ln, I, J, O) Q ↔ ((0 ≤ i ∧ i < Int32.ofNat (ln a)) ∧ Runs 52 25 ls (.int (I a i) :: st) (n, tg, ln, I, J, O) Q) := R_iald rfl ht
theorem s52_25 : Runs 52 25 [x0, x1, x2, x3, x4] (.int i :: st) h Q ↔ Runs 52 27 [x0, x1, x2, zdrop x3, some (.int i)] st h Q := R_ist rfl rfl rfl
theorem s52_27 : Runs 52 27 [some (.ref a), x1, x2, x3, x4] st h Q ↔ Runs 52 28 [some (.ref a), x1, x2, x3, x4] (.ref a :: st) h Q := R_aldn rfl rfl
theorem s52_27q : Runs 52 27 [some (zrf r), x1, x2, x3, x4] st h Q ↔ Runs 52 28 [some (zrf r), x1, x2, x3, x4] (zrf r :: st) h Q := R_aldnq rfl rfl
theorem s52_28 : Runs 52 28 [x0, x1, x2, some (.int i), x4] st h Q ↔ Runs 52 29 [x0, x1, x2, some (.int i), x4] (.int i :: st) h Q := R_ildn rfl rfl
theorem s52_29 : Runs 52 29 [x0, x1, x2, x3, some (.int i)] st h Q ↔ Runs 52 31 [x0, x1, x2, x3, some (.int i)] (.int i :: st) h Q := R_ild rfl rfl
theorem s52_31 (ht : tg a = 5) (hs : zsumc st ≤ 8) : Runs 52 31 ls (.int i1 :: .int i0 :: .ref a :: st) (n, tg, ln, I, J, O) Q ↔ Runs 53 0 [some (.ref a), some (.int i0), some (.int i1)] [] (n, tg, ln, I, J, O) (fun v h2 => Runs 52 34 ls (v.toList ++ st) h2 Q) := R_callv (a := a) (rest := st) rfl rfl rfl rfl rfl rfl rfl ht hs
theorem s52_34 : Runs 52 34 ls (.int i :: st) h Q ↔ if i = 0 then Runs 52 52 ls st h Q else Runs 52 37 ls st h Q := R_ifeq rfl rfl
theorem s52_37 : Runs 52 37 [x0, some (.ref a), x2, x3, x4] st h Q ↔ Runs 52 38 [x0, some (.ref a), x2, x3, x4] (.ref a :: st) h Q := R_aldn rfl rfl
theorem s52_37q : Runs 52 37 [x0, some (zrf r), x2, x3, x4] st h Q ↔ Runs 52 38 [x0, some (zrf r), x2, x3, x4] (zrf r :: st) h Q := R_aldnq rfl rfl
theorem s52_38 : Runs 52 38 [x0, x1, some (.int i), x3, x4] st h Q ↔ Runs 52 39 [x0, x1, some (.int i), x3, x4] (.int i :: st) h Q := R_ildn rfl rfl
theorem s52_39 : Runs 52 39 ls st h Q ↔ Runs 52 40 ls (.int 1 :: st) h Q := R_iconst rfl rfl
theorem s52_40 : Runs 52 40 ls (.int j :: .int i :: st) h Q ↔ Runs 52 41 ls (.int (i - j) :: st) h Q := R_isub rfl
theorem s52_41 : Runs 52 41 [x0, x1, x2, some (.int i), x4] st h Q ↔ Runs 52 42 [x0, x1, x2, some (.int i), x4] (.int i :: st) h Q := R_ildn rfl rfl
theorem s52_42 (ht : tg a = 4) (hs : zsumc st ≤ 8) : Runs 52 42 ls (.int i1 :: .int i0 :: .ref a :: st) (n, tg, ln, I, J, O) Q ↔ Runs 29 0 [some (.ref a), some (.int i0), some (.int i1)] [] (n, tg, ln, I, J, O) (fun v h2 => Runs 52 45 ls (v.toList ++ st) h2 Q) := R_callv (a := a) (rest := st) rfl rfl rfl rfl rfl rfl rfl ht hs
theorem s52_45 : Runs 52 45 [x0, some (.ref a), x2, x3, x4] st h Q ↔ Runs 52 46 [x0, some (.ref a), x2, x3, x4] (.ref a :: st) h Q := R_aldn rfl rfl
theorem s52_45q : Runs 52 45 [x0, some (zrf r), x2, x3, x4] st h Q ↔ Runs 52 46 [x0, some (zrf r), x2, x3, x4] (zrf r :: st) h Q := R_aldnq rfl rfl
theorem s52_46 : Runs 52 46 [x0, x1, some (.int i), x3, x4] st h Q ↔ Runs 52 47 [x0, x1, some (.int i), x3, x4] (.int i :: st) h Q := R_ildn rfl rfl
theorem s52_47 : Runs 52 47 [x0, x1, x2, x3, some (.int i)] st h Q ↔ Runs 52 49 [x0, x1, x2, x3, some (.int i)] (.int i :: st) h Q := R_ild rfl rfl
theorem s52_49 (ht : tg a = 4) (hs : zsumc st ≤ 8) : Runs 52 49 ls (.int i1 :: .int i0 :: .ref a :: st) (n, tg, ln, I, J, O) Q ↔ Runs 29 0 [some (.ref a), some (.int i0), some (.int i1)] [] (n, tg, ln, I, J, O) (fun v h2 => Runs 52 52 ls (v.toList ++ st) h2 Q) := R_callv (a := a) (rest := st) rfl rfl rfl rfl rfl rfl rfl ht hs
theorem s52_52 : Runs 52 52 [x0, x1, some (.int i), x3, x4] st h Q ↔ Runs 52 55 [x0, zdrop x1, some (.int (i + 1)), x3, x4] st h Q := R_iinc rfl rfl rfl rfl rfl
theorem s52_55 : Runs 52 55 ls st h Q ↔ Runs 52 2 ls st h Q := R_goto rfl rfl
theorem s52_58 : Runs 52 58 ls [] h Q ↔ Q none h := R_vret rfl rfl
theorem s53_0 : Runs 53 0 [some (.ref a), x1, x2] st h Q ↔ Runs 53 1 [some (.ref a), x1, x2] (.ref a :: st) h Q := R_aldn rfl rfl
theorem s53_0q : Runs 53 0 [some (zrf r), x1, x2] st h Q ↔ Runs 53 1 [some (zrf r), x1, x2] (zrf r :: st) h Q := R_aldnq rfl rfl
theorem s53_1 : Runs 53 1 [x0, some (.int i), x2] st h Q ↔ Runs 53 2 [x0, some (.int i), x2] (.int i :: st) h Q := R_ildn rfl rfl
theorem s53_2 (ht : tg a = 5) (hs : zsumc st ≤ 8) : Runs 53 2 ls (.int i0 :: .ref a :: st) (n, tg, ln, I, J, O) Q ↔ Runs 39 0 [some (.ref a), some (.int i0)] [] (n, tg, ln, I, J, O) (fun v h2 => Runs 53 5 ls (v.toList ++ st) h2 Q) := R_callv (a := a) (rest := st) rfl rfl rfl rfl rfl rfl rfl ht hs
theorem s53_5 : Runs 53 5 ls (.int i :: st) h Q ↔ if i = 0 then Runs 53 59 ls st h Q else Runs 53 8 ls st h Q := R_ifeq rfl rfl
theorem s53_8 : Runs 53 8 [some (.ref a), x1, x2] st h Q ↔ Runs 53 9 [some (.ref a), x1, x2] (.ref a :: st) h Q := R_aldn rfl rfl
theorem s53_8q : Runs 53 8 [some (zrf r), x1, x2] st h Q ↔ Runs 53 9 [some (zrf r), x1, x2] (zrf r :: st) h Q := R_aldnq rfl rfl
theorem s53_9 (ht : tg a = 5) : Runs 53 9 ls (.ref a :: st) (n, tg, ln, I, J, O) Q ↔ Runs 53 12 ls (zrf (O a 0) :: st) (n, tg, ln, I, J, O) Q := R_getr rfl rfl rfl rfl ht
theorem s53_12 : Runs 53 12 [x0, some (.int i), x2] st h Q ↔ Runs 53 13 [x0, some (.int i), x2] (.int i :: st) h Q := R_ildn rfl rfl
theorem s53_13 (ht : tg a = 20) : Runs 53 13 ls (.int i :: .ref a :: st) (n, tg, ln, I, J, O) Q ↔ ((0 ≤ i ∧ i < Int32.ofNat (ln a)) ∧ Runs 53 14 ls (.int (I a i) :: st) (n, tg, ln, I, J, O) Q) := R_iald rfl ht
theorem s53_14 (hs : zsumc st ≤ 8) : Runs 53 14 ls (.int i0 :: st) h Q ↔ Runs 18 0 [some (.int i0)] [] h (fun v h2 => Runs 53 17 ls (v.toList ++ st) h2 Q) := R_calls (rest := st) rfl rfl rfl (by simp) rfl rfl rfl rfl hs
theorem s53_17 : Runs 53 17 ls (.int i :: st) h Q ↔ if i = 0 then Runs 53 59 ls st h Q else Runs 53 20 ls st h Q := R_ifeq rfl rfl
theorem s53_20 : Runs 53 20 [some (.ref a), x1, x2] st h Q ↔ Runs 53 21 [some (.ref a), x1, x2] (.ref a :: st) h Q := R_aldn rfl rfl
theorem s53_20q : Runs 53 20 [some (zrf r), x1, x2] st h Q ↔ Runs 53 21 [some (zrf r), x1, x2] (zrf r :: st) h Q := R_aldnq rfl rfl
theorem s53_21 : Runs 53 21 [x0, x1, some (.int i)] st h Q ↔ Runs 53 22 [x0, x1, some (.int i)] (.int i :: st) h Q := R_ildn rfl rfl
theorem s53_22 (ht : tg a = 5) (hs : zsumc st ≤ 8) : Runs 53 22 ls (.int i0 :: .ref a :: st) (n, tg, ln, I, J, O) Q ↔ Runs 39 0 [some (.ref a), some (.int i0)] [] (n, tg, ln, I, J, O) (fun v h2 => Runs 53 25 ls (v.toList ++ st) h2 Q) := R_callv (a := a) (rest := st) rfl rfl rfl rfl rfl rfl rfl ht hs
theorem s53_25 : Runs 53 25 ls (.int i :: st) h Q ↔ if i = 0 then Runs 53 59 ls st h Q else Runs 53 28 ls st h Q := R_ifeq rfl rfl
theorem s53_28 : Runs 53 28 [some (.ref a), x1, x2] st h Q ↔ Runs 53 29 [some (.ref a), x1, x2] (.ref a :: st) h Q := R_aldn rfl rfl
theorem s53_28q : Runs 53 28 [some (zrf r), x1, x2] st h Q ↔ Runs 53 29 [some (zrf r), x1, x2] (zrf r :: st) h Q := R_aldnq rfl rfl
theorem s53_29 (ht : tg a = 5) : Runs 53 29 ls (.ref a :: st) (n, tg, ln, I, J, O) Q ↔ Runs 53 32 ls (zrf (O a 0) :: st) (n, tg, ln, I, J, O) Q := R_getr rfl rfl rfl rfl ht
theorem s53_32 : Runs 53 32 [x0, x1, some (.int i)] st h Q ↔ Runs 53 33 [x0, x1, some (.int i)] (.int i :: st) h Q := R_ildn rfl rfl
theorem s53_33 (ht : tg a = 20) : Runs 53 33 ls (.int i :: .ref a :: st) (n, tg, ln, I, J, O) Q ↔ ((0 ≤ i ∧ i < Int32.ofNat (ln a)) ∧ Runs 53 34 ls (.int (I a i) :: st) (n, tg, ln, I, J, O) Q) := R_iald rfl ht
theorem s53_34 (hs : zsumc st ≤ 8) : Runs 53 34 ls (.int i0 :: st) h Q ↔ Runs 19 0 [some (.int i0)] [] h (fun v h2 => Runs 53 37 ls (v.toList ++ st) h2 Q) := R_calls (rest := st) rfl rfl rfl (by simp) rfl rfl rfl rfl hs
theorem s53_37 : Runs 53 37 ls (.int i :: st) h Q ↔ if i = 0 then Runs 53 59 ls st h Q else Runs 53 40 ls st h Q := R_ifeq rfl rfl
theorem s53_40 : Runs 53 40 [some (.ref a), x1, x2] st h Q ↔ Runs 53 41 [some (.ref a), x1, x2] (.ref a :: st) h Q := R_aldn rfl rfl
theorem s53_40q : Runs 53 40 [some (zrf r), x1, x2] st h Q ↔ Runs 53 41 [some (zrf r), x1, x2] (zrf r :: st) h Q := R_aldnq rfl rfl
theorem s53_41 (ht : tg a = 5) : Runs 53 41 ls (.ref a :: st) (n, tg, ln, I, J, O) Q ↔ Runs 53 44 ls (zrf (O a 1) :: st) (n, tg, ln, I, J, O) Q := R_getr rfl rfl rfl rfl ht
theorem s53_44 : Runs 53 44 [x0, x1, some (.int i)] st h Q ↔ Runs 53 45 [x0, x1, some (.int i)] (.int i :: st) h Q := R_ildn rfl rfl
theorem s53_45 (ht : tg a = 20) : Runs 53 45 ls (.int i :: .ref a :: st) (n, tg, ln, I, J, O) Q ↔ ((0 ≤ i ∧ i < Int32.ofNat (ln a)) ∧ Runs 53 46 ls (.int (I a i) :: st) (n, tg, ln, I, J, O) Q) := R_iald rfl ht
theorem s53_46 : Runs 53 46 [some (.ref a), x1, x2] st h Q ↔ Runs 53 47 [some (.ref a), x1, x2] (.ref a :: st) h Q := R_aldn rfl rfl
theorem s53_46q : Runs 53 46 [some (zrf r), x1, x2] st h Q ↔ Runs 53 47 [some (zrf r), x1, x2] (zrf r :: st) h Q := R_aldnq rfl rfl
theorem s53_47 (ht : tg a = 5) : Runs 53 47 ls (.ref a :: st) (n, tg, ln, I, J, O) Q ↔ Runs 53 50 ls (zrf (O a 1) :: st) (n, tg, ln, I, J, O) Q := R_getr rfl rfl rfl rfl ht
theorem s53_50 : Runs 53 50 [x0, some (.int i), x2] st h Q ↔ Runs 53 51 [x0, some (.int i), x2] (.int i :: st) h Q := R_ildn rfl rfl
theorem s53_51 (ht : tg a = 20) : Runs 53 51 ls (.int i :: .ref a :: st) (n, tg, ln, I, J, O) Q ↔ ((0 ≤ i ∧ i < Int32.ofNat (ln a)) ∧ Runs 53 52 ls (.int (I a i) :: st) (n, tg, ln, I, J, O) Q) := R_iald rfl ht
theorem s53_52 : Runs 53 52 ls (.int j :: .int i :: st) h Q ↔ if j ≤ i then Runs 53 59 ls st h Q else Runs 53 55 ls st h Q := R_icge rfl rfl
theorem s53_55 : Runs 53 55 ls st h Q ↔ Runs 53 56 ls (.int 1 :: st) h Q := R_iconst rfl rfl
theorem s53_56 : Runs 53 56 ls st h Q ↔ Runs 53 60 ls st h Q := R_goto rfl rfl
theorem s53_59 : Runs 53 59 ls st h Q ↔ Runs 53 60 ls (.int 0 :: st) h Q := R_iconst rfl rfl
theorem s53_60 (hx : i = 0 ∨ i = 1) : Runs 53 60 ls [.int i] h Q ↔ Q (some (.int i)) h := R_zret rfl rfl hx
theorem s54_0 : Runs 54 0 [some (.ref a)] st h Q ↔ Runs 54 1 [some (.ref a)] (.ref a :: st) h Q := R_aldn rfl rfl
theorem s54_0q : Runs 54 0 [some (zrf r)] st h Q ↔ Runs 54 1 [some (zrf r)] (zrf r :: st) h Q := R_aldnq rfl rfl
theorem s54_1 (ht : tg a = 5) (hs : zsumc st ≤ 8) : Runs 54 1 ls (.ref a :: st) (n, tg, ln, I, J, O) Q ↔ Runs 42 0 [some (.ref a)] [] (n, tg, ln, I, J, O) (fun v h2 => Runs 54 4 ls (v.toList ++ st) h2 Q) := R_callv (a := a) (rest := st) rfl rfl rfl rfl rfl rfl rfl ht hs
theorem s54_4 : Runs 54 4 ls (.int i :: st) h Q ↔ if i = 0 then Runs 54 9 ls st h Q else Runs 54 7 ls st h Q := R_ifeq rfl rfl
theorem s54_7 : Runs 54 7 ls st h Q ↔ Runs 54 8 ls (.int (-1) :: st) h Q := R_iconst rfl rfl
theorem s54_8 : Runs 54 8 ls [.int i] h Q ↔ Q (some (.int i)) h := R_iret rfl rfl
theorem s54_9 : Runs 54 9 [some (.ref a)] st h Q ↔ Runs 54 10 [some (.ref a)] (.ref a :: st) h Q := R_aldn rfl rfl
theorem s54_9q : Runs 54 9 [some (zrf r)] st h Q ↔ Runs 54 10 [some (zrf r)] (zrf r :: st) h Q := R_aldnq rfl rfl
theorem s54_10 (ht : tg a = 5) : Runs 54 10 ls (.ref a :: st) (n, tg, ln, I, J, O) Q ↔ Runs 54 13 ls (.int (I a 6) :: st) (n, tg, ln, I, J, O) Q := R_geti rfl rfl rfl rfl ht
theorem s54_13 : Runs 54 13 ls (.int i :: st) h Q ↔ if ¬ i = 0 then Runs 54 44 ls st h Q else Runs 54 16 ls st h Q := R_ifne rfl rfl
theorem s54_16 : Runs 54 16 [some (.ref a)] st h Q ↔ Runs 54 17 [some (.ref a)] (.ref a :: st) h Q := R_aldn rfl rfl
theorem s54_16q : Runs 54 16 [some (zrf r)] st h Q ↔ Runs 54 17 [some (zrf r)] (zrf r :: st) h Q := R_aldnq rfl rfl
theorem s54_17 : Runs 54 17 [some (.ref a)] st h Q ↔ Runs 54 18 [some (.ref a)] (.ref a :: st) h Q := R_aldn rfl rfl
theorem s54_17q : Runs 54 17 [some (zrf r)] st h Q ↔ Runs 54 18 [some (zrf r)] (zrf r :: st) h Q := R_aldnq rfl rfl
theorem s54_18 (ht : tg a = 5) : Runs 54 18 ls (.ref a :: st) (n, tg, ln, I, J, O) Q ↔ Runs 54 21 ls (.int (I a 7) :: st) (n, tg, ln, I, J, O) Q := R_geti rfl rfl rfl rfl ht
theorem s54_21 (ht : tg a = 5) (hs : zsumc st ≤ 8) : Runs 54 21 ls (.int i0 :: .ref a :: st) (n, tg, ln, I, J, O) Q ↔ Runs 41 0 [some (.ref a), some (.int i0)] [] (n, tg, ln, I, J, O) (fun v h2 => Runs 54 24 ls (v.toList ++ st) h2 Q) := R_callv (a := a) (rest := st) rfl rfl rfl rfl rfl rfl rfl ht hs
theorem s54_24 (ht : tg a = 4) : Runs 54 24 ls (.ref a :: st) (n, tg, ln, I, J, O) Q ↔ Runs 54 27 ls (.int (I a 1) :: st) (n, tg, ln, I, J, O) Q := R_geti rfl rfl rfl rfl ht
theorem s54_27 : Runs 54 27 ls (.int i :: st) h Q ↔ if i ≤ 0 then Runs 54 37 ls st h Q else Runs 54 30 ls st h Q := R_ifle rfl rfl
theorem s54_30 : Runs 54 30 [some (.ref a)] st h Q ↔ Runs 54 31 [some (.ref a)] (.ref a :: st) h Q := R_aldn rfl rfl
theorem s54_30q : Runs 54 30 [some (zrf r)] st h Q ↔ Runs 54 31 [some (zrf r)] (zrf r :: st) h Q := R_aldnq rfl rfl
theorem s54_31 (ht : tg a = 5) : Runs 54 31 ls (.ref a :: st) (n, tg, ln, I, J, O) Q ↔ Runs 54 34 ls (.int (I a 7) :: st) (n, tg, ln, I, J, O) Q := R_geti rfl rfl rfl rfl ht
theorem s54_34 : Runs 54 34 ls st h Q ↔ Runs 54 43 ls st h Q := R_goto rfl rfl
theorem s54_37 : Runs 54 37 ls st h Q ↔ Runs 54 38 ls (.int 1 :: st) h Q := R_iconst rfl rfl
theorem s54_38 : Runs 54 38 [some (.ref a)] st h Q ↔ Runs 54 39 [some (.ref a)] (.ref a :: st) h Q := R_aldn rfl rfl
theorem s54_38q : Runs 54 38 [some (zrf r)] st h Q ↔ Runs 54 39 [some (zrf r)] (zrf r :: st) h Q := R_aldnq rfl rfl
theorem s54_39 (ht : tg a = 5) : Runs 54 39 ls (.ref a :: st) (n, tg, ln, I, J, O) Q ↔ Runs 54 42 ls (.int (I a 7) :: st) (n, tg, ln, I, J, O) Q := R_geti rfl rfl rfl rfl ht
theorem s54_42 : Runs 54 42 ls (.int j :: .int i :: st) h Q ↔ Runs 54 43 ls (.int (i - j) :: st) h Q := R_isub rfl
theorem s54_43 : Runs 54 43 ls [.int i] h Q ↔ Q (some (.int i)) h := R_iret rfl rfl
theorem s54_44 : Runs 54 44 [some (.ref a)] st h Q ↔ Runs 54 45 [some (.ref a)] (.ref a :: st) h Q := R_aldn rfl rfl
theorem s54_44q : Runs 54 44 [some (zrf r)] st h Q ↔ Runs 54 45 [some (zrf r)] (zrf r :: st) h Q := R_aldnq rfl rfl
theorem s54_45 (ht : tg a = 5) : Runs 54 45 ls (.ref a :: st) (n, tg, ln, I, J, O) Q ↔ Runs 54 48 ls (.int (I a 6) :: st) (n, tg, ln, I, J, O) Q := R_geti rfl rfl rfl rfl ht
theorem s54_48 : Runs 54 48 ls st h Q ↔ Runs 54 49 ls (.int 1 :: st) h Q := R_iconst rfl rfl
theorem s54_49 : Runs 54 49 ls (.int j :: .int i :: st) h Q ↔ if ¬ i = j then Runs 54 75 ls st h Q else Runs 54 52 ls st h Q := R_icne rfl rfl
theorem s54_52 : Runs 54 52 [some (.ref a)] st h Q ↔ Runs 54 53 [some (.ref a)] (.ref a :: st) h Q := R_aldn rfl rfl
theorem s54_52q : Runs 54 52 [some (zrf r)] st h Q ↔ Runs 54 53 [some (zrf r)] (zrf r :: st) h Q := R_aldnq rfl rfl
theorem s54_53 (ht : tg a = 5) : Runs 54 53 ls (.ref a :: st) (n, tg, ln, I, J, O) Q ↔ Runs 54 56 ls (zrf (O a 10) :: st) (n, tg, ln, I, J, O) Q := R_getr rfl rfl rfl rfl ht
theorem s54_56 (ht : tg a = 4) : Runs 54 56 ls (.ref a :: st) (n, tg, ln, I, J, O) Q ↔ Runs 54 59 ls (.int (I a 1) :: st) (n, tg, ln, I, J, O) Q := R_geti rfl rfl rfl rfl ht
theorem s54_59 : Runs 54 59 [some (.ref a)] st h Q ↔ Runs 54 60 [some (.ref a)] (.ref a :: st) h Q := R_aldn rfl rfl
theorem s54_59q : Runs 54 59 [some (zrf r)] st h Q ↔ Runs 54 60 [some (zrf r)] (zrf r :: st) h Q := R_aldnq rfl rfl
theorem s54_60 (ht : tg a = 5) : Runs 54 60 ls (.ref a :: st) (n, tg, ln, I, J, O) Q ↔ Runs 54 63 ls (zrf (O a 9) :: st) (n, tg, ln, I, J, O) Q := R_getr rfl rfl rfl rfl ht
theorem s54_63 (ht : tg a = 4) : Runs 54 63 ls (.ref a :: st) (n, tg, ln, I, J, O) Q ↔ Runs 54 66 ls (.int (I a 1) :: st) (n, tg, ln, I, J, O) Q := R_geti rfl rfl rfl rfl ht
theorem s54_66 : Runs 54 66 ls (.int j :: .int i :: st) h Q ↔ if i ≤ j then Runs 54 73 ls st h Q else Runs 54 69 ls st h Q := R_icle rfl rfl
theorem s54_69 : Runs 54 69 ls st h Q ↔ Runs 54 70 ls (.int 1 :: st) h Q := R_iconst rfl rfl
theorem s54_70 : Runs 54 70 ls st h Q ↔ Runs 54 74 ls st h Q := R_goto rfl rfl
theorem s54_73 : Runs 54 73 ls st h Q ↔ Runs 54 74 ls (.int 0 :: st) h Q := R_iconst rfl rfl
theorem s54_74 : Runs 54 74 ls [.int i] h Q ↔ Q (some (.int i)) h := R_iret rfl rfl
theorem s54_75 : Runs 54 75 [some (.ref a)] st h Q ↔ Runs 54 76 [some (.ref a)] (.ref a :: st) h Q := R_aldn rfl rfl
theorem s54_75q : Runs 54 75 [some (zrf r)] st h Q ↔ Runs 54 76 [some (zrf r)] (zrf r :: st) h Q := R_aldnq rfl rfl
theorem s54_76 : Runs 54 76 [some (.ref a)] st h Q ↔ Runs 54 77 [some (.ref a)] (.ref a :: st) h Q := R_aldn rfl rfl
theorem s54_76q : Runs 54 76 [some (zrf r)] st h Q ↔ Runs 54 77 [some (zrf r)] (zrf r :: st) h Q := R_aldnq rfl rfl
theorem s54_77 (ht : tg a = 5) : Runs 54 77 ls (.ref a :: st) (n, tg, ln, I, J, O) Q ↔ Runs 54 80 ls (zrf (O a 10) :: st) (n, tg, ln, I, J, O) Q := R_getr rfl rfl rfl rfl ht
theorem s54_80 (ht : tg a = 5) (hs : zsumc st ≤ 8) : Runs 54 80 ls (.ref b0 :: .ref a :: st) (n, tg, ln, I, J, O) Q ↔ Runs 55 0 [some (.ref a), some (.ref b0), none] [] (n, tg, ln, I, J, O) (fun v h2 => Runs 54 83 ls (v.toList ++ st) h2 Q) := R_callv (a := a) (rest := st) rfl rfl rfl rfl rfl rfl rfl ht hs
theorem s54_80q (ht : tg a = 5) (hs : zsumc st ≤ 8) : Runs 54 80 ls (zrf r0 :: .ref a :: st) (n, tg, ln, I, J, O) Q ↔ Runs 55 0 [some (.ref a), some (zrf r0), none] [] (n, tg, ln, I, J, O) (fun v h2 => Runs 54 83 ls (v.toList ++ st) h2 Q) := by cases r0 <;> exact R_callv (a := a) (rest := st) rfl rfl rfl rfl rfl rfl rfl ht hs
theorem s54_83 : Runs 54 83 [some (.ref a)] st h Q ↔ Runs 54 84 [some (.ref a)] (.ref a :: st) h Q := R_aldn rfl rfl
theorem s54_83q : Runs 54 83 [some (zrf r)] st h Q ↔ Runs 54 84 [some (zrf r)] (zrf r :: st) h Q := R_aldnq rfl rfl
theorem s54_84 : Runs 54 84 [some (.ref a)] st h Q ↔ Runs 54 85 [some (.ref a)] (.ref a :: st) h Q := R_aldn rfl rfl
theorem s54_84q : Runs 54 84 [some (zrf r)] st h Q ↔ Runs 54 85 [some (zrf r)] (zrf r :: st) h Q := R_aldnq rfl rfl
theorem s54_85 (ht : tg a = 5) : Runs 54 85 ls (.ref a :: st) (n, tg, ln, I, J, O) Q ↔ Runs 54 88 ls (zrf (O a 9) :: st) (n, tg, ln, I, J, O) Q := R_getr rfl rfl rfl rfl ht
theorem s54_88 (ht : tg a = 5) (hs : zsumc st ≤ 8) : Runs 54 88 ls (.ref b0 :: .ref a :: st) (n, tg, ln, I, J, O) Q ↔ Runs 55 0 [some (.ref a), some (.ref b0), none] [] (n, tg, ln, I, J, O) (fun v h2 => Runs 54 91 ls (v.toList ++ st) h2 Q) := R_callv (a := a) (rest := st) rfl rfl rfl rfl rfl rfl rfl ht hs
theorem s54_88q (ht : tg a = 5) (hs : zsumc st ≤ 8) : Runs 54 88 ls (zrf r0 :: .ref a :: st) (n, tg, ln, I, J, O) Q ↔ Runs 55 0 [some (.ref a), some (zrf r0), none] [] (n, tg, ln, I, J, O) (fun v h2 => Runs 54 91 ls (v.toList ++ st) h2 Q) := by cases r0 <;> exact R_callv (a := a) (rest := st) rfl rfl rfl rfl rfl rfl rfl ht hs
theorem s54_91 : Runs 54 91 ls (.int j :: .int i :: st) h Q ↔ if i ≤ j then Runs 54 98 ls st h Q else Runs 54 94 ls st h Q := R_icle rfl rfl
theorem s54_94 : Runs 54 94 ls st h Q ↔ Runs 54 95 ls (.int 1 :: st) h Q := R_iconst rfl rfl
theorem s54_95 : Runs 54 95 ls st h Q ↔ Runs 54 99 ls st h Q := R_goto rfl rfl
theorem s54_98 : Runs 54 98 ls st h Q ↔ Runs 54 99 ls (.int 0 :: st) h Q := R_iconst rfl rfl
theorem s54_99 : Runs 54 99 ls [.int i] h Q ↔ Q (some (.int i)) h := R_iret rfl rfl
theorem s55_0 : Runs 55 0 [x0, some (.ref a), x2] st h Q ↔ Runs 55 1 [x0, some (.ref a), x2] (.ref a :: st) h Q := R_aldn rfl rfl
theorem s55_0q : Runs 55 0 [x0, some (zrf r), x2] st h Q ↔ Runs 55 1 [x0, some (zrf r), x2] (zrf r :: st) h Q := R_aldnq rfl rfl
theorem s55_1 (ht : tg a = 4) : Runs 55 1 ls (.ref a :: st) (n, tg, ln, I, J, O) Q ↔ Runs 55 4 ls (.int (I a 1) :: st) (n, tg, ln, I, J, O) Q := R_geti rfl rfl rfl rfl ht
theorem s55_4 : Runs 55 4 ls (.int i :: st) h Q ↔ if ¬ i = 0 then Runs 55 9 ls st h Q else Runs 55 7 ls st h Q := R_ifne rfl rfl
theorem s55_7 : Runs 55 7 ls st h Q ↔ Runs 55 8 ls (.int (-1) :: st) h Q := R_iconst rfl rfl
theorem s55_8 : Runs 55 8 ls [.int i] h Q ↔ Q (some (.int i)) h := R_iret rfl rfl
theorem s55_9 : Runs 55 9 [x0, some (.ref a), x2] st h Q ↔ Runs 55 10 [x0, some (.ref a), x2] (.ref a :: st) h Q := R_aldn rfl rfl
theorem s55_9q : Runs 55 9 [x0, some (zrf r), x2] st h Q ↔ Runs 55 10 [x0, some (zrf r), x2] (zrf r :: st) h Q := R_aldnq rfl rfl
theorem s55_10 (ht : tg a = 4) : Runs 55 10 ls (.ref a :: st) (n, tg, ln, I, J, O) Q ↔ Runs 55 13 ls (zrf (O a 0) :: st) (n, tg, ln, I, J, O) Q := R_getr rfl rfl rfl rfl ht
theorem s55_13 : Runs 55 13 ls st h Q ↔ Runs 55 14 ls (.int 0 :: st) h Q := R_iconst rfl rfl
theorem s55_14 (ht : tg a = 20) : Runs 55 14 ls (.int i :: .ref a :: st) (n, tg, ln, I, J, O) Q ↔ ((0 ≤ i ∧ i < Int32.ofNat (ln a)) ∧ Runs 55 15 ls (.int (I a i) :: st) (n, tg, ln, I, J, O) Q) := R_iald rfl ht
theorem s55_15 : Runs 55 15 [x0, x1, x2] (.int i :: st) h Q ↔ Runs 55 16 [x0, zdrop x1, some (.int i)] st h Q := R_istn rfl rfl rfl
theorem s55_16 : Runs 55 16 [some (.ref a), x1, x2] st h Q ↔ Runs 55 17 [some (.ref a), x1, x2] (.ref a :: st) h Q := R_aldn rfl rfl
theorem s55_16q : Runs 55 16 [some (zrf r), x1, x2] st h Q ↔ Runs 55 17 [some (zrf r), x1, x2] (zrf r :: st) h Q := R_aldnq rfl rfl
theorem s55_17 : Runs 55 17 [x0, x1, some (.int i)] st h Q ↔ Runs 55 18 [x0, x1, some (.int i)] (.int i :: st) h Q := R_ildn rfl rfl
theorem s55_18 (ht : tg a = 5) (hs : zsumc st ≤ 8) : Runs 55 18 ls (.int i0 :: .ref a :: st) (n, tg, ln, I, J, O) Q ↔ Runs 39 0 [some (.ref a), some (.int i0)] [] (n, tg, ln, I, J, O) (fun v h2 => Runs 55 21 ls (v.toList ++ st) h2 Q) := R_callv (a := a) (rest := st) rfl rfl rfl rfl rfl rfl rfl ht hs
theorem s55_21 : Runs 55 21 ls (.int i :: st) h Q ↔ if i = 0 then Runs 55 33 ls st h Q else Runs 55 24 ls st h Q := R_ifeq rfl rfl
theorem s55_24 : Runs 55 24 [some (.ref a), x1, x2] st h Q ↔ Runs 55 25 [some (.ref a), x1, x2] (.ref a :: st) h Q := R_aldn rfl rfl
theorem s55_24q : Runs 55 24 [some (zrf r), x1, x2] st h Q ↔ Runs 55 25 [some (zrf r), x1, x2] (zrf r :: st) h Q := R_aldnq rfl rfl
theorem s55_25 (ht : tg a = 5) : Runs 55 25 ls (.ref a :: st) (n, tg, ln, I, J, O) Q ↔ Runs 55 28 ls (zrf (O a 1) :: st) (n, tg, ln, I, J, O) Q := R_getr rfl rfl rfl rfl ht
theorem s55_28 : Runs 55 28 [x0, x1, some (.int i)] st h Q ↔ Runs 55 29 [x0, x1, some (.int i)] (.int i :: st) h Q := R_ildn rfl rfl
theorem s55_29 (ht : tg a = 20) : Runs 55 29 ls (.int i :: .ref a :: st) (n, tg, ln, I, J, O) Q ↔ ((0 ≤ i ∧ i < Int32.ofNat (ln a)) ∧ Runs 55 30 ls (.int (I a i) :: st) (n, tg, ln, I, J, O) Q) := R_iald rfl ht
theorem s55_30 : Runs 55 30 ls st h Q ↔ Runs 55 34 ls st h Q := R_goto rfl rfl
theorem s55_33 : Runs 55 33 ls st h Q ↔ Runs 55 34 ls (.int (-1) :: st) h Q := R_iconst rfl rfl
theorem s55_34 : Runs 55 34 ls [.int i] h Q ↔ Q (some (.int i)) h := R_iret rfl rfl
theorem s56_0 : Runs 56 0 [x0, some (.ref a), x2, x3] st h Q ↔ Runs 56 1 [x0, some (.ref a), x2, x3] (.ref a :: st) h Q := R_aldn rfl rfl
theorem s56_0q : Runs 56 0 [x0, some (zrf r), x2, x3] st h Q ↔ Runs 56 1 [x0, some (zrf r), x2, x3] (zrf r :: st) h Q := R_aldnq rfl rfl
theorem s56_1 (ht : tg a = 4) : Runs 56 1 ls (.ref a :: st) (n, tg, ln, I, J, O) Q ↔ Runs 56 4 ls (.int (I a 1) :: st) (n, tg, ln, I, J, O) Q := R_geti rfl rfl rfl rfl ht
theorem s56_4 : Runs 56 4 ls (.int i :: st) h Q ↔ if i ≤ 0 then Runs 56 27 ls st h Q else Runs 56 7 ls st h Q := R_ifle rfl rfl
theorem s56_7 : Runs 56 7 [x0, some (.ref a), x2, x3] st h Q ↔ Runs 56 8 [x0, some (.ref a), x2, x3] (.ref a :: st) h Q := R_aldn rfl rfl
theorem s56_7q : Runs 56 7 [x0, some (zrf r), x2, x3] st h Q ↔ Runs 56 8 [x0, some (zrf r), x2, x3] (zrf r :: st) h Q := R_aldnq rfl rfl
theorem s56_8 (ht : tg a = 4) : Runs 56 8 ls (.ref a :: st) (n, tg, ln, I, J, O) Q ↔ Runs 56 11 ls (zrf (O a 0) :: st) (n, tg, ln, I, J, O) Q := R_getr rfl rfl rfl rfl ht
theorem s56_11 : Runs 56 11 ls st h Q ↔ Runs 56 12 ls (.int 0 :: st) h Q := R_iconst rfl rfl
theorem s56_12 (ht : tg a = 20) : Runs 56 12 ls (.int i :: .ref a :: st) (n, tg, ln, I, J, O) Q ↔ ((0 ≤ i ∧ i < Int32.ofNat (ln a)) ∧ Runs 56 13 ls (.int (I a i) :: st) (n, tg, ln, I, J, O) Q) := R_iald rfl ht
theorem s56_13 (hs : zsumc st ≤ 8) : Runs 56 13 ls (.int i0 :: st) h Q ↔ Runs 23 0 [some (.int i0)] [] h (fun v h2 => Runs 56 16 ls (v.toList ++ st) h2 Q) := R_calls (rest := st) rfl rfl rfl (by simp) rfl rfl rfl rfl hs
theorem s56_16 : Runs 56 16 ls (.int i :: st) h Q ↔ if i = 0 then Runs 56 27 ls st h Q else Runs 56 19 ls st h Q := R_ifeq rfl rfl
theorem s56_19 : Runs 56 19 [x0, some (.ref a), x2, x3] st h Q ↔ Runs 56 20 [x0, some (.ref a), x2, x3] (.ref a :: st) h Q := R_aldn rfl rfl
theorem s56_19q : Runs 56 19 [x0, some (zrf r), x2, x3] st h Q ↔ Runs 56 20 [x0, some (zrf r), x2, x3] (zrf r :: st) h Q := R_aldnq rfl rfl
theorem s56_20 : Runs 56 20 ls st h Q ↔ Runs 56 21 ls (.int 0 :: st) h Q := R_iconst rfl rfl
theorem s56_21 (ht : tg a = 4) (hs : zsumc st ≤ 8) : Runs 56 21 ls (.int i0 :: .ref a :: st) (n, tg, ln, I, J, O) Q ↔ Runs 30 0 [some (.ref a), some (.int i0), none] [] (n, tg, ln, I, J, O) (fun v h2 => Runs 56 24 ls (v.toList ++ st) h2 Q) := R_callv (a := a) (rest := st) rfl rfl rfl rfl rfl rfl rfl ht hs
theorem s56_24 : Runs 56 24 ls st h Q ↔ Runs 56 26 ls (.int 99 :: st) h Q := R_bipush rfl (by decide)
theorem s56_26 : Runs 56 26 ls [.int i] h Q ↔ Q (some (.int i)) h := R_iret rfl rfl
theorem s56_27 : Runs 56 27 [some (.ref a), x1, x2, x3] st h Q ↔ Runs 56 28 [some (.ref a), x1, x2, x3] (.ref a :: st) h Q := R_aldn rfl rfl
theorem s56_27q : Runs 56 27 [some (zrf r), x1, x2, x3] st h Q ↔ Runs 56 28 [some (zrf r), x1, x2, x3] (zrf r :: st) h Q := R_aldnq rfl rfl
theorem s56_28 : Runs 56 28 [x0, some (.ref a), x2, x3] st h Q ↔ Runs 56 29 [x0, some (.ref a), x2, x3] (.ref a :: st) h Q := R_aldn rfl rfl
theorem s56_28q : Runs 56 28 [x0, some (zrf r), x2, x3] st h Q ↔ Runs 56 29 [x0, some (zrf r), x2, x3] (zrf r :: st) h Q := R_aldnq rfl rfl
theorem s56_29 (ht : tg a = 5) (hs : zsumc st ≤ 8) : Runs 56 29 ls (.ref b0 :: .ref a :: st) (n, tg, ln, I, J, O) Q ↔ Runs 57 0 [some (.ref a), some (.ref b0), none, none] [] (n, tg, ln, I, J, O) (fun v h2 => Runs 56 32 ls (v.toList ++ st) h2 Q) := R_callv (a := a) (rest := st) rfl rfl rfl rfl rfl rfl rfl ht hs
theorem s56_29q (ht : tg a = 5) (hs : zsumc st ≤ 8) : Runs 56 29 ls (zrf r0 :: .ref a :: st) (n, tg, ln, I, J, O) Q ↔ Runs 57 0 [some (.ref a), some (zrf r0), none, none] [] (n, tg, ln, I, J, O) (fun v h2 => Runs 56 32 ls (v.toList ++ st) h2 Q) := by cases r0 <;> exact R_callv (a := a) (rest := st) rfl rfl rfl rfl rfl rfl rfl ht hs
theorem s56_32 : Runs 56 32 [x0, x1, x2, x3] (.int i :: st) h Q ↔ Runs 56 33 [x0, zdrop x1, some (.int i), x3] st h Q := R_istn rfl rfl rfl
theorem s56_33 : Runs 56 33 [x0, x1, some (.int i), x3] st h Q ↔ Runs 56 34 [x0, x1, some (.int i), x3] (.int i :: st) h Q := R_ildn rfl rfl
theorem s56_34 : Runs 56 34 ls st h Q ↔ Runs 56 35 ls (.int (-1) :: st) h Q := R_iconst rfl rfl
theorem s56_35 : Runs 56 35 ls (.int j :: .int i :: st) h Q ↔ if ¬ i = j then Runs 56 41 ls st h Q else Runs 56 38 ls st h Q := R_icne rfl rfl
theorem s56_38 : Runs 56 38 ls st h Q ↔ Runs 56 40 ls (.int 99 :: st) h Q := R_bipush rfl (by decide)
theorem s56_40 : Runs 56 40 ls [.int i] h Q ↔ Q (some (.int i)) h := R_iret rfl rfl
theorem s56_41 : Runs 56 41 [x0, some (.ref a), x2, x3] st h Q ↔ Runs 56 42 [x0, some (.ref a), x2, x3] (.ref a :: st) h Q := R_aldn rfl rfl
theorem s56_41q : Runs 56 41 [x0, some (zrf r), x2, x3] st h Q ↔ Runs 56 42 [x0, some (zrf r), x2, x3] (zrf r :: st) h Q := R_aldnq rfl rfl
theorem s56_42 (ht : tg a = 4) : Runs 56 42 ls (.ref a :: st) (n, tg, ln, I, J, O) Q ↔ Runs 56 45 ls (zrf (O a 0) :: st) (n, tg, ln, I, J, O) Q := R_getr rfl rfl rfl rfl ht
theorem s56_45 : Runs 56 45 [x0, x1, some (.int i), x3] st h Q ↔ Runs 56 46 [x0, x1, some (.int i), x3] (.int i :: st) h Q := R_ildn rfl rfl
theorem s56_46 (ht : tg a = 20) : Runs 56 46 ls (.int i :: .ref a :: st) (n, tg, ln, I, J, O) Q ↔ ((0 ≤ i ∧ i < Int32.ofNat (ln a)) ∧ Runs 56 47 ls (.int (I a i) :: st) (n, tg, ln, I, J, O) Q) := R_iald rfl ht
theorem s56_47 : Runs 56 47 [x0, x1, x2, x3] (.int i :: st) h Q ↔ Runs 56 48 [x0, x1, zdrop x2, some (.int i)] st h Q := R_istn rfl rfl rfl
theorem s56_48 : Runs 56 48 [some (.ref a), x1, x2, x3] st h Q ↔ Runs 56 49 [some (.ref a), x1, x2, x3] (.ref a :: st) h Q := R_aldn rfl rfl
theorem s56_48q : Runs 56 48 [some (zrf r), x1, x2, x3] st h Q ↔ Runs 56 49 [some (zrf r), x1, x2, x3] (zrf r :: st) h Q := R_aldnq rfl rfl
theorem s56_49 (ht : tg a = 5) : Runs 56 49 ls (.ref a :: st) (n, tg, ln, I, J, O) Q ↔ Runs 56 52 ls (zrf (O a 2) :: st) (n, tg, ln, I, J, O) Q := R_getr rfl rfl rfl rfl ht
theorem s56_52 : Runs 56 52 [x0, x1, x2, some (.int i)] st h Q ↔ Runs 56 53 [x0, x1, x2, some (.int i)] (.int i :: st) h Q := R_ildn rfl rfl
theorem s56_53 : Runs 56 53 ls (.int i :: .ref a :: st) h Q ↔ Runs 56 54 ls (.int i :: .ref a :: .int i :: .ref a :: st) h Q := R_dup2 rfl
theorem s56_54 (ht : tg a = 20) : Runs 56 54 ls (.int i :: .ref a :: st) (n, tg, ln, I, J, O) Q ↔ ((0 ≤ i ∧ i < Int32.ofNat (ln a)) ∧ Runs 56 55 ls (.int (I a i) :: st) (n, tg, ln, I, J, O) Q) := R_iald rfl ht
theorem s56_55 : Runs 56 55 ls st h Q ↔ Runs 56 56 ls (.int 1 :: st) h Q := R_iconst rfl rfl
theorem s56_56 : Runs 56 56 ls (.int j :: .int i :: st) h Q ↔ Runs 56 57 ls (.int (i + j) :: st) h Q := R_iadd rfl
theorem s56_57 (ht : tg a = 20) : Runs 56 57 ls (.int j :: .int i :: .ref a :: st) (n, tg, ln, I, J, O) Q ↔ ((0 ≤ i ∧ i < Int32.ofNat (ln a)) ∧ Runs 56 58 ls st (n, tg, ln, zu I a i j, J, O) Q) := R_iast rfl ht
theorem s56_58 : Runs 56 58 [some (.ref a), x1, x2, x3] st h Q ↔ Runs 56 59 [some (.ref a), x1, x2, x3] (.ref a :: st) h Q := R_aldn rfl rfl
theorem s56_58q : Runs 56 58 [some (zrf r), x1, x2, x3] st h Q ↔ Runs 56 59 [some (zrf r), x1, x2, x3] (zrf r :: st) h Q := R_aldnq rfl rfl
theorem s56_59 (ht : tg a = 5) : Runs 56 59 ls (.ref a :: st) (n, tg, ln, I, J, O) Q ↔ Runs 56 62 ls (zrf (O a 2) :: st) (n, tg, ln, I, J, O) Q := R_getr rfl rfl rfl rfl ht
theorem s56_62 : Runs 56 62 [x0, x1, x2, some (.int i)] st h Q ↔ Runs 56 63 [x0, x1, x2, some (.int i)] (.int i :: st) h Q := R_ildn rfl rfl
theorem s56_63 (ht : tg a = 20) : Runs 56 63 ls (.int i :: .ref a :: st) (n, tg, ln, I, J, O) Q ↔ ((0 ≤ i ∧ i < Int32.ofNat (ln a)) ∧ Runs 56 64 ls (.int (I a i) :: st) (n, tg, ln, I, J, O) Q) := R_iald rfl ht
theorem s56_64 : Runs 56 64 [some (.ref a), x1, x2, x3] st h Q ↔ Runs 56 65 [some (.ref a), x1, x2, x3] (.ref a :: st) h Q := R_aldn rfl rfl
theorem s56_64q : Runs 56 64 [some (zrf r), x1, x2, x3] st h Q ↔ Runs 56 65 [some (zrf r), x1, x2, x3] (zrf r :: st) h Q := R_aldnq rfl rfl
theorem s56_65 (ht : tg a = 5) : Runs 56 65 ls (.ref a :: st) (n, tg, ln, I, J, O) Q ↔ Runs 56 68 ls (zrf (O a 0) :: st) (n, tg, ln, I, J, O) Q := R_getr rfl rfl rfl rfl ht
theorem s56_68 : Runs 56 68 [x0, x1, x2, some (.int i)] st h Q ↔ Runs 56 69 [x0, x1, x2, some (.int i)] (.int i :: st) h Q := R_ildn rfl rfl
theorem s56_69 (ht : tg a = 20) : Runs 56 69 ls (.int i :: .ref a :: st) (n, tg, ln, I, J, O) Q ↔ ((0 ≤ i ∧ i < Int32.ofNat (ln a)) ∧ Runs 56 70 ls (.int (I a i) :: st) (n, tg, ln, I, J, O) Q) := R_iald rfl ht
theorem s56_70 (hs : zsumc st ≤ 8) : Runs 56 70 ls (.int i0 :: st) h Q ↔ Runs 17 0 [some (.int i0)] [] h (fun v h2 => Runs 56 73 ls (v.toList ++ st) h2 Q) := R_calls (rest := st) rfl rfl rfl (by simp) rfl rfl rfl rfl hs
theorem s56_73 : Runs 56 73 ls (.int j :: .int i :: st) h Q ↔ if j ≤ i then Runs 56 79 ls st h Q else Runs 56 76 ls st h Q := R_icge rfl rfl
theorem s56_76 : Runs 56 76 ls st h Q ↔ Runs 56 78 ls (.int 99 :: st) h Q := R_bipush rfl (by decide)
theorem s56_78 : Runs 56 78 ls [.int i] h Q ↔ Q (some (.int i)) h := R_iret rfl rfl
theorem s56_79 : Runs 56 79 [x0, some (.ref a), x2, x3] st h Q ↔ Runs 56 80 [x0, some (.ref a), x2, x3] (.ref a :: st) h Q := R_aldn rfl rfl
theorem s56_79q : Runs 56 79 [x0, some (zrf r), x2, x3] st h Q ↔ Runs 56 80 [x0, some (zrf r), x2, x3] (zrf r :: st) h Q := R_aldnq rfl rfl
theorem s56_80 : Runs 56 80 [x0, x1, some (.int i), x3] st h Q ↔ Runs 56 81 [x0, x1, some (.int i), x3] (.int i :: st) h Q := R_ildn rfl rfl
theorem s56_81 (ht : tg a = 4) (hs : zsumc st ≤ 8) : Runs 56 81 ls (.int i0 :: .ref a :: st) (n, tg, ln, I, J, O) Q ↔ Runs 30 0 [some (.ref a), some (.int i0), none] [] (n, tg, ln, I, J, O) (fun v h2 => Runs 56 84 ls (v.toList ++ st) h2 Q) := R_callv (a := a) (rest := st) rfl rfl rfl rfl rfl rfl rfl ht hs
theorem s56_84 : Runs 56 84 [some (.ref a), x1, x2, x3] st h Q ↔ Runs 56 85 [some (.ref a), x1, x2, x3] (.ref a :: st) h Q := R_aldn rfl rfl
theorem s56_84q : Runs 56 84 [some (zrf r), x1, x2, x3] st h Q ↔ Runs 56 85 [some (zrf r), x1, x2, x3] (zrf r :: st) h Q := R_aldnq rfl rfl
theorem s56_85 (ht : tg a = 5) : Runs 56 85 ls (.ref a :: st) (n, tg, ln, I, J, O) Q ↔ Runs 56 88 ls (zrf (O a 3) :: st) (n, tg, ln, I, J, O) Q := R_getr rfl rfl rfl rfl ht
theorem s56_88 : Runs 56 88 [x0, x1, x2, some (.int i)] st h Q ↔ Runs 56 89 [x0, x1, x2, some (.int i)] (.int i :: st) h Q := R_ildn rfl rfl
theorem s56_89 : Runs 56 89 ls st h Q ↔ Runs 56 90 ls (.int 1 :: st) h Q := R_iconst rfl rfl
theorem s56_90 (ht : tg a = 20) : Runs 56 90 ls (.int j :: .int i :: .ref a :: st) (n, tg, ln, I, J, O) Q ↔ ((0 ≤ i ∧ i < Int32.ofNat (ln a)) ∧ Runs 56 91 ls st (n, tg, ln, zu I a i j, J, O) Q) := R_iast rfl ht
theorem s56_91 : Runs 56 91 [x0, x1, x2, some (.int i)] st h Q ↔ Runs 56 92 [x0, x1, x2, some (.int i)] (.int i :: st) h Q := R_ildn rfl rfl
theorem s56_92 : Runs 56 92 ls [.int i] h Q ↔ Q (some (.int i)) h := R_iret rfl rfl
theorem s57_0 : Runs 57 0 ls st h Q ↔ Runs 57 1 ls (.int 0 :: st) h Q := R_iconst rfl rfl
theorem s57_1 : Runs 57 1 [x0, x1, x2, x3] (.int i :: st) h Q ↔ Runs 57 2 [x0, zdrop x1, some (.int i), x3] st h Q := R_istn rfl rfl rfl
theorem s57_2 : Runs 57 2 [x0, x1, some (.int i), x3] st h Q ↔ Runs 57 3 [x0, x1, some (.int i), x3] (.int i :: st) h Q := R_ildn rfl rfl
theorem s57_3 : Runs 57 3 [x0, some (.ref a), x2, x3] st h Q ↔ Runs 57 4 [x0, some (.ref a), x2, x3] (.ref a :: st) h Q := R_aldn rfl rfl
theorem s57_3q : Runs 57 3 [x0, some (zrf r), x2, x3] st h Q ↔ Runs 57 4 [x0, some (zrf r), x2, x3] (zrf r :: st) h Q := R_aldnq rfl rfl
theorem s57_4 (ht : tg a = 4) : Runs 57 4 ls (.ref a :: st) (n, tg, ln, I, J, O) Q ↔ Runs 57 7 ls (.int (I a 1) :: st) (n, tg, ln, I, J, O) Q := R_geti rfl rfl rfl rfl ht
theorem s57_7 : Runs 57 7 ls (.int j :: .int i :: st) h Q ↔ if j ≤ i then Runs 57 47 ls st h Q else Runs 57 10 ls st h Q := R_icge rfl rfl
theorem s57_10 : Runs 57 10 [x0, some (.ref a), x2, x3] st h Q ↔ Runs 57 11 [x0, some (.ref a), x2, x3] (.ref a :: st) h Q := R_aldn rfl rfl
theorem s57_10q : Runs 57 10 [x0, some (zrf r), x2, x3] st h Q ↔ Runs 57 11 [x0, some (zrf r), x2, x3] (zrf r :: st) h Q := R_aldnq rfl rfl
theorem s57_11 (ht : tg a = 4) : Runs 57 11 ls (.ref a :: st) (n, tg, ln, I, J, O) Q ↔ Runs 57 14 ls (zrf (O a 0) :: st) (n, tg, ln, I, J, O) Q := R_getr rfl rfl rfl rfl ht
theorem s57_14 : Runs 57 14 [x0, x1, some (.int i), x3] st h Q ↔ Runs 57 15 [x0, x1, some (.int i), x3] (.int i :: st) h Q := R_ildn rfl rfl
theorem s57_15 (ht : tg a = 20) : Runs 57 15 ls (.int i :: .ref a :: st) (n, tg, ln, I, J, O) Q ↔ ((0 ≤ i ∧ i < Int32.ofNat (ln a)) ∧ Runs 57 16 ls (.int (I a i) :: st) (n, tg, ln, I, J, O) Q) := R_iald rfl ht
theorem s57_16 : Runs 57 16 [x0, x1, x2, x3] (.int i :: st) h Q ↔ Runs 57 17 [x0, x1, zdrop x2, some (.int i)] st h Q := R_istn rfl rfl rfl
theorem s57_17 : Runs 57 17 [some (.ref a), x1, x2, x3] st h Q ↔ Runs 57 18 [some (.ref a), x1, x2, x3] (.ref a :: st) h Q := R_aldn rfl rfl
theorem s57_17q : Runs 57 17 [some (zrf r), x1, x2, x3] st h Q ↔ Runs 57 18 [some (zrf r), x1, x2, x3] (zrf r :: st) h Q := R_aldnq rfl rfl
theorem s57_18 : Runs 57 18 [x0, x1, x2, some (.int i)] st h Q ↔ Runs 57 19 [x0, x1, x2, some (.int i)] (.int i :: st) h Q := R_ildn rfl rfl
theorem s57_19 (ht : tg a = 5) (hs : zsumc st ≤ 8) : Runs 57 19 ls (.int i0 :: .ref a :: st) (n, tg, ln, I, J, O) Q ↔ Runs 39 0 [some (.ref a), some (.int i0)] [] (n, tg, ln, I, J, O) (fun v h2 => Runs 57 22 ls (v.toList ++ st) h2 Q) := R_callv (a := a) (rest := st) rfl rfl rfl rfl rfl rfl rfl ht hs
theorem s57_22 : Runs 57 22 ls (.int i :: st) h Q ↔ if ¬ i = 0 then Runs 57 27 ls st h Q else Runs 57 25 ls st h Q := R_ifne rfl rfl
theorem s57_25 : Runs 57 25 ls st h Q ↔ Runs 57 26 ls (.int (-1) :: st) h Q := R_iconst rfl rfl
theorem s57_26 : Runs 57 26 ls [.int i] h Q ↔ Q (some (.int i)) h := R_iret rfl rfl
theorem s57_27 : Runs 57 27 [some (.ref a), x1, x2, x3] st h Q ↔ Runs 57 28 [some (.ref a), x1, x2, x3] (.ref a :: st) h Q := R_aldn rfl rfl
theorem s57_27q : Runs 57 27 [some (zrf r), x1, x2, x3] st h Q ↔ Runs 57 28 [some (zrf r), x1, x2, x3] (zrf r :: st) h Q := R_aldnq rfl rfl
theorem s57_28 (ht : tg a = 5) : Runs 57 28 ls (.ref a :: st) (n, tg, ln, I, J, O) Q ↔ Runs 57 31 ls (zrf (O a 0) :: st) (n, tg, ln, I, J, O) Q := R_getr rfl rfl rfl rfl ht
theorem s57_31 : Runs 57 31 [x0, x1, x2, some (.int i)] st h Q ↔ Runs 57 32 [x0, x1, x2, some (.int i)] (.int i :: st) h Q := R_ildn rfl rfl
theorem s57_32 (ht : tg a = 20) : Runs 57 32 ls (.int i :: .ref a :: st) (n, tg, ln, I, J, O) Q ↔ ((0 ≤ i ∧ i < Int32.ofNat (ln a)) ∧ Runs 57 33 ls (.int (I a i) :: st) (n, tg, ln, I, J, O) Q) := R_iald rfl ht
theorem s57_33 (hs : zsumc st ≤ 8) : Runs 57 33 ls (.int i0 :: st) h Q ↔ Runs 17 0 [some (.int i0)] [] h (fun v h2 => Runs 57 36 ls (v.toList ++ st) h2 Q) := R_calls (rest := st) rfl rfl rfl (by simp) rfl rfl rfl rfl hs
theorem s57_36 : Runs 57 36 ls (.int i :: st) h Q ↔ if i ≤ 0 then Runs 57 41 ls st h Q else Runs 57 39 ls st h Q := R_ifle rfl rfl
theorem s57_39 : Runs 57 39 [x0, x1, some (.int i), x3] st h Q ↔ Runs 57 40 [x0, x1, some (.int i), x3] (.int i :: st) h Q := R_ildn rfl rfl
theorem s57_40 : Runs 57 40 ls [.int i] h Q ↔ Q (some (.int i)) h := R_iret rfl rfl
theorem s57_41 : Runs 57 41 [x0, x1, some (.int i), x3] st h Q ↔ Runs 57 44 [x0, zdrop x1, some (.int (i + 1)), x3] st h Q := R_iinc rfl rfl rfl rfl rfl
theorem s57_44 : Runs 57 44 ls st h Q ↔ Runs 57 2 ls st h Q := R_goto rfl rfl
theorem s57_47 : Runs 57 47 ls st h Q ↔ Runs 57 48 ls (.int (-1) :: st) h Q := R_iconst rfl rfl
theorem s57_48 : Runs 57 48 ls [.int i] h Q ↔ Q (some (.int i)) h := R_iret rfl rfl
end ZROWS
