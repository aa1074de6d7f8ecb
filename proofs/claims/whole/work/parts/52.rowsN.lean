section ZROWS
variable {ls : List (Option Value)} {st : List Value} {h : ZH} {Q : Option Value → ZH → Prop} {n : Nat} {tg ln : Nat → Nat} {I : Nat → Int32 → Int32} {J : Nat → Int32 → Int64} {O : Nat → Int32 → Option Nat} {i j i0 i1 i2 i3 i4 : Int32} {u w u0 u1 u2 u3 : Int64} {a b b0 b1 b2 : Nat} {r r0 r1 r2 : Option Nat}
variable {x0 x1 x2 x3 x4 x5 x6 x7 x8 x9 x10 x11 x12 x13 x14 x15 x16 x17 x18 x19 : Option Value}
theorem s129_0 : Runs 129 0 [x0, some (.int i)] st h Q ↔ Runs 129 1 [x0, some (.int i)] (.int i :: st) h Q := R_ildn rfl rfl
theorem s129_1 : Runs 129 1 ls (.int i :: st) h Q ↔ Runs 129 2 ls (.long i.toInt64 :: st) h Q := R_i2l rfl
theorem s129_2 : Runs 129 2 ls st h Q ↔ Runs 129 3 ls (.long 0 :: st) h Q := R_lconst rfl rfl
theorem s129_3 : Runs 129 3 ls st h Q ↔ Runs 129 6 ls (.long 255 :: st) h Q := R_ldc2 rfl rfl
theorem s129_6 (hs : zsumc st ≤ 8) : Runs 129 6 ls (.long u2 :: .long u1 :: .long u0 :: st) h Q ↔ Runs 126 0 [some (.long u0), none, some (.long u1), none, some (.long u2), none] [] h (fun v h2 => Runs 129 9 ls (v.toList ++ st) h2 Q) := R_calls (rest := st) rfl rfl rfl (by simp) rfl rfl rfl rfl hs
theorem s129_9 : Runs 129 9 ls (.int i :: st) h Q ↔ if ¬ i = 0 then Runs 129 15 ls st h Q else Runs 129 12 ls st h Q := R_ifne rfl rfl
theorem s129_12 : Runs 129 12 ls st h Q ↔ Runs 129 14 ls (.int (-3) :: st) h Q := R_bipush rfl (by decide)
theorem s129_14 : Runs 129 14 ls [.int i] h Q ↔ Q (some (.int i)) h := R_iret rfl rfl
theorem s129_15 : Runs 129 15 [some (.ref a), x1] st h Q ↔ Runs 129 16 [some (.ref a), x1] (.ref a :: st) h Q := R_aldn rfl rfl
theorem s129_15q : Runs 129 15 [some (zrf r), x1] st h Q ↔ Runs 129 16 [some (zrf r), x1] (zrf r :: st) h Q := R_aldnq rfl rfl
theorem s129_16 (ht : tg a = 10) : Runs 129 16 ls (.ref a :: st) (n, tg, ln, I, J, O) Q ↔ Runs 129 19 ls (.int (I a 4) :: st) (n, tg, ln, I, J, O) Q := R_geti rfl rfl rfl rfl ht
theorem s129_19 : Runs 129 19 ls st h Q ↔ Runs 129 22 ls (.int 200 :: st) h Q := R_sipush rfl (by decide)
theorem s129_22 : Runs 129 22 ls (.int j :: .int i :: st) h Q ↔ if ¬ i = j then Runs 129 28 ls st h Q else Runs 129 25 ls st h Q := R_icne rfl rfl
theorem s129_25 : Runs 129 25 ls st h Q ↔ Runs 129 27 ls (.int (-5) :: st) h Q := R_bipush rfl (by decide)
theorem s129_27 : Runs 129 27 ls [.int i] h Q ↔ Q (some (.int i)) h := R_iret rfl rfl
theorem s129_28 : Runs 129 28 [some (.ref a), x1] st h Q ↔ Runs 129 29 [some (.ref a), x1] (.ref a :: st) h Q := R_aldn rfl rfl
theorem s129_28q : Runs 129 28 [some (zrf r), x1] st h Q ↔ Runs 129 29 [some (zrf r), x1] (zrf r :: st) h Q := R_aldnq rfl rfl
theorem s129_29 (ht : tg a = 10) : Runs 129 29 ls (.ref a :: st) (n, tg, ln, I, J, O) Q ↔ Runs 129 32 ls (zrf (O a 3) :: st) (n, tg, ln, I, J, O) Q := R_getr rfl rfl rfl rfl ht
theorem s129_32 : Runs 129 32 [some (.ref a), x1] st h Q ↔ Runs 129 33 [some (.ref a), x1] (.ref a :: st) h Q := R_aldn rfl rfl
theorem s129_32q : Runs 129 32 [some (zrf r), x1] st h Q ↔ Runs 129 33 [some (zrf r), x1] (zrf r :: st) h Q := R_aldnq rfl rfl
theorem s129_33 (ht : tg a = 10) : Runs 129 33 ls (.ref a :: st) (n, tg, ln, I, J, O) Q ↔ Runs 129 36 ls (.int (I a 4) :: st) (n, tg, ln, I, J, O) Q := R_geti rfl rfl rfl rfl ht
theorem s129_36 : Runs 129 36 [x0, some (.int i)] st h Q ↔ Runs 129 37 [x0, some (.int i)] (.int i :: st) h Q := R_ildn rfl rfl
theorem s129_37 (ht : tg a = 20) : Runs 129 37 ls (.int j :: .int i :: .ref a :: st) (n, tg, ln, I, J, O) Q ↔ ((0 ≤ i ∧ i < Int32.ofNat (ln a)) ∧ Runs 129 38 ls st (n, tg, ln, zu I a i j, J, O) Q) := R_iast rfl ht
theorem s129_38 : Runs 129 38 [some (.ref a), x1] st h Q ↔ Runs 129 39 [some (.ref a), x1] (.ref a :: st) h Q := R_aldn rfl rfl
theorem s129_38q : Runs 129 38 [some (zrf r), x1] st h Q ↔ Runs 129 39 [some (zrf r), x1] (zrf r :: st) h Q := R_aldnq rfl rfl
theorem s129_39 : Runs 129 39 ls (.int i :: st) h Q ↔ Runs 129 40 ls (.int i :: .int i :: st) h Q := R_dupi rfl
theorem s129_39q : Runs 129 39 ls (.ref a :: st) h Q ↔ Runs 129 40 ls (.ref a :: .ref a :: st) h Q := R_dupr rfl
theorem s129_40 (ht : tg a = 10) : Runs 129 40 ls (.ref a :: st) (n, tg, ln, I, J, O) Q ↔ Runs 129 43 ls (.int (I a 4) :: st) (n, tg, ln, I, J, O) Q := R_geti rfl rfl rfl rfl ht
theorem s129_43 : Runs 129 43 ls st h Q ↔ Runs 129 44 ls (.int 1 :: st) h Q := R_iconst rfl rfl
theorem s129_44 : Runs 129 44 ls (.int j :: .int i :: st) h Q ↔ Runs 129 45 ls (.int (i + j) :: st) h Q := R_iadd rfl
theorem s129_45 (ht : tg a = 10) : Runs 129 45 ls (.int i :: .ref a :: st) (n, tg, ln, I, J, O) Q ↔ Runs 129 48 ls st (n, tg, ln, zu I a 4 i, J, O) Q := R_puti rfl rfl rfl rfl rfl rfl ht
theorem s129_48 : Runs 129 48 [some (.ref a), x1] st h Q ↔ Runs 129 49 [some (.ref a), x1] (.ref a :: st) h Q := R_aldn rfl rfl
theorem s129_48q : Runs 129 48 [some (zrf r), x1] st h Q ↔ Runs 129 49 [some (zrf r), x1] (zrf r :: st) h Q := R_aldnq rfl rfl
theorem s129_49 (ht : tg a = 10) : Runs 129 49 ls (.ref a :: st) (n, tg, ln, I, J, O) Q ↔ Runs 129 52 ls (.int (I a 4) :: st) (n, tg, ln, I, J, O) Q := R_geti rfl rfl rfl rfl ht
theorem s129_52 : Runs 129 52 ls [.int i] h Q ↔ Q (some (.int i)) h := R_iret rfl rfl
theorem s130_0 : Runs 130 0 [some (.ref a), x1] st h Q ↔ Runs 130 1 [some (.ref a), x1] (.ref a :: st) h Q := R_aldn rfl rfl
theorem s130_0q : Runs 130 0 [some (zrf r), x1] st h Q ↔ Runs 130 1 [some (zrf r), x1] (zrf r :: st) h Q := R_aldnq rfl rfl
theorem s130_1 (ht : tg a = 10) : Runs 130 1 ls (.ref a :: st) (n, tg, ln, I, J, O) Q ↔ Runs 130 4 ls (.int (I a 4) :: st) (n, tg, ln, I, J, O) Q := R_geti rfl rfl rfl rfl ht
theorem s130_4 : Runs 130 4 [x0, x1] (.int i :: st) h Q ↔ Runs 130 5 [zdrop x0, some (.int i)] st h Q := R_istn rfl rfl rfl
theorem s130_5 : Runs 130 5 [some (.ref a), x1] st h Q ↔ Runs 130 6 [some (.ref a), x1] (.ref a :: st) h Q := R_aldn rfl rfl
theorem s130_5q : Runs 130 5 [some (zrf r), x1] st h Q ↔ Runs 130 6 [some (zrf r), x1] (zrf r :: st) h Q := R_aldnq rfl rfl
theorem s130_6 : Runs 130 6 ls st h Q ↔ Runs 130 7 ls (.int 0 :: st) h Q := R_iconst rfl rfl
theorem s130_7 (ht : tg a = 10) : Runs 130 7 ls (.int i :: .ref a :: st) (n, tg, ln, I, J, O) Q ↔ Runs 130 10 ls st (n, tg, ln, zu I a 4 i, J, O) Q := R_puti rfl rfl rfl rfl rfl rfl ht
theorem s130_10 : Runs 130 10 [x0, some (.int i)] st h Q ↔ Runs 130 11 [x0, some (.int i)] (.int i :: st) h Q := R_ildn rfl rfl
theorem s130_11 : Runs 130 11 ls [.int i] h Q ↔ Q (some (.int i)) h := R_iret rfl rfl
theorem s131_0 : Runs 131 0 [some (.int i)] st h Q ↔ Runs 131 1 [some (.int i)] (.int i :: st) h Q := R_ildn rfl rfl
theorem s131_1 : Runs 131 1 ls (.int i :: st) h Q ↔ Runs 131 2 ls (.long i.toInt64 :: st) h Q := R_i2l rfl
theorem s131_2 : Runs 131 2 ls st h Q ↔ Runs 131 5 ls (.long 97 :: st) h Q := R_ldc2 rfl rfl
theorem s131_5 : Runs 131 5 ls st h Q ↔ Runs 131 8 ls (.long 122 :: st) h Q := R_ldc2 rfl rfl
theorem s131_8 (hs : zsumc st ≤ 8) : Runs 131 8 ls (.long u2 :: .long u1 :: .long u0 :: st) h Q ↔ Runs 126 0 [some (.long u0), none, some (.long u1), none, some (.long u2), none] [] h (fun v h2 => Runs 131 11 ls (v.toList ++ st) h2 Q) := R_calls (rest := st) rfl rfl rfl (by simp) rfl rfl rfl rfl hs
theorem s131_11 (hx : i = 0 ∨ i = 1) : Runs 131 11 ls [.int i] h Q ↔ Q (some (.int i)) h := R_zret rfl rfl hx
theorem s132_0 : Runs 132 0 [some (.int i)] st h Q ↔ Runs 132 1 [some (.int i)] (.int i :: st) h Q := R_ildn rfl rfl
theorem s132_1 : Runs 132 1 ls (.int i :: st) h Q ↔ Runs 132 2 ls (.long i.toInt64 :: st) h Q := R_i2l rfl
theorem s132_2 : Runs 132 2 ls st h Q ↔ Runs 132 5 ls (.long 48 :: st) h Q := R_ldc2 rfl rfl
theorem s132_5 : Runs 132 5 ls st h Q ↔ Runs 132 8 ls (.long 57 :: st) h Q := R_ldc2 rfl rfl
theorem s132_8 (hs : zsumc st ≤ 8) : Runs 132 8 ls (.long u2 :: .long u1 :: .long u0 :: st) h Q ↔ Runs 126 0 [some (.long u0), none, some (.long u1), none, some (.long u2), none] [] h (fun v h2 => Runs 132 11 ls (v.toList ++ st) h2 Q) := R_calls (rest := st) rfl rfl rfl (by simp) rfl rfl rfl rfl hs
theorem s132_11 (hx : i = 0 ∨ i = 1) : Runs 132 11 ls [.int i] h Q ↔ Q (some (.int i)) h := R_zret rfl rfl hx
theorem s133_0 : Runs 133 0 [some (.ref a)] st h Q ↔ Runs 133 1 [some (.ref a)] (.ref a :: st) h Q := R_aldn rfl rfl
theorem s133_0q : Runs 133 0 [some (zrf r)] st h Q ↔ Runs 133 1 [some (zrf r)] (zrf r :: st) h Q := R_aldnq rfl rfl
theorem s133_1 : Runs 133 1 [some (.ref a)] st h Q ↔ Runs 133 2 [some (.ref a)] (.ref a :: st) h Q := R_aldn rfl rfl
theorem s133_1q : Runs 133 1 [some (zrf r)] st h Q ↔ Runs 133 2 [some (zrf r)] (zrf r :: st) h Q := R_aldnq rfl rfl
theorem s133_2 (ht : tg a = 10) : Runs 133 2 ls (.ref a :: st) (n, tg, ln, I, J, O) Q ↔ Runs 133 5 ls (.int (I a 13) :: st) (n, tg, ln, I, J, O) Q := R_geti rfl rfl rfl rfl ht
theorem s133_5 (ht : tg a = 10) : Runs 133 5 ls (.int i :: .ref a :: st) (n, tg, ln, I, J, O) Q ↔ Runs 133 8 ls st (n, tg, ln, zu I a 12 i, J, O) Q := R_puti rfl rfl rfl rfl rfl rfl ht
theorem s133_8 : Runs 133 8 [some (.ref a)] st h Q ↔ Runs 133 9 [some (.ref a)] (.ref a :: st) h Q := R_aldn rfl rfl
theorem s133_8q : Runs 133 8 [some (zrf r)] st h Q ↔ Runs 133 9 [some (zrf r)] (zrf r :: st) h Q := R_aldnq rfl rfl
theorem s133_9 (ht : tg a = 10) : Runs 133 9 ls (.ref a :: st) (n, tg, ln, I, J, O) Q ↔ Runs 133 12 ls (.int (I a 12) :: st) (n, tg, ln, I, J, O) Q := R_geti rfl rfl rfl rfl ht
theorem s133_12 : Runs 133 12 [some (.ref a)] st h Q ↔ Runs 133 13 [some (.ref a)] (.ref a :: st) h Q := R_aldn rfl rfl
theorem s133_12q : Runs 133 12 [some (zrf r)] st h Q ↔ Runs 133 13 [some (zrf r)] (zrf r :: st) h Q := R_aldnq rfl rfl
theorem s133_13 (ht : tg a = 10) : Runs 133 13 ls (.ref a :: st) (n, tg, ln, I, J, O) Q ↔ Runs 133 16 ls (.int (I a 4) :: st) (n, tg, ln, I, J, O) Q := R_geti rfl rfl rfl rfl ht
theorem s133_16 : Runs 133 16 ls (.int j :: .int i :: st) h Q ↔ if j ≤ i then Runs 133 46 ls st h Q else Runs 133 19 ls st h Q := R_icge rfl rfl
theorem s133_19 : Runs 133 19 [some (.ref a)] st h Q ↔ Runs 133 20 [some (.ref a)] (.ref a :: st) h Q := R_aldn rfl rfl
theorem s133_19q : Runs 133 19 [some (zrf r)] st h Q ↔ Runs 133 20 [some (zrf r)] (zrf r :: st) h Q := R_aldnq rfl rfl
theorem s133_20 (ht : tg a = 10) : Runs 133 20 ls (.ref a :: st) (n, tg, ln, I, J, O) Q ↔ Runs 133 23 ls (zrf (O a 3) :: st) (n, tg, ln, I, J, O) Q := R_getr rfl rfl rfl rfl ht
theorem s133_23 : Runs 133 23 [some (.ref a)] st h Q ↔ Runs 133 24 [some (.ref a)] (.ref a :: st) h Q := R_aldn rfl rfl
theorem s133_23q : Runs 133 23 [some (zrf r)] st h Q ↔ Runs 133 24 [some (zrf r)] (zrf r :: st) h Q := R_aldnq rfl rfl
theorem s133_24 (ht : tg a = 10) : Runs 133 24 ls (.ref a :: st) (n, tg, ln, I, J, O) Q ↔ Runs 133 27 ls (.int (I a 12) :: st) (n, tg, ln, I, J, O) Q := R_geti rfl rfl rfl rfl ht
theorem s133_27 (ht : tg a = 20) : Runs 133 27 ls (.int i :: .ref a :: st) (n, tg, ln, I, J, O) Q ↔ ((0 ≤ i ∧ i < Int32.ofNat (ln a)) ∧ Runs 133 28 ls (.int (I a i) :: st) (n, tg, ln, I, J, O) Q) := R_iald rfl ht
theorem s133_28 : Runs 133 28 ls st h Q ↔ Runs 133 30 ls (.int 32 :: st) h Q := R_bipush rfl (by decide)
theorem s133_30 : Runs 133 30 ls (.int j :: .int i :: st) h Q ↔ if ¬ i = j then Runs 133 46 ls st h Q else Runs 133 33 ls st h Q := R_icne rfl rfl
theorem s133_33 : Runs 133 33 [some (.ref a)] st h Q ↔ Runs 133 34 [some (.ref a)] (.ref a :: st) h Q := R_aldn rfl rfl
theorem s133_33q : Runs 133 33 [some (zrf r)] st h Q ↔ Runs 133 34 [some (zrf r)] (zrf r :: st) h Q := R_aldnq rfl rfl
theorem s133_34 : Runs 133 34 ls (.int i :: st) h Q ↔ Runs 133 35 ls (.int i :: .int i :: st) h Q := R_dupi rfl
theorem s133_34q : Runs 133 34 ls (.ref a :: st) h Q ↔ Runs 133 35 ls (.ref a :: .ref a :: st) h Q := R_dupr rfl
theorem s133_35 (ht : tg a = 10) : Runs 133 35 ls (.ref a :: st) (n, tg, ln, I, J, O) Q ↔ Runs 133 38 ls (.int (I a 12) :: st) (n, tg, ln, I, J, O) Q := R_geti rfl rfl rfl rfl ht
theorem s133_38 : Runs 133 38 ls st h Q ↔ Runs 133 39 ls (.int 1 :: st) h Q := R_iconst rfl rfl
theorem s133_39 : Runs 133 39 ls (.int j :: .int i :: st) h Q ↔ Runs 133 40 ls (.int (i + j) :: st) h Q := R_iadd rfl
theorem s133_40 (ht : tg a = 10) : Runs 133 40 ls (.int i :: .ref a :: st) (n, tg, ln, I, J, O) Q ↔ Runs 133 43 ls st (n, tg, ln, zu I a 12 i, J, O) Q := R_puti rfl rfl rfl rfl rfl rfl ht
theorem s133_43 : Runs 133 43 ls st h Q ↔ Runs 133 8 ls st h Q := R_goto rfl rfl
theorem s133_46 : Runs 133 46 [some (.ref a)] st h Q ↔ Runs 133 47 [some (.ref a)] (.ref a :: st) h Q := R_aldn rfl rfl
theorem s133_46q : Runs 133 46 [some (zrf r)] st h Q ↔ Runs 133 47 [some (zrf r)] (zrf r :: st) h Q := R_aldnq rfl rfl
theorem s133_47 : Runs 133 47 [some (.ref a)] st h Q ↔ Runs 133 48 [some (.ref a)] (.ref a :: st) h Q := R_aldn rfl rfl
theorem s133_47q : Runs 133 47 [some (zrf r)] st h Q ↔ Runs 133 48 [some (zrf r)] (zrf r :: st) h Q := R_aldnq rfl rfl
theorem s133_48 (ht : tg a = 10) : Runs 133 48 ls (.ref a :: st) (n, tg, ln, I, J, O) Q ↔ Runs 133 51 ls (.int (I a 12) :: st) (n, tg, ln, I, J, O) Q := R_geti rfl rfl rfl rfl ht
theorem s133_51 : Runs 133 51 [some (.ref a)] st h Q ↔ Runs 133 52 [some (.ref a)] (.ref a :: st) h Q := R_aldn rfl rfl
theorem s133_51q : Runs 133 51 [some (zrf r)] st h Q ↔ Runs 133 52 [some (zrf r)] (zrf r :: st) h Q := R_aldnq rfl rfl
theorem s133_52 (ht : tg a = 10) : Runs 133 52 ls (.ref a :: st) (n, tg, ln, I, J, O) Q ↔ Runs 133 55 ls (.int (I a 4) :: st) (n, tg, ln, I, J, O) Q := R_geti rfl rfl rfl rfl ht
theorem s133_55 : Runs 133 55 ls (.int j :: .int i :: st) h Q ↔ if j ≤ i then Runs 133 67 ls st h Q else Runs 133 58 ls st h Q := R_icge rfl rfl
theorem s133_58 : Runs 133 58 [some (.ref a)] st h Q ↔ Runs 133 59 [some (.ref a)] (.ref a :: st) h Q := R_aldn rfl rfl
theorem s133_58q : Runs 133 58 [some (zrf r)] st h Q ↔ Runs 133 59 [some (zrf r)] (zrf r :: st) h Q := R_aldnq rfl rfl
theorem s133_59 (ht : tg a = 10) : Runs 133 59 ls (.ref a :: st) (n, tg, ln, I, J, O) Q ↔ Runs 133 62 ls (.int (I a 12) :: st) (n, tg, ln, I, J, O) Q := R_geti rfl rfl rfl rfl ht
theorem s133_62 : Runs 133 62 ls st h Q ↔ Runs 133 63 ls (.int 1 :: st) h Q := R_iconst rfl rfl
theorem s133_63 : Runs 133 63 ls (.int j :: .int i :: st) h Q ↔ Runs 133 64 ls (.int (i + j) :: st) h Q := R_iadd rfl
theorem s133_64 : Runs 133 64 ls st h Q ↔ Runs 133 71 ls st h Q := R_goto rfl rfl
theorem s133_67 : Runs 133 67 [some (.ref a)] st h Q ↔ Runs 133 68 [some (.ref a)] (.ref a :: st) h Q := R_aldn rfl rfl
theorem s133_67q : Runs 133 67 [some (zrf r)] st h Q ↔ Runs 133 68 [some (zrf r)] (zrf r :: st) h Q := R_aldnq rfl rfl
theorem s133_68 (ht : tg a = 10) : Runs 133 68 ls (.ref a :: st) (n, tg, ln, I, J, O) Q ↔ Runs 133 71 ls (.int (I a 12) :: st) (n, tg, ln, I, J, O) Q := R_geti rfl rfl rfl rfl ht
theorem s133_71 (ht : tg a = 10) : Runs 133 71 ls (.int i :: .ref a :: st) (n, tg, ln, I, J, O) Q ↔ Runs 133 74 ls st (n, tg, ln, zu I a 13 i, J, O) Q := R_puti rfl rfl rfl rfl rfl rfl ht
theorem s133_74 : Runs 133 74 [some (.ref a)] st h Q ↔ Runs 133 75 [some (.ref a)] (.ref a :: st) h Q := R_aldn rfl rfl
theorem s133_74q : Runs 133 74 [some (zrf r)] st h Q ↔ Runs 133 75 [some (zrf r)] (zrf r :: st) h Q := R_aldnq rfl rfl
theorem s133_75 (ht : tg a = 10) : Runs 133 75 ls (.ref a :: st) (n, tg, ln, I, J, O) Q ↔ Runs 133 78 ls (.int (I a 12) :: st) (n, tg, ln, I, J, O) Q := R_geti rfl rfl rfl rfl ht
theorem s133_78 : Runs 133 78 [some (.ref a)] st h Q ↔ Runs 133 79 [some (.ref a)] (.ref a :: st) h Q := R_aldn rfl rfl
theorem s133_78q : Runs 133 78 [some (zrf r)] st h Q ↔ Runs 133 79 [some (zrf r)] (zrf r :: st) h Q := R_aldnq rfl rfl
theorem s133_79 (ht : tg a = 10) : Runs 133 79 ls (.ref a :: st) (n, tg, ln, I, J, O) Q ↔ Runs 133 82 ls (.int (I a 4) :: st) (n, tg, ln, I, J, O) Q := R_geti rfl rfl rfl rfl ht
theorem s133_82 : Runs 133 82 ls (.int j :: .int i :: st) h Q ↔ if j ≤ i then Runs 133 139 ls st h Q else Runs 133 85 ls st h Q := R_icge rfl rfl
theorem s133_85 : Runs 133 85 [some (.ref a)] st h Q ↔ Runs 133 86 [some (.ref a)] (.ref a :: st) h Q := R_aldn rfl rfl
theorem s133_85q : Runs 133 85 [some (zrf r)] st h Q ↔ Runs 133 86 [some (zrf r)] (zrf r :: st) h Q := R_aldnq rfl rfl
theorem s133_86 (ht : tg a = 10) : Runs 133 86 ls (.ref a :: st) (n, tg, ln, I, J, O) Q ↔ Runs 133 89 ls (zrf (O a 3) :: st) (n, tg, ln, I, J, O) Q := R_getr rfl rfl rfl rfl ht
theorem s133_89 : Runs 133 89 [some (.ref a)] st h Q ↔ Runs 133 90 [some (.ref a)] (.ref a :: st) h Q := R_aldn rfl rfl
theorem s133_89q : Runs 133 89 [some (zrf r)] st h Q ↔ Runs 133 90 [some (zrf r)] (zrf r :: st) h Q := R_aldnq rfl rfl
theorem s133_90 (ht : tg a = 10) : Runs 133 90 ls (.ref a :: st) (n, tg, ln, I, J, O) Q ↔ Runs 133 93 ls (.int (I a 12) :: st) (n, tg, ln, I, J, O) Q := R_geti rfl rfl rfl rfl ht
theorem s133_93 (ht : tg a = 20) : Runs 133 93 ls (.int i :: .ref a :: st) (n, tg, ln, I, J, O) Q ↔ ((0 ≤ i ∧ i < Int32.ofNat (ln a)) ∧ Runs 133 94 ls (.int (I a i) :: st) (n, tg, ln, I, J, O) Q) := R_iald rfl ht
theorem s133_94 (hs : zsumc st ≤ 8) : Runs 133 94 ls (.int i0 :: st) h Q ↔ Runs 131 0 [some (.int i0)] [] h (fun v h2 => Runs 133 97 ls (v.toList ++ st) h2 Q) := R_calls (rest := st) rfl rfl rfl (by simp) rfl rfl rfl rfl hs
theorem s133_97 : Runs 133 97 ls (.int i :: st) h Q ↔ if i = 0 then Runs 133 139 ls st h Q else Runs 133 100 ls st h Q := R_ifeq rfl rfl
theorem s133_100 : Runs 133 100 [some (.ref a)] st h Q ↔ Runs 133 101 [some (.ref a)] (.ref a :: st) h Q := R_aldn rfl rfl
theorem s133_100q : Runs 133 100 [some (zrf r)] st h Q ↔ Runs 133 101 [some (zrf r)] (zrf r :: st) h Q := R_aldnq rfl rfl
theorem s133_101 (ht : tg a = 10) : Runs 133 101 ls (.ref a :: st) (n, tg, ln, I, J, O) Q ↔ Runs 133 104 ls (.int (I a 13) :: st) (n, tg, ln, I, J, O) Q := R_geti rfl rfl rfl rfl ht
theorem s133_104 : Runs 133 104 [some (.ref a)] st h Q ↔ Runs 133 105 [some (.ref a)] (.ref a :: st) h Q := R_aldn rfl rfl
theorem s133_104q : Runs 133 104 [some (zrf r)] st h Q ↔ Runs 133 105 [some (zrf r)] (zrf r :: st) h Q := R_aldnq rfl rfl
theorem s133_105 (ht : tg a = 10) : Runs 133 105 ls (.ref a :: st) (n, tg, ln, I, J, O) Q ↔ Runs 133 108 ls (.int (I a 4) :: st) (n, tg, ln, I, J, O) Q := R_geti rfl rfl rfl rfl ht
theorem s133_108 : Runs 133 108 ls (.int j :: .int i :: st) h Q ↔ if j ≤ i then Runs 133 204 ls st h Q else Runs 133 111 ls st h Q := R_icge rfl rfl
theorem s133_111 : Runs 133 111 [some (.ref a)] st h Q ↔ Runs 133 112 [some (.ref a)] (.ref a :: st) h Q := R_aldn rfl rfl
theorem s133_111q : Runs 133 111 [some (zrf r)] st h Q ↔ Runs 133 112 [some (zrf r)] (zrf r :: st) h Q := R_aldnq rfl rfl
theorem s133_112 (ht : tg a = 10) : Runs 133 112 ls (.ref a :: st) (n, tg, ln, I, J, O) Q ↔ Runs 133 115 ls (zrf (O a 3) :: st) (n, tg, ln, I, J, O) Q := R_getr rfl rfl rfl rfl ht
theorem s133_115 : Runs 133 115 [some (.ref a)] st h Q ↔ Runs 133 116 [some (.ref a)] (.ref a :: st) h Q := R_aldn rfl rfl
theorem s133_115q : Runs 133 115 [some (zrf r)] st h Q ↔ Runs 133 116 [some (zrf r)] (zrf r :: st) h Q := R_aldnq rfl rfl
theorem s133_116 (ht : tg a = 10) : Runs 133 116 ls (.ref a :: st) (n, tg, ln, I, J, O) Q ↔ Runs 133 119 ls (.int (I a 13) :: st) (n, tg, ln, I, J, O) Q := R_geti rfl rfl rfl rfl ht
theorem s133_119 (ht : tg a = 20) : Runs 133 119 ls (.int i :: .ref a :: st) (n, tg, ln, I, J, O) Q ↔ ((0 ≤ i ∧ i < Int32.ofNat (ln a)) ∧ Runs 133 120 ls (.int (I a i) :: st) (n, tg, ln, I, J, O) Q) := R_iald rfl ht
theorem s133_120 (hs : zsumc st ≤ 8) : Runs 133 120 ls (.int i0 :: st) h Q ↔ Runs 131 0 [some (.int i0)] [] h (fun v h2 => Runs 133 123 ls (v.toList ++ st) h2 Q) := R_calls (rest := st) rfl rfl rfl (by simp) rfl rfl rfl rfl hs
theorem s133_123 : Runs 133 123 ls (.int i :: st) h Q ↔ if i = 0 then Runs 133 204 ls st h Q else Runs 133 126 ls st h Q := R_ifeq rfl rfl
theorem s133_126 : Runs 133 126 [some (.ref a)] st h Q ↔ Runs 133 127 [some (.ref a)] (.ref a :: st) h Q := R_aldn rfl rfl
theorem s133_126q : Runs 133 126 [some (zrf r)] st h Q ↔ Runs 133 127 [some (zrf r)] (zrf r :: st) h Q := R_aldnq rfl rfl
theorem s133_127 : Runs 133 127 ls (.int i :: st) h Q ↔ Runs 133 128 ls (.int i :: .int i :: st) h Q := R_dupi rfl
theorem s133_127q : Runs 133 127 ls (.ref a :: st) h Q ↔ Runs 133 128 ls (.ref a :: .ref a :: st) h Q := R_dupr rfl
theorem s133_128 (ht : tg a = 10) : Runs 133 128 ls (.ref a :: st) (n, tg, ln, I, J, O) Q ↔ Runs 133 131 ls (.int (I a 13) :: st) (n, tg, ln, I, J, O) Q := R_geti rfl rfl rfl rfl ht
theorem s133_131 : Runs 133 131 ls st h Q ↔ Runs 133 132 ls (.int 1 :: st) h Q := R_iconst rfl rfl
theorem s133_132 : Runs 133 132 ls (.int j :: .int i :: st) h Q ↔ Runs 133 133 ls (.int (i + j) :: st) h Q := R_iadd rfl
theorem s133_133 (ht : tg a = 10) : Runs 133 133 ls (.int i :: .ref a :: st) (n, tg, ln, I, J, O) Q ↔ Runs 133 136 ls st (n, tg, ln, zu I a 13 i, J, O) Q := R_puti rfl rfl rfl rfl rfl rfl ht
theorem s133_136 : Runs 133 136 ls st h Q ↔ Runs 133 100 ls st h Q := R_goto rfl rfl
theorem s133_139 : Runs 133 139 [some (.ref a)] st h Q ↔ Runs 133 140 [some (.ref a)] (.ref a :: st) h Q := R_aldn rfl rfl
theorem s133_139q : Runs 133 139 [some (zrf r)] st h Q ↔ Runs 133 140 [some (zrf r)] (zrf r :: st) h Q := R_aldnq rfl rfl
theorem s133_140 (ht : tg a = 10) : Runs 133 140 ls (.ref a :: st) (n, tg, ln, I, J, O) Q ↔ Runs 133 143 ls (.int (I a 12) :: st) (n, tg, ln, I, J, O) Q := R_geti rfl rfl rfl rfl ht
theorem s133_143 : Runs 133 143 [some (.ref a)] st h Q ↔ Runs 133 144 [some (.ref a)] (.ref a :: st) h Q := R_aldn rfl rfl
theorem s133_143q : Runs 133 143 [some (zrf r)] st h Q ↔ Runs 133 144 [some (zrf r)] (zrf r :: st) h Q := R_aldnq rfl rfl
theorem s133_144 (ht : tg a = 10) : Runs 133 144 ls (.ref a :: st) (n, tg, ln, I, J, O) Q ↔ Runs 133 147 ls (.int (I a 4) :: st) (n, tg, ln, I, J, O) Q := R_geti rfl rfl rfl rfl ht
theorem s133_147 : Runs 133 147 ls (.int j :: .int i :: st) h Q ↔ if j ≤ i then Runs 133 204 ls st h Q else Runs 133 150 ls st h Q := R_icge rfl rfl
theorem s133_150 : Runs 133 150 [some (.ref a)] st h Q ↔ Runs 133 151 [some (.ref a)] (.ref a :: st) h Q := R_aldn rfl rfl
theorem s133_150q : Runs 133 150 [some (zrf r)] st h Q ↔ Runs 133 151 [some (zrf r)] (zrf r :: st) h Q := R_aldnq rfl rfl
theorem s133_151 (ht : tg a = 10) : Runs 133 151 ls (.ref a :: st) (n, tg, ln, I, J, O) Q ↔ Runs 133 154 ls (zrf (O a 3) :: st) (n, tg, ln, I, J, O) Q := R_getr rfl rfl rfl rfl ht
theorem s133_154 : Runs 133 154 [some (.ref a)] st h Q ↔ Runs 133 155 [some (.ref a)] (.ref a :: st) h Q := R_aldn rfl rfl
theorem s133_154q : Runs 133 154 [some (zrf r)] st h Q ↔ Runs 133 155 [some (zrf r)] (zrf r :: st) h Q := R_aldnq rfl rfl
theorem s133_155 (ht : tg a = 10) : Runs 133 155 ls (.ref a :: st) (n, tg, ln, I, J, O) Q ↔ Runs 133 158 ls (.int (I a 12) :: st) (n, tg, ln, I, J, O) Q := R_geti rfl rfl rfl rfl ht
theorem s133_158 (ht : tg a = 20) : Runs 133 158 ls (.int i :: .ref a :: st) (n, tg, ln, I, J, O) Q ↔ ((0 ≤ i ∧ i < Int32.ofNat (ln a)) ∧ Runs 133 159 ls (.int (I a i) :: st) (n, tg, ln, I, J, O) Q) := R_iald rfl ht
theorem s133_159 (hs : zsumc st ≤ 8) : Runs 133 159 ls (.int i0 :: st) h Q ↔ Runs 132 0 [some (.int i0)] [] h (fun v h2 => Runs 133 162 ls (v.toList ++ st) h2 Q) := R_calls (rest := st) rfl rfl rfl (by simp) rfl rfl rfl rfl hs
theorem s133_162 : Runs 133 162 ls (.int i :: st) h Q ↔ if i = 0 then Runs 133 204 ls st h Q else Runs 133 165 ls st h Q := R_ifeq rfl rfl
theorem s133_165 : Runs 133 165 [some (.ref a)] st h Q ↔ Runs 133 166 [some (.ref a)] (.ref a :: st) h Q := R_aldn rfl rfl
theorem s133_165q : Runs 133 165 [some (zrf r)] st h Q ↔ Runs 133 166 [some (zrf r)] (zrf r :: st) h Q := R_aldnq rfl rfl
theorem s133_166 (ht : tg a = 10) : Runs 133 166 ls (.ref a :: st) (n, tg, ln, I, J, O) Q ↔ Runs 133 169 ls (.int (I a 13) :: st) (n, tg, ln, I, J, O) Q := R_geti rfl rfl rfl rfl ht
theorem s133_169 : Runs 133 169 [some (.ref a)] st h Q ↔ Runs 133 170 [some (.ref a)] (.ref a :: st) h Q := R_aldn rfl rfl
theorem s133_169q : Runs 133 169 [some (zrf r)] st h Q ↔ Runs 133 170 [some (zrf r)] (zrf r :: st) h Q := R_aldnq rfl rfl
theorem s133_170 (ht : tg a = 10) : Runs 133 170 ls (.ref a :: st) (n, tg, ln, I, J, O) Q ↔ Runs 133 173 ls (.int (I a 4) :: st) (n, tg, ln, I, J, O) Q := R_geti rfl rfl rfl rfl ht
theorem s133_173 : Runs 133 173 ls (.int j :: .int i :: st) h Q ↔ if j ≤ i then Runs 133 204 ls st h Q else Runs 133 176 ls st h Q := R_icge rfl rfl
theorem s133_176 : Runs 133 176 [some (.ref a)] st h Q ↔ Runs 133 177 [some (.ref a)] (.ref a :: st) h Q := R_aldn rfl rfl
theorem s133_176q : Runs 133 176 [some (zrf r)] st h Q ↔ Runs 133 177 [some (zrf r)] (zrf r :: st) h Q := R_aldnq rfl rfl
theorem s133_177 (ht : tg a = 10) : Runs 133 177 ls (.ref a :: st) (n, tg, ln, I, J, O) Q ↔ Runs 133 180 ls (zrf (O a 3) :: st) (n, tg, ln, I, J, O) Q := R_getr rfl rfl rfl rfl ht
theorem s133_180 : Runs 133 180 [some (.ref a)] st h Q ↔ Runs 133 181 [some (.ref a)] (.ref a :: st) h Q := R_aldn rfl rfl
theorem s133_180q : Runs 133 180 [some (zrf r)] st h Q ↔ Runs 133 181 [some (zrf r)] (zrf r :: st) h Q := R_aldnq rfl rfl
theorem s133_181 (ht : tg a = 10) : Runs 133 181 ls (.ref a :: st) (n, tg, ln, I, J, O) Q ↔ Runs 133 184 ls (.int (I a 13) :: st) (n, tg, ln, I, J, O) Q := R_geti rfl rfl rfl rfl ht
theorem s133_184 (ht : tg a = 20) : Runs 133 184 ls (.int i :: .ref a :: st) (n, tg, ln, I, J, O) Q ↔ ((0 ≤ i ∧ i < Int32.ofNat (ln a)) ∧ Runs 133 185 ls (.int (I a i) :: st) (n, tg, ln, I, J, O) Q) := R_iald rfl ht
theorem s133_185 (hs : zsumc st ≤ 8) : Runs 133 185 ls (.int i0 :: st) h Q ↔ Runs 132 0 [some (.int i0)] [] h (fun v h2 => Runs 133 188 ls (v.toList ++ st) h2 Q) := R_calls (rest := st) rfl rfl rfl (by simp) rfl rfl rfl rfl hs
theorem s133_188 : Runs 133 188 ls (.int i :: st) h Q ↔ if i = 0 then Runs 133 204 ls st h Q else Runs 133 191 ls st h Q := R_ifeq rfl rfl
theorem s133_191 : Runs 133 191 [some (.ref a)] st h Q ↔ Runs 133 192 [some (.ref a)] (.ref a :: st) h Q := R_aldn rfl rfl
theorem s133_191q : Runs 133 191 [some (zrf r)] st h Q ↔ Runs 133 192 [some (zrf r)] (zrf r :: st) h Q := R_aldnq rfl rfl
theorem s133_192 : Runs 133 192 ls (.int i :: st) h Q ↔ Runs 133 193 ls (.int i :: .int i :: st) h Q := R_dupi rfl
theorem s133_192q : Runs 133 192 ls (.ref a :: st) h Q ↔ Runs 133 193 ls (.ref a :: .ref a :: st) h Q := R_dupr rfl
theorem s133_193 (ht : tg a = 10) : Runs 133 193 ls (.ref a :: st) (n, tg, ln, I, J, O) Q ↔ Runs 133 196 ls (.int (I a 13) :: st) (n, tg, ln, I, J, O) Q := R_geti rfl rfl rfl rfl ht
theorem s133_196 : Runs 133 196 ls st h Q ↔ Runs 133 197 ls (.int 1 :: st) h Q := R_iconst rfl rfl
theorem s133_197 : Runs 133 197 ls (.int j :: .int i :: st) h Q ↔ Runs 133 198 ls (.int (i + j) :: st) h Q := R_iadd rfl
theorem s133_198 (ht : tg a = 10) : Runs 133 198 ls (.int i :: .ref a :: st) (n, tg, ln, I, J, O) Q ↔ Runs 133 201 ls st (n, tg, ln, zu I a 13 i, J, O) Q := R_puti rfl rfl rfl rfl rfl rfl ht
theorem s133_201 : Runs 133 201 ls st h Q ↔ Runs 133 165 ls st h Q := R_goto rfl rfl
theorem s133_204 : Runs 133 204 ls [] h Q ↔ Q none h := R_vret rfl rfl
theorem s134_0 : Runs 134 0 [some (.ref a), x1, x2, x3] st h Q ↔ Runs 134 1 [some (.ref a), x1, x2, x3] (.ref a :: st) h Q := R_aldn rfl rfl
theorem s134_0q : Runs 134 0 [some (zrf r), x1, x2, x3] st h Q ↔ Runs 134 1 [some (zrf r), x1, x2, x3] (zrf r :: st) h Q := R_aldnq rfl rfl
theorem s134_1 (ht : tg a = 10) : Runs 134 1 ls (.ref a :: st) (n, tg, ln, I, J, O) Q ↔ Runs 134 4 ls (.int (I a 13) :: st) (n, tg, ln, I, J, O) Q := R_geti rfl rfl rfl rfl ht
theorem s134_4 : Runs 134 4 [some (.ref a), x1, x2, x3] st h Q ↔ Runs 134 5 [some (.ref a), x1, x2, x3] (.ref a :: st) h Q := R_aldn rfl rfl
theorem s134_4q : Runs 134 4 [some (zrf r), x1, x2, x3] st h Q ↔ Runs 134 5 [some (zrf r), x1, x2, x3] (zrf r :: st) h Q := R_aldnq rfl rfl
theorem s134_5 (ht : tg a = 10) : Runs 134 5 ls (.ref a :: st) (n, tg, ln, I, J, O) Q ↔ Runs 134 8 ls (.int (I a 12) :: st) (n, tg, ln, I, J, O) Q := R_geti rfl rfl rfl rfl ht
theorem s134_8 : Runs 134 8 ls (.int j :: .int i :: st) h Q ↔ Runs 134 9 ls (.int (i - j) :: st) h Q := R_isub rfl
theorem s134_9 : Runs 134 9 [x0, some (.ref a), x2, x3] st h Q ↔ Runs 134 10 [x0, some (.ref a), x2, x3] (.ref a :: st) h Q := R_aldn rfl rfl
theorem s134_9q : Runs 134 9 [x0, some (zrf r), x2, x3] st h Q ↔ Runs 134 10 [x0, some (zrf r), x2, x3] (zrf r :: st) h Q := R_aldnq rfl rfl
theorem s134_10 (ht : tg a = 20 ∨ tg a = 30) : Runs 134 10 ls (.ref a :: st) (n, tg, ln, I, J, O) Q ↔ Runs 134 11 ls (.int (Int32.ofNat (ln a)) :: st) (n, tg, ln, I, J, O) Q := R_alen rfl ht
theorem s134_11 : Runs 134 11 ls (.int j :: .int i :: st) h Q ↔ if ¬ i = j then Runs 134 18 ls st h Q else Runs 134 14 ls st h Q := R_icne rfl rfl
theorem s134_14 : Runs 134 14 ls st h Q ↔ Runs 134 15 ls (.int 1 :: st) h Q := R_iconst rfl rfl
theorem s134_15 : Runs 134 15 ls st h Q ↔ Runs 134 19 ls st h Q := R_goto rfl rfl
theorem s134_18 : Runs 134 18 ls st h Q ↔ Runs 134 19 ls (.int 0 :: st) h Q := R_iconst rfl rfl
theorem s134_19 : Runs 134 19 [x0, x1, x2, x3] (.int i :: st) h Q ↔ Runs 134 20 [x0, zdrop x1, some (.int i), x3] st h Q := R_istn rfl rfl rfl
theorem s134_20 : Runs 134 20 ls st h Q ↔ Runs 134 21 ls (.int 0 :: st) h Q := R_iconst rfl rfl
theorem s134_21 : Runs 134 21 [x0, x1, x2, x3] (.int i :: st) h Q ↔ Runs 134 22 [x0, x1, zdrop x2, some (.int i)] st h Q := R_istn rfl rfl rfl
theorem s134_22 : Runs 134 22 [x0, x1, x2, some (.int i)] st h Q ↔ Runs 134 23 [x0, x1, x2, some (.int i)] (.int i :: st) h Q := R_ildn rfl rfl
theorem s134_23 : Runs 134 23 [x0, some (.ref a), x2, x3] st h Q ↔ Runs 134 24 [x0, some (.ref a), x2, x3] (.ref a :: st) h Q := R_aldn rfl rfl
theorem s134_23q : Runs 134 23 [x0, some (zrf r), x2, x3] st h Q ↔ Runs 134 24 [x0, some (zrf r), x2, x3] (zrf r :: st) h Q := R_aldnq rfl rfl
theorem s134_24 (ht : tg a = 20 ∨ tg a = 30) : Runs 134 24 ls (.ref a :: st) (n, tg, ln, I, J, O) Q ↔ Runs 134 25 ls (.int (Int32.ofNat (ln a)) :: st) (n, tg, ln, I, J, O) Q := R_alen rfl ht
theorem s134_25 : Runs 134 25 ls (.int j :: .int i :: st) h Q ↔ if j ≤ i then Runs 134 61 ls st h Q else Runs 134 28 ls st h Q := R_icge rfl rfl
theorem s134_28 : Runs 134 28 [x0, x1, some (.int i), x3] st h Q ↔ Runs 134 29 [x0, x1, some (.int i), x3] (.int i :: st) h Q := R_ildn rfl rfl
theorem s134_29 : Runs 134 29 ls (.int i :: st) h Q ↔ if i = 0 then Runs 134 61 ls st h Q else Runs 134 32 ls st h Q := R_ifeq rfl rfl
theorem s134_32 : Runs 134 32 [some (.ref a), x1, x2, x3] st h Q ↔ Runs 134 33 [some (.ref a), x1, x2, x3] (.ref a :: st) h Q := R_aldn rfl rfl
theorem s134_32q : Runs 134 32 [some (zrf r), x1, x2, x3] st h Q ↔ Runs 134 33 [some (zrf r), x1, x2, x3] (zrf r :: st) h Q := R_aldnq rfl rfl
theorem s134_33 (ht : tg a = 10) : Runs 134 33 ls (.ref a :: st) (n, tg, ln, I, J, O) Q ↔ Runs 134 36 ls (zrf (O a 3) :: st) (n, tg, ln, I, J, O) Q := R_getr rfl rfl rfl rfl ht
theorem s134_36 : Runs 134 36 [some (.ref a), x1, x2, x3] st h Q ↔ Runs 134 37 [some (.ref a), x1, x2, x3] (.ref a :: st) h Q := R_aldn rfl rfl
theorem s134_36q : Runs 134 36 [some (zrf r), x1, x2, x3] st h Q ↔ Runs 134 37 [some (zrf r), x1, x2, x3] (zrf r :: st) h Q := R_aldnq rfl rfl
theorem s134_37 (ht : tg a = 10) : Runs 134 37 ls (.ref a :: st) (n, tg, ln, I, J, O) Q ↔ Runs 134 40 ls (.int (I a 12) :: st) (n, tg, ln, I, J, O) Q := R_geti rfl rfl rfl rfl ht
theorem s134_40 : Runs 134 40 [x0, x1, x2, some (.int i)] st h Q ↔ Runs 134 41 [x0, x1, x2, some (.int i)] (.int i :: st) h Q := R_ildn rfl rfl
theorem s134_41 : Runs 134 41 ls (.int j :: .int i :: st) h Q ↔ Runs 134 42 ls (.int (i + j) :: st) h Q := R_iadd rfl
theorem s134_42 (ht : tg a = 20) : Runs 134 42 ls (.int i :: .ref a :: st) (n, tg, ln, I, J, O) Q ↔ ((0 ≤ i ∧ i < Int32.ofNat (ln a)) ∧ Runs 134 43 ls (.int (I a i) :: st) (n, tg, ln, I, J, O) Q) := R_iald rfl ht
theorem s134_43 : Runs 134 43 [x0, some (.ref a), x2, x3] st h Q ↔ Runs 134 44 [x0, some (.ref a), x2, x3] (.ref a :: st) h Q := R_aldn rfl rfl
theorem s134_43q : Runs 134 43 [x0, some (zrf r), x2, x3] st h Q ↔ Runs 134 44 [x0, some (zrf r), x2, x3] (zrf r :: st) h Q := R_aldnq rfl rfl
theorem s134_44 : Runs 134 44 [x0, x1, x2, some (.int i)] st h Q ↔ Runs 134 45 [x0, x1, x2, some (.int i)] (.int i :: st) h Q := R_ildn rfl rfl
theorem s134_45 (ht : tg a = 20) : Runs 134 45 ls (.int i :: .ref a :: st) (n, tg, ln, I, J, O) Q ↔ ((0 ≤ i ∧ i < Int32.ofNat (ln a)) ∧ Runs 134 46 ls (.int (I a i) :: st) (n, tg, ln, I, J, O) Q) := R_iald rfl ht
theorem s134_46 : Runs 134 46 ls (.int j :: .int i :: st) h Q ↔ if ¬ i = j then Runs 134 53 ls st h Q else Runs 134 49 ls st h Q := R_icne rfl rfl
theorem s134_49 : Runs 134 49 ls st h Q ↔ Runs 134 50 ls (.int 1 :: st) h Q := R_iconst rfl rfl
theorem s134_50 : Runs 134 50 ls st h Q ↔ Runs 134 54 ls st h Q := R_goto rfl rfl
theorem s134_53 : Runs 134 53 ls st h Q ↔ Runs 134 54 ls (.int 0 :: st) h Q := R_iconst rfl rfl
theorem s134_54 : Runs 134 54 [x0, x1, x2, x3] (.int i :: st) h Q ↔ Runs 134 55 [x0, zdrop x1, some (.int i), x3] st h Q := R_istn rfl rfl rfl
theorem s134_55 : Runs 134 55 [x0, x1, x2, some (.int i)] st h Q ↔ Runs 134 58 [x0, x1, zdrop x2, some (.int (i + 1))] st h Q := R_iinc rfl rfl rfl rfl rfl
theorem s134_58 : Runs 134 58 ls st h Q ↔ Runs 134 22 ls st h Q := R_goto rfl rfl
theorem s134_61 : Runs 134 61 [x0, x1, some (.int i), x3] st h Q ↔ Runs 134 62 [x0, x1, some (.int i), x3] (.int i :: st) h Q := R_ildn rfl rfl
theorem s134_62 (hx : i = 0 ∨ i = 1) : Runs 134 62 ls [.int i] h Q ↔ Q (some (.int i)) h := R_zret rfl rfl hx
theorem s135_0 : Runs 135 0 [some (.ref a), x1, x2, x3] st h Q ↔ Runs 135 1 [some (.ref a), x1, x2, x3] (.ref a :: st) h Q := R_aldn rfl rfl
theorem s135_0q : Runs 135 0 [some (zrf r), x1, x2, x3] st h Q ↔ Runs 135 1 [some (zrf r), x1, x2, x3] (zrf r :: st) h Q := R_aldnq rfl rfl
theorem s135_1 (ht : tg a = 10) : Runs 135 1 ls (.ref a :: st) (n, tg, ln, I, J, O) Q ↔ Runs 135 4 ls (.int (I a 12) :: st) (n, tg, ln, I, J, O) Q := R_geti rfl rfl rfl rfl ht
theorem s135_4 : Runs 135 4 [some (.ref a), x1, x2, x3] st h Q ↔ Runs 135 5 [some (.ref a), x1, x2, x3] (.ref a :: st) h Q := R_aldn rfl rfl
theorem s135_4q : Runs 135 4 [some (zrf r), x1, x2, x3] st h Q ↔ Runs 135 5 [some (zrf r), x1, x2, x3] (zrf r :: st) h Q := R_aldnq rfl rfl
theorem s135_5 (ht : tg a = 10) : Runs 135 5 ls (.ref a :: st) (n, tg, ln, I, J, O) Q ↔ Runs 135 8 ls (.int (I a 4) :: st) (n, tg, ln, I, J, O) Q := R_geti rfl rfl rfl rfl ht
theorem s135_8 : Runs 135 8 ls (.int j :: .int i :: st) h Q ↔ if i = j then Runs 135 39 ls st h Q else Runs 135 11 ls st h Q := R_iceq rfl rfl
theorem s135_11 : Runs 135 11 [some (.ref a), x1, x2, x3] st h Q ↔ Runs 135 12 [some (.ref a), x1, x2, x3] (.ref a :: st) h Q := R_aldn rfl rfl
theorem s135_11q : Runs 135 11 [some (zrf r), x1, x2, x3] st h Q ↔ Runs 135 12 [some (zrf r), x1, x2, x3] (zrf r :: st) h Q := R_aldnq rfl rfl
theorem s135_12 (ht : tg a = 10) : Runs 135 12 ls (.ref a :: st) (n, tg, ln, I, J, O) Q ↔ Runs 135 15 ls (zrf (O a 3) :: st) (n, tg, ln, I, J, O) Q := R_getr rfl rfl rfl rfl ht
theorem s135_15 : Runs 135 15 [some (.ref a), x1, x2, x3] st h Q ↔ Runs 135 16 [some (.ref a), x1, x2, x3] (.ref a :: st) h Q := R_aldn rfl rfl
theorem s135_15q : Runs 135 15 [some (zrf r), x1, x2, x3] st h Q ↔ Runs 135 16 [some (zrf r), x1, x2, x3] (zrf r :: st) h Q := R_aldnq rfl rfl
theorem s135_16 (ht : tg a = 10) : Runs 135 16 ls (.ref a :: st) (n, tg, ln, I, J, O) Q ↔ Runs 135 19 ls (.int (I a 12) :: st) (n, tg, ln, I, J, O) Q := R_geti rfl rfl rfl rfl ht
theorem s135_19 (ht : tg a = 20) : Runs 135 19 ls (.int i :: .ref a :: st) (n, tg, ln, I, J, O) Q ↔ ((0 ≤ i ∧ i < Int32.ofNat (ln a)) ∧ Runs 135 20 ls (.int (I a i) :: st) (n, tg, ln, I, J, O) Q) := R_iald rfl ht
theorem s135_20 (hs : zsumc st ≤ 8) : Runs 135 20 ls (.int i0 :: st) h Q ↔ Runs 132 0 [some (.int i0)] [] h (fun v h2 => Runs 135 23 ls (v.toList ++ st) h2 Q) := R_calls (rest := st) rfl rfl rfl (by simp) rfl rfl rfl rfl hs
theorem s135_23 : Runs 135 23 ls (.int i :: st) h Q ↔ if i = 0 then Runs 135 39 ls st h Q else Runs 135 26 ls st h Q := R_ifeq rfl rfl
theorem s135_26 : Runs 135 26 [some (.ref a), x1, x2, x3] st h Q ↔ Runs 135 27 [some (.ref a), x1, x2, x3] (.ref a :: st) h Q := R_aldn rfl rfl
theorem s135_26q : Runs 135 26 [some (zrf r), x1, x2, x3] st h Q ↔ Runs 135 27 [some (zrf r), x1, x2, x3] (zrf r :: st) h Q := R_aldnq rfl rfl
theorem s135_27 (ht : tg a = 10) : Runs 135 27 ls (.ref a :: st) (n, tg, ln, I, J, O) Q ↔ Runs 135 30 ls (.int (I a 13) :: st) (n, tg, ln, I, J, O) Q := R_geti rfl rfl rfl rfl ht
theorem s135_30 : Runs 135 30 [some (.ref a), x1, x2, x3] st h Q ↔ Runs 135 31 [some (.ref a), x1, x2, x3] (.ref a :: st) h Q := R_aldn rfl rfl
theorem s135_30q : Runs 135 30 [some (zrf r), x1, x2, x3] st h Q ↔ Runs 135 31 [some (zrf r), x1, x2, x3] (zrf r :: st) h Q := R_aldnq rfl rfl
theorem s135_31 (ht : tg a = 10) : Runs 135 31 ls (.ref a :: st) (n, tg, ln, I, J, O) Q ↔ Runs 135 34 ls (.int (I a 12) :: st) (n, tg, ln, I, J, O) Q := R_geti rfl rfl rfl rfl ht
theorem s135_34 : Runs 135 34 ls (.int j :: .int i :: st) h Q ↔ Runs 135 35 ls (.int (i - j) :: st) h Q := R_isub rfl
theorem s135_35 : Runs 135 35 ls st h Q ↔ Runs 135 36 ls (.int 2 :: st) h Q := R_iconst rfl rfl
theorem s135_36 : Runs 135 36 ls (.int j :: .int i :: st) h Q ↔ if i ≤ j then Runs 135 41 ls st h Q else Runs 135 39 ls st h Q := R_icle rfl rfl
theorem s135_39 : Runs 135 39 ls st h Q ↔ Runs 135 40 ls (.int (-1) :: st) h Q := R_iconst rfl rfl
theorem s135_40 : Runs 135 40 ls [.int i] h Q ↔ Q (some (.int i)) h := R_iret rfl rfl
theorem s135_41 : Runs 135 41 ls st h Q ↔ Runs 135 42 ls (.int 0 :: st) h Q := R_iconst rfl rfl
theorem s135_42 : Runs 135 42 [x0, x1, x2, x3] (.int i :: st) h Q ↔ Runs 135 43 [x0, zdrop x1, some (.int i), x3] st h Q := R_istn rfl rfl rfl
theorem s135_43 : Runs 135 43 [some (.ref a), x1, x2, x3] st h Q ↔ Runs 135 44 [some (.ref a), x1, x2, x3] (.ref a :: st) h Q := R_aldn rfl rfl
theorem s135_43q : Runs 135 43 [some (zrf r), x1, x2, x3] st h Q ↔ Runs 135 44 [some (zrf r), x1, x2, x3] (zrf r :: st) h Q := R_aldnq rfl rfl
theorem s135_44 (ht : tg a = 10) : Runs 135 44 ls (.ref a :: st) (n, tg, ln, I, J, O) Q ↔ Runs 135 47 ls (.int (I a 12) :: st) (n, tg, ln, I, J, O) Q := R_geti rfl rfl rfl rfl ht
theorem s135_47 : Runs 135 47 [x0, x1, x2, x3] (.int i :: st) h Q ↔ Runs 135 48 [x0, x1, zdrop x2, some (.int i)] st h Q := R_istn rfl rfl rfl
theorem s135_48 : Runs 135 48 [x0, x1, x2, some (.int i)] st h Q ↔ Runs 135 49 [x0, x1, x2, some (.int i)] (.int i :: st) h Q := R_ildn rfl rfl
theorem s135_49 : Runs 135 49 [some (.ref a), x1, x2, x3] st h Q ↔ Runs 135 50 [some (.ref a), x1, x2, x3] (.ref a :: st) h Q := R_aldn rfl rfl
theorem s135_49q : Runs 135 49 [some (zrf r), x1, x2, x3] st h Q ↔ Runs 135 50 [some (zrf r), x1, x2, x3] (zrf r :: st) h Q := R_aldnq rfl rfl
theorem s135_50 (ht : tg a = 10) : Runs 135 50 ls (.ref a :: st) (n, tg, ln, I, J, O) Q ↔ Runs 135 53 ls (.int (I a 13) :: st) (n, tg, ln, I, J, O) Q := R_geti rfl rfl rfl rfl ht
theorem s135_53 : Runs 135 53 ls (.int j :: .int i :: st) h Q ↔ if j ≤ i then Runs 135 77 ls st h Q else Runs 135 56 ls st h Q := R_icge rfl rfl
theorem s135_56 : Runs 135 56 ls st h Q ↔ Runs 135 58 ls (.int 10 :: st) h Q := R_bipush rfl (by decide)
theorem s135_58 : Runs 135 58 [x0, x1, some (.int i), x3] st h Q ↔ Runs 135 59 [x0, x1, some (.int i), x3] (.int i :: st) h Q := R_ildn rfl rfl
theorem s135_59 : Runs 135 59 ls (.int j :: .int i :: st) h Q ↔ Runs 135 60 ls (.int (i * j) :: st) h Q := R_imul rfl
theorem s135_60 : Runs 135 60 [some (.ref a), x1, x2, x3] st h Q ↔ Runs 135 61 [some (.ref a), x1, x2, x3] (.ref a :: st) h Q := R_aldn rfl rfl
theorem s135_60q : Runs 135 60 [some (zrf r), x1, x2, x3] st h Q ↔ Runs 135 61 [some (zrf r), x1, x2, x3] (zrf r :: st) h Q := R_aldnq rfl rfl
theorem s135_61 (ht : tg a = 10) : Runs 135 61 ls (.ref a :: st) (n, tg, ln, I, J, O) Q ↔ Runs 135 64 ls (zrf (O a 3) :: st) (n, tg, ln, I, J, O) Q := R_getr rfl rfl rfl rfl ht
theorem s135_64 : Runs 135 64 [x0, x1, x2, some (.int i)] st h Q ↔ Runs 135 65 [x0, x1, x2, some (.int i)] (.int i :: st) h Q := R_ildn rfl rfl
theorem s135_65 (ht : tg a = 20) : Runs 135 65 ls (.int i :: .ref a :: st) (n, tg, ln, I, J, O) Q ↔ ((0 ≤ i ∧ i < Int32.ofNat (ln a)) ∧ Runs 135 66 ls (.int (I a i) :: st) (n, tg, ln, I, J, O) Q) := R_iald rfl ht
theorem s135_66 : Runs 135 66 ls (.int j :: .int i :: st) h Q ↔ Runs 135 67 ls (.int (i + j) :: st) h Q := R_iadd rfl
theorem s135_67 : Runs 135 67 ls st h Q ↔ Runs 135 69 ls (.int 48 :: st) h Q := R_bipush rfl (by decide)
theorem s135_69 : Runs 135 69 ls (.int j :: .int i :: st) h Q ↔ Runs 135 70 ls (.int (i - j) :: st) h Q := R_isub rfl
theorem s135_70 : Runs 135 70 [x0, x1, x2, x3] (.int i :: st) h Q ↔ Runs 135 71 [x0, zdrop x1, some (.int i), x3] st h Q := R_istn rfl rfl rfl
theorem s135_71 : Runs 135 71 [x0, x1, x2, some (.int i)] st h Q ↔ Runs 135 74 [x0, x1, zdrop x2, some (.int (i + 1))] st h Q := R_iinc rfl rfl rfl rfl rfl
theorem s135_74 : Runs 135 74 ls st h Q ↔ Runs 135 48 ls st h Q := R_goto rfl rfl
theorem s135_77 : Runs 135 77 [x0, x1, some (.int i), x3] st h Q ↔ Runs 135 78 [x0, x1, some (.int i), x3] (.int i :: st) h Q := R_ildn rfl rfl
theorem s135_78 : Runs 135 78 [x0, some (.int i), x2, x3] st h Q ↔ Runs 135 79 [x0, some (.int i), x2, x3] (.int i :: st) h Q := R_ildn rfl rfl
theorem s135_79 : Runs 135 79 ls (.int j :: .int i :: st) h Q ↔ if j < i then Runs 135 86 ls st h Q else Runs 135 82 ls st h Q := R_icgt rfl rfl
theorem s135_82 : Runs 135 82 [x0, x1, some (.int i), x3] st h Q ↔ Runs 135 83 [x0, x1, some (.int i), x3] (.int i :: st) h Q := R_ildn rfl rfl
theorem s135_83 : Runs 135 83 ls st h Q ↔ Runs 135 87 ls st h Q := R_goto rfl rfl
theorem s135_86 : Runs 135 86 ls st h Q ↔ Runs 135 87 ls (.int (-1) :: st) h Q := R_iconst rfl rfl
theorem s135_87 : Runs 135 87 ls [.int i] h Q ↔ Q (some (.int i)) h := R_iret rfl rfl
theorem s136_0 : Runs 136 0 [some (.ref a), x1, x2, x3] st h Q ↔ Runs 136 1 [some (.ref a), x1, x2, x3] (.ref a :: st) h Q := R_aldn rfl rfl
theorem s136_0q : Runs 136 0 [some (zrf r), x1, x2, x3] st h Q ↔ Runs 136 1 [some (zrf r), x1, x2, x3] (zrf r :: st) h Q := R_aldnq rfl rfl
theorem s136_1 : Runs 136 1 [x0, x1, some (.int i), x3] st h Q ↔ Runs 136 2 [x0, x1, some (.int i), x3] (.int i :: st) h Q := R_ildn rfl rfl
theorem s136_2 (ht : tg a = 10) (hs : zsumc st ≤ 8) : Runs 136 2 ls (.int i0 :: .ref a :: st) (n, tg, ln, I, J, O) Q ↔ Runs 135 0 [some (.ref a), some (.int i0), none, none] [] (n, tg, ln, I, J, O) (fun v h2 => Runs 136 5 ls (v.toList ++ st) h2 Q) := R_callv (a := a) (rest := st) rfl rfl rfl rfl rfl rfl rfl ht hs
theorem s136_5 : Runs 136 5 [x0, x1, x2, x3] (.int i :: st) h Q ↔ Runs 136 6 [x0, x1, zdrop x2, some (.int i)] st h Q := R_istn rfl rfl rfl
theorem s136_6 : Runs 136 6 [x0, x1, x2, some (.int i)] st h Q ↔ Runs 136 7 [x0, x1, x2, some (.int i)] (.int i :: st) h Q := R_ildn rfl rfl
theorem s136_7 : Runs 136 7 ls st h Q ↔ Runs 136 8 ls (.int (-1) :: st) h Q := R_iconst rfl rfl
theorem s136_8 : Runs 136 8 ls (.int j :: .int i :: st) h Q ↔ if ¬ i = j then Runs 136 13 ls st h Q else Runs 136 11 ls st h Q := R_icne rfl rfl
theorem s136_11 : Runs 136 11 ls st h Q ↔ Runs 136 12 ls (.int 0 :: st) h Q := R_iconst rfl rfl
theorem s136_12 (hx : i = 0 ∨ i = 1) : Runs 136 12 ls [.int i] h Q ↔ Q (some (.int i)) h := R_zret rfl rfl hx
theorem s136_13 : Runs 136 13 [some (.ref a), x1, x2, x3] st h Q ↔ Runs 136 14 [some (.ref a), x1, x2, x3] (.ref a :: st) h Q := R_aldn rfl rfl
theorem s136_13q : Runs 136 13 [some (zrf r), x1, x2, x3] st h Q ↔ Runs 136 14 [some (zrf r), x1, x2, x3] (zrf r :: st) h Q := R_aldnq rfl rfl
theorem s136_14 (ht : tg a = 10) : Runs 136 14 ls (.ref a :: st) (n, tg, ln, I, J, O) Q ↔ Runs 136 17 ls (zrf (O a 18) :: st) (n, tg, ln, I, J, O) Q := R_getr rfl rfl rfl rfl ht
theorem s136_17 : Runs 136 17 [x0, some (.int i), x2, x3] st h Q ↔ Runs 136 18 [x0, some (.int i), x2, x3] (.int i :: st) h Q := R_ildn rfl rfl
theorem s136_18 : Runs 136 18 [x0, x1, x2, some (.int i)] st h Q ↔ Runs 136 19 [x0, x1, x2, some (.int i)] (.int i :: st) h Q := R_ildn rfl rfl
theorem s136_19 (ht : tg a = 20) : Runs 136 19 ls (.int j :: .int i :: .ref a :: st) (n, tg, ln, I, J, O) Q ↔ ((0 ≤ i ∧ i < Int32.ofNat (ln a)) ∧ Runs 136 20 ls st (n, tg, ln, zu I a i j, J, O) Q) := R_iast rfl ht
theorem s136_20 : Runs 136 20 [some (.ref a), x1, x2, x3] st h Q ↔ Runs 136 21 [some (.ref a), x1, x2, x3] (.ref a :: st) h Q := R_aldn rfl rfl
theorem s136_20q : Runs 136 20 [some (zrf r), x1, x2, x3] st h Q ↔ Runs 136 21 [some (zrf r), x1, x2, x3] (zrf r :: st) h Q := R_aldnq rfl rfl
theorem s136_21 (ht : tg a = 10) (hs : zsumc st ≤ 8) : Runs 136 21 ls (.ref a :: st) (n, tg, ln, I, J, O) Q ↔ Runs 133 0 [some (.ref a)] [] (n, tg, ln, I, J, O) (fun v h2 => Runs 136 24 ls (v.toList ++ st) h2 Q) := R_callv (a := a) (rest := st) rfl rfl rfl rfl rfl rfl rfl ht hs
theorem s136_24 : Runs 136 24 ls st h Q ↔ Runs 136 25 ls (.int 1 :: st) h Q := R_iconst rfl rfl
theorem s136_25 (hx : i = 0 ∨ i = 1) : Runs 136 25 ls [.int i] h Q ↔ Q (some (.int i)) h := R_zret rfl rfl hx
theorem s137_0 : Runs 137 0 [some (.ref a), x1] st h Q ↔ Runs 137 1 [some (.ref a), x1] (.ref a :: st) h Q := R_aldn rfl rfl
theorem s137_0q : Runs 137 0 [some (zrf r), x1] st h Q ↔ Runs 137 1 [some (zrf r), x1] (zrf r :: st) h Q := R_aldnq rfl rfl
theorem s137_1 : Runs 137 1 ls st h Q ↔ Runs 137 2 ls (.int 1 :: st) h Q := R_iconst rfl rfl
theorem s137_2 (ht : tg a = 10) (hs : zsumc st ≤ 8) : Runs 137 2 ls (.int i0 :: .ref a :: st) (n, tg, ln, I, J, O) Q ↔ Runs 135 0 [some (.ref a), some (.int i0), none, none] [] (n, tg, ln, I, J, O) (fun v h2 => Runs 137 5 ls (v.toList ++ st) h2 Q) := R_callv (a := a) (rest := st) rfl rfl rfl rfl rfl rfl rfl ht hs
theorem s137_5 : Runs 137 5 [x0, x1] (.int i :: st) h Q ↔ Runs 137 6 [zdrop x0, some (.int i)] st h Q := R_istn rfl rfl rfl
theorem s137_6 : Runs 137 6 [x0, some (.int i)] st h Q ↔ Runs 137 7 [x0, some (.int i)] (.int i :: st) h Q := R_ildn rfl rfl
theorem s137_7 : Runs 137 7 ls st h Q ↔ Runs 137 8 ls (.int (-1) :: st) h Q := R_iconst rfl rfl
theorem s137_8 : Runs 137 8 ls (.int j :: .int i :: st) h Q ↔ if i = j then Runs 137 35 ls st h Q else Runs 137 11 ls st h Q := R_iceq rfl rfl
theorem s137_11 : Runs 137 11 [some (.ref a), x1] st h Q ↔ Runs 137 12 [some (.ref a), x1] (.ref a :: st) h Q := R_aldn rfl rfl
theorem s137_11q : Runs 137 11 [some (zrf r), x1] st h Q ↔ Runs 137 12 [some (zrf r), x1] (zrf r :: st) h Q := R_aldnq rfl rfl
theorem s137_12 (ht : tg a = 10) : Runs 137 12 ls (.ref a :: st) (n, tg, ln, I, J, O) Q ↔ Runs 137 15 ls (zrf (O a 15) :: st) (n, tg, ln, I, J, O) Q := R_getr rfl rfl rfl rfl ht
theorem s137_15 : Runs 137 15 [x0, some (.int i)] st h Q ↔ Runs 137 16 [x0, some (.int i)] (.int i :: st) h Q := R_ildn rfl rfl
theorem s137_16 (ht : tg a = 20) : Runs 137 16 ls (.int i :: .ref a :: st) (n, tg, ln, I, J, O) Q ↔ ((0 ≤ i ∧ i < Int32.ofNat (ln a)) ∧ Runs 137 17 ls (.int (I a i) :: st) (n, tg, ln, I, J, O) Q) := R_iald rfl ht
theorem s137_17 : Runs 137 17 ls st h Q ↔ Runs 137 19 ls (.int 12 :: st) h Q := R_bipush rfl (by decide)
theorem s137_19 : Runs 137 19 ls (.int j :: .int i :: st) h Q ↔ if j ≤ i then Runs 137 35 ls st h Q else Runs 137 22 ls st h Q := R_icge rfl rfl
theorem s137_22 : Runs 137 22 [some (.ref a), x1] st h Q ↔ Runs 137 23 [some (.ref a), x1] (.ref a :: st) h Q := R_aldn rfl rfl
theorem s137_22q : Runs 137 22 [some (zrf r), x1] st h Q ↔ Runs 137 23 [some (zrf r), x1] (zrf r :: st) h Q := R_aldnq rfl rfl
theorem s137_23 : Runs 137 23 ls st h Q ↔ Runs 137 24 ls (.int 0 :: st) h Q := R_iconst rfl rfl
theorem s137_24 : Runs 137 24 ls st h Q ↔ Runs 137 25 ls (.int 1 :: st) h Q := R_iconst rfl rfl
theorem s137_25 (ht : tg a = 10) (hs : zsumc st ≤ 8) : Runs 137 25 ls (.int i1 :: .int i0 :: .ref a :: st) (n, tg, ln, I, J, O) Q ↔ Runs 136 0 [some (.ref a), some (.int i0), some (.int i1), none] [] (n, tg, ln, I, J, O) (fun v h2 => Runs 137 28 ls (v.toList ++ st) h2 Q) := R_callv (a := a) (rest := st) rfl rfl rfl rfl rfl rfl rfl ht hs
theorem s137_28 : Runs 137 28 ls (.int i :: st) h Q ↔ if i = 0 then Runs 137 35 ls st h Q else Runs 137 31 ls st h Q := R_ifeq rfl rfl
theorem s137_31 : Runs 137 31 ls st h Q ↔ Runs 137 32 ls (.int 1 :: st) h Q := R_iconst rfl rfl
theorem s137_32 : Runs 137 32 ls st h Q ↔ Runs 137 36 ls st h Q := R_goto rfl rfl
theorem s137_35 : Runs 137 35 ls st h Q ↔ Runs 137 36 ls (.int 0 :: st) h Q := R_iconst rfl rfl
theorem s137_36 (hx : i = 0 ∨ i = 1) : Runs 137 36 ls [.int i] h Q ↔ Q (some (.int i)) h := R_zret rfl rfl hx
theorem s138_0 : Runs 138 0 [some (.ref a)] st h Q ↔ Runs 138 1 [some (.ref a)] (.ref a :: st) h Q := R_aldn rfl rfl
theorem s138_0q : Runs 138 0 [some (zrf r)] st h Q ↔ Runs 138 1 [some (zrf r)] (zrf r :: st) h Q := R_aldnq rfl rfl
theorem s138_1 : Runs 138 1 [some (.ref a)] st h Q ↔ Runs 138 2 [some (.ref a)] (.ref a :: st) h Q := R_aldn rfl rfl
theorem s138_1q : Runs 138 1 [some (zrf r)] st h Q ↔ Runs 138 2 [some (zrf r)] (zrf r :: st) h Q := R_aldnq rfl rfl
theorem s138_2 (ht : tg a = 10) : Runs 138 2 ls (.ref a :: st) (n, tg, ln, I, J, O) Q ↔ Runs 138 5 ls (zrf (O a 20) :: st) (n, tg, ln, I, J, O) Q := R_getr rfl rfl rfl rfl ht
theorem s138_5 (ht : tg a = 10) (hs : zsumc st ≤ 8) : Runs 138 5 ls (.ref b0 :: .ref a :: st) (n, tg, ln, I, J, O) Q ↔ Runs 134 0 [some (.ref a), some (.ref b0), none, none] [] (n, tg, ln, I, J, O) (fun v h2 => Runs 138 8 ls (v.toList ++ st) h2 Q) := R_callv (a := a) (rest := st) rfl rfl rfl rfl rfl rfl rfl ht hs
theorem s138_5q (ht : tg a = 10) (hs : zsumc st ≤ 8) : Runs 138 5 ls (zrf r0 :: .ref a :: st) (n, tg, ln, I, J, O) Q ↔ Runs 134 0 [some (.ref a), some (zrf r0), none, none] [] (n, tg, ln, I, J, O) (fun v h2 => Runs 138 8 ls (v.toList ++ st) h2 Q) := by cases r0 <;> exact R_callv (a := a) (rest := st) rfl rfl rfl rfl rfl rfl rfl ht hs
theorem s138_8 : Runs 138 8 ls (.int i :: st) h Q ↔ if i = 0 then Runs 138 15 ls st h Q else Runs 138 11 ls st h Q := R_ifeq rfl rfl
theorem s138_11 : Runs 138 11 ls st h Q ↔ Runs 138 12 ls (.int 0 :: st) h Q := R_iconst rfl rfl
theorem s138_12 : Runs 138 12 ls st h Q ↔ Runs 138 61 ls st h Q := R_goto rfl rfl
theorem s138_15 : Runs 138 15 [some (.ref a)] st h Q ↔ Runs 138 16 [some (.ref a)] (.ref a :: st) h Q := R_aldn rfl rfl
theorem s138_15q : Runs 138 15 [some (zrf r)] st h Q ↔ Runs 138 16 [some (zrf r)] (zrf r :: st) h Q := R_aldnq rfl rfl
theorem s138_16 : Runs 138 16 [some (.ref a)] st h Q ↔ Runs 138 17 [some (.ref a)] (.ref a :: st) h Q := R_aldn rfl rfl
theorem s138_16q : Runs 138 16 [some (zrf r)] st h Q ↔ Runs 138 17 [some (zrf r)] (zrf r :: st) h Q := R_aldnq rfl rfl
theorem s138_17 (ht : tg a = 10) : Runs 138 17 ls (.ref a :: st) (n, tg, ln, I, J, O) Q ↔ Runs 138 20 ls (zrf (O a 21) :: st) (n, tg, ln, I, J, O) Q := R_getr rfl rfl rfl rfl ht
theorem s138_20 (ht : tg a = 10) (hs : zsumc st ≤ 8) : Runs 138 20 ls (.ref b0 :: .ref a :: st) (n, tg, ln, I, J, O) Q ↔ Runs 134 0 [some (.ref a), some (.ref b0), none, none] [] (n, tg, ln, I, J, O) (fun v h2 => Runs 138 23 ls (v.toList ++ st) h2 Q) := R_callv (a := a) (rest := st) rfl rfl rfl rfl rfl rfl rfl ht hs
theorem s138_20q (ht : tg a = 10) (hs : zsumc st ≤ 8) : Runs 138 20 ls (zrf r0 :: .ref a :: st) (n, tg, ln, I, J, O) Q ↔ Runs 134 0 [some (.ref a), some (zrf r0), none, none] [] (n, tg, ln, I, J, O) (fun v h2 => Runs 138 23 ls (v.toList ++ st) h2 Q) := by cases r0 <;> exact R_callv (a := a) (rest := st) rfl rfl rfl rfl rfl rfl rfl ht hs
theorem s138_23 : Runs 138 23 ls (.int i :: st) h Q ↔ if i = 0 then Runs 138 30 ls st h Q else Runs 138 26 ls st h Q := R_ifeq rfl rfl
theorem s138_26 : Runs 138 26 ls st h Q ↔ Runs 138 27 ls (.int 1 :: st) h Q := R_iconst rfl rfl
theorem s138_27 : Runs 138 27 ls st h Q ↔ Runs 138 61 ls st h Q := R_goto rfl rfl
theorem s138_30 : Runs 138 30 [some (.ref a)] st h Q ↔ Runs 138 31 [some (.ref a)] (.ref a :: st) h Q := R_aldn rfl rfl
theorem s138_30q : Runs 138 30 [some (zrf r)] st h Q ↔ Runs 138 31 [some (zrf r)] (zrf r :: st) h Q := R_aldnq rfl rfl
theorem s138_31 : Runs 138 31 [some (.ref a)] st h Q ↔ Runs 138 32 [some (.ref a)] (.ref a :: st) h Q := R_aldn rfl rfl
theorem s138_31q : Runs 138 31 [some (zrf r)] st h Q ↔ Runs 138 32 [some (zrf r)] (zrf r :: st) h Q := R_aldnq rfl rfl
theorem s138_32 (ht : tg a = 10) : Runs 138 32 ls (.ref a :: st) (n, tg, ln, I, J, O) Q ↔ Runs 138 35 ls (zrf (O a 22) :: st) (n, tg, ln, I, J, O) Q := R_getr rfl rfl rfl rfl ht
theorem s138_35 (ht : tg a = 10) (hs : zsumc st ≤ 8) : Runs 138 35 ls (.ref b0 :: .ref a :: st) (n, tg, ln, I, J, O) Q ↔ Runs 134 0 [some (.ref a), some (.ref b0), none, none] [] (n, tg, ln, I, J, O) (fun v h2 => Runs 138 38 ls (v.toList ++ st) h2 Q) := R_callv (a := a) (rest := st) rfl rfl rfl rfl rfl rfl rfl ht hs
theorem s138_35q (ht : tg a = 10) (hs : zsumc st ≤ 8) : Runs 138 35 ls (zrf r0 :: .ref a :: st) (n, tg, ln, I, J, O) Q ↔ Runs 134 0 [some (.ref a), some (zrf r0), none, none] [] (n, tg, ln, I, J, O) (fun v h2 => Runs 138 38 ls (v.toList ++ st) h2 Q) := by cases r0 <;> exact R_callv (a := a) (rest := st) rfl rfl rfl rfl rfl rfl rfl ht hs
theorem s138_38 : Runs 138 38 ls (.int i :: st) h Q ↔ if i = 0 then Runs 138 45 ls st h Q else Runs 138 41 ls st h Q := R_ifeq rfl rfl
theorem s138_41 : Runs 138 41 ls st h Q ↔ Runs 138 42 ls (.int 2 :: st) h Q := R_iconst rfl rfl
theorem s138_42 : Runs 138 42 ls st h Q ↔ Runs 138 61 ls st h Q := R_goto rfl rfl
theorem s138_45 : Runs 138 45 [some (.ref a)] st h Q ↔ Runs 138 46 [some (.ref a)] (.ref a :: st) h Q := R_aldn rfl rfl
theorem s138_45q : Runs 138 45 [some (zrf r)] st h Q ↔ Runs 138 46 [some (zrf r)] (zrf r :: st) h Q := R_aldnq rfl rfl
theorem s138_46 : Runs 138 46 [some (.ref a)] st h Q ↔ Runs 138 47 [some (.ref a)] (.ref a :: st) h Q := R_aldn rfl rfl
theorem s138_46q : Runs 138 46 [some (zrf r)] st h Q ↔ Runs 138 47 [some (zrf r)] (zrf r :: st) h Q := R_aldnq rfl rfl
theorem s138_47 (ht : tg a = 10) : Runs 138 47 ls (.ref a :: st) (n, tg, ln, I, J, O) Q ↔ Runs 138 50 ls (zrf (O a 23) :: st) (n, tg, ln, I, J, O) Q := R_getr rfl rfl rfl rfl ht
theorem s138_50 (ht : tg a = 10) (hs : zsumc st ≤ 8) : Runs 138 50 ls (.ref b0 :: .ref a :: st) (n, tg, ln, I, J, O) Q ↔ Runs 134 0 [some (.ref a), some (.ref b0), none, none] [] (n, tg, ln, I, J, O) (fun v h2 => Runs 138 53 ls (v.toList ++ st) h2 Q) := R_callv (a := a) (rest := st) rfl rfl rfl rfl rfl rfl rfl ht hs
theorem s138_50q (ht : tg a = 10) (hs : zsumc st ≤ 8) : Runs 138 50 ls (zrf r0 :: .ref a :: st) (n, tg, ln, I, J, O) Q ↔ Runs 134 0 [some (.ref a), some (zrf r0), none, none] [] (n, tg, ln, I, J, O) (fun v h2 => Runs 138 53 ls (v.toList ++ st) h2 Q) := by cases r0 <;> exact R_callv (a := a) (rest := st) rfl rfl rfl rfl rfl rfl rfl ht hs
theorem s138_53 : Runs 138 53 ls (.int i :: st) h Q ↔ if i = 0 then Runs 138 60 ls st h Q else Runs 138 56 ls st h Q := R_ifeq rfl rfl
theorem s138_56 : Runs 138 56 ls st h Q ↔ Runs 138 57 ls (.int 3 :: st) h Q := R_iconst rfl rfl
theorem s138_57 : Runs 138 57 ls st h Q ↔ Runs 138 61 ls st h Q := R_goto rfl rfl
theorem s138_60 : Runs 138 60 ls st h Q ↔ Runs 138 61 ls (.int (-1) :: st) h Q := R_iconst rfl rfl
theorem s138_61 : Runs 138 61 ls [.int i] h Q ↔ Q (some (.int i)) h := R_iret rfl rfl
theorem s141_0 : Runs 141 0 [some (.ref a), x1] st h Q ↔ Runs 141 1 [some (.ref a), x1] (.ref a :: st) h Q := R_aldn rfl rfl
theorem s141_0q : Runs 141 0 [some (zrf r), x1] st h Q ↔ Runs 141 1 [some (zrf r), x1] (zrf r :: st) h Q := R_aldnq rfl rfl
theorem s141_1 (ht : tg a = 10) : Runs 141 1 ls (.ref a :: st) (n, tg, ln, I, J, O) Q ↔ Runs 141 4 ls (.int (I a 14) :: st) (n, tg, ln, I, J, O) Q := R_geti rfl rfl rfl rfl ht
theorem s141_4 : Runs 141 4 ls st h Q ↔ Runs 141 6 ls (.int 12 :: st) h Q := R_bipush rfl (by decide)
theorem s141_6 : Runs 141 6 ls (.int j :: .int i :: st) h Q ↔ if ¬ i = j then Runs 141 11 ls st h Q else Runs 141 9 ls st h Q := R_icne rfl rfl
theorem s141_9 : Runs 141 9 ls st h Q ↔ Runs 141 10 ls (.int 0 :: st) h Q := R_iconst rfl rfl
theorem s141_10 (hx : i = 0 ∨ i = 1) : Runs 141 10 ls [.int i] h Q ↔ Q (some (.int i)) h := R_zret rfl rfl hx
theorem s141_11 : Runs 141 11 [some (.ref a), x1] st h Q ↔ Runs 141 12 [some (.ref a), x1] (.ref a :: st) h Q := R_aldn rfl rfl
theorem s141_11q : Runs 141 11 [some (zrf r), x1] st h Q ↔ Runs 141 12 [some (zrf r), x1] (zrf r :: st) h Q := R_aldnq rfl rfl
theorem s141_12 (ht : tg a = 10) (hs : zsumc st ≤ 8) : Runs 141 12 ls (.ref a :: st) (n, tg, ln, I, J, O) Q ↔ Runs 133 0 [some (.ref a)] [] (n, tg, ln, I, J, O) (fun v h2 => Runs 141 15 ls (v.toList ++ st) h2 Q) := R_callv (a := a) (rest := st) rfl rfl rfl rfl rfl rfl rfl ht hs
theorem s141_15 : Runs 141 15 [some (.ref a), x1] st h Q ↔ Runs 141 16 [some (.ref a), x1] (.ref a :: st) h Q := R_aldn rfl rfl
theorem s141_15q : Runs 141 15 [some (zrf r), x1] st h Q ↔ Runs 141 16 [some (zrf r), x1] (zrf r :: st) h Q := R_aldnq rfl rfl
theorem s141_16 (ht : tg a = 10) (hs : zsumc st ≤ 8) : Runs 141 16 ls (.ref a :: st) (n, tg, ln, I, J, O) Q ↔ Runs 137 0 [some (.ref a), none] [] (n, tg, ln, I, J, O) (fun v h2 => Runs 141 19 ls (v.toList ++ st) h2 Q) := R_callv (a := a) (rest := st) rfl rfl rfl rfl rfl rfl rfl ht hs
theorem s141_19 : Runs 141 19 ls (.int i :: st) h Q ↔ if i = 0 then Runs 141 32 ls st h Q else Runs 141 22 ls st h Q := R_ifeq rfl rfl
theorem s141_22 : Runs 141 22 [some (.ref a), x1] st h Q ↔ Runs 141 23 [some (.ref a), x1] (.ref a :: st) h Q := R_aldn rfl rfl
theorem s141_22q : Runs 141 22 [some (zrf r), x1] st h Q ↔ Runs 141 23 [some (zrf r), x1] (zrf r :: st) h Q := R_aldnq rfl rfl
theorem s141_23 : Runs 141 23 ls st h Q ↔ Runs 141 24 ls (.int 1 :: st) h Q := R_iconst rfl rfl
theorem s141_24 : Runs 141 24 ls st h Q ↔ Runs 141 26 ls (.int 99 :: st) h Q := R_bipush rfl (by decide)
theorem s141_26 (ht : tg a = 10) (hs : zsumc st ≤ 8) : Runs 141 26 ls (.int i1 :: .int i0 :: .ref a :: st) (n, tg, ln, I, J, O) Q ↔ Runs 136 0 [some (.ref a), some (.int i0), some (.int i1), none] [] (n, tg, ln, I, J, O) (fun v h2 => Runs 141 29 ls (v.toList ++ st) h2 Q) := R_callv (a := a) (rest := st) rfl rfl rfl rfl rfl rfl rfl ht hs
theorem s141_29 : Runs 141 29 ls (.int i :: st) h Q ↔ if ¬ i = 0 then Runs 141 34 ls st h Q else Runs 141 32 ls st h Q := R_ifne rfl rfl
theorem s141_32 : Runs 141 32 ls st h Q ↔ Runs 141 33 ls (.int 0 :: st) h Q := R_iconst rfl rfl
theorem s141_33 (hx : i = 0 ∨ i = 1) : Runs 141 33 ls [.int i] h Q ↔ Q (some (.int i)) h := R_zret rfl rfl hx
theorem s141_34 : Runs 141 34 [some (.ref a), x1] st h Q ↔ Runs 141 35 [some (.ref a), x1] (.ref a :: st) h Q := R_aldn rfl rfl
theorem s141_34q : Runs 141 34 [some (zrf r), x1] st h Q ↔ Runs 141 35 [some (zrf r), x1] (zrf r :: st) h Q := R_aldnq rfl rfl
theorem s141_35 : Runs 141 35 ls (.int i :: st) h Q ↔ Runs 141 36 ls (.int i :: .int i :: st) h Q := R_dupi rfl
theorem s141_35q : Runs 141 35 ls (.ref a :: st) h Q ↔ Runs 141 36 ls (.ref a :: .ref a :: st) h Q := R_dupr rfl
theorem s141_36 (ht : tg a = 10) : Runs 141 36 ls (.ref a :: st) (n, tg, ln, I, J, O) Q ↔ Runs 141 39 ls (.int (I a 14) :: st) (n, tg, ln, I, J, O) Q := R_geti rfl rfl rfl rfl ht
theorem s141_39 : Runs 141 39 ls st h Q ↔ Runs 141 40 ls (.int 1 :: st) h Q := R_iconst rfl rfl
theorem s141_40 : Runs 141 40 ls (.int j :: .int i :: st) h Q ↔ Runs 141 41 ls (.int (i + j) :: st) h Q := R_iadd rfl
theorem s141_41 (ht : tg a = 10) : Runs 141 41 ls (.int i :: .ref a :: st) (n, tg, ln, I, J, O) Q ↔ Runs 141 44 ls st (n, tg, ln, zu I a 14 i, J, O) Q := R_puti rfl rfl rfl rfl rfl rfl ht
theorem s141_44 : Runs 141 44 [some (.ref a), x1] st h Q ↔ Runs 141 45 [some (.ref a), x1] (.ref a :: st) h Q := R_aldn rfl rfl
theorem s141_44q : Runs 141 44 [some (zrf r), x1] st h Q ↔ Runs 141 45 [some (zrf r), x1] (zrf r :: st) h Q := R_aldnq rfl rfl
theorem s141_45 (ht : tg a = 10) : Runs 141 45 ls (.ref a :: st) (n, tg, ln, I, J, O) Q ↔ Runs 141 48 ls (zrf (O a 15) :: st) (n, tg, ln, I, J, O) Q := R_getr rfl rfl rfl rfl ht
theorem s141_48 : Runs 141 48 [some (.ref a), x1] st h Q ↔ Runs 141 49 [some (.ref a), x1] (.ref a :: st) h Q := R_aldn rfl rfl
theorem s141_48q : Runs 141 48 [some (zrf r), x1] st h Q ↔ Runs 141 49 [some (zrf r), x1] (zrf r :: st) h Q := R_aldnq rfl rfl
theorem s141_49 (ht : tg a = 10) : Runs 141 49 ls (.ref a :: st) (n, tg, ln, I, J, O) Q ↔ Runs 141 52 ls (zrf (O a 18) :: st) (n, tg, ln, I, J, O) Q := R_getr rfl rfl rfl rfl ht
theorem s141_52 : Runs 141 52 ls st h Q ↔ Runs 141 53 ls (.int 0 :: st) h Q := R_iconst rfl rfl
theorem s141_53 (ht : tg a = 20) : Runs 141 53 ls (.int i :: .ref a :: st) (n, tg, ln, I, J, O) Q ↔ ((0 ≤ i ∧ i < Int32.ofNat (ln a)) ∧ Runs 141 54 ls (.int (I a i) :: st) (n, tg, ln, I, J, O) Q) := R_iald rfl ht
theorem s141_54 : Runs 141 54 ls (.int i :: .ref a :: st) h Q ↔ Runs 141 55 ls (.int i :: .ref a :: .int i :: .ref a :: st) h Q := R_dup2 rfl
theorem s141_55 (ht : tg a = 20) : Runs 141 55 ls (.int i :: .ref a :: st) (n, tg, ln, I, J, O) Q ↔ ((0 ≤ i ∧ i < Int32.ofNat (ln a)) ∧ Runs 141 56 ls (.int (I a i) :: st) (n, tg, ln, I, J, O) Q) := R_iald rfl ht
theorem s141_56 : Runs 141 56 ls st h Q ↔ Runs 141 57 ls (.int 1 :: st) h Q := R_iconst rfl rfl
theorem s141_57 : Runs 141 57 ls (.int j :: .int i :: st) h Q ↔ Runs 141 58 ls (.int (i + j) :: st) h Q := R_iadd rfl
theorem s141_58 (ht : tg a = 20) : Runs 141 58 ls (.int j :: .int i :: .ref a :: st) (n, tg, ln, I, J, O) Q ↔ ((0 ≤ i ∧ i < Int32.ofNat (ln a)) ∧ Runs 141 59 ls st (n, tg, ln, zu I a i j, J, O) Q) := R_iast rfl ht
theorem s141_59 : Runs 141 59 [some (.ref a), x1] st h Q ↔ Runs 141 60 [some (.ref a), x1] (.ref a :: st) h Q := R_aldn rfl rfl
theorem s141_59q : Runs 141 59 [some (zrf r), x1] st h Q ↔ Runs 141 60 [some (zrf r), x1] (zrf r :: st) h Q := R_aldnq rfl rfl
theorem s141_60 (ht : tg a = 10) : Runs 141 60 ls (.ref a :: st) (n, tg, ln, I, J, O) Q ↔ Runs 141 63 ls (.int (I a 17) :: st) (n, tg, ln, I, J, O) Q := R_geti rfl rfl rfl rfl ht
theorem s141_63 : Runs 141 63 ls (.int i :: st) h Q ↔ if i = 0 then Runs 141 85 ls st h Q else Runs 141 66 ls st h Q := R_ifeq rfl rfl
theorem s141_66 : Runs 141 66 [some (.ref a), x1] st h Q ↔ Runs 141 67 [some (.ref a), x1] (.ref a :: st) h Q := R_aldn rfl rfl
theorem s141_66q : Runs 141 66 [some (zrf r), x1] st h Q ↔ Runs 141 67 [some (zrf r), x1] (zrf r :: st) h Q := R_aldnq rfl rfl
theorem s141_67 : Runs 141 67 ls st h Q ↔ Runs 141 69 ls (.int 90 :: st) h Q := R_bipush rfl (by decide)
theorem s141_69 : Runs 141 69 [some (.ref a), x1] st h Q ↔ Runs 141 70 [some (.ref a), x1] (.ref a :: st) h Q := R_aldn rfl rfl
theorem s141_69q : Runs 141 69 [some (zrf r), x1] st h Q ↔ Runs 141 70 [some (zrf r), x1] (zrf r :: st) h Q := R_aldnq rfl rfl
theorem s141_70 (ht : tg a = 10) : Runs 141 70 ls (.ref a :: st) (n, tg, ln, I, J, O) Q ↔ Runs 141 73 ls (zrf (O a 18) :: st) (n, tg, ln, I, J, O) Q := R_getr rfl rfl rfl rfl ht
theorem s141_73 : Runs 141 73 ls st h Q ↔ Runs 141 74 ls (.int 0 :: st) h Q := R_iconst rfl rfl
theorem s141_74 (ht : tg a = 20) : Runs 141 74 ls (.int i :: .ref a :: st) (n, tg, ln, I, J, O) Q ↔ ((0 ≤ i ∧ i < Int32.ofNat (ln a)) ∧ Runs 141 75 ls (.int (I a i) :: st) (n, tg, ln, I, J, O) Q) := R_iald rfl ht
theorem s141_75 : Runs 141 75 [x0, some (.int i)] st h Q ↔ Runs 141 76 [x0, some (.int i)] (.int i :: st) h Q := R_ildn rfl rfl
theorem s141_76 : Runs 141 76 [some (.ref a), x1] st h Q ↔ Runs 141 77 [some (.ref a), x1] (.ref a :: st) h Q := R_aldn rfl rfl
theorem s141_76q : Runs 141 76 [some (zrf r), x1] st h Q ↔ Runs 141 77 [some (zrf r), x1] (zrf r :: st) h Q := R_aldnq rfl rfl
theorem s141_77 (ht : tg a = 10) : Runs 141 77 ls (.ref a :: st) (n, tg, ln, I, J, O) Q ↔ Runs 141 80 ls (zrf (O a 18) :: st) (n, tg, ln, I, J, O) Q := R_getr rfl rfl rfl rfl ht
theorem s141_80 : Runs 141 80 ls st h Q ↔ Runs 141 81 ls (.int 1 :: st) h Q := R_iconst rfl rfl
theorem s141_81 (ht : tg a = 20) : Runs 141 81 ls (.int i :: .ref a :: st) (n, tg, ln, I, J, O) Q ↔ ((0 ≤ i ∧ i < Int32.ofNat (ln a)) ∧ Runs 141 82 ls (.int (I a i) :: st) (n, tg, ln, I, J, O) Q) := R_iald rfl ht
theorem s141_82 (ht : tg a = 10) (hs : zsumc st ≤ 8) : Runs 141 82 ls (.int i3 :: .int i2 :: .int i1 :: .int i0 :: .ref a :: st) (n, tg, ln, I, J, O) Q ↔ Runs 140 0 [some (.ref a), some (.int i0), some (.int i1), some (.int i2), some (.int i3), none] [] (n, tg, ln, I, J, O) (fun v h2 => Runs 141 85 ls (v.toList ++ st) h2 Q) := R_callv (a := a) (rest := st) rfl rfl rfl rfl rfl rfl rfl ht hs
theorem s141_85 : Runs 141 85 ls st h Q ↔ Runs 141 86 ls (.int 1 :: st) h Q := R_iconst rfl rfl
theorem s141_86 (hx : i = 0 ∨ i = 1) : Runs 141 86 ls [.int i] h Q ↔ Q (some (.int i)) h := R_zret rfl rfl hx
theorem s142_0 : Runs 142 0 [some (.ref a)] st h Q ↔ Runs 142 1 [some (.ref a)] (.ref a :: st) h Q := R_aldn rfl rfl
theorem s142_0q : Runs 142 0 [some (zrf r)] st h Q ↔ Runs 142 1 [some (zrf r)] (zrf r :: st) h Q := R_aldnq rfl rfl
theorem s142_1 (ht : tg a = 10) (hs : zsumc st ≤ 8) : Runs 142 1 ls (.ref a :: st) (n, tg, ln, I, J, O) Q ↔ Runs 133 0 [some (.ref a)] [] (n, tg, ln, I, J, O) (fun v h2 => Runs 142 4 ls (v.toList ++ st) h2 Q) := R_callv (a := a) (rest := st) rfl rfl rfl rfl rfl rfl rfl ht hs
theorem s142_4 : Runs 142 4 [some (.ref a)] st h Q ↔ Runs 142 5 [some (.ref a)] (.ref a :: st) h Q := R_aldn rfl rfl
theorem s142_4q : Runs 142 4 [some (zrf r)] st h Q ↔ Runs 142 5 [some (zrf r)] (zrf r :: st) h Q := R_aldnq rfl rfl
theorem s142_5 (ht : tg a = 10) (hs : zsumc st ≤ 8) : Runs 142 5 ls (.ref a :: st) (n, tg, ln, I, J, O) Q ↔ Runs 137 0 [some (.ref a), none] [] (n, tg, ln, I, J, O) (fun v h2 => Runs 142 8 ls (v.toList ++ st) h2 Q) := R_callv (a := a) (rest := st) rfl rfl rfl rfl rfl rfl rfl ht hs
theorem s142_8 : Runs 142 8 ls (.int i :: st) h Q ↔ if ¬ i = 0 then Runs 142 13 ls st h Q else Runs 142 11 ls st h Q := R_ifne rfl rfl
theorem s142_11 : Runs 142 11 ls st h Q ↔ Runs 142 12 ls (.int 0 :: st) h Q := R_iconst rfl rfl
theorem s142_12 (hx : i = 0 ∨ i = 1) : Runs 142 12 ls [.int i] h Q ↔ Q (some (.int i)) h := R_zret rfl rfl hx
theorem s142_13 : Runs 142 13 [some (.ref a)] st h Q ↔ Runs 142 14 [some (.ref a)] (.ref a :: st) h Q := R_aldn rfl rfl
theorem s142_13q : Runs 142 13 [some (zrf r)] st h Q ↔ Runs 142 14 [some (zrf r)] (zrf r :: st) h Q := R_aldnq rfl rfl
theorem s142_14 (ht : tg a = 10) : Runs 142 14 ls (.ref a :: st) (n, tg, ln, I, J, O) Q ↔ Runs 142 17 ls (zrf (O a 15) :: st) (n, tg, ln, I, J, O) Q := R_getr rfl rfl rfl rfl ht
theorem s142_17 : Runs 142 17 [some (.ref a)] st h Q ↔ Runs 142 18 [some (.ref a)] (.ref a :: st) h Q := R_aldn rfl rfl
theorem s142_17q : Runs 142 17 [some (zrf r)] st h Q ↔ Runs 142 18 [some (zrf r)] (zrf r :: st) h Q := R_aldnq rfl rfl
theorem s142_18 (ht : tg a = 10) : Runs 142 18 ls (.ref a :: st) (n, tg, ln, I, J, O) Q ↔ Runs 142 21 ls (zrf (O a 18) :: st) (n, tg, ln, I, J, O) Q := R_getr rfl rfl rfl rfl ht
theorem s142_21 : Runs 142 21 ls st h Q ↔ Runs 142 22 ls (.int 0 :: st) h Q := R_iconst rfl rfl
theorem s142_22 (ht : tg a = 20) : Runs 142 22 ls (.int i :: .ref a :: st) (n, tg, ln, I, J, O) Q ↔ ((0 ≤ i ∧ i < Int32.ofNat (ln a)) ∧ Runs 142 23 ls (.int (I a i) :: st) (n, tg, ln, I, J, O) Q) := R_iald rfl ht
theorem s142_23 : Runs 142 23 ls (.int i :: .ref a :: st) h Q ↔ Runs 142 24 ls (.int i :: .ref a :: .int i :: .ref a :: st) h Q := R_dup2 rfl
theorem s142_24 (ht : tg a = 20) : Runs 142 24 ls (.int i :: .ref a :: st) (n, tg, ln, I, J, O) Q ↔ ((0 ≤ i ∧ i < Int32.ofNat (ln a)) ∧ Runs 142 25 ls (.int (I a i) :: st) (n, tg, ln, I, J, O) Q) := R_iald rfl ht
theorem s142_25 : Runs 142 25 ls st h Q ↔ Runs 142 26 ls (.int 1 :: st) h Q := R_iconst rfl rfl
theorem s142_26 : Runs 142 26 ls (.int j :: .int i :: st) h Q ↔ Runs 142 27 ls (.int (i + j) :: st) h Q := R_iadd rfl
theorem s142_27 (ht : tg a = 20) : Runs 142 27 ls (.int j :: .int i :: .ref a :: st) (n, tg, ln, I, J, O) Q ↔ ((0 ≤ i ∧ i < Int32.ofNat (ln a)) ∧ Runs 142 28 ls st (n, tg, ln, zu I a i j, J, O) Q) := R_iast rfl ht
theorem s142_28 : Runs 142 28 [some (.ref a)] st h Q ↔ Runs 142 29 [some (.ref a)] (.ref a :: st) h Q := R_aldn rfl rfl
theorem s142_28q : Runs 142 28 [some (zrf r)] st h Q ↔ Runs 142 29 [some (zrf r)] (zrf r :: st) h Q := R_aldnq rfl rfl
theorem s142_29 (ht : tg a = 10) : Runs 142 29 ls (.ref a :: st) (n, tg, ln, I, J, O) Q ↔ Runs 142 32 ls (.int (I a 17) :: st) (n, tg, ln, I, J, O) Q := R_geti rfl rfl rfl rfl ht
theorem s142_32 : Runs 142 32 ls (.int i :: st) h Q ↔ if i = 0 then Runs 142 49 ls st h Q else Runs 142 35 ls st h Q := R_ifeq rfl rfl
theorem s142_35 : Runs 142 35 [some (.ref a)] st h Q ↔ Runs 142 36 [some (.ref a)] (.ref a :: st) h Q := R_aldn rfl rfl
theorem s142_35q : Runs 142 35 [some (zrf r)] st h Q ↔ Runs 142 36 [some (zrf r)] (zrf r :: st) h Q := R_aldnq rfl rfl
theorem s142_36 : Runs 142 36 ls st h Q ↔ Runs 142 38 ls (.int 90 :: st) h Q := R_bipush rfl (by decide)
theorem s142_38 : Runs 142 38 [some (.ref a)] st h Q ↔ Runs 142 39 [some (.ref a)] (.ref a :: st) h Q := R_aldn rfl rfl
theorem s142_38q : Runs 142 38 [some (zrf r)] st h Q ↔ Runs 142 39 [some (zrf r)] (zrf r :: st) h Q := R_aldnq rfl rfl
theorem s142_39 (ht : tg a = 10) : Runs 142 39 ls (.ref a :: st) (n, tg, ln, I, J, O) Q ↔ Runs 142 42 ls (zrf (O a 18) :: st) (n, tg, ln, I, J, O) Q := R_getr rfl rfl rfl rfl ht
theorem s142_42 : Runs 142 42 ls st h Q ↔ Runs 142 43 ls (.int 0 :: st) h Q := R_iconst rfl rfl
theorem s142_43 (ht : tg a = 20) : Runs 142 43 ls (.int i :: .ref a :: st) (n, tg, ln, I, J, O) Q ↔ ((0 ≤ i ∧ i < Int32.ofNat (ln a)) ∧ Runs 142 44 ls (.int (I a i) :: st) (n, tg, ln, I, J, O) Q) := R_iald rfl ht
theorem s142_44 : Runs 142 44 ls st h Q ↔ Runs 142 46 ls (.int 90 :: st) h Q := R_bipush rfl (by decide)
theorem s142_46 (ht : tg a = 10) (hs : zsumc st ≤ 8) : Runs 142 46 ls (.int i2 :: .int i1 :: .int i0 :: .ref a :: st) (n, tg, ln, I, J, O) Q ↔ Runs 139 0 [some (.ref a), some (.int i0), some (.int i1), some (.int i2)] [] (n, tg, ln, I, J, O) (fun v h2 => Runs 142 49 ls (v.toList ++ st) h2 Q) := R_callv (a := a) (rest := st) rfl rfl rfl rfl rfl rfl rfl ht hs
theorem s142_49 : Runs 142 49 ls st h Q ↔ Runs 142 50 ls (.int 1 :: st) h Q := R_iconst rfl rfl
theorem s142_50 (hx : i = 0 ∨ i = 1) : Runs 142 50 ls [.int i] h Q ↔ Q (some (.int i)) h := R_zret rfl rfl hx
theorem s143_0 : Runs 143 0 [some (.ref a)] st h Q ↔ Runs 143 1 [some (.ref a)] (.ref a :: st) h Q := R_aldn rfl rfl
theorem s143_0q : Runs 143 0 [some (zrf r)] st h Q ↔ Runs 143 1 [some (zrf r)] (zrf r :: st) h Q := R_aldnq rfl rfl
theorem s143_1 (ht : tg a = 10) (hs : zsumc st ≤ 8) : Runs 143 1 ls (.ref a :: st) (n, tg, ln, I, J, O) Q ↔ Runs 133 0 [some (.ref a)] [] (n, tg, ln, I, J, O) (fun v h2 => Runs 143 4 ls (v.toList ++ st) h2 Q) := R_callv (a := a) (rest := st) rfl rfl rfl rfl rfl rfl rfl ht hs
theorem s143_4 : Runs 143 4 [some (.ref a)] st h Q ↔ Runs 143 5 [some (.ref a)] (.ref a :: st) h Q := R_aldn rfl rfl
theorem s143_4q : Runs 143 4 [some (zrf r)] st h Q ↔ Runs 143 5 [some (zrf r)] (zrf r :: st) h Q := R_aldnq rfl rfl
theorem s143_5 : Runs 143 5 ls st h Q ↔ Runs 143 6 ls (.int 0 :: st) h Q := R_iconst rfl rfl
theorem s143_6 : Runs 143 6 ls st h Q ↔ Runs 143 7 ls (.int 2 :: st) h Q := R_iconst rfl rfl
theorem s143_7 (ht : tg a = 10) (hs : zsumc st ≤ 8) : Runs 143 7 ls (.int i1 :: .int i0 :: .ref a :: st) (n, tg, ln, I, J, O) Q ↔ Runs 136 0 [some (.ref a), some (.int i0), some (.int i1), none] [] (n, tg, ln, I, J, O) (fun v h2 => Runs 143 10 ls (v.toList ++ st) h2 Q) := R_callv (a := a) (rest := st) rfl rfl rfl rfl rfl rfl rfl ht hs
theorem s143_10 : Runs 143 10 ls (.int i :: st) h Q ↔ if ¬ i = 0 then Runs 143 15 ls st h Q else Runs 143 13 ls st h Q := R_ifne rfl rfl
theorem s143_13 : Runs 143 13 ls st h Q ↔ Runs 143 14 ls (.int 0 :: st) h Q := R_iconst rfl rfl
theorem s143_14 (hx : i = 0 ∨ i = 1) : Runs 143 14 ls [.int i] h Q ↔ Q (some (.int i)) h := R_zret rfl rfl hx
theorem s143_15 : Runs 143 15 [some (.ref a)] st h Q ↔ Runs 143 16 [some (.ref a)] (.ref a :: st) h Q := R_aldn rfl rfl
theorem s143_15q : Runs 143 15 [some (zrf r)] st h Q ↔ Runs 143 16 [some (zrf r)] (zrf r :: st) h Q := R_aldnq rfl rfl
theorem s143_16 (ht : tg a = 10) : Runs 143 16 ls (.ref a :: st) (n, tg, ln, I, J, O) Q ↔ Runs 143 19 ls (zrf (O a 0) :: st) (n, tg, ln, I, J, O) Q := R_getr rfl rfl rfl rfl ht
theorem s143_19 : Runs 143 19 ls st h Q ↔ Runs 143 21 ls (.int 91 :: st) h Q := R_bipush rfl (by decide)
theorem s143_21 : Runs 143 21 [some (.ref a)] st h Q ↔ Runs 143 22 [some (.ref a)] (.ref a :: st) h Q := R_aldn rfl rfl
theorem s143_21q : Runs 143 21 [some (zrf r)] st h Q ↔ Runs 143 22 [some (zrf r)] (zrf r :: st) h Q := R_aldnq rfl rfl
theorem s143_22 (ht : tg a = 10) : Runs 143 22 ls (.ref a :: st) (n, tg, ln, I, J, O) Q ↔ Runs 143 25 ls (.int (I a 17) :: st) (n, tg, ln, I, J, O) Q := R_geti rfl rfl rfl rfl ht
theorem s143_25 : Runs 143 25 ls (.int i :: st) h Q ↔ if i = 0 then Runs 143 37 ls st h Q else Runs 143 28 ls st h Q := R_ifeq rfl rfl
theorem s143_28 : Runs 143 28 [some (.ref a)] st h Q ↔ Runs 143 29 [some (.ref a)] (.ref a :: st) h Q := R_aldn rfl rfl
theorem s143_28q : Runs 143 28 [some (zrf r)] st h Q ↔ Runs 143 29 [some (zrf r)] (zrf r :: st) h Q := R_aldnq rfl rfl
theorem s143_29 (ht : tg a = 10) : Runs 143 29 ls (.ref a :: st) (n, tg, ln, I, J, O) Q ↔ Runs 143 32 ls (zrf (O a 18) :: st) (n, tg, ln, I, J, O) Q := R_getr rfl rfl rfl rfl ht
theorem s143_32 : Runs 143 32 ls st h Q ↔ Runs 143 33 ls (.int 0 :: st) h Q := R_iconst rfl rfl
theorem s143_33 (ht : tg a = 20) : Runs 143 33 ls (.int i :: .ref a :: st) (n, tg, ln, I, J, O) Q ↔ ((0 ≤ i ∧ i < Int32.ofNat (ln a)) ∧ Runs 143 34 ls (.int (I a i) :: st) (n, tg, ln, I, J, O) Q) := R_iald rfl ht
theorem s143_34 : Runs 143 34 ls st h Q ↔ Runs 143 44 ls st h Q := R_goto rfl rfl
theorem s143_37 : Runs 143 37 [some (.ref a)] st h Q ↔ Runs 143 38 [some (.ref a)] (.ref a :: st) h Q := R_aldn rfl rfl
theorem s143_37q : Runs 143 37 [some (zrf r)] st h Q ↔ Runs 143 38 [some (zrf r)] (zrf r :: st) h Q := R_aldnq rfl rfl
theorem s143_38 (ht : tg a = 10) : Runs 143 38 ls (.ref a :: st) (n, tg, ln, I, J, O) Q ↔ Runs 143 41 ls (zrf (O a 0) :: st) (n, tg, ln, I, J, O) Q := R_getr rfl rfl rfl rfl ht
theorem s143_41 : Runs 143 41 ls st h Q ↔ Runs 143 43 ls (.int 91 :: st) h Q := R_bipush rfl (by decide)
theorem s143_43 (ht : tg a = 20) : Runs 143 43 ls (.int i :: .ref a :: st) (n, tg, ln, I, J, O) Q ↔ ((0 ≤ i ∧ i < Int32.ofNat (ln a)) ∧ Runs 143 44 ls (.int (I a i) :: st) (n, tg, ln, I, J, O) Q) := R_iald rfl ht
theorem s143_44 (ht : tg a = 20) : Runs 143 44 ls (.int j :: .int i :: .ref a :: st) (n, tg, ln, I, J, O) Q ↔ ((0 ≤ i ∧ i < Int32.ofNat (ln a)) ∧ Runs 143 45 ls st (n, tg, ln, zu I a i j, J, O) Q) := R_iast rfl ht
theorem s143_45 : Runs 143 45 ls st h Q ↔ Runs 143 46 ls (.int 1 :: st) h Q := R_iconst rfl rfl
theorem s143_46 (hx : i = 0 ∨ i = 1) : Runs 143 46 ls [.int i] h Q ↔ Q (some (.int i)) h := R_zret rfl rfl hx
theorem s144_0 : Runs 144 0 [some (.ref a), x1] st h Q ↔ Runs 144 1 [some (.ref a), x1] (.ref a :: st) h Q := R_aldn rfl rfl
theorem s144_0q : Runs 144 0 [some (zrf r), x1] st h Q ↔ Runs 144 1 [some (zrf r), x1] (zrf r :: st) h Q := R_aldnq rfl rfl
theorem s144_1 (ht : tg a = 10) (hs : zsumc st ≤ 8) : Runs 144 1 ls (.ref a :: st) (n, tg, ln, I, J, O) Q ↔ Runs 133 0 [some (.ref a)] [] (n, tg, ln, I, J, O) (fun v h2 => Runs 144 4 ls (v.toList ++ st) h2 Q) := R_callv (a := a) (rest := st) rfl rfl rfl rfl rfl rfl rfl ht hs
theorem s144_4 : Runs 144 4 [some (.ref a), x1] st h Q ↔ Runs 144 5 [some (.ref a), x1] (.ref a :: st) h Q := R_aldn rfl rfl
theorem s144_4q : Runs 144 4 [some (zrf r), x1] st h Q ↔ Runs 144 5 [some (zrf r), x1] (zrf r :: st) h Q := R_aldnq rfl rfl
theorem s144_5 : Runs 144 5 ls st h Q ↔ Runs 144 6 ls (.int 0 :: st) h Q := R_iconst rfl rfl
theorem s144_6 (ht : tg a = 10) : Runs 144 6 ls (.int i :: .ref a :: st) (n, tg, ln, I, J, O) Q ↔ Runs 144 9 ls st (n, tg, ln, zu I a 14 i, J, O) Q := R_puti rfl rfl rfl rfl rfl rfl ht
theorem s144_9 : Runs 144 9 [some (.ref a), x1] st h Q ↔ Runs 144 10 [some (.ref a), x1] (.ref a :: st) h Q := R_aldn rfl rfl
theorem s144_9q : Runs 144 9 [some (zrf r), x1] st h Q ↔ Runs 144 10 [some (zrf r), x1] (zrf r :: st) h Q := R_aldnq rfl rfl
theorem s144_10 (ht : tg a = 10) : Runs 144 10 ls (.ref a :: st) (n, tg, ln, I, J, O) Q ↔ Runs 144 13 ls (zrf (O a 15) :: st) (n, tg, ln, I, J, O) Q := R_getr rfl rfl rfl rfl ht
theorem s144_13 : Runs 144 13 ls st h Q ↔ Runs 144 14 ls (.int 0 :: st) h Q := R_iconst rfl rfl
theorem s144_14 : Runs 144 14 ls st h Q ↔ Runs 144 15 ls (.int 0 :: st) h Q := R_iconst rfl rfl
theorem s144_15 (ht : tg a = 20) : Runs 144 15 ls (.int j :: .int i :: .ref a :: st) (n, tg, ln, I, J, O) Q ↔ ((0 ≤ i ∧ i < Int32.ofNat (ln a)) ∧ Runs 144 16 ls st (n, tg, ln, zu I a i j, J, O) Q) := R_iast rfl ht
theorem s144_16 : Runs 144 16 [some (.ref a), x1] st h Q ↔ Runs 144 17 [some (.ref a), x1] (.ref a :: st) h Q := R_aldn rfl rfl
theorem s144_16q : Runs 144 16 [some (zrf r), x1] st h Q ↔ Runs 144 17 [some (zrf r), x1] (zrf r :: st) h Q := R_aldnq rfl rfl
theorem s144_17 (ht : tg a = 10) : Runs 144 17 ls (.ref a :: st) (n, tg, ln, I, J, O) Q ↔ Runs 144 20 ls (zrf (O a 15) :: st) (n, tg, ln, I, J, O) Q := R_getr rfl rfl rfl rfl ht
theorem s144_20 : Runs 144 20 ls st h Q ↔ Runs 144 21 ls (.int 1 :: st) h Q := R_iconst rfl rfl
theorem s144_21 : Runs 144 21 ls st h Q ↔ Runs 144 22 ls (.int 0 :: st) h Q := R_iconst rfl rfl
theorem s144_22 (ht : tg a = 20) : Runs 144 22 ls (.int j :: .int i :: .ref a :: st) (n, tg, ln, I, J, O) Q ↔ ((0 ≤ i ∧ i < Int32.ofNat (ln a)) ∧ Runs 144 23 ls st (n, tg, ln, zu I a i j, J, O) Q) := R_iast rfl ht
theorem s144_23 : Runs 144 23 ls st h Q ↔ Runs 144 24 ls (.int 0 :: st) h Q := R_iconst rfl rfl
theorem s144_24 : Runs 144 24 [x0, x1] (.int i :: st) h Q ↔ Runs 144 25 [zdrop x0, some (.int i)] st h Q := R_istn rfl rfl rfl
theorem s144_25 : Runs 144 25 [x0, some (.int i)] st h Q ↔ Runs 144 26 [x0, some (.int i)] (.int i :: st) h Q := R_ildn rfl rfl
theorem s144_26 : Runs 144 26 ls st h Q ↔ Runs 144 28 ls (.int 90 :: st) h Q := R_bipush rfl (by decide)
theorem s144_28 : Runs 144 28 ls (.int j :: .int i :: st) h Q ↔ if j ≤ i then Runs 144 54 ls st h Q else Runs 144 31 ls st h Q := R_icge rfl rfl
theorem s144_31 : Runs 144 31 [some (.ref a), x1] st h Q ↔ Runs 144 32 [some (.ref a), x1] (.ref a :: st) h Q := R_aldn rfl rfl
theorem s144_31q : Runs 144 31 [some (zrf r), x1] st h Q ↔ Runs 144 32 [some (zrf r), x1] (zrf r :: st) h Q := R_aldnq rfl rfl
theorem s144_32 (ht : tg a = 10) : Runs 144 32 ls (.ref a :: st) (n, tg, ln, I, J, O) Q ↔ Runs 144 35 ls (.int (I a 17) :: st) (n, tg, ln, I, J, O) Q := R_geti rfl rfl rfl rfl ht
theorem s144_35 : Runs 144 35 ls (.int i :: st) h Q ↔ if i = 0 then Runs 144 54 ls st h Q else Runs 144 38 ls st h Q := R_ifeq rfl rfl
theorem s144_38 : Runs 144 38 [some (.ref a), x1] st h Q ↔ Runs 144 39 [some (.ref a), x1] (.ref a :: st) h Q := R_aldn rfl rfl
theorem s144_38q : Runs 144 38 [some (zrf r), x1] st h Q ↔ Runs 144 39 [some (zrf r), x1] (zrf r :: st) h Q := R_aldnq rfl rfl
theorem s144_39 (ht : tg a = 10) : Runs 144 39 ls (.ref a :: st) (n, tg, ln, I, J, O) Q ↔ Runs 144 42 ls (zrf (O a 0) :: st) (n, tg, ln, I, J, O) Q := R_getr rfl rfl rfl rfl ht
theorem s144_42 : Runs 144 42 ls st h Q ↔ Runs 144 44 ls (.int 90 :: st) h Q := R_bipush rfl (by decide)
theorem s144_44 : Runs 144 44 [x0, some (.int i)] st h Q ↔ Runs 144 45 [x0, some (.int i)] (.int i :: st) h Q := R_ildn rfl rfl
theorem s144_45 : Runs 144 45 ls (.int j :: .int i :: st) h Q ↔ Runs 144 46 ls (.int (i + j) :: st) h Q := R_iadd rfl
theorem s144_46 : Runs 144 46 ls st h Q ↔ Runs 144 47 ls (.int 0 :: st) h Q := R_iconst rfl rfl
theorem s144_47 (ht : tg a = 20) : Runs 144 47 ls (.int j :: .int i :: .ref a :: st) (n, tg, ln, I, J, O) Q ↔ ((0 ≤ i ∧ i < Int32.ofNat (ln a)) ∧ Runs 144 48 ls st (n, tg, ln, zu I a i j, J, O) Q) := R_iast rfl ht
theorem s144_48 : Runs 144 48 [x0, some (.int i)] st h Q ↔ Runs 144 51 [zdrop x0, some (.int (i + 1))] st h Q := R_iinc rfl rfl rfl rfl rfl
theorem s144_51 : Runs 144 51 ls st h Q ↔ Runs 144 25 ls st h Q := R_goto rfl rfl
theorem s144_54 : Runs 144 54 ls st h Q ↔ Runs 144 55 ls (.int 1 :: st) h Q := R_iconst rfl rfl
theorem s144_55 (hx : i = 0 ∨ i = 1) : Runs 144 55 ls [.int i] h Q ↔ Q (some (.int i)) h := R_zret rfl rfl hx
theorem s145_0 : Runs 145 0 [some (.ref a)] st h Q ↔ Runs 145 1 [some (.ref a)] (.ref a :: st) h Q := R_aldn rfl rfl
theorem s145_0q : Runs 145 0 [some (zrf r)] st h Q ↔ Runs 145 1 [some (zrf r)] (zrf r :: st) h Q := R_aldnq rfl rfl
theorem s145_1 (ht : tg a = 10) (hs : zsumc st ≤ 8) : Runs 145 1 ls (.ref a :: st) (n, tg, ln, I, J, O) Q ↔ Runs 138 0 [some (.ref a)] [] (n, tg, ln, I, J, O) (fun v h2 => Runs 145 4 ls (v.toList ++ st) h2 Q) := R_callv (a := a) (rest := st) rfl rfl rfl rfl rfl rfl rfl ht hs
theorem s145_4 : Runs 145 4 ls st h Q ↔ Runs 145 5 ls (.int (-1) :: st) h Q := R_iconst rfl rfl
theorem s145_5 : Runs 145 5 ls (.int j :: .int i :: st) h Q ↔ if i = j then Runs 145 17 ls st h Q else Runs 145 8 ls st h Q := R_iceq rfl rfl
theorem s145_8 : Runs 145 8 [some (.ref a)] st h Q ↔ Runs 145 9 [some (.ref a)] (.ref a :: st) h Q := R_aldn rfl rfl
theorem s145_8q : Runs 145 8 [some (zrf r)] st h Q ↔ Runs 145 9 [some (zrf r)] (zrf r :: st) h Q := R_aldnq rfl rfl
theorem s145_9 : Runs 145 9 [some (.ref a)] st h Q ↔ Runs 145 10 [some (.ref a)] (.ref a :: st) h Q := R_aldn rfl rfl
theorem s145_9q : Runs 145 9 [some (zrf r)] st h Q ↔ Runs 145 10 [some (zrf r)] (zrf r :: st) h Q := R_aldnq rfl rfl
theorem s145_10 (ht : tg a = 10) (hs : zsumc st ≤ 8) : Runs 145 10 ls (.ref a :: st) (n, tg, ln, I, J, O) Q ↔ Runs 138 0 [some (.ref a)] [] (n, tg, ln, I, J, O) (fun v h2 => Runs 145 13 ls (v.toList ++ st) h2 Q) := R_callv (a := a) (rest := st) rfl rfl rfl rfl rfl rfl rfl ht hs
theorem s145_13 (ht : tg a = 10) (hs : zsumc st ≤ 8) : Runs 145 13 ls (.int i0 :: .ref a :: st) (n, tg, ln, I, J, O) Q ↔ Runs 141 0 [some (.ref a), some (.int i0)] [] (n, tg, ln, I, J, O) (fun v h2 => Runs 145 16 ls (v.toList ++ st) h2 Q) := R_callv (a := a) (rest := st) rfl rfl rfl rfl rfl rfl rfl ht hs
theorem s145_16 (hx : i = 0 ∨ i = 1) : Runs 145 16 ls [.int i] h Q ↔ Q (some (.int i)) h := R_zret rfl rfl hx
theorem s145_17 : Runs 145 17 [some (.ref a)] st h Q ↔ Runs 145 18 [some (.ref a)] (.ref a :: st) h Q := R_aldn rfl rfl
theorem s145_17q : Runs 145 17 [some (zrf r)] st h Q ↔ Runs 145 18 [some (zrf r)] (zrf r :: st) h Q := R_aldnq rfl rfl
theorem s145_18 : Runs 145 18 [some (.ref a)] st h Q ↔ Runs 145 19 [some (.ref a)] (.ref a :: st) h Q := R_aldn rfl rfl
theorem s145_18q : Runs 145 18 [some (zrf r)] st h Q ↔ Runs 145 19 [some (zrf r)] (zrf r :: st) h Q := R_aldnq rfl rfl
theorem s145_19 (ht : tg a = 10) : Runs 145 19 ls (.ref a :: st) (n, tg, ln, I, J, O) Q ↔ Runs 145 22 ls (zrf (O a 19) :: st) (n, tg, ln, I, J, O) Q := R_getr rfl rfl rfl rfl ht
theorem s145_22 (ht : tg a = 10) (hs : zsumc st ≤ 8) : Runs 145 22 ls (.ref b0 :: .ref a :: st) (n, tg, ln, I, J, O) Q ↔ Runs 134 0 [some (.ref a), some (.ref b0), none, none] [] (n, tg, ln, I, J, O) (fun v h2 => Runs 145 25 ls (v.toList ++ st) h2 Q) := R_callv (a := a) (rest := st) rfl rfl rfl rfl rfl rfl rfl ht hs
theorem s145_22q (ht : tg a = 10) (hs : zsumc st ≤ 8) : Runs 145 22 ls (zrf r0 :: .ref a :: st) (n, tg, ln, I, J, O) Q ↔ Runs 134 0 [some (.ref a), some (zrf r0), none, none] [] (n, tg, ln, I, J, O) (fun v h2 => Runs 145 25 ls (v.toList ++ st) h2 Q) := by cases r0 <;> exact R_callv (a := a) (rest := st) rfl rfl rfl rfl rfl rfl rfl ht hs
theorem s145_25 : Runs 145 25 ls (.int i :: st) h Q ↔ if i = 0 then Runs 145 35 ls st h Q else Runs 145 28 ls st h Q := R_ifeq rfl rfl
theorem s145_28 : Runs 145 28 [some (.ref a)] st h Q ↔ Runs 145 29 [some (.ref a)] (.ref a :: st) h Q := R_aldn rfl rfl
theorem s145_28q : Runs 145 28 [some (zrf r)] st h Q ↔ Runs 145 29 [some (zrf r)] (zrf r :: st) h Q := R_aldnq rfl rfl
theorem s145_29 (ht : tg a = 10) (hs : zsumc st ≤ 8) : Runs 145 29 ls (.ref a :: st) (n, tg, ln, I, J, O) Q ↔ Runs 144 0 [some (.ref a), none] [] (n, tg, ln, I, J, O) (fun v h2 => Runs 145 32 ls (v.toList ++ st) h2 Q) := R_callv (a := a) (rest := st) rfl rfl rfl rfl rfl rfl rfl ht hs
theorem s145_32 : Runs 145 32 ls st h Q ↔ Runs 145 76 ls st h Q := R_goto rfl rfl
theorem s145_35 : Runs 145 35 [some (.ref a)] st h Q ↔ Runs 145 36 [some (.ref a)] (.ref a :: st) h Q := R_aldn rfl rfl
theorem s145_35q : Runs 145 35 [some (zrf r)] st h Q ↔ Runs 145 36 [some (zrf r)] (zrf r :: st) h Q := R_aldnq rfl rfl
theorem s145_36 : Runs 145 36 [some (.ref a)] st h Q ↔ Runs 145 37 [some (.ref a)] (.ref a :: st) h Q := R_aldn rfl rfl
theorem s145_36q : Runs 145 36 [some (zrf r)] st h Q ↔ Runs 145 37 [some (zrf r)] (zrf r :: st) h Q := R_aldnq rfl rfl
theorem s145_37 (ht : tg a = 10) : Runs 145 37 ls (.ref a :: st) (n, tg, ln, I, J, O) Q ↔ Runs 145 40 ls (zrf (O a 24) :: st) (n, tg, ln, I, J, O) Q := R_getr rfl rfl rfl rfl ht
theorem s145_40 (ht : tg a = 10) (hs : zsumc st ≤ 8) : Runs 145 40 ls (.ref b0 :: .ref a :: st) (n, tg, ln, I, J, O) Q ↔ Runs 134 0 [some (.ref a), some (.ref b0), none, none] [] (n, tg, ln, I, J, O) (fun v h2 => Runs 145 43 ls (v.toList ++ st) h2 Q) := R_callv (a := a) (rest := st) rfl rfl rfl rfl rfl rfl rfl ht hs
theorem s145_40q (ht : tg a = 10) (hs : zsumc st ≤ 8) : Runs 145 40 ls (zrf r0 :: .ref a :: st) (n, tg, ln, I, J, O) Q ↔ Runs 134 0 [some (.ref a), some (zrf r0), none, none] [] (n, tg, ln, I, J, O) (fun v h2 => Runs 145 43 ls (v.toList ++ st) h2 Q) := by cases r0 <;> exact R_callv (a := a) (rest := st) rfl rfl rfl rfl rfl rfl rfl ht hs
theorem s145_43 : Runs 145 43 ls (.int i :: st) h Q ↔ if i = 0 then Runs 145 53 ls st h Q else Runs 145 46 ls st h Q := R_ifeq rfl rfl
theorem s145_46 : Runs 145 46 [some (.ref a)] st h Q ↔ Runs 145 47 [some (.ref a)] (.ref a :: st) h Q := R_aldn rfl rfl
theorem s145_46q : Runs 145 46 [some (zrf r)] st h Q ↔ Runs 145 47 [some (zrf r)] (zrf r :: st) h Q := R_aldnq rfl rfl
theorem s145_47 (ht : tg a = 10) (hs : zsumc st ≤ 8) : Runs 145 47 ls (.ref a :: st) (n, tg, ln, I, J, O) Q ↔ Runs 142 0 [some (.ref a)] [] (n, tg, ln, I, J, O) (fun v h2 => Runs 145 50 ls (v.toList ++ st) h2 Q) := R_callv (a := a) (rest := st) rfl rfl rfl rfl rfl rfl rfl ht hs
theorem s145_50 : Runs 145 50 ls st h Q ↔ Runs 145 76 ls st h Q := R_goto rfl rfl
theorem s145_53 : Runs 145 53 [some (.ref a)] st h Q ↔ Runs 145 54 [some (.ref a)] (.ref a :: st) h Q := R_aldn rfl rfl
theorem s145_53q : Runs 145 53 [some (zrf r)] st h Q ↔ Runs 145 54 [some (zrf r)] (zrf r :: st) h Q := R_aldnq rfl rfl
theorem s145_54 : Runs 145 54 [some (.ref a)] st h Q ↔ Runs 145 55 [some (.ref a)] (.ref a :: st) h Q := R_aldn rfl rfl
theorem s145_54q : Runs 145 54 [some (zrf r)] st h Q ↔ Runs 145 55 [some (zrf r)] (zrf r :: st) h Q := R_aldnq rfl rfl
theorem s145_55 (ht : tg a = 10) : Runs 145 55 ls (.ref a :: st) (n, tg, ln, I, J, O) Q ↔ Runs 145 58 ls (zrf (O a 25) :: st) (n, tg, ln, I, J, O) Q := R_getr rfl rfl rfl rfl ht
theorem s145_58 (ht : tg a = 10) (hs : zsumc st ≤ 8) : Runs 145 58 ls (.ref b0 :: .ref a :: st) (n, tg, ln, I, J, O) Q ↔ Runs 134 0 [some (.ref a), some (.ref b0), none, none] [] (n, tg, ln, I, J, O) (fun v h2 => Runs 145 61 ls (v.toList ++ st) h2 Q) := R_callv (a := a) (rest := st) rfl rfl rfl rfl rfl rfl rfl ht hs
theorem s145_58q (ht : tg a = 10) (hs : zsumc st ≤ 8) : Runs 145 58 ls (zrf r0 :: .ref a :: st) (n, tg, ln, I, J, O) Q ↔ Runs 134 0 [some (.ref a), some (zrf r0), none, none] [] (n, tg, ln, I, J, O) (fun v h2 => Runs 145 61 ls (v.toList ++ st) h2 Q) := by cases r0 <;> exact R_callv (a := a) (rest := st) rfl rfl rfl rfl rfl rfl rfl ht hs
theorem s145_61 : Runs 145 61 ls (.int i :: st) h Q ↔ if i = 0 then Runs 145 75 ls st h Q else Runs 145 64 ls st h Q := R_ifeq rfl rfl
theorem s145_64 : Runs 145 64 [some (.ref a)] st h Q ↔ Runs 145 65 [some (.ref a)] (.ref a :: st) h Q := R_aldn rfl rfl
theorem s145_64q : Runs 145 64 [some (zrf r)] st h Q ↔ Runs 145 65 [some (zrf r)] (zrf r :: st) h Q := R_aldnq rfl rfl
theorem s145_65 (ht : tg a = 10) (hs : zsumc st ≤ 8) : Runs 145 65 ls (.ref a :: st) (n, tg, ln, I, J, O) Q ↔ Runs 143 0 [some (.ref a)] [] (n, tg, ln, I, J, O) (fun v h2 => Runs 145 68 ls (v.toList ++ st) h2 Q) := R_callv (a := a) (rest := st) rfl rfl rfl rfl rfl rfl rfl ht hs
theorem s145_68 : Runs 145 68 ls (.int i :: st) h Q ↔ if i = 0 then Runs 145 75 ls st h Q else Runs 145 71 ls st h Q := R_ifeq rfl rfl
theorem s145_71 : Runs 145 71 ls st h Q ↔ Runs 145 72 ls (.int 1 :: st) h Q := R_iconst rfl rfl
theorem s145_72 : Runs 145 72 ls st h Q ↔ Runs 145 76 ls st h Q := R_goto rfl rfl
theorem s145_75 : Runs 145 75 ls st h Q ↔ Runs 145 76 ls (.int 0 :: st) h Q := R_iconst rfl rfl
theorem s145_76 (hx : i = 0 ∨ i = 1) : Runs 145 76 ls [.int i] h Q ↔ Q (some (.int i)) h := R_zret rfl rfl hx
theorem s146_0 : Runs 146 0 [some (.ref a), x1, x2] st h Q ↔ Runs 146 1 [some (.ref a), x1, x2] (.ref a :: st) h Q := R_aldn rfl rfl
theorem s146_0q : Runs 146 0 [some (zrf r), x1, x2] st h Q ↔ Runs 146 1 [some (zrf r), x1, x2] (zrf r :: st) h Q := R_aldnq rfl rfl
theorem s146_1 : Runs 146 1 [x0, some (.int i), x2] st h Q ↔ Runs 146 2 [x0, some (.int i), x2] (.int i :: st) h Q := R_ildn rfl rfl
theorem s146_2 (ht : tg a = 10) (hx : i = 0 ∨ i = 1) : Runs 146 2 ls (.int i :: .ref a :: st) (n, tg, ln, I, J, O) Q ↔ Runs 146 5 ls st (n, tg, ln, zu I a 17 i, J, O) Q := R_putz rfl rfl rfl rfl rfl ht hx
theorem s146_5 : Runs 146 5 [some (.ref a), x1, x2] st h Q ↔ Runs 146 6 [some (.ref a), x1, x2] (.ref a :: st) h Q := R_aldn rfl rfl
theorem s146_5q : Runs 146 5 [some (zrf r), x1, x2] st h Q ↔ Runs 146 6 [some (zrf r), x1, x2] (zrf r :: st) h Q := R_aldnq rfl rfl
theorem s146_6 : Runs 146 6 ls st h Q ↔ Runs 146 7 ls (.int 0 :: st) h Q := R_iconst rfl rfl
theorem s146_7 (ht : tg a = 10) : Runs 146 7 ls (.int i :: .ref a :: st) (n, tg, ln, I, J, O) Q ↔ Runs 146 10 ls st (n, tg, ln, zu I a 13 i, J, O) Q := R_puti rfl rfl rfl rfl rfl rfl ht
theorem s146_10 : Runs 146 10 [some (.ref a), x1, x2] st h Q ↔ Runs 146 11 [some (.ref a), x1, x2] (.ref a :: st) h Q := R_aldn rfl rfl
theorem s146_10q : Runs 146 10 [some (zrf r), x1, x2] st h Q ↔ Runs 146 11 [some (zrf r), x1, x2] (zrf r :: st) h Q := R_aldnq rfl rfl
theorem s146_11 : Runs 146 11 ls st h Q ↔ Runs 146 12 ls (.int 1 :: st) h Q := R_iconst rfl rfl
theorem s146_12 (ht : tg a = 10) : Runs 146 12 ls (.int i :: .ref a :: st) (n, tg, ln, I, J, O) Q ↔ Runs 146 15 ls st (n, tg, ln, zu I a 16 i, J, O) Q := R_puti rfl rfl rfl rfl rfl rfl ht
theorem s146_15 : Runs 146 15 [some (.ref a), x1, x2] st h Q ↔ Runs 146 16 [some (.ref a), x1, x2] (.ref a :: st) h Q := R_aldn rfl rfl
theorem s146_15q : Runs 146 15 [some (zrf r), x1, x2] st h Q ↔ Runs 146 16 [some (zrf r), x1, x2] (zrf r :: st) h Q := R_aldnq rfl rfl
theorem s146_16 : Runs 146 16 [some (.ref a), x1, x2] st h Q ↔ Runs 146 17 [some (.ref a), x1, x2] (.ref a :: st) h Q := R_aldn rfl rfl
theorem s146_16q : Runs 146 16 [some (zrf r), x1, x2] st h Q ↔ Runs 146 17 [some (zrf r), x1, x2] (zrf r :: st) h Q := R_aldnq rfl rfl
theorem s146_17 (ht : tg a = 10) : Runs 146 17 ls (.ref a :: st) (n, tg, ln, I, J, O) Q ↔ Runs 146 20 ls (zrf (O a 0) :: st) (n, tg, ln, I, J, O) Q := R_getr rfl rfl rfl rfl ht
theorem s146_20 : Runs 146 20 ls st h Q ↔ Runs 146 22 ls (.int 90 :: st) h Q := R_bipush rfl (by decide)
theorem s146_22 (ht : tg a = 20) : Runs 146 22 ls (.int i :: .ref a :: st) (n, tg, ln, I, J, O) Q ↔ ((0 ≤ i ∧ i < Int32.ofNat (ln a)) ∧ Runs 146 23 ls (.int (I a i) :: st) (n, tg, ln, I, J, O) Q) := R_iald rfl ht
theorem s146_23 (ht : tg a = 10) : Runs 146 23 ls (.int i :: .ref a :: st) (n, tg, ln, I, J, O) Q ↔ Runs 146 26 ls st (n, tg, ln, zu I a 14 i, J, O) Q := R_puti rfl rfl rfl rfl rfl rfl ht
theorem s146_26 : Runs 146 26 [some (.ref a), x1, x2] st h Q ↔ Runs 146 27 [some (.ref a), x1, x2] (.ref a :: st) h Q := R_aldn rfl rfl
theorem s146_26q : Runs 146 26 [some (zrf r), x1, x2] st h Q ↔ Runs 146 27 [some (zrf r), x1, x2] (zrf r :: st) h Q := R_aldnq rfl rfl
theorem s146_27 (ht : tg a = 10) : Runs 146 27 ls (.ref a :: st) (n, tg, ln, I, J, O) Q ↔ Runs 146 30 ls (zrf (O a 15) :: st) (n, tg, ln, I, J, O) Q := R_getr rfl rfl rfl rfl ht
theorem s146_30 : Runs 146 30 ls st h Q ↔ Runs 146 31 ls (.int 0 :: st) h Q := R_iconst rfl rfl
theorem s146_31 : Runs 146 31 [some (.ref a), x1, x2] st h Q ↔ Runs 146 32 [some (.ref a), x1, x2] (.ref a :: st) h Q := R_aldn rfl rfl
theorem s146_31q : Runs 146 31 [some (zrf r), x1, x2] st h Q ↔ Runs 146 32 [some (zrf r), x1, x2] (zrf r :: st) h Q := R_aldnq rfl rfl
theorem s146_32 (ht : tg a = 10) : Runs 146 32 ls (.ref a :: st) (n, tg, ln, I, J, O) Q ↔ Runs 146 35 ls (zrf (O a 0) :: st) (n, tg, ln, I, J, O) Q := R_getr rfl rfl rfl rfl ht
theorem s146_35 : Runs 146 35 ls st h Q ↔ Runs 146 37 ls (.int 94 :: st) h Q := R_bipush rfl (by decide)
theorem s146_37 (ht : tg a = 20) : Runs 146 37 ls (.int i :: .ref a :: st) (n, tg, ln, I, J, O) Q ↔ ((0 ≤ i ∧ i < Int32.ofNat (ln a)) ∧ Runs 146 38 ls (.int (I a i) :: st) (n, tg, ln, I, J, O) Q) := R_iald rfl ht
theorem s146_38 (ht : tg a = 20) : Runs 146 38 ls (.int j :: .int i :: .ref a :: st) (n, tg, ln, I, J, O) Q ↔ ((0 ≤ i ∧ i < Int32.ofNat (ln a)) ∧ Runs 146 39 ls st (n, tg, ln, zu I a i j, J, O) Q) := R_iast rfl ht
theorem s146_39 : Runs 146 39 [some (.ref a), x1, x2] st h Q ↔ Runs 146 40 [some (.ref a), x1, x2] (.ref a :: st) h Q := R_aldn rfl rfl
theorem s146_39q : Runs 146 39 [some (zrf r), x1, x2] st h Q ↔ Runs 146 40 [some (zrf r), x1, x2] (zrf r :: st) h Q := R_aldnq rfl rfl
theorem s146_40 (ht : tg a = 10) : Runs 146 40 ls (.ref a :: st) (n, tg, ln, I, J, O) Q ↔ Runs 146 43 ls (zrf (O a 15) :: st) (n, tg, ln, I, J, O) Q := R_getr rfl rfl rfl rfl ht
theorem s146_43 : Runs 146 43 ls st h Q ↔ Runs 146 44 ls (.int 1 :: st) h Q := R_iconst rfl rfl
theorem s146_44 : Runs 146 44 [some (.ref a), x1, x2] st h Q ↔ Runs 146 45 [some (.ref a), x1, x2] (.ref a :: st) h Q := R_aldn rfl rfl
theorem s146_44q : Runs 146 44 [some (zrf r), x1, x2] st h Q ↔ Runs 146 45 [some (zrf r), x1, x2] (zrf r :: st) h Q := R_aldnq rfl rfl
theorem s146_45 (ht : tg a = 10) : Runs 146 45 ls (.ref a :: st) (n, tg, ln, I, J, O) Q ↔ Runs 146 48 ls (zrf (O a 0) :: st) (n, tg, ln, I, J, O) Q := R_getr rfl rfl rfl rfl ht
theorem s146_48 : Runs 146 48 ls st h Q ↔ Runs 146 50 ls (.int 95 :: st) h Q := R_bipush rfl (by decide)
theorem s146_50 (ht : tg a = 20) : Runs 146 50 ls (.int i :: .ref a :: st) (n, tg, ln, I, J, O) Q ↔ ((0 ≤ i ∧ i < Int32.ofNat (ln a)) ∧ Runs 146 51 ls (.int (I a i) :: st) (n, tg, ln, I, J, O) Q) := R_iald rfl ht
theorem s146_51 (ht : tg a = 20) : Runs 146 51 ls (.int j :: .int i :: .ref a :: st) (n, tg, ln, I, J, O) Q ↔ ((0 ≤ i ∧ i < Int32.ofNat (ln a)) ∧ Runs 146 52 ls st (n, tg, ln, zu I a i j, J, O) Q) := R_iast rfl ht
theorem s146_52 : Runs 146 52 [some (.ref a), x1, x2] st h Q ↔ Runs 146 53 [some (.ref a), x1, x2] (.ref a :: st) h Q := R_aldn rfl rfl
theorem s146_52q : Runs 146 52 [some (zrf r), x1, x2] st h Q ↔ Runs 146 53 [some (zrf r), x1, x2] (zrf r :: st) h Q := R_aldnq rfl rfl
theorem s146_53 (ht : tg a = 10) (hs : zsumc st ≤ 8) : Runs 146 53 ls (.ref a :: st) (n, tg, ln, I, J, O) Q ↔ Runs 133 0 [some (.ref a)] [] (n, tg, ln, I, J, O) (fun v h2 => Runs 146 56 ls (v.toList ++ st) h2 Q) := R_callv (a := a) (rest := st) rfl rfl rfl rfl rfl rfl rfl ht hs
theorem s146_56 : Runs 146 56 [some (.ref a), x1, x2] st h Q ↔ Runs 146 57 [some (.ref a), x1, x2] (.ref a :: st) h Q := R_aldn rfl rfl
theorem s146_56q : Runs 146 56 [some (zrf r), x1, x2] st h Q ↔ Runs 146 57 [some (zrf r), x1, x2] (zrf r :: st) h Q := R_aldnq rfl rfl
theorem s146_57 (ht : tg a = 10) (hs : zsumc st ≤ 8) : Runs 146 57 ls (.ref a :: st) (n, tg, ln, I, J, O) Q ↔ Runs 145 0 [some (.ref a)] [] (n, tg, ln, I, J, O) (fun v h2 => Runs 146 60 ls (v.toList ++ st) h2 Q) := R_callv (a := a) (rest := st) rfl rfl rfl rfl rfl rfl rfl ht hs
theorem s146_60 : Runs 146 60 [x0, x1, x2] (.int i :: st) h Q ↔ Runs 146 61 [x0, zdrop x1, some (.int i)] st h Q := R_istn rfl rfl rfl
theorem s146_61 : Runs 146 61 [x0, x1, some (.int i)] st h Q ↔ Runs 146 62 [x0, x1, some (.int i)] (.int i :: st) h Q := R_ildn rfl rfl
theorem s146_62 : Runs 146 62 ls (.int i :: st) h Q ↔ if i = 0 then Runs 146 131 ls st h Q else Runs 146 65 ls st h Q := R_ifeq rfl rfl
theorem s146_65 : Runs 146 65 [some (.ref a), x1, x2] st h Q ↔ Runs 146 66 [some (.ref a), x1, x2] (.ref a :: st) h Q := R_aldn rfl rfl
theorem s146_65q : Runs 146 65 [some (zrf r), x1, x2] st h Q ↔ Runs 146 66 [some (zrf r), x1, x2] (zrf r :: st) h Q := R_aldnq rfl rfl
theorem s146_66 (ht : tg a = 10) : Runs 146 66 ls (.ref a :: st) (n, tg, ln, I, J, O) Q ↔ Runs 146 69 ls (.int (I a 12) :: st) (n, tg, ln, I, J, O) Q := R_geti rfl rfl rfl rfl ht
theorem s146_69 : Runs 146 69 [some (.ref a), x1, x2] st h Q ↔ Runs 146 70 [some (.ref a), x1, x2] (.ref a :: st) h Q := R_aldn rfl rfl
theorem s146_69q : Runs 146 69 [some (zrf r), x1, x2] st h Q ↔ Runs 146 70 [some (zrf r), x1, x2] (zrf r :: st) h Q := R_aldnq rfl rfl
theorem s146_70 (ht : tg a = 10) : Runs 146 70 ls (.ref a :: st) (n, tg, ln, I, J, O) Q ↔ Runs 146 73 ls (.int (I a 4) :: st) (n, tg, ln, I, J, O) Q := R_geti rfl rfl rfl rfl ht
theorem s146_73 : Runs 146 73 ls (.int j :: .int i :: st) h Q ↔ if j ≤ i then Runs 146 131 ls st h Q else Runs 146 76 ls st h Q := R_icge rfl rfl
theorem s146_76 : Runs 146 76 [some (.ref a), x1, x2] st h Q ↔ Runs 146 77 [some (.ref a), x1, x2] (.ref a :: st) h Q := R_aldn rfl rfl
theorem s146_76q : Runs 146 76 [some (zrf r), x1, x2] st h Q ↔ Runs 146 77 [some (zrf r), x1, x2] (zrf r :: st) h Q := R_aldnq rfl rfl
theorem s146_77 (ht : tg a = 10) : Runs 146 77 ls (.ref a :: st) (n, tg, ln, I, J, O) Q ↔ Runs 146 80 ls (.int (I a 16) :: st) (n, tg, ln, I, J, O) Q := R_geti rfl rfl rfl rfl ht
theorem s146_80 : Runs 146 80 ls st h Q ↔ Runs 146 82 ls (.int 20 :: st) h Q := R_bipush rfl (by decide)
theorem s146_82 : Runs 146 82 ls (.int j :: .int i :: st) h Q ↔ if j ≤ i then Runs 146 103 ls st h Q else Runs 146 85 ls st h Q := R_icge rfl rfl
theorem s146_85 : Runs 146 85 [some (.ref a), x1, x2] st h Q ↔ Runs 146 86 [some (.ref a), x1, x2] (.ref a :: st) h Q := R_aldn rfl rfl
theorem s146_85q : Runs 146 85 [some (zrf r), x1, x2] st h Q ↔ Runs 146 86 [some (zrf r), x1, x2] (zrf r :: st) h Q := R_aldnq rfl rfl
theorem s146_86 (ht : tg a = 10) : Runs 146 86 ls (.ref a :: st) (n, tg, ln, I, J, O) Q ↔ Runs 146 89 ls (zrf (O a 3) :: st) (n, tg, ln, I, J, O) Q := R_getr rfl rfl rfl rfl ht
theorem s146_89 : Runs 146 89 [some (.ref a), x1, x2] st h Q ↔ Runs 146 90 [some (.ref a), x1, x2] (.ref a :: st) h Q := R_aldn rfl rfl
theorem s146_89q : Runs 146 89 [some (zrf r), x1, x2] st h Q ↔ Runs 146 90 [some (zrf r), x1, x2] (zrf r :: st) h Q := R_aldnq rfl rfl
theorem s146_90 (ht : tg a = 10) : Runs 146 90 ls (.ref a :: st) (n, tg, ln, I, J, O) Q ↔ Runs 146 93 ls (.int (I a 12) :: st) (n, tg, ln, I, J, O) Q := R_geti rfl rfl rfl rfl ht
theorem s146_93 (ht : tg a = 20) : Runs 146 93 ls (.int i :: .ref a :: st) (n, tg, ln, I, J, O) Q ↔ ((0 ≤ i ∧ i < Int32.ofNat (ln a)) ∧ Runs 146 94 ls (.int (I a i) :: st) (n, tg, ln, I, J, O) Q) := R_iald rfl ht
theorem s146_94 : Runs 146 94 ls st h Q ↔ Runs 146 96 ls (.int 59 :: st) h Q := R_bipush rfl (by decide)
theorem s146_96 : Runs 146 96 ls (.int j :: .int i :: st) h Q ↔ if ¬ i = j then Runs 146 103 ls st h Q else Runs 146 99 ls st h Q := R_icne rfl rfl
theorem s146_99 : Runs 146 99 ls st h Q ↔ Runs 146 100 ls (.int 1 :: st) h Q := R_iconst rfl rfl
theorem s146_100 : Runs 146 100 ls st h Q ↔ Runs 146 104 ls st h Q := R_goto rfl rfl
theorem s146_103 : Runs 146 103 ls st h Q ↔ Runs 146 104 ls (.int 0 :: st) h Q := R_iconst rfl rfl
theorem s146_104 : Runs 146 104 [x0, x1, x2] (.int i :: st) h Q ↔ Runs 146 105 [x0, zdrop x1, some (.int i)] st h Q := R_istn rfl rfl rfl
theorem s146_105 : Runs 146 105 [x0, x1, some (.int i)] st h Q ↔ Runs 146 106 [x0, x1, some (.int i)] (.int i :: st) h Q := R_ildn rfl rfl
theorem s146_106 : Runs 146 106 ls (.int i :: st) h Q ↔ if i = 0 then Runs 146 61 ls st h Q else Runs 146 109 ls st h Q := R_ifeq rfl rfl
theorem s146_109 : Runs 146 109 [some (.ref a), x1, x2] st h Q ↔ Runs 146 110 [some (.ref a), x1, x2] (.ref a :: st) h Q := R_aldn rfl rfl
theorem s146_109q : Runs 146 109 [some (zrf r), x1, x2] st h Q ↔ Runs 146 110 [some (zrf r), x1, x2] (zrf r :: st) h Q := R_aldnq rfl rfl
theorem s146_110 (ht : tg a = 10) (hs : zsumc st ≤ 8) : Runs 146 110 ls (.ref a :: st) (n, tg, ln, I, J, O) Q ↔ Runs 133 0 [some (.ref a)] [] (n, tg, ln, I, J, O) (fun v h2 => Runs 146 113 ls (v.toList ++ st) h2 Q) := R_callv (a := a) (rest := st) rfl rfl rfl rfl rfl rfl rfl ht hs
theorem s146_113 : Runs 146 113 [some (.ref a), x1, x2] st h Q ↔ Runs 146 114 [some (.ref a), x1, x2] (.ref a :: st) h Q := R_aldn rfl rfl
theorem s146_113q : Runs 146 113 [some (zrf r), x1, x2] st h Q ↔ Runs 146 114 [some (zrf r), x1, x2] (zrf r :: st) h Q := R_aldnq rfl rfl
theorem s146_114 (ht : tg a = 10) (hs : zsumc st ≤ 8) : Runs 146 114 ls (.ref a :: st) (n, tg, ln, I, J, O) Q ↔ Runs 145 0 [some (.ref a)] [] (n, tg, ln, I, J, O) (fun v h2 => Runs 146 117 ls (v.toList ++ st) h2 Q) := R_callv (a := a) (rest := st) rfl rfl rfl rfl rfl rfl rfl ht hs
theorem s146_117 : Runs 146 117 [x0, x1, x2] (.int i :: st) h Q ↔ Runs 146 118 [x0, zdrop x1, some (.int i)] st h Q := R_istn rfl rfl rfl
theorem s146_118 : Runs 146 118 [some (.ref a), x1, x2] st h Q ↔ Runs 146 119 [some (.ref a), x1, x2] (.ref a :: st) h Q := R_aldn rfl rfl
theorem s146_118q : Runs 146 118 [some (zrf r), x1, x2] st h Q ↔ Runs 146 119 [some (zrf r), x1, x2] (zrf r :: st) h Q := R_aldnq rfl rfl
theorem s146_119 : Runs 146 119 ls (.int i :: st) h Q ↔ Runs 146 120 ls (.int i :: .int i :: st) h Q := R_dupi rfl
theorem s146_119q : Runs 146 119 ls (.ref a :: st) h Q ↔ Runs 146 120 ls (.ref a :: .ref a :: st) h Q := R_dupr rfl
theorem s146_120 (ht : tg a = 10) : Runs 146 120 ls (.ref a :: st) (n, tg, ln, I, J, O) Q ↔ Runs 146 123 ls (.int (I a 16) :: st) (n, tg, ln, I, J, O) Q := R_geti rfl rfl rfl rfl ht
theorem s146_123 : Runs 146 123 ls st h Q ↔ Runs 146 124 ls (.int 1 :: st) h Q := R_iconst rfl rfl
theorem s146_124 : Runs 146 124 ls (.int j :: .int i :: st) h Q ↔ Runs 146 125 ls (.int (i + j) :: st) h Q := R_iadd rfl
theorem s146_125 (ht : tg a = 10) : Runs 146 125 ls (.int i :: .ref a :: st) (n, tg, ln, I, J, O) Q ↔ Runs 146 128 ls st (n, tg, ln, zu I a 16 i, J, O) Q := R_puti rfl rfl rfl rfl rfl rfl ht
theorem s146_128 : Runs 146 128 ls st h Q ↔ Runs 146 61 ls st h Q := R_goto rfl rfl
theorem s146_131 : Runs 146 131 [x0, x1, some (.int i)] st h Q ↔ Runs 146 132 [x0, x1, some (.int i)] (.int i :: st) h Q := R_ildn rfl rfl
theorem s146_132 (hx : i = 0 ∨ i = 1) : Runs 146 132 ls [.int i] h Q ↔ Q (some (.int i)) h := R_zret rfl rfl hx
theorem s147_0 : Runs 147 0 [some (.ref a)] st h Q ↔ Runs 147 1 [some (.ref a)] (.ref a :: st) h Q := R_aldn rfl rfl
theorem s147_0q : Runs 147 0 [some (zrf r)] st h Q ↔ Runs 147 1 [some (zrf r)] (zrf r :: st) h Q := R_aldnq rfl rfl
theorem s147_1 : Runs 147 1 ls st h Q ↔ Runs 147 2 ls (.int 0 :: st) h Q := R_iconst rfl rfl
theorem s147_2 (ht : tg a = 10) (hs : zsumc st ≤ 8) : Runs 147 2 ls (.int i0 :: .ref a :: st) (n, tg, ln, I, J, O) Q ↔ Runs 146 0 [some (.ref a), some (.int i0), none] [] (n, tg, ln, I, J, O) (fun v h2 => Runs 147 5 ls (v.toList ++ st) h2 Q) := R_callv (a := a) (rest := st) rfl rfl rfl rfl rfl rfl rfl ht hs
theorem s147_5 : Runs 147 5 ls (.int i :: st) h Q ↔ if i = 0 then Runs 147 12 ls st h Q else Runs 147 8 ls st h Q := R_ifeq rfl rfl
theorem s147_8 : Runs 147 8 ls st h Q ↔ Runs 147 9 ls (.int (-1) :: st) h Q := R_iconst rfl rfl
theorem s147_9 : Runs 147 9 ls st h Q ↔ Runs 147 16 ls st h Q := R_goto rfl rfl
theorem s147_12 : Runs 147 12 [some (.ref a)] st h Q ↔ Runs 147 13 [some (.ref a)] (.ref a :: st) h Q := R_aldn rfl rfl
theorem s147_12q : Runs 147 12 [some (zrf r)] st h Q ↔ Runs 147 13 [some (zrf r)] (zrf r :: st) h Q := R_aldnq rfl rfl
theorem s147_13 (ht : tg a = 10) : Runs 147 13 ls (.ref a :: st) (n, tg, ln, I, J, O) Q ↔ Runs 147 16 ls (.int (I a 12) :: st) (n, tg, ln, I, J, O) Q := R_geti rfl rfl rfl rfl ht
theorem s147_16 : Runs 147 16 ls [.int i] h Q ↔ Q (some (.int i)) h := R_iret rfl rfl
theorem s149_0 : Runs 149 0 [some (.ref a), x1] st h Q ↔ Runs 149 1 [some (.ref a), x1] (.ref a :: st) h Q := R_aldn rfl rfl
theorem s149_0q : Runs 149 0 [some (zrf r), x1] st h Q ↔ Runs 149 1 [some (zrf r), x1] (zrf r :: st) h Q := R_aldnq rfl rfl
theorem s149_1 : Runs 149 1 ls st h Q ↔ Runs 149 2 ls (.int 0 :: st) h Q := R_iconst rfl rfl
theorem s149_2 (ht : tg a = 10) (hs : zsumc st ≤ 8) : Runs 149 2 ls (.int i0 :: .ref a :: st) (n, tg, ln, I, J, O) Q ↔ Runs 146 0 [some (.ref a), some (.int i0), none] [] (n, tg, ln, I, J, O) (fun v h2 => Runs 149 5 ls (v.toList ++ st) h2 Q) := R_callv (a := a) (rest := st) rfl rfl rfl rfl rfl rfl rfl ht hs
theorem s149_5 : Runs 149 5 ls (.int i :: st) h Q ↔ if ¬ i = 0 then Runs 149 11 ls st h Q else Runs 149 8 ls st h Q := R_ifne rfl rfl
theorem s149_8 : Runs 149 8 ls st h Q ↔ Runs 149 10 ls (.int (-4) :: st) h Q := R_bipush rfl (by decide)
theorem s149_10 : Runs 149 10 ls [.int i] h Q ↔ Q (some (.int i)) h := R_iret rfl rfl
theorem s149_11 : Runs 149 11 [some (.ref a), x1] st h Q ↔ Runs 149 12 [some (.ref a), x1] (.ref a :: st) h Q := R_aldn rfl rfl
theorem s149_11q : Runs 149 11 [some (zrf r), x1] st h Q ↔ Runs 149 12 [some (zrf r), x1] (zrf r :: st) h Q := R_aldnq rfl rfl
theorem s149_12 : Runs 149 12 ls st h Q ↔ Runs 149 13 ls (.int 1 :: st) h Q := R_iconst rfl rfl
theorem s149_13 (ht : tg a = 10) (hs : zsumc st ≤ 8) : Runs 149 13 ls (.int i0 :: .ref a :: st) (n, tg, ln, I, J, O) Q ↔ Runs 146 0 [some (.ref a), some (.int i0), none] [] (n, tg, ln, I, J, O) (fun v h2 => Runs 149 16 ls (v.toList ++ st) h2 Q) := R_callv (a := a) (rest := st) rfl rfl rfl rfl rfl rfl rfl ht hs
theorem s149_16 : Runs 149 16 ls (.int i :: st) h Q ↔ Runs 149 17 ls st h Q := R_pop rfl
theorem s149_17 : Runs 149 17 [some (.ref a), x1] st h Q ↔ Runs 149 18 [some (.ref a), x1] (.ref a :: st) h Q := R_aldn rfl rfl
theorem s149_17q : Runs 149 17 [some (zrf r), x1] st h Q ↔ Runs 149 18 [some (zrf r), x1] (zrf r :: st) h Q := R_aldnq rfl rfl
theorem s149_18 : Runs 149 18 ls st h Q ↔ Runs 149 19 ls (.int 0 :: st) h Q := R_iconst rfl rfl
theorem s149_19 (ht : tg a = 10) : Runs 149 19 ls (.int i :: .ref a :: st) (n, tg, ln, I, J, O) Q ↔ Runs 149 22 ls st (n, tg, ln, zu I a 4 i, J, O) Q := R_puti rfl rfl rfl rfl rfl rfl ht
theorem s149_22 : Runs 149 22 [some (.ref a), x1] st h Q ↔ Runs 149 23 [some (.ref a), x1] (.ref a :: st) h Q := R_aldn rfl rfl
theorem s149_22q : Runs 149 22 [some (zrf r), x1] st h Q ↔ Runs 149 23 [some (zrf r), x1] (zrf r :: st) h Q := R_aldnq rfl rfl
theorem s149_23 : Runs 149 23 ls st h Q ↔ Runs 149 25 ls (.int 90 :: st) h Q := R_bipush rfl (by decide)
theorem s149_25 : Runs 149 25 ls st h Q ↔ Runs 149 26 ls (.int 0 :: st) h Q := R_iconst rfl rfl
theorem s149_26 (ht : tg a = 10) (hs : zsumc st ≤ 8) : Runs 149 26 ls (.int i1 :: .int i0 :: .ref a :: st) (n, tg, ln, I, J, O) Q ↔ Runs 148 0 [some (.ref a), some (.int i0), some (.int i1), none] [] (n, tg, ln, I, J, O) (fun v h2 => Runs 149 29 ls (v.toList ++ st) h2 Q) := R_callv (a := a) (rest := st) rfl rfl rfl rfl rfl rfl rfl ht hs
theorem s149_29 : Runs 149 29 [some (.ref a), x1] st h Q ↔ Runs 149 30 [some (.ref a), x1] (.ref a :: st) h Q := R_aldn rfl rfl
theorem s149_29q : Runs 149 29 [some (zrf r), x1] st h Q ↔ Runs 149 30 [some (zrf r), x1] (zrf r :: st) h Q := R_aldnq rfl rfl
theorem s149_30 : Runs 149 30 ls st h Q ↔ Runs 149 31 ls (.int 0 :: st) h Q := R_iconst rfl rfl
theorem s149_31 (ht : tg a = 10) : Runs 149 31 ls (.int i :: .ref a :: st) (n, tg, ln, I, J, O) Q ↔ Runs 149 34 ls st (n, tg, ln, zu I a 1 i, J, O) Q := R_puti rfl rfl rfl rfl rfl rfl ht
theorem s149_34 : Runs 149 34 [some (.ref a), x1] st h Q ↔ Runs 149 35 [some (.ref a), x1] (.ref a :: st) h Q := R_aldn rfl rfl
theorem s149_34q : Runs 149 34 [some (zrf r), x1] st h Q ↔ Runs 149 35 [some (zrf r), x1] (zrf r :: st) h Q := R_aldnq rfl rfl
theorem s149_35 (ht : tg a = 10) : Runs 149 35 ls (.ref a :: st) (n, tg, ln, I, J, O) Q ↔ Runs 149 38 ls (zrf (O a 2) :: st) (n, tg, ln, I, J, O) Q := R_getr rfl rfl rfl rfl ht
theorem s149_38 : Runs 149 38 ls st h Q ↔ Runs 149 39 ls (.int 0 :: st) h Q := R_iconst rfl rfl
theorem s149_39 : Runs 149 39 ls st h Q ↔ Runs 149 40 ls (.int 0 :: st) h Q := R_iconst rfl rfl
theorem s149_40 (ht : tg a = 22) (hx : j = 0 ∨ j = 1) : Runs 149 40 ls (.int j :: .int i :: .ref a :: st) (n, tg, ln, I, J, O) Q ↔ ((0 ≤ i ∧ i < Int32.ofNat (ln a)) ∧ Runs 149 41 ls st (n, tg, ln, zu I a i j, J, O) Q) := R_bast rfl ht hx
theorem s149_41 : Runs 149 41 [some (.ref a), x1] st h Q ↔ Runs 149 42 [some (.ref a), x1] (.ref a :: st) h Q := R_aldn rfl rfl
theorem s149_41q : Runs 149 41 [some (zrf r), x1] st h Q ↔ Runs 149 42 [some (zrf r), x1] (zrf r :: st) h Q := R_aldnq rfl rfl
theorem s149_42 (ht : tg a = 10) : Runs 149 42 ls (.ref a :: st) (n, tg, ln, I, J, O) Q ↔ Runs 149 45 ls (zrf (O a 2) :: st) (n, tg, ln, I, J, O) Q := R_getr rfl rfl rfl rfl ht
theorem s149_45 : Runs 149 45 ls st h Q ↔ Runs 149 46 ls (.int 1 :: st) h Q := R_iconst rfl rfl
theorem s149_46 : Runs 149 46 ls st h Q ↔ Runs 149 47 ls (.int 0 :: st) h Q := R_iconst rfl rfl
theorem s149_47 (ht : tg a = 22) (hx : j = 0 ∨ j = 1) : Runs 149 47 ls (.int j :: .int i :: .ref a :: st) (n, tg, ln, I, J, O) Q ↔ ((0 ≤ i ∧ i < Int32.ofNat (ln a)) ∧ Runs 149 48 ls st (n, tg, ln, zu I a i j, J, O) Q) := R_bast rfl ht hx
theorem s149_48 : Runs 149 48 [some (.ref a), x1] st h Q ↔ Runs 149 49 [some (.ref a), x1] (.ref a :: st) h Q := R_aldn rfl rfl
theorem s149_48q : Runs 149 48 [some (zrf r), x1] st h Q ↔ Runs 149 49 [some (zrf r), x1] (zrf r :: st) h Q := R_aldnq rfl rfl
theorem s149_49 : Runs 149 49 ls st h Q ↔ Runs 149 50 ls (.int 0 :: st) h Q := R_iconst rfl rfl
theorem s149_50 (ht : tg a = 10) : Runs 149 50 ls (.int i :: .ref a :: st) (n, tg, ln, I, J, O) Q ↔ Runs 149 53 ls st (n, tg, ln, zu I a 5 i, J, O) Q := R_puti rfl rfl rfl rfl rfl rfl ht
theorem s149_53 : Runs 149 53 ls st h Q ↔ Runs 149 54 ls (.int 0 :: st) h Q := R_iconst rfl rfl
theorem s149_54 : Runs 149 54 [x0, x1] (.int i :: st) h Q ↔ Runs 149 55 [zdrop x0, some (.int i)] st h Q := R_istn rfl rfl rfl
theorem s149_55 : Runs 149 55 [x0, some (.int i)] st h Q ↔ Runs 149 56 [x0, some (.int i)] (.int i :: st) h Q := R_ildn rfl rfl
theorem s149_56 : Runs 149 56 ls st h Q ↔ Runs 149 57 ls (.int 3 :: st) h Q := R_iconst rfl rfl
theorem s149_57 : Runs 149 57 ls (.int j :: .int i :: st) h Q ↔ if j ≤ i then Runs 149 73 ls st h Q else Runs 149 60 ls st h Q := R_icge rfl rfl
theorem s149_60 : Runs 149 60 [some (.ref a), x1] st h Q ↔ Runs 149 61 [some (.ref a), x1] (.ref a :: st) h Q := R_aldn rfl rfl
theorem s149_60q : Runs 149 60 [some (zrf r), x1] st h Q ↔ Runs 149 61 [some (zrf r), x1] (zrf r :: st) h Q := R_aldnq rfl rfl
theorem s149_61 (ht : tg a = 10) : Runs 149 61 ls (.ref a :: st) (n, tg, ln, I, J, O) Q ↔ Runs 149 64 ls (zrf (O a 8) :: st) (n, tg, ln, I, J, O) Q := R_getr rfl rfl rfl rfl ht
theorem s149_64 : Runs 149 64 [x0, some (.int i)] st h Q ↔ Runs 149 65 [x0, some (.int i)] (.int i :: st) h Q := R_ildn rfl rfl
theorem s149_65 : Runs 149 65 ls st h Q ↔ Runs 149 66 ls (.int (-1) :: st) h Q := R_iconst rfl rfl
theorem s149_66 (ht : tg a = 20) : Runs 149 66 ls (.int j :: .int i :: .ref a :: st) (n, tg, ln, I, J, O) Q ↔ ((0 ≤ i ∧ i < Int32.ofNat (ln a)) ∧ Runs 149 67 ls st (n, tg, ln, zu I a i j, J, O) Q) := R_iast rfl ht
theorem s149_67 : Runs 149 67 [x0, some (.int i)] st h Q ↔ Runs 149 70 [zdrop x0, some (.int (i + 1))] st h Q := R_iinc rfl rfl rfl rfl rfl
theorem s149_70 : Runs 149 70 ls st h Q ↔ Runs 149 55 ls st h Q := R_goto rfl rfl
theorem s149_73 : Runs 149 73 [some (.ref a), x1] st h Q ↔ Runs 149 74 [some (.ref a), x1] (.ref a :: st) h Q := R_aldn rfl rfl
theorem s149_73q : Runs 149 73 [some (zrf r), x1] st h Q ↔ Runs 149 74 [some (zrf r), x1] (zrf r :: st) h Q := R_aldnq rfl rfl
theorem s149_74 (ht : tg a = 10) : Runs 149 74 ls (.ref a :: st) (n, tg, ln, I, J, O) Q ↔ Runs 149 77 ls (.int (I a 16) :: st) (n, tg, ln, I, J, O) Q := R_geti rfl rfl rfl rfl ht
theorem s149_77 : Runs 149 77 ls [.int i] h Q ↔ Q (some (.int i)) h := R_iret rfl rfl
theorem s154_0 : Runs 154 0 [some (.ref a), x1, x2, x3] st h Q ↔ Runs 154 1 [some (.ref a), x1, x2, x3] (.ref a :: st) h Q := R_aldn rfl rfl
theorem s154_0q : Runs 154 0 [some (zrf r), x1, x2, x3] st h Q ↔ Runs 154 1 [some (zrf r), x1, x2, x3] (zrf r :: st) h Q := R_aldnq rfl rfl
theorem s154_1 : Runs 154 1 [x0, some (.int i), x2, x3] st h Q ↔ Runs 154 2 [x0, some (.int i), x2, x3] (.int i :: st) h Q := R_ildn rfl rfl
theorem s154_2 : Runs 154 2 ls (.int i :: st) h Q ↔ Runs 154 3 ls (.long i.toInt64 :: st) h Q := R_i2l rfl
theorem s154_3 (ht : tg a = 10) (hs : zsumc st ≤ 8) : Runs 154 3 ls (.long u0 :: .ref a :: st) (n, tg, ln, I, J, O) Q ↔ Runs 150 0 [some (.ref a), some (.long u0), none] [] (n, tg, ln, I, J, O) (fun v h2 => Runs 154 6 ls (v.toList ++ st) h2 Q) := R_callv (a := a) (rest := st) rfl rfl rfl rfl rfl rfl rfl ht hs
theorem s154_6 : Runs 154 6 ls (.int i :: st) h Q ↔ if ¬ i = 0 then Runs 154 12 ls st h Q else Runs 154 9 ls st h Q := R_ifne rfl rfl
theorem s154_9 : Runs 154 9 ls st h Q ↔ Runs 154 11 ls (.int (-2) :: st) h Q := R_bipush rfl (by decide)
theorem s154_11 : Runs 154 11 ls [.int i] h Q ↔ Q (some (.int i)) h := R_iret rfl rfl
theorem s154_12 : Runs 154 12 [some (.ref a), x1, x2, x3] st h Q ↔ Runs 154 13 [some (.ref a), x1, x2, x3] (.ref a :: st) h Q := R_aldn rfl rfl
theorem s154_12q : Runs 154 12 [some (zrf r), x1, x2, x3] st h Q ↔ Runs 154 13 [some (zrf r), x1, x2, x3] (zrf r :: st) h Q := R_aldnq rfl rfl
theorem s154_13 : Runs 154 13 ls st h Q ↔ Runs 154 14 ls (.int 0 :: st) h Q := R_iconst rfl rfl
theorem s154_14 : Runs 154 14 [x0, some (.int i), x2, x3] st h Q ↔ Runs 154 15 [x0, some (.int i), x2, x3] (.int i :: st) h Q := R_ildn rfl rfl
theorem s154_15 (ht : tg a = 10) (hs : zsumc st ≤ 8) : Runs 154 15 ls (.int i1 :: .int i0 :: .ref a :: st) (n, tg, ln, I, J, O) Q ↔ Runs 152 0 [some (.ref a), some (.int i0), some (.int i1), none, none] [] (n, tg, ln, I, J, O) (fun v h2 => Runs 154 18 ls (v.toList ++ st) h2 Q) := R_callv (a := a) (rest := st) rfl rfl rfl rfl rfl rfl rfl ht hs
theorem s154_18 : Runs 154 18 [x0, x1, x2, x3] (.int i :: st) h Q ↔ Runs 154 19 [x0, x1, zdrop x2, some (.int i)] st h Q := R_istn rfl rfl rfl
theorem s154_19 : Runs 154 19 [x0, x1, some (.int i), x3] st h Q ↔ Runs 154 20 [x0, x1, some (.int i), x3] (.int i :: st) h Q := R_ildn rfl rfl
theorem s154_20 : Runs 154 20 ls (.int i :: st) h Q ↔ if i = 0 then Runs 154 60 ls st h Q else if i = 1 then Runs 154 70 ls st h Q else if i = 2 then Runs 154 80 ls st h Q else if i = 3 then Runs 154 94 ls st h Q else if i = 4 then Runs 154 108 ls st h Q else if i = 5 then Runs 154 118 ls st h Q else Runs 154 128 ls st h Q := by
  by_cases h0 : i = 0
  · rw [if_pos h0]; subst h0; exact R_tabI rfl (by decide) rfl rfl
  rw [if_neg h0]
  by_cases h1 : i = 1
  · rw [if_pos h1]; subst h1; exact R_tabI rfl (by decide) rfl rfl
  rw [if_neg h1]
  by_cases h2 : i = 2
  · rw [if_pos h2]; subst h2; exact R_tabI rfl (by decide) rfl rfl
  rw [if_neg h2]
  by_cases h3 : i = 3
  · rw [if_pos h3]; subst h3; exact R_tabI rfl (by decide) rfl rfl
  rw [if_neg h3]
  by_cases h4 : i = 4
  · rw [if_pos h4]; subst h4; exact R_tabI rfl (by decide) rfl rfl
  rw [if_neg h4]
  by_cases h5 : i = 5
  · rw [if_pos h5]; subst h5; exact R_tabI rfl (by decide) rfl rfl
  rw [if_neg h5]
  exact R_tabO rfl (zout 5 i (by decide) (fun v hv => match v, hv with
    | 0, _ => h0
    | 1, _ => h1
    | 2, _ => h2
    | 3, _ => h3
    | 4, _ => h4
    | 5, _ => h5
    | z + 6, hv => absurd hv (by omega))) rfl
theorem s154_60 : Runs 154 60 [some (.ref a), x1, x2, x3] st h Q ↔ Runs 154 61 [some (.ref a), x1, x2, x3] (.ref a :: st) h Q := R_aldn rfl rfl
theorem s154_60q : Runs 154 60 [some (zrf r), x1, x2, x3] st h Q ↔ Runs 154 61 [some (zrf r), x1, x2, x3] (zrf r :: st) h Q := R_aldnq rfl rfl
theorem s154_61 (ht : tg a = 10) : Runs 154 61 ls (.ref a :: st) (n, tg, ln, I, J, O) Q ↔ Runs 154 64 ls (zrf (O a 0) :: st) (n, tg, ln, I, J, O) Q := R_getr rfl rfl rfl rfl ht
theorem s154_64 : Runs 154 64 ls st h Q ↔ Runs 154 66 ls (.int 30 :: st) h Q := R_bipush rfl (by decide)
theorem s154_66 : Runs 154 66 [x0, some (.int i), x2, x3] st h Q ↔ Runs 154 67 [x0, some (.int i), x2, x3] (.int i :: st) h Q := R_ildn rfl rfl
theorem s154_67 : Runs 154 67 ls (.int j :: .int i :: st) h Q ↔ Runs 154 68 ls (.int (i + j) :: st) h Q := R_iadd rfl
theorem s154_68 (ht : tg a = 20) : Runs 154 68 ls (.int i :: .ref a :: st) (n, tg, ln, I, J, O) Q ↔ ((0 ≤ i ∧ i < Int32.ofNat (ln a)) ∧ Runs 154 69 ls (.int (I a i) :: st) (n, tg, ln, I, J, O) Q) := R_iald rfl ht
theorem s154_69 : Runs 154 69 ls [.int i] h Q ↔ Q (some (.int i)) h := R_iret rfl rfl
theorem s154_70 : Runs 154 70 [some (.ref a), x1, x2, x3] st h Q ↔ Runs 154 71 [some (.ref a), x1, x2, x3] (.ref a :: st) h Q := R_aldn rfl rfl
theorem s154_70q : Runs 154 70 [some (zrf r), x1, x2, x3] st h Q ↔ Runs 154 71 [some (zrf r), x1, x2, x3] (zrf r :: st) h Q := R_aldnq rfl rfl
theorem s154_71 (ht : tg a = 10) : Runs 154 71 ls (.ref a :: st) (n, tg, ln, I, J, O) Q ↔ Runs 154 74 ls (zrf (O a 0) :: st) (n, tg, ln, I, J, O) Q := R_getr rfl rfl rfl rfl ht
theorem s154_74 : Runs 154 74 ls st h Q ↔ Runs 154 76 ls (.int 42 :: st) h Q := R_bipush rfl (by decide)
theorem s154_76 : Runs 154 76 [x0, some (.int i), x2, x3] st h Q ↔ Runs 154 77 [x0, some (.int i), x2, x3] (.int i :: st) h Q := R_ildn rfl rfl
theorem s154_77 : Runs 154 77 ls (.int j :: .int i :: st) h Q ↔ Runs 154 78 ls (.int (i + j) :: st) h Q := R_iadd rfl
theorem s154_78 (ht : tg a = 20) : Runs 154 78 ls (.int i :: .ref a :: st) (n, tg, ln, I, J, O) Q ↔ ((0 ≤ i ∧ i < Int32.ofNat (ln a)) ∧ Runs 154 79 ls (.int (I a i) :: st) (n, tg, ln, I, J, O) Q) := R_iald rfl ht
theorem s154_79 : Runs 154 79 ls [.int i] h Q ↔ Q (some (.int i)) h := R_iret rfl rfl
theorem s154_80 : Runs 154 80 [x0, x1, x2, some (.int i)] st h Q ↔ Runs 154 81 [x0, x1, x2, some (.int i)] (.int i :: st) h Q := R_ildn rfl rfl
theorem s154_81 : Runs 154 81 ls st h Q ↔ Runs 154 82 ls (.int (-1) :: st) h Q := R_iconst rfl rfl
theorem s154_82 : Runs 154 82 ls (.int j :: .int i :: st) h Q ↔ if ¬ i = j then Runs 154 89 ls st h Q else Runs 154 85 ls st h Q := R_icne rfl rfl
theorem s154_85 : Runs 154 85 ls st h Q ↔ Runs 154 86 ls (.int (-1) :: st) h Q := R_iconst rfl rfl
theorem s154_86 : Runs 154 86 ls st h Q ↔ Runs 154 93 ls st h Q := R_goto rfl rfl
theorem s154_89 : Runs 154 89 [x0, x1, x2, some (.int i)] st h Q ↔ Runs 154 90 [x0, x1, x2, some (.int i)] (.int i :: st) h Q := R_ildn rfl rfl
theorem s154_90 : Runs 154 90 ls st h Q ↔ Runs 154 92 ls (.int 100 :: st) h Q := R_bipush rfl (by decide)
theorem s154_92 : Runs 154 92 ls (.int j :: .int i :: st) h Q ↔ (¬ j = 0 ∧ Runs 154 93 ls (.int (i / j) :: st) h Q) := R_idiv rfl
theorem s154_93 : Runs 154 93 ls [.int i] h Q ↔ Q (some (.int i)) h := R_iret rfl rfl
theorem s154_94 : Runs 154 94 [x0, x1, x2, some (.int i)] st h Q ↔ Runs 154 95 [x0, x1, x2, some (.int i)] (.int i :: st) h Q := R_ildn rfl rfl
theorem s154_95 : Runs 154 95 ls st h Q ↔ Runs 154 96 ls (.int (-1) :: st) h Q := R_iconst rfl rfl
theorem s154_96 : Runs 154 96 ls (.int j :: .int i :: st) h Q ↔ if ¬ i = j then Runs 154 103 ls st h Q else Runs 154 99 ls st h Q := R_icne rfl rfl
theorem s154_99 : Runs 154 99 ls st h Q ↔ Runs 154 100 ls (.int (-1) :: st) h Q := R_iconst rfl rfl
theorem s154_100 : Runs 154 100 ls st h Q ↔ Runs 154 107 ls st h Q := R_goto rfl rfl
theorem s154_103 : Runs 154 103 [x0, x1, x2, some (.int i)] st h Q ↔ Runs 154 104 [x0, x1, x2, some (.int i)] (.int i :: st) h Q := R_ildn rfl rfl
theorem s154_104 : Runs 154 104 ls st h Q ↔ Runs 154 106 ls (.int 100 :: st) h Q := R_bipush rfl (by decide)
theorem s154_106 : Runs 154 106 ls (.int j :: .int i :: st) h Q ↔ (¬ j = 0 ∧ Runs 154 107 ls (.int (i - i / j * j) :: st) h Q) := R_irem rfl
theorem s154_107 : Runs 154 107 ls [.int i] h Q ↔ Q (some (.int i)) h := R_iret rfl rfl
theorem s154_108 : Runs 154 108 [some (.ref a), x1, x2, x3] st h Q ↔ Runs 154 109 [some (.ref a), x1, x2, x3] (.ref a :: st) h Q := R_aldn rfl rfl
theorem s154_108q : Runs 154 108 [some (zrf r), x1, x2, x3] st h Q ↔ Runs 154 109 [some (zrf r), x1, x2, x3] (zrf r :: st) h Q := R_aldnq rfl rfl
theorem s154_109 (ht : tg a = 10) : Runs 154 109 ls (.ref a :: st) (n, tg, ln, I, J, O) Q ↔ Runs 154 112 ls (zrf (O a 0) :: st) (n, tg, ln, I, J, O) Q := R_getr rfl rfl rfl rfl ht
theorem s154_112 : Runs 154 112 ls st h Q ↔ Runs 154 114 ls (.int 54 :: st) h Q := R_bipush rfl (by decide)
theorem s154_114 : Runs 154 114 [x0, some (.int i), x2, x3] st h Q ↔ Runs 154 115 [x0, some (.int i), x2, x3] (.int i :: st) h Q := R_ildn rfl rfl
theorem s154_115 : Runs 154 115 ls (.int j :: .int i :: st) h Q ↔ Runs 154 116 ls (.int (i + j) :: st) h Q := R_iadd rfl
theorem s154_116 (ht : tg a = 20) : Runs 154 116 ls (.int i :: .ref a :: st) (n, tg, ln, I, J, O) Q ↔ ((0 ≤ i ∧ i < Int32.ofNat (ln a)) ∧ Runs 154 117 ls (.int (I a i) :: st) (n, tg, ln, I, J, O) Q) := R_iald rfl ht
theorem s154_117 : Runs 154 117 ls [.int i] h Q ↔ Q (some (.int i)) h := R_iret rfl rfl
theorem s154_118 : Runs 154 118 [some (.ref a), x1, x2, x3] st h Q ↔ Runs 154 119 [some (.ref a), x1, x2, x3] (.ref a :: st) h Q := R_aldn rfl rfl
theorem s154_118q : Runs 154 118 [some (zrf r), x1, x2, x3] st h Q ↔ Runs 154 119 [some (zrf r), x1, x2, x3] (zrf r :: st) h Q := R_aldnq rfl rfl
theorem s154_119 (ht : tg a = 10) : Runs 154 119 ls (.ref a :: st) (n, tg, ln, I, J, O) Q ↔ Runs 154 122 ls (zrf (O a 0) :: st) (n, tg, ln, I, J, O) Q := R_getr rfl rfl rfl rfl ht
theorem s154_122 : Runs 154 122 ls st h Q ↔ Runs 154 124 ls (.int 66 :: st) h Q := R_bipush rfl (by decide)
theorem s154_124 : Runs 154 124 [x0, some (.int i), x2, x3] st h Q ↔ Runs 154 125 [x0, some (.int i), x2, x3] (.int i :: st) h Q := R_ildn rfl rfl
theorem s154_125 : Runs 154 125 ls (.int j :: .int i :: st) h Q ↔ Runs 154 126 ls (.int (i + j) :: st) h Q := R_iadd rfl
theorem s154_126 (ht : tg a = 20) : Runs 154 126 ls (.int i :: .ref a :: st) (n, tg, ln, I, J, O) Q ↔ ((0 ≤ i ∧ i < Int32.ofNat (ln a)) ∧ Runs 154 127 ls (.int (I a i) :: st) (n, tg, ln, I, J, O) Q) := R_iald rfl ht
theorem s154_127 : Runs 154 127 ls [.int i] h Q ↔ Q (some (.int i)) h := R_iret rfl rfl
theorem s154_128 : Runs 154 128 ls st h Q ↔ Runs 154 130 ls (.int (-3) :: st) h Q := R_bipush rfl (by decide)
theorem s154_130 : Runs 154 130 ls [.int i] h Q ↔ Q (some (.int i)) h := R_iret rfl rfl
theorem s155_0 : Runs 155 0 [x0, some (.int i), x2] st h Q ↔ Runs 155 1 [x0, some (.int i), x2] (.int i :: st) h Q := R_ildn rfl rfl
theorem s155_1 : Runs 155 1 ls (.int i :: st) h Q ↔ Runs 155 2 ls (.long i.toInt64 :: st) h Q := R_i2l rfl
theorem s155_2 : Runs 155 2 ls st h Q ↔ Runs 155 3 ls (.long 0 :: st) h Q := R_lconst rfl rfl
theorem s155_3 : Runs 155 3 ls st h Q ↔ Runs 155 4 ls (.long 1 :: st) h Q := R_lconst rfl rfl
theorem s155_4 (hs : zsumc st ≤ 8) : Runs 155 4 ls (.long u2 :: .long u1 :: .long u0 :: st) h Q ↔ Runs 126 0 [some (.long u0), none, some (.long u1), none, some (.long u2), none] [] h (fun v h2 => Runs 155 7 ls (v.toList ++ st) h2 Q) := R_calls (rest := st) rfl rfl rfl (by simp) rfl rfl rfl rfl hs
theorem s155_7 : Runs 155 7 ls (.int i :: st) h Q ↔ if i = 0 then Runs 155 40 ls st h Q else Runs 155 10 ls st h Q := R_ifeq rfl rfl
theorem s155_10 : Runs 155 10 [x0, x1, some (.int i)] st h Q ↔ Runs 155 11 [x0, x1, some (.int i)] (.int i :: st) h Q := R_ildn rfl rfl
theorem s155_11 : Runs 155 11 ls (.int i :: st) h Q ↔ Runs 155 12 ls (.long i.toInt64 :: st) h Q := R_i2l rfl
theorem s155_12 : Runs 155 12 ls st h Q ↔ Runs 155 13 ls (.long 0 :: st) h Q := R_lconst rfl rfl
theorem s155_13 : Runs 155 13 [some (.ref a), x1, x2] st h Q ↔ Runs 155 14 [some (.ref a), x1, x2] (.ref a :: st) h Q := R_aldn rfl rfl
theorem s155_13q : Runs 155 13 [some (zrf r), x1, x2] st h Q ↔ Runs 155 14 [some (zrf r), x1, x2] (zrf r :: st) h Q := R_aldnq rfl rfl
theorem s155_14 (ht : tg a = 10) : Runs 155 14 ls (.ref a :: st) (n, tg, ln, I, J, O) Q ↔ Runs 155 17 ls (zrf (O a 0) :: st) (n, tg, ln, I, J, O) Q := R_getr rfl rfl rfl rfl ht
theorem s155_17 : Runs 155 17 ls st h Q ↔ Runs 155 18 ls (.int 4 :: st) h Q := R_iconst rfl rfl
theorem s155_18 : Runs 155 18 [x0, some (.int i), x2] st h Q ↔ Runs 155 19 [x0, some (.int i), x2] (.int i :: st) h Q := R_ildn rfl rfl
theorem s155_19 : Runs 155 19 ls (.int j :: .int i :: st) h Q ↔ Runs 155 20 ls (.int (i + j) :: st) h Q := R_iadd rfl
theorem s155_20 (ht : tg a = 20) : Runs 155 20 ls (.int i :: .ref a :: st) (n, tg, ln, I, J, O) Q ↔ ((0 ≤ i ∧ i < Int32.ofNat (ln a)) ∧ Runs 155 21 ls (.int (I a i) :: st) (n, tg, ln, I, J, O) Q) := R_iald rfl ht
theorem s155_21 : Runs 155 21 ls st h Q ↔ Runs 155 22 ls (.int 1 :: st) h Q := R_iconst rfl rfl
theorem s155_22 : Runs 155 22 ls (.int j :: .int i :: st) h Q ↔ Runs 155 23 ls (.int (i - j) :: st) h Q := R_isub rfl
theorem s155_23 : Runs 155 23 ls (.int i :: st) h Q ↔ Runs 155 24 ls (.long i.toInt64 :: st) h Q := R_i2l rfl
theorem s155_24 (hs : zsumc st ≤ 8) : Runs 155 24 ls (.long u2 :: .long u1 :: .long u0 :: st) h Q ↔ Runs 126 0 [some (.long u0), none, some (.long u1), none, some (.long u2), none] [] h (fun v h2 => Runs 155 27 ls (v.toList ++ st) h2 Q) := R_calls (rest := st) rfl rfl rfl (by simp) rfl rfl rfl rfl hs
theorem s155_27 : Runs 155 27 ls (.int i :: st) h Q ↔ if i = 0 then Runs 155 40 ls st h Q else Runs 155 30 ls st h Q := R_ifeq rfl rfl
theorem s155_30 : Runs 155 30 [some (.ref a), x1, x2] st h Q ↔ Runs 155 31 [some (.ref a), x1, x2] (.ref a :: st) h Q := R_aldn rfl rfl
theorem s155_30q : Runs 155 30 [some (zrf r), x1, x2] st h Q ↔ Runs 155 31 [some (zrf r), x1, x2] (zrf r :: st) h Q := R_aldnq rfl rfl
theorem s155_31 : Runs 155 31 ls st h Q ↔ Runs 155 32 ls (.int 0 :: st) h Q := R_iconst rfl rfl
theorem s155_32 : Runs 155 32 [x0, some (.int i), x2] st h Q ↔ Runs 155 33 [x0, some (.int i), x2] (.int i :: st) h Q := R_ildn rfl rfl
theorem s155_33 : Runs 155 33 [x0, x1, some (.int i)] st h Q ↔ Runs 155 34 [x0, x1, some (.int i)] (.int i :: st) h Q := R_ildn rfl rfl
theorem s155_34 (ht : tg a = 10) (hs : zsumc st ≤ 8) : Runs 155 34 ls (.int i2 :: .int i1 :: .int i0 :: .ref a :: st) (n, tg, ln, I, J, O) Q ↔ Runs 151 0 [some (.ref a), some (.int i0), some (.int i1), some (.int i2)] [] (n, tg, ln, I, J, O) (fun v h2 => Runs 155 37 ls (v.toList ++ st) h2 Q) := R_callv (a := a) (rest := st) rfl rfl rfl rfl rfl rfl rfl ht hs
theorem s155_37 : Runs 155 37 ls st h Q ↔ Runs 155 42 ls st h Q := R_goto rfl rfl
theorem s155_40 : Runs 155 40 ls st h Q ↔ Runs 155 42 ls (.int (-2) :: st) h Q := R_bipush rfl (by decide)
theorem s155_42 : Runs 155 42 ls [.int i] h Q ↔ Q (some (.int i)) h := R_iret rfl rfl
theorem s156_0 : Runs 156 0 [some (.ref a), x1, x2, x3, x4] st h Q ↔ Runs 156 1 [some (.ref a), x1, x2, x3, x4] (.ref a :: st) h Q := R_aldn rfl rfl
theorem s156_0q : Runs 156 0 [some (zrf r), x1, x2, x3, x4] st h Q ↔ Runs 156 1 [some (zrf r), x1, x2, x3, x4] (zrf r :: st) h Q := R_aldnq rfl rfl
theorem s156_1 : Runs 156 1 [x0, some (.int i), x2, x3, x4] st h Q ↔ Runs 156 2 [x0, some (.int i), x2, x3, x4] (.int i :: st) h Q := R_ildn rfl rfl
theorem s156_2 : Runs 156 2 ls (.int i :: st) h Q ↔ Runs 156 3 ls (.long i.toInt64 :: st) h Q := R_i2l rfl
theorem s156_3 (ht : tg a = 10) (hs : zsumc st ≤ 8) : Runs 156 3 ls (.long u0 :: .ref a :: st) (n, tg, ln, I, J, O) Q ↔ Runs 150 0 [some (.ref a), some (.long u0), none] [] (n, tg, ln, I, J, O) (fun v h2 => Runs 156 6 ls (v.toList ++ st) h2 Q) := R_callv (a := a) (rest := st) rfl rfl rfl rfl rfl rfl rfl ht hs
theorem s156_6 : Runs 156 6 ls (.int i :: st) h Q ↔ if ¬ i = 0 then Runs 156 12 ls st h Q else Runs 156 9 ls st h Q := R_ifne rfl rfl
theorem s156_9 : Runs 156 9 ls st h Q ↔ Runs 156 11 ls (.int (-2) :: st) h Q := R_bipush rfl (by decide)
theorem s156_11 : Runs 156 11 ls [.int i] h Q ↔ Q (some (.int i)) h := R_iret rfl rfl
theorem s156_12 : Runs 156 12 [x0, x1, some (.int i), x3, x4] st h Q ↔ Runs 156 13 [x0, x1, some (.int i), x3, x4] (.int i :: st) h Q := R_ildn rfl rfl
theorem s156_13 : Runs 156 13 ls (.int i :: st) h Q ↔ Runs 156 14 ls (.long i.toInt64 :: st) h Q := R_i2l rfl
theorem s156_14 : Runs 156 14 ls st h Q ↔ Runs 156 15 ls (.long 0 :: st) h Q := R_lconst rfl rfl
theorem s156_15 : Runs 156 15 ls st h Q ↔ Runs 156 18 ls (.long 5 :: st) h Q := R_ldc2 rfl rfl
theorem s156_18 (hs : zsumc st ≤ 8) : Runs 156 18 ls (.long u2 :: .long u1 :: .long u0 :: st) h Q ↔ Runs 126 0 [some (.long u0), none, some (.long u1), none, some (.long u2), none] [] h (fun v h2 => Runs 156 21 ls (v.toList ++ st) h2 Q) := R_calls (rest := st) rfl rfl rfl (by simp) rfl rfl rfl rfl hs
theorem s156_21 : Runs 156 21 ls (.int i :: st) h Q ↔ if ¬ i = 0 then Runs 156 27 ls st h Q else Runs 156 24 ls st h Q := R_ifne rfl rfl
theorem s156_24 : Runs 156 24 ls st h Q ↔ Runs 156 26 ls (.int (-3) :: st) h Q := R_bipush rfl (by decide)
theorem s156_26 : Runs 156 26 ls [.int i] h Q ↔ Q (some (.int i)) h := R_iret rfl rfl
theorem s156_27 : Runs 156 27 [some (.ref a), x1, x2, x3, x4] st h Q ↔ Runs 156 28 [some (.ref a), x1, x2, x3, x4] (.ref a :: st) h Q := R_aldn rfl rfl
theorem s156_27q : Runs 156 27 [some (zrf r), x1, x2, x3, x4] st h Q ↔ Runs 156 28 [some (zrf r), x1, x2, x3, x4] (zrf r :: st) h Q := R_aldnq rfl rfl
theorem s156_28 (ht : tg a = 10) : Runs 156 28 ls (.ref a :: st) (n, tg, ln, I, J, O) Q ↔ Runs 156 31 ls (zrf (O a 0) :: st) (n, tg, ln, I, J, O) Q := R_getr rfl rfl rfl rfl ht
theorem s156_31 : Runs 156 31 ls st h Q ↔ Runs 156 33 ls (.int 30 :: st) h Q := R_bipush rfl (by decide)
theorem s156_33 : Runs 156 33 [x0, some (.int i), x2, x3, x4] st h Q ↔ Runs 156 34 [x0, some (.int i), x2, x3, x4] (.int i :: st) h Q := R_ildn rfl rfl
theorem s156_34 : Runs 156 34 ls (.int j :: .int i :: st) h Q ↔ Runs 156 35 ls (.int (i + j) :: st) h Q := R_iadd rfl
theorem s156_35 (ht : tg a = 20) : Runs 156 35 ls (.int i :: .ref a :: st) (n, tg, ln, I, J, O) Q ↔ ((0 ≤ i ∧ i < Int32.ofNat (ln a)) ∧ Runs 156 36 ls (.int (I a i) :: st) (n, tg, ln, I, J, O) Q) := R_iald rfl ht
theorem s156_36 : Runs 156 36 [x0, x1, x2, x3, x4] (.int i :: st) h Q ↔ Runs 156 37 [x0, x1, zdrop x2, some (.int i), x4] st h Q := R_istn rfl rfl rfl
theorem s156_37 : Runs 156 37 [x0, x1, some (.int i), x3, x4] st h Q ↔ Runs 156 38 [x0, x1, some (.int i), x3, x4] (.int i :: st) h Q := R_ildn rfl rfl
theorem s156_38 : Runs 156 38 ls (.int i :: st) h Q ↔ if i = 0 then Runs 156 68 ls st h Q else Runs 156 41 ls st h Q := R_ifeq rfl rfl
theorem s156_41 : Runs 156 41 [x0, x1, some (.int i), x3, x4] st h Q ↔ Runs 156 42 [x0, x1, some (.int i), x3, x4] (.int i :: st) h Q := R_ildn rfl rfl
theorem s156_42 : Runs 156 42 [x0, x1, x2, some (.int i), x4] st h Q ↔ Runs 156 43 [x0, x1, x2, some (.int i), x4] (.int i :: st) h Q := R_ildn rfl rfl
theorem s156_43 : Runs 156 43 ls st h Q ↔ Runs 156 44 ls (.int 1 :: st) h Q := R_iconst rfl rfl
theorem s156_44 : Runs 156 44 ls (.int j :: .int i :: st) h Q ↔ Runs 156 45 ls (.int (i + j) :: st) h Q := R_iadd rfl
theorem s156_45 : Runs 156 45 ls (.int j :: .int i :: st) h Q ↔ if i = j then Runs 156 68 ls st h Q else Runs 156 48 ls st h Q := R_iceq rfl rfl
theorem s156_48 : Runs 156 48 [x0, x1, some (.int i), x3, x4] st h Q ↔ Runs 156 49 [x0, x1, some (.int i), x3, x4] (.int i :: st) h Q := R_ildn rfl rfl
theorem s156_49 : Runs 156 49 ls st h Q ↔ Runs 156 50 ls (.int 1 :: st) h Q := R_iconst rfl rfl
theorem s156_50 : Runs 156 50 ls (.int j :: .int i :: st) h Q ↔ if ¬ i = j then Runs 156 58 ls st h Q else Runs 156 53 ls st h Q := R_icne rfl rfl
theorem s156_53 : Runs 156 53 [x0, x1, x2, some (.int i), x4] st h Q ↔ Runs 156 54 [x0, x1, x2, some (.int i), x4] (.int i :: st) h Q := R_ildn rfl rfl
theorem s156_54 : Runs 156 54 ls st h Q ↔ Runs 156 55 ls (.int 3 :: st) h Q := R_iconst rfl rfl
theorem s156_55 : Runs 156 55 ls (.int j :: .int i :: st) h Q ↔ if i < j then Runs 156 68 ls st h Q else Runs 156 58 ls st h Q := R_iclt rfl rfl
theorem s156_58 : Runs 156 58 [x0, x1, some (.int i), x3, x4] st h Q ↔ Runs 156 59 [x0, x1, some (.int i), x3, x4] (.int i :: st) h Q := R_ildn rfl rfl
theorem s156_59 : Runs 156 59 ls st h Q ↔ Runs 156 60 ls (.int 4 :: st) h Q := R_iconst rfl rfl
theorem s156_60 : Runs 156 60 ls (.int j :: .int i :: st) h Q ↔ if ¬ i = j then Runs 156 72 ls st h Q else Runs 156 63 ls st h Q := R_icne rfl rfl
theorem s156_63 : Runs 156 63 [x0, x1, x2, some (.int i), x4] st h Q ↔ Runs 156 64 [x0, x1, x2, some (.int i), x4] (.int i :: st) h Q := R_ildn rfl rfl
theorem s156_64 : Runs 156 64 ls st h Q ↔ Runs 156 65 ls (.int 4 :: st) h Q := R_iconst rfl rfl
theorem s156_65 : Runs 156 65 ls (.int j :: .int i :: st) h Q ↔ if ¬ i = j then Runs 156 72 ls st h Q else Runs 156 68 ls st h Q := R_icne rfl rfl
theorem s156_68 : Runs 156 68 ls st h Q ↔ Runs 156 69 ls (.int 1 :: st) h Q := R_iconst rfl rfl
theorem s156_69 : Runs 156 69 ls st h Q ↔ Runs 156 73 ls st h Q := R_goto rfl rfl
theorem s156_72 : Runs 156 72 ls st h Q ↔ Runs 156 73 ls (.int 0 :: st) h Q := R_iconst rfl rfl
theorem s156_73 : Runs 156 73 [x0, x1, x2, x3, x4] (.int i :: st) h Q ↔ Runs 156 75 [x0, x1, x2, zdrop x3, some (.int i)] st h Q := R_ist rfl rfl rfl
theorem s156_75 : Runs 156 75 [x0, x1, x2, x3, some (.int i)] st h Q ↔ Runs 156 77 [x0, x1, x2, x3, some (.int i)] (.int i :: st) h Q := R_ild rfl rfl
theorem s156_77 : Runs 156 77 ls (.int i :: st) h Q ↔ if i = 0 then Runs 156 87 ls st h Q else Runs 156 80 ls st h Q := R_ifeq rfl rfl
theorem s156_80 : Runs 156 80 [x0, x1, x2, some (.int i), x4] st h Q ↔ Runs 156 81 [x0, x1, x2, some (.int i), x4] (.int i :: st) h Q := R_ildn rfl rfl
theorem s156_81 (hs : zsumc st ≤ 8) : Runs 156 81 ls (.int i0 :: st) h Q ↔ Runs 153 0 [some (.int i0)] [] h (fun v h2 => Runs 156 84 ls (v.toList ++ st) h2 Q) := R_calls (rest := st) rfl rfl rfl (by simp) rfl rfl rfl rfl hs
theorem s156_84 : Runs 156 84 ls st h Q ↔ Runs 156 89 ls st h Q := R_goto rfl rfl
theorem s156_87 : Runs 156 87 ls st h Q ↔ Runs 156 89 ls (.int (-4) :: st) h Q := R_bipush rfl (by decide)
theorem s156_89 : Runs 156 89 ls [.int i] h Q ↔ Q (some (.int i)) h := R_iret rfl rfl
theorem s164_0 : Runs 164 0 [some (.ref a)] st h Q ↔ Runs 164 1 [some (.ref a)] (.ref a :: st) h Q := R_aldn rfl rfl
theorem s164_0q : Runs 164 0 [some (zrf r)] st h Q ↔ Runs 164 1 [some (zrf r)] (zrf r :: st) h Q := R_aldnq rfl rfl
theorem s164_1 (ht : tg a = 10) : Runs 164 1 ls (.ref a :: st) (n, tg, ln, I, J, O) Q ↔ Runs 164 4 ls (zrf (O a 0) :: st) (n, tg, ln, I, J, O) Q := R_getr rfl rfl rfl rfl ht
theorem s164_4 : Runs 164 4 ls st h Q ↔ Runs 164 5 ls (.int 4 :: st) h Q := R_iconst rfl rfl
theorem s164_5 (ht : tg a = 20) : Runs 164 5 ls (.int i :: .ref a :: st) (n, tg, ln, I, J, O) Q ↔ ((0 ≤ i ∧ i < Int32.ofNat (ln a)) ∧ Runs 164 6 ls (.int (I a i) :: st) (n, tg, ln, I, J, O) Q) := R_iald rfl ht
theorem s164_6 : Runs 164 6 [some (.ref a)] st h Q ↔ Runs 164 7 [some (.ref a)] (.ref a :: st) h Q := R_aldn rfl rfl
theorem s164_6q : Runs 164 6 [some (zrf r)] st h Q ↔ Runs 164 7 [some (zrf r)] (zrf r :: st) h Q := R_aldnq rfl rfl
theorem s164_7 (ht : tg a = 10) : Runs 164 7 ls (.ref a :: st) (n, tg, ln, I, J, O) Q ↔ Runs 164 10 ls (zrf (O a 0) :: st) (n, tg, ln, I, J, O) Q := R_getr rfl rfl rfl rfl ht
theorem s164_10 : Runs 164 10 ls st h Q ↔ Runs 164 11 ls (.int 5 :: st) h Q := R_iconst rfl rfl
theorem s164_11 (ht : tg a = 20) : Runs 164 11 ls (.int i :: .ref a :: st) (n, tg, ln, I, J, O) Q ↔ ((0 ≤ i ∧ i < Int32.ofNat (ln a)) ∧ Runs 164 12 ls (.int (I a i) :: st) (n, tg, ln, I, J, O) Q) := R_iald rfl ht
theorem s164_12 : Runs 164 12 ls (.int j :: .int i :: st) h Q ↔ Runs 164 13 ls (.int (i + j) :: st) h Q := R_iadd rfl
theorem s164_13 : Runs 164 13 ls (.int i :: st) h Q ↔ if ¬ i = 0 then Runs 164 19 ls st h Q else Runs 164 16 ls st h Q := R_ifne rfl rfl
theorem s164_16 : Runs 164 16 ls st h Q ↔ Runs 164 18 ls (.int (-4) :: st) h Q := R_bipush rfl (by decide)
theorem s164_18 : Runs 164 18 ls [.int i] h Q ↔ Q (some (.int i)) h := R_iret rfl rfl
theorem s164_19 : Runs 164 19 [some (.ref a)] st h Q ↔ Runs 164 20 [some (.ref a)] (.ref a :: st) h Q := R_aldn rfl rfl
theorem s164_19q : Runs 164 19 [some (zrf r)] st h Q ↔ Runs 164 20 [some (zrf r)] (zrf r :: st) h Q := R_aldnq rfl rfl
theorem s164_20 (ht : tg a = 10) : Runs 164 20 ls (.ref a :: st) (n, tg, ln, I, J, O) Q ↔ Runs 164 23 ls (zrf (O a 0) :: st) (n, tg, ln, I, J, O) Q := R_getr rfl rfl rfl rfl ht
theorem s164_23 : Runs 164 23 ls st h Q ↔ Runs 164 24 ls (.int 2 :: st) h Q := R_iconst rfl rfl
theorem s164_24 (ht : tg a = 20) : Runs 164 24 ls (.int i :: .ref a :: st) (n, tg, ln, I, J, O) Q ↔ ((0 ≤ i ∧ i < Int32.ofNat (ln a)) ∧ Runs 164 25 ls (.int (I a i) :: st) (n, tg, ln, I, J, O) Q) := R_iald rfl ht
theorem s164_25 : Runs 164 25 ls st h Q ↔ Runs 164 28 ls (.int 999 :: st) h Q := R_sipush rfl (by decide)
theorem s164_28 : Runs 164 28 ls (.int j :: .int i :: st) h Q ↔ if ¬ i = j then Runs 164 34 ls st h Q else Runs 164 31 ls st h Q := R_icne rfl rfl
theorem s164_31 : Runs 164 31 ls st h Q ↔ Runs 164 33 ls (.int (-5) :: st) h Q := R_bipush rfl (by decide)
theorem s164_33 : Runs 164 33 ls [.int i] h Q ↔ Q (some (.int i)) h := R_iret rfl rfl
theorem s164_34 : Runs 164 34 [some (.ref a)] st h Q ↔ Runs 164 35 [some (.ref a)] (.ref a :: st) h Q := R_aldn rfl rfl
theorem s164_34q : Runs 164 34 [some (zrf r)] st h Q ↔ Runs 164 35 [some (zrf r)] (zrf r :: st) h Q := R_aldnq rfl rfl
theorem s164_35 (ht : tg a = 10) (hs : zsumc st ≤ 8) : Runs 164 35 ls (.ref a :: st) (n, tg, ln, I, J, O) Q ↔ Runs 163 0 [some (.ref a), none] [] (n, tg, ln, I, J, O) (fun v h2 => Runs 164 38 ls (v.toList ++ st) h2 Q) := R_callv (a := a) (rest := st) rfl rfl rfl rfl rfl rfl rfl ht hs
theorem s164_38 : Runs 164 38 [some (.ref a)] st h Q ↔ Runs 164 39 [some (.ref a)] (.ref a :: st) h Q := R_aldn rfl rfl
theorem s164_38q : Runs 164 38 [some (zrf r)] st h Q ↔ Runs 164 39 [some (zrf r)] (zrf r :: st) h Q := R_aldnq rfl rfl
theorem s164_39 : Runs 164 39 ls st h Q ↔ Runs 164 40 ls (.int 0 :: st) h Q := R_iconst rfl rfl
theorem s164_40 (ht : tg a = 10) (hs : zsumc st ≤ 8) : Runs 164 40 ls (.int i0 :: .ref a :: st) (n, tg, ln, I, J, O) Q ↔ Runs 162 0 [some (.ref a), some (.int i0), none, none] [] (n, tg, ln, I, J, O) (fun v h2 => Runs 164 43 ls (v.toList ++ st) h2 Q) := R_callv (a := a) (rest := st) rfl rfl rfl rfl rfl rfl rfl ht hs
theorem s164_43 : Runs 164 43 ls [.int i] h Q ↔ Q (some (.int i)) h := R_iret rfl rfl
theorem s165_0 : Runs 165 0 [x0, some (.int i), x2, x3] st h Q ↔ Runs 165 1 [x0, some (.int i), x2, x3] (.int i :: st) h Q := R_ildn rfl rfl
theorem s165_1 : Runs 165 1 ls (.int i :: st) h Q ↔ Runs 165 2 ls (.long i.toInt64 :: st) h Q := R_i2l rfl
theorem s165_2 : Runs 165 2 ls st h Q ↔ Runs 165 3 ls (.long 0 :: st) h Q := R_lconst rfl rfl
theorem s165_3 : Runs 165 3 ls st h Q ↔ Runs 165 4 ls (.long 1 :: st) h Q := R_lconst rfl rfl
theorem s165_4 (hs : zsumc st ≤ 8) : Runs 165 4 ls (.long u2 :: .long u1 :: .long u0 :: st) h Q ↔ Runs 126 0 [some (.long u0), none, some (.long u1), none, some (.long u2), none] [] h (fun v h2 => Runs 165 7 ls (v.toList ++ st) h2 Q) := R_calls (rest := st) rfl rfl rfl (by simp) rfl rfl rfl rfl hs
theorem s165_7 : Runs 165 7 ls (.int i :: st) h Q ↔ if ¬ i = 0 then Runs 165 13 ls st h Q else Runs 165 10 ls st h Q := R_ifne rfl rfl
theorem s165_10 : Runs 165 10 ls st h Q ↔ Runs 165 12 ls (.int (-2) :: st) h Q := R_bipush rfl (by decide)
theorem s165_12 : Runs 165 12 ls [.int i] h Q ↔ Q (some (.int i)) h := R_iret rfl rfl
theorem s165_13 : Runs 165 13 [x0, x1, some (.int i), x3] st h Q ↔ Runs 165 14 [x0, x1, some (.int i), x3] (.int i :: st) h Q := R_ildn rfl rfl
theorem s165_14 : Runs 165 14 ls (.int i :: st) h Q ↔ Runs 165 15 ls (.long i.toInt64 :: st) h Q := R_i2l rfl
theorem s165_15 : Runs 165 15 ls st h Q ↔ Runs 165 16 ls (.long 0 :: st) h Q := R_lconst rfl rfl
theorem s165_16 : Runs 165 16 ls st h Q ↔ Runs 165 19 ls (.long 4 :: st) h Q := R_ldc2 rfl rfl
theorem s165_19 (hs : zsumc st ≤ 8) : Runs 165 19 ls (.long u2 :: .long u1 :: .long u0 :: st) h Q ↔ Runs 126 0 [some (.long u0), none, some (.long u1), none, some (.long u2), none] [] h (fun v h2 => Runs 165 22 ls (v.toList ++ st) h2 Q) := R_calls (rest := st) rfl rfl rfl (by simp) rfl rfl rfl rfl hs
theorem s165_22 : Runs 165 22 ls (.int i :: st) h Q ↔ if i = 0 then Runs 165 37 ls st h Q else Runs 165 25 ls st h Q := R_ifeq rfl rfl
theorem s165_25 : Runs 165 25 [x0, x1, x2, some (.int i)] st h Q ↔ Runs 165 26 [x0, x1, x2, some (.int i)] (.int i :: st) h Q := R_ildn rfl rfl
theorem s165_26 : Runs 165 26 ls (.int i :: st) h Q ↔ Runs 165 27 ls (.long i.toInt64 :: st) h Q := R_i2l rfl
theorem s165_27 : Runs 165 27 ls st h Q ↔ Runs 165 28 ls (.long 0 :: st) h Q := R_lconst rfl rfl
theorem s165_28 : Runs 165 28 ls st h Q ↔ Runs 165 31 ls (.long 99 :: st) h Q := R_ldc2 rfl rfl
theorem s165_31 (hs : zsumc st ≤ 8) : Runs 165 31 ls (.long u2 :: .long u1 :: .long u0 :: st) h Q ↔ Runs 126 0 [some (.long u0), none, some (.long u1), none, some (.long u2), none] [] h (fun v h2 => Runs 165 34 ls (v.toList ++ st) h2 Q) := R_calls (rest := st) rfl rfl rfl (by simp) rfl rfl rfl rfl hs
theorem s165_34 : Runs 165 34 ls (.int i :: st) h Q ↔ if ¬ i = 0 then Runs 165 40 ls st h Q else Runs 165 37 ls st h Q := R_ifne rfl rfl
theorem s165_37 : Runs 165 37 ls st h Q ↔ Runs 165 39 ls (.int (-3) :: st) h Q := R_bipush rfl (by decide)
theorem s165_39 : Runs 165 39 ls [.int i] h Q ↔ Q (some (.int i)) h := R_iret rfl rfl
theorem s165_40 : Runs 165 40 [some (.ref a), x1, x2, x3] st h Q ↔ Runs 165 41 [some (.ref a), x1, x2, x3] (.ref a :: st) h Q := R_aldn rfl rfl
theorem s165_40q : Runs 165 40 [some (zrf r), x1, x2, x3] st h Q ↔ Runs 165 41 [some (zrf r), x1, x2, x3] (zrf r :: st) h Q := R_aldnq rfl rfl
theorem s165_41 (ht : tg a = 10) : Runs 165 41 ls (.ref a :: st) (n, tg, ln, I, J, O) Q ↔ Runs 165 44 ls (zrf (O a 0) :: st) (n, tg, ln, I, J, O) Q := R_getr rfl rfl rfl rfl ht
theorem s165_44 : Runs 165 44 ls st h Q ↔ Runs 165 45 ls (.int 0 :: st) h Q := R_iconst rfl rfl
theorem s165_45 (ht : tg a = 20) : Runs 165 45 ls (.int i :: .ref a :: st) (n, tg, ln, I, J, O) Q ↔ ((0 ≤ i ∧ i < Int32.ofNat (ln a)) ∧ Runs 165 46 ls (.int (I a i) :: st) (n, tg, ln, I, J, O) Q) := R_iald rfl ht
theorem s165_46 : Runs 165 46 ls st h Q ↔ Runs 165 48 ls (.int 12 :: st) h Q := R_bipush rfl (by decide)
theorem s165_48 : Runs 165 48 ls (.int j :: .int i :: st) h Q ↔ if i = j then Runs 165 64 ls st h Q else Runs 165 51 ls st h Q := R_iceq rfl rfl
theorem s165_51 : Runs 165 51 [some (.ref a), x1, x2, x3] st h Q ↔ Runs 165 52 [some (.ref a), x1, x2, x3] (.ref a :: st) h Q := R_aldn rfl rfl
theorem s165_51q : Runs 165 51 [some (zrf r), x1, x2, x3] st h Q ↔ Runs 165 52 [some (zrf r), x1, x2, x3] (zrf r :: st) h Q := R_aldnq rfl rfl
theorem s165_52 (ht : tg a = 10) : Runs 165 52 ls (.ref a :: st) (n, tg, ln, I, J, O) Q ↔ Runs 165 55 ls (zrf (O a 0) :: st) (n, tg, ln, I, J, O) Q := R_getr rfl rfl rfl rfl ht
theorem s165_55 : Runs 165 55 ls st h Q ↔ Runs 165 56 ls (.int 4 :: st) h Q := R_iconst rfl rfl
theorem s165_56 : Runs 165 56 [x0, some (.int i), x2, x3] st h Q ↔ Runs 165 57 [x0, some (.int i), x2, x3] (.int i :: st) h Q := R_ildn rfl rfl
theorem s165_57 : Runs 165 57 ls (.int j :: .int i :: st) h Q ↔ Runs 165 58 ls (.int (i + j) :: st) h Q := R_iadd rfl
theorem s165_58 (ht : tg a = 20) : Runs 165 58 ls (.int i :: .ref a :: st) (n, tg, ln, I, J, O) Q ↔ ((0 ≤ i ∧ i < Int32.ofNat (ln a)) ∧ Runs 165 59 ls (.int (I a i) :: st) (n, tg, ln, I, J, O) Q) := R_iald rfl ht
theorem s165_59 : Runs 165 59 ls st h Q ↔ Runs 165 61 ls (.int 12 :: st) h Q := R_bipush rfl (by decide)
theorem s165_61 : Runs 165 61 ls (.int j :: .int i :: st) h Q ↔ if ¬ i = j then Runs 165 67 ls st h Q else Runs 165 64 ls st h Q := R_icne rfl rfl
theorem s165_64 : Runs 165 64 ls st h Q ↔ Runs 165 66 ls (.int (-5) :: st) h Q := R_bipush rfl (by decide)
theorem s165_66 : Runs 165 66 ls [.int i] h Q ↔ Q (some (.int i)) h := R_iret rfl rfl
theorem s165_67 : Runs 165 67 [some (.ref a), x1, x2, x3] st h Q ↔ Runs 165 68 [some (.ref a), x1, x2, x3] (.ref a :: st) h Q := R_aldn rfl rfl
theorem s165_67q : Runs 165 67 [some (zrf r), x1, x2, x3] st h Q ↔ Runs 165 68 [some (zrf r), x1, x2, x3] (zrf r :: st) h Q := R_aldnq rfl rfl
theorem s165_68 (ht : tg a = 10) (hs : zsumc st ≤ 8) : Runs 165 68 ls (.ref a :: st) (n, tg, ln, I, J, O) Q ↔ Runs 163 0 [some (.ref a), none] [] (n, tg, ln, I, J, O) (fun v h2 => Runs 165 71 ls (v.toList ++ st) h2 Q) := R_callv (a := a) (rest := st) rfl rfl rfl rfl rfl rfl rfl ht hs
theorem s165_71 : Runs 165 71 [some (.ref a), x1, x2, x3] st h Q ↔ Runs 165 72 [some (.ref a), x1, x2, x3] (.ref a :: st) h Q := R_aldn rfl rfl
theorem s165_71q : Runs 165 71 [some (zrf r), x1, x2, x3] st h Q ↔ Runs 165 72 [some (zrf r), x1, x2, x3] (zrf r :: st) h Q := R_aldnq rfl rfl
theorem s165_72 : Runs 165 72 ls st h Q ↔ Runs 165 73 ls (.int 0 :: st) h Q := R_iconst rfl rfl
theorem s165_73 : Runs 165 73 [x0, some (.int i), x2, x3] st h Q ↔ Runs 165 74 [x0, some (.int i), x2, x3] (.int i :: st) h Q := R_ildn rfl rfl
theorem s165_74 : Runs 165 74 [x0, x1, some (.int i), x3] st h Q ↔ Runs 165 75 [x0, x1, some (.int i), x3] (.int i :: st) h Q := R_ildn rfl rfl
theorem s165_75 : Runs 165 75 [x0, x1, x2, some (.int i)] st h Q ↔ Runs 165 76 [x0, x1, x2, some (.int i)] (.int i :: st) h Q := R_ildn rfl rfl
theorem s165_76 (ht : tg a = 10) (hs : zsumc st ≤ 8) : Runs 165 76 ls (.int i3 :: .int i2 :: .int i1 :: .int i0 :: .ref a :: st) (n, tg, ln, I, J, O) Q ↔ Runs 140 0 [some (.ref a), some (.int i0), some (.int i1), some (.int i2), some (.int i3), none] [] (n, tg, ln, I, J, O) (fun v h2 => Runs 165 79 ls (v.toList ++ st) h2 Q) := R_callv (a := a) (rest := st) rfl rfl rfl rfl rfl rfl rfl ht hs
theorem s165_79 : Runs 165 79 [some (.ref a), x1, x2, x3] st h Q ↔ Runs 165 80 [some (.ref a), x1, x2, x3] (.ref a :: st) h Q := R_aldn rfl rfl
theorem s165_79q : Runs 165 79 [some (zrf r), x1, x2, x3] st h Q ↔ Runs 165 80 [some (zrf r), x1, x2, x3] (zrf r :: st) h Q := R_aldnq rfl rfl
theorem s165_80 (ht : tg a = 10) : Runs 165 80 ls (.ref a :: st) (n, tg, ln, I, J, O) Q ↔ Runs 165 83 ls (zrf (O a 0) :: st) (n, tg, ln, I, J, O) Q := R_getr rfl rfl rfl rfl ht
theorem s165_83 : Runs 165 83 ls st h Q ↔ Runs 165 84 ls (.int 0 :: st) h Q := R_iconst rfl rfl
theorem s165_84 (ht : tg a = 20) : Runs 165 84 ls (.int i :: .ref a :: st) (n, tg, ln, I, J, O) Q ↔ ((0 ≤ i ∧ i < Int32.ofNat (ln a)) ∧ Runs 165 85 ls (.int (I a i) :: st) (n, tg, ln, I, J, O) Q) := R_iald rfl ht
theorem s165_85 : Runs 165 85 ls st h Q ↔ Runs 165 86 ls (.int 1 :: st) h Q := R_iconst rfl rfl
theorem s165_86 : Runs 165 86 ls (.int j :: .int i :: st) h Q ↔ Runs 165 87 ls (.int (i - j) :: st) h Q := R_isub rfl
theorem s165_87 : Runs 165 87 ls [.int i] h Q ↔ Q (some (.int i)) h := R_iret rfl rfl
theorem s167_0 : Runs 167 0 [some (.ref a), x1, x2] st h Q ↔ Runs 167 1 [some (.ref a), x1, x2] (.ref a :: st) h Q := R_aldn rfl rfl
theorem s167_0q : Runs 167 0 [some (zrf r), x1, x2] st h Q ↔ Runs 167 1 [some (zrf r), x1, x2] (zrf r :: st) h Q := R_aldnq rfl rfl
theorem s167_1 : Runs 167 1 [x0, some (.int i), x2] st h Q ↔ Runs 167 2 [x0, some (.int i), x2] (.int i :: st) h Q := R_ildn rfl rfl
theorem s167_2 : Runs 167 2 ls (.int i :: st) h Q ↔ Runs 167 3 ls (.long i.toInt64 :: st) h Q := R_i2l rfl
theorem s167_3 (ht : tg a = 10) (hs : zsumc st ≤ 8) : Runs 167 3 ls (.long u0 :: .ref a :: st) (n, tg, ln, I, J, O) Q ↔ Runs 150 0 [some (.ref a), some (.long u0), none] [] (n, tg, ln, I, J, O) (fun v h2 => Runs 167 6 ls (v.toList ++ st) h2 Q) := R_callv (a := a) (rest := st) rfl rfl rfl rfl rfl rfl rfl ht hs
theorem s167_6 : Runs 167 6 ls (.int i :: st) h Q ↔ if ¬ i = 0 then Runs 167 12 ls st h Q else Runs 167 9 ls st h Q := R_ifne rfl rfl
theorem s167_9 : Runs 167 9 ls st h Q ↔ Runs 167 11 ls (.int (-2) :: st) h Q := R_bipush rfl (by decide)
theorem s167_11 : Runs 167 11 ls [.int i] h Q ↔ Q (some (.int i)) h := R_iret rfl rfl
theorem s167_12 : Runs 167 12 [some (.ref a), x1, x2] st h Q ↔ Runs 167 13 [some (.ref a), x1, x2] (.ref a :: st) h Q := R_aldn rfl rfl
theorem s167_12q : Runs 167 12 [some (zrf r), x1, x2] st h Q ↔ Runs 167 13 [some (zrf r), x1, x2] (zrf r :: st) h Q := R_aldnq rfl rfl
theorem s167_13 : Runs 167 13 ls st h Q ↔ Runs 167 14 ls (.int 0 :: st) h Q := R_iconst rfl rfl
theorem s167_14 : Runs 167 14 [x0, some (.int i), x2] st h Q ↔ Runs 167 15 [x0, some (.int i), x2] (.int i :: st) h Q := R_ildn rfl rfl
theorem s167_15 (ht : tg a = 10) (hs : zsumc st ≤ 8) : Runs 167 15 ls (.int i1 :: .int i0 :: .ref a :: st) (n, tg, ln, I, J, O) Q ↔ Runs 152 0 [some (.ref a), some (.int i0), some (.int i1), none, none] [] (n, tg, ln, I, J, O) (fun v h2 => Runs 167 18 ls (v.toList ++ st) h2 Q) := R_callv (a := a) (rest := st) rfl rfl rfl rfl rfl rfl rfl ht hs
theorem s167_18 : Runs 167 18 [x0, x1, x2] (.int i :: st) h Q ↔ Runs 167 19 [x0, zdrop x1, some (.int i)] st h Q := R_istn rfl rfl rfl
theorem s167_19 : Runs 167 19 [x0, x1, some (.int i)] st h Q ↔ Runs 167 20 [x0, x1, some (.int i)] (.int i :: st) h Q := R_ildn rfl rfl
theorem s167_20 : Runs 167 20 ls st h Q ↔ Runs 167 21 ls (.int (-1) :: st) h Q := R_iconst rfl rfl
theorem s167_21 : Runs 167 21 ls (.int j :: .int i :: st) h Q ↔ if ¬ i = j then Runs 167 27 ls st h Q else Runs 167 24 ls st h Q := R_icne rfl rfl
theorem s167_24 : Runs 167 24 ls st h Q ↔ Runs 167 26 ls (.int (-4) :: st) h Q := R_bipush rfl (by decide)
theorem s167_26 : Runs 167 26 ls [.int i] h Q ↔ Q (some (.int i)) h := R_iret rfl rfl
theorem s167_27 : Runs 167 27 [some (.ref a), x1, x2] st h Q ↔ Runs 167 28 [some (.ref a), x1, x2] (.ref a :: st) h Q := R_aldn rfl rfl
theorem s167_27q : Runs 167 27 [some (zrf r), x1, x2] st h Q ↔ Runs 167 28 [some (zrf r), x1, x2] (zrf r :: st) h Q := R_aldnq rfl rfl
theorem s167_28 (ht : tg a = 10) (hs : zsumc st ≤ 8) : Runs 167 28 ls (.ref a :: st) (n, tg, ln, I, J, O) Q ↔ Runs 163 0 [some (.ref a), none] [] (n, tg, ln, I, J, O) (fun v h2 => Runs 167 31 ls (v.toList ++ st) h2 Q) := R_callv (a := a) (rest := st) rfl rfl rfl rfl rfl rfl rfl ht hs
theorem s167_31 : Runs 167 31 [some (.ref a), x1, x2] st h Q ↔ Runs 167 32 [some (.ref a), x1, x2] (.ref a :: st) h Q := R_aldn rfl rfl
theorem s167_31q : Runs 167 31 [some (zrf r), x1, x2] st h Q ↔ Runs 167 32 [some (zrf r), x1, x2] (zrf r :: st) h Q := R_aldnq rfl rfl
theorem s167_32 : Runs 167 32 ls st h Q ↔ Runs 167 33 ls (.int 0 :: st) h Q := R_iconst rfl rfl
theorem s167_33 : Runs 167 33 [x0, some (.int i), x2] st h Q ↔ Runs 167 34 [x0, some (.int i), x2] (.int i :: st) h Q := R_ildn rfl rfl
theorem s167_34 (ht : tg a = 10) (hs : zsumc st ≤ 8) : Runs 167 34 ls (.int i1 :: .int i0 :: .ref a :: st) (n, tg, ln, I, J, O) Q ↔ Runs 166 0 [some (.ref a), some (.int i0), some (.int i1), none] [] (n, tg, ln, I, J, O) (fun v h2 => Runs 167 37 ls (v.toList ++ st) h2 Q) := R_callv (a := a) (rest := st) rfl rfl rfl rfl rfl rfl rfl ht hs
theorem s167_37 : Runs 167 37 [x0, x1, some (.int i)] st h Q ↔ Runs 167 38 [x0, x1, some (.int i)] (.int i :: st) h Q := R_ildn rfl rfl
theorem s167_38 : Runs 167 38 ls st h Q ↔ Runs 167 40 ls (.int 100 :: st) h Q := R_bipush rfl (by decide)
theorem s167_40 : Runs 167 40 ls (.int j :: .int i :: st) h Q ↔ (¬ j = 0 ∧ Runs 167 41 ls (.int (i - i / j * j) :: st) h Q) := R_irem rfl
theorem s167_41 : Runs 167 41 ls [.int i] h Q ↔ Q (some (.int i)) h := R_iret rfl rfl
theorem s168_0 : Runs 168 0 [some (.ref a), x1, x2, x3] st h Q ↔ Runs 168 1 [some (.ref a), x1, x2, x3] (.ref a :: st) h Q := R_aldn rfl rfl
theorem s168_0q : Runs 168 0 [some (zrf r), x1, x2, x3] st h Q ↔ Runs 168 1 [some (zrf r), x1, x2, x3] (zrf r :: st) h Q := R_aldnq rfl rfl
theorem s168_1 : Runs 168 1 [x0, some (.int i), x2, x3] st h Q ↔ Runs 168 2 [x0, some (.int i), x2, x3] (.int i :: st) h Q := R_ildn rfl rfl
theorem s168_2 : Runs 168 2 ls (.int i :: st) h Q ↔ Runs 168 3 ls (.long i.toInt64 :: st) h Q := R_i2l rfl
theorem s168_3 (ht : tg a = 10) (hs : zsumc st ≤ 8) : Runs 168 3 ls (.long u0 :: .ref a :: st) (n, tg, ln, I, J, O) Q ↔ Runs 150 0 [some (.ref a), some (.long u0), none] [] (n, tg, ln, I, J, O) (fun v h2 => Runs 168 6 ls (v.toList ++ st) h2 Q) := R_callv (a := a) (rest := st) rfl rfl rfl rfl rfl rfl rfl ht hs
theorem s168_6 : Runs 168 6 ls (.int i :: st) h Q ↔ if ¬ i = 0 then Runs 168 12 ls st h Q else Runs 168 9 ls st h Q := R_ifne rfl rfl
theorem s168_9 : Runs 168 9 ls st h Q ↔ Runs 168 11 ls (.int (-2) :: st) h Q := R_bipush rfl (by decide)
theorem s168_11 : Runs 168 11 ls [.int i] h Q ↔ Q (some (.int i)) h := R_iret rfl rfl
theorem s168_12 : Runs 168 12 [some (.ref a), x1, x2, x3] st h Q ↔ Runs 168 13 [some (.ref a), x1, x2, x3] (.ref a :: st) h Q := R_aldn rfl rfl
theorem s168_12q : Runs 168 12 [some (zrf r), x1, x2, x3] st h Q ↔ Runs 168 13 [some (zrf r), x1, x2, x3] (zrf r :: st) h Q := R_aldnq rfl rfl
theorem s168_13 (ht : tg a = 10) : Runs 168 13 ls (.ref a :: st) (n, tg, ln, I, J, O) Q ↔ Runs 168 16 ls (zrf (O a 0) :: st) (n, tg, ln, I, J, O) Q := R_getr rfl rfl rfl rfl ht
theorem s168_16 : Runs 168 16 ls st h Q ↔ Runs 168 18 ls (.int 54 :: st) h Q := R_bipush rfl (by decide)
theorem s168_18 : Runs 168 18 [x0, some (.int i), x2, x3] st h Q ↔ Runs 168 19 [x0, some (.int i), x2, x3] (.int i :: st) h Q := R_ildn rfl rfl
theorem s168_19 : Runs 168 19 ls (.int j :: .int i :: st) h Q ↔ Runs 168 20 ls (.int (i + j) :: st) h Q := R_iadd rfl
theorem s168_20 (ht : tg a = 20) : Runs 168 20 ls (.int i :: .ref a :: st) (n, tg, ln, I, J, O) Q ↔ ((0 ≤ i ∧ i < Int32.ofNat (ln a)) ∧ Runs 168 21 ls (.int (I a i) :: st) (n, tg, ln, I, J, O) Q) := R_iald rfl ht
theorem s168_21 : Runs 168 21 ls st h Q ↔ Runs 168 22 ls (.int 2 :: st) h Q := R_iconst rfl rfl
theorem s168_22 : Runs 168 22 ls (.int j :: .int i :: st) h Q ↔ if i = j then Runs 168 28 ls st h Q else Runs 168 25 ls st h Q := R_iceq rfl rfl
theorem s168_25 : Runs 168 25 ls st h Q ↔ Runs 168 27 ls (.int (-4) :: st) h Q := R_bipush rfl (by decide)
theorem s168_27 : Runs 168 27 ls [.int i] h Q ↔ Q (some (.int i)) h := R_iret rfl rfl
theorem s168_28 : Runs 168 28 [some (.ref a), x1, x2, x3] st h Q ↔ Runs 168 29 [some (.ref a), x1, x2, x3] (.ref a :: st) h Q := R_aldn rfl rfl
theorem s168_28q : Runs 168 28 [some (zrf r), x1, x2, x3] st h Q ↔ Runs 168 29 [some (zrf r), x1, x2, x3] (zrf r :: st) h Q := R_aldnq rfl rfl
theorem s168_29 (ht : tg a = 10) : Runs 168 29 ls (.ref a :: st) (n, tg, ln, I, J, O) Q ↔ Runs 168 32 ls (zrf (O a 0) :: st) (n, tg, ln, I, J, O) Q := R_getr rfl rfl rfl rfl ht
theorem s168_32 : Runs 168 32 ls st h Q ↔ Runs 168 34 ls (.int 78 :: st) h Q := R_bipush rfl (by decide)
theorem s168_34 : Runs 168 34 [x0, some (.int i), x2, x3] st h Q ↔ Runs 168 35 [x0, some (.int i), x2, x3] (.int i :: st) h Q := R_ildn rfl rfl
theorem s168_35 : Runs 168 35 ls (.int j :: .int i :: st) h Q ↔ Runs 168 36 ls (.int (i + j) :: st) h Q := R_iadd rfl
theorem s168_36 (ht : tg a = 20) : Runs 168 36 ls (.int i :: .ref a :: st) (n, tg, ln, I, J, O) Q ↔ ((0 ≤ i ∧ i < Int32.ofNat (ln a)) ∧ Runs 168 37 ls (.int (I a i) :: st) (n, tg, ln, I, J, O) Q) := R_iald rfl ht
theorem s168_37 : Runs 168 37 [x0, x1, x2, x3] (.int i :: st) h Q ↔ Runs 168 38 [x0, zdrop x1, some (.int i), x3] st h Q := R_istn rfl rfl rfl
theorem s168_38 : Runs 168 38 [some (.ref a), x1, x2, x3] st h Q ↔ Runs 168 39 [some (.ref a), x1, x2, x3] (.ref a :: st) h Q := R_aldn rfl rfl
theorem s168_38q : Runs 168 38 [some (zrf r), x1, x2, x3] st h Q ↔ Runs 168 39 [some (zrf r), x1, x2, x3] (zrf r :: st) h Q := R_aldnq rfl rfl
theorem s168_39 : Runs 168 39 ls st h Q ↔ Runs 168 40 ls (.int 0 :: st) h Q := R_iconst rfl rfl
theorem s168_40 : Runs 168 40 ls st h Q ↔ Runs 168 42 ls (.int 50 :: st) h Q := R_bipush rfl (by decide)
theorem s168_42 : Runs 168 42 [x0, some (.int i), x2, x3] st h Q ↔ Runs 168 43 [x0, some (.int i), x2, x3] (.int i :: st) h Q := R_ildn rfl rfl
theorem s168_43 : Runs 168 43 ls (.int j :: .int i :: st) h Q ↔ Runs 168 44 ls (.int (i + j) :: st) h Q := R_iadd rfl
theorem s168_44 (ht : tg a = 10) (hs : zsumc st ≤ 8) : Runs 168 44 ls (.int i1 :: .int i0 :: .ref a :: st) (n, tg, ln, I, J, O) Q ↔ Runs 152 0 [some (.ref a), some (.int i0), some (.int i1), none, none] [] (n, tg, ln, I, J, O) (fun v h2 => Runs 168 47 ls (v.toList ++ st) h2 Q) := R_callv (a := a) (rest := st) rfl rfl rfl rfl rfl rfl rfl ht hs
theorem s168_47 : Runs 168 47 [x0, x1, x2, x3] (.int i :: st) h Q ↔ Runs 168 48 [x0, x1, zdrop x2, some (.int i)] st h Q := R_istn rfl rfl rfl
theorem s168_48 : Runs 168 48 [x0, x1, x2, some (.int i)] st h Q ↔ Runs 168 49 [x0, x1, x2, some (.int i)] (.int i :: st) h Q := R_ildn rfl rfl
theorem s168_49 : Runs 168 49 ls st h Q ↔ Runs 168 50 ls (.int (-1) :: st) h Q := R_iconst rfl rfl
theorem s168_50 : Runs 168 50 ls (.int j :: .int i :: st) h Q ↔ if ¬ i = j then Runs 168 69 ls st h Q else Runs 168 53 ls st h Q := R_icne rfl rfl
theorem s168_53 : Runs 168 53 [some (.ref a), x1, x2, x3] st h Q ↔ Runs 168 54 [some (.ref a), x1, x2, x3] (.ref a :: st) h Q := R_aldn rfl rfl
theorem s168_53q : Runs 168 53 [some (zrf r), x1, x2, x3] st h Q ↔ Runs 168 54 [some (zrf r), x1, x2, x3] (zrf r :: st) h Q := R_aldnq rfl rfl
theorem s168_54 (ht : tg a = 10) : Runs 168 54 ls (.ref a :: st) (n, tg, ln, I, J, O) Q ↔ Runs 168 57 ls (zrf (O a 0) :: st) (n, tg, ln, I, J, O) Q := R_getr rfl rfl rfl rfl ht
theorem s168_57 : Runs 168 57 ls st h Q ↔ Runs 168 58 ls (.int 4 :: st) h Q := R_iconst rfl rfl
theorem s168_58 : Runs 168 58 [x0, x1, some (.int i), x3] st h Q ↔ Runs 168 59 [x0, x1, some (.int i), x3] (.int i :: st) h Q := R_ildn rfl rfl
theorem s168_59 : Runs 168 59 ls (.int j :: .int i :: st) h Q ↔ Runs 168 60 ls (.int (i + j) :: st) h Q := R_iadd rfl
theorem s168_60 (ht : tg a = 20) : Runs 168 60 ls (.int i :: .ref a :: st) (n, tg, ln, I, J, O) Q ↔ ((0 ≤ i ∧ i < Int32.ofNat (ln a)) ∧ Runs 168 61 ls (.int (I a i) :: st) (n, tg, ln, I, J, O) Q) := R_iald rfl ht
theorem s168_61 : Runs 168 61 ls st h Q ↔ Runs 168 63 ls (.int 12 :: st) h Q := R_bipush rfl (by decide)
theorem s168_63 : Runs 168 63 ls (.int j :: .int i :: st) h Q ↔ if ¬ i = j then Runs 168 69 ls st h Q else Runs 168 66 ls st h Q := R_icne rfl rfl
theorem s168_66 : Runs 168 66 ls st h Q ↔ Runs 168 68 ls (.int (-5) :: st) h Q := R_bipush rfl (by decide)
theorem s168_68 : Runs 168 68 ls [.int i] h Q ↔ Q (some (.int i)) h := R_iret rfl rfl
theorem s168_69 : Runs 168 69 [some (.ref a), x1, x2, x3] st h Q ↔ Runs 168 70 [some (.ref a), x1, x2, x3] (.ref a :: st) h Q := R_aldn rfl rfl
theorem s168_69q : Runs 168 69 [some (zrf r), x1, x2, x3] st h Q ↔ Runs 168 70 [some (zrf r), x1, x2, x3] (zrf r :: st) h Q := R_aldnq rfl rfl
theorem s168_70 (ht : tg a = 10) (hs : zsumc st ≤ 8) : Runs 168 70 ls (.ref a :: st) (n, tg, ln, I, J, O) Q ↔ Runs 163 0 [some (.ref a), none] [] (n, tg, ln, I, J, O) (fun v h2 => Runs 168 73 ls (v.toList ++ st) h2 Q) := R_callv (a := a) (rest := st) rfl rfl rfl rfl rfl rfl rfl ht hs
theorem s168_73 : Runs 168 73 [some (.ref a), x1, x2, x3] st h Q ↔ Runs 168 74 [some (.ref a), x1, x2, x3] (.ref a :: st) h Q := R_aldn rfl rfl
theorem s168_73q : Runs 168 73 [some (zrf r), x1, x2, x3] st h Q ↔ Runs 168 74 [some (zrf r), x1, x2, x3] (zrf r :: st) h Q := R_aldnq rfl rfl
theorem s168_74 (ht : tg a = 10) : Runs 168 74 ls (.ref a :: st) (n, tg, ln, I, J, O) Q ↔ Runs 168 77 ls (zrf (O a 0) :: st) (n, tg, ln, I, J, O) Q := R_getr rfl rfl rfl rfl ht
theorem s168_77 : Runs 168 77 ls st h Q ↔ Runs 168 79 ls (.int 54 :: st) h Q := R_bipush rfl (by decide)
theorem s168_79 : Runs 168 79 [x0, some (.int i), x2, x3] st h Q ↔ Runs 168 80 [x0, some (.int i), x2, x3] (.int i :: st) h Q := R_ildn rfl rfl
theorem s168_80 : Runs 168 80 ls (.int j :: .int i :: st) h Q ↔ Runs 168 81 ls (.int (i + j) :: st) h Q := R_iadd rfl
theorem s168_81 : Runs 168 81 ls st h Q ↔ Runs 168 82 ls (.int 0 :: st) h Q := R_iconst rfl rfl
theorem s168_82 (ht : tg a = 20) : Runs 168 82 ls (.int j :: .int i :: .ref a :: st) (n, tg, ln, I, J, O) Q ↔ ((0 ≤ i ∧ i < Int32.ofNat (ln a)) ∧ Runs 168 83 ls st (n, tg, ln, zu I a i j, J, O) Q) := R_iast rfl ht
theorem s168_83 : Runs 168 83 [x0, x1, x2, some (.int i)] st h Q ↔ Runs 168 84 [x0, x1, x2, some (.int i)] (.int i :: st) h Q := R_ildn rfl rfl
theorem s168_84 : Runs 168 84 ls st h Q ↔ Runs 168 85 ls (.int (-1) :: st) h Q := R_iconst rfl rfl
theorem s168_85 : Runs 168 85 ls (.int j :: .int i :: st) h Q ↔ if ¬ i = j then Runs 168 116 ls st h Q else Runs 168 88 ls st h Q := R_icne rfl rfl
theorem s168_88 : Runs 168 88 [some (.ref a), x1, x2, x3] st h Q ↔ Runs 168 89 [some (.ref a), x1, x2, x3] (.ref a :: st) h Q := R_aldn rfl rfl
theorem s168_88q : Runs 168 88 [some (zrf r), x1, x2, x3] st h Q ↔ Runs 168 89 [some (zrf r), x1, x2, x3] (zrf r :: st) h Q := R_aldnq rfl rfl
theorem s168_89 (ht : tg a = 10) : Runs 168 89 ls (.ref a :: st) (n, tg, ln, I, J, O) Q ↔ Runs 168 92 ls (zrf (O a 0) :: st) (n, tg, ln, I, J, O) Q := R_getr rfl rfl rfl rfl ht
theorem s168_92 : Runs 168 92 ls st h Q ↔ Runs 168 94 ls (.int 66 :: st) h Q := R_bipush rfl (by decide)
theorem s168_94 : Runs 168 94 [x0, some (.int i), x2, x3] st h Q ↔ Runs 168 95 [x0, some (.int i), x2, x3] (.int i :: st) h Q := R_ildn rfl rfl
theorem s168_95 : Runs 168 95 ls (.int j :: .int i :: st) h Q ↔ Runs 168 96 ls (.int (i + j) :: st) h Q := R_iadd rfl
theorem s168_96 : Runs 168 96 ls st h Q ↔ Runs 168 97 ls (.int 0 :: st) h Q := R_iconst rfl rfl
theorem s168_97 (ht : tg a = 20) : Runs 168 97 ls (.int j :: .int i :: .ref a :: st) (n, tg, ln, I, J, O) Q ↔ ((0 ≤ i ∧ i < Int32.ofNat (ln a)) ∧ Runs 168 98 ls st (n, tg, ln, zu I a i j, J, O) Q) := R_iast rfl ht
theorem s168_98 : Runs 168 98 [some (.ref a), x1, x2, x3] st h Q ↔ Runs 168 99 [some (.ref a), x1, x2, x3] (.ref a :: st) h Q := R_aldn rfl rfl
theorem s168_98q : Runs 168 98 [some (zrf r), x1, x2, x3] st h Q ↔ Runs 168 99 [some (zrf r), x1, x2, x3] (zrf r :: st) h Q := R_aldnq rfl rfl
theorem s168_99 : Runs 168 99 ls st h Q ↔ Runs 168 100 ls (.int 0 :: st) h Q := R_iconst rfl rfl
theorem s168_100 : Runs 168 100 [x0, x1, some (.int i), x3] st h Q ↔ Runs 168 101 [x0, x1, some (.int i), x3] (.int i :: st) h Q := R_ildn rfl rfl
theorem s168_101 : Runs 168 101 [x0, some (.int i), x2, x3] st h Q ↔ Runs 168 102 [x0, some (.int i), x2, x3] (.int i :: st) h Q := R_ildn rfl rfl
theorem s168_102 (ht : tg a = 10) (hs : zsumc st ≤ 8) : Runs 168 102 ls (.int i2 :: .int i1 :: .int i0 :: .ref a :: st) (n, tg, ln, I, J, O) Q ↔ Runs 139 0 [some (.ref a), some (.int i0), some (.int i1), some (.int i2)] [] (n, tg, ln, I, J, O) (fun v h2 => Runs 168 105 ls (v.toList ++ st) h2 Q) := R_callv (a := a) (rest := st) rfl rfl rfl rfl rfl rfl rfl ht hs
theorem s168_105 : Runs 168 105 [some (.ref a), x1, x2, x3] st h Q ↔ Runs 168 106 [some (.ref a), x1, x2, x3] (.ref a :: st) h Q := R_aldn rfl rfl
theorem s168_105q : Runs 168 105 [some (zrf r), x1, x2, x3] st h Q ↔ Runs 168 106 [some (zrf r), x1, x2, x3] (zrf r :: st) h Q := R_aldnq rfl rfl
theorem s168_106 (ht : tg a = 10) : Runs 168 106 ls (.ref a :: st) (n, tg, ln, I, J, O) Q ↔ Runs 168 109 ls (zrf (O a 0) :: st) (n, tg, ln, I, J, O) Q := R_getr rfl rfl rfl rfl ht
theorem s168_109 : Runs 168 109 ls st h Q ↔ Runs 168 110 ls (.int 4 :: st) h Q := R_iconst rfl rfl
theorem s168_110 : Runs 168 110 [x0, x1, some (.int i), x3] st h Q ↔ Runs 168 111 [x0, x1, some (.int i), x3] (.int i :: st) h Q := R_ildn rfl rfl
theorem s168_111 : Runs 168 111 ls (.int j :: .int i :: st) h Q ↔ Runs 168 112 ls (.int (i + j) :: st) h Q := R_iadd rfl
theorem s168_112 (ht : tg a = 20) : Runs 168 112 ls (.int i :: .ref a :: st) (n, tg, ln, I, J, O) Q ↔ ((0 ≤ i ∧ i < Int32.ofNat (ln a)) ∧ Runs 168 113 ls (.int (I a i) :: st) (n, tg, ln, I, J, O) Q) := R_iald rfl ht
theorem s168_113 : Runs 168 113 ls st h Q ↔ Runs 168 114 ls (.int 1 :: st) h Q := R_iconst rfl rfl
theorem s168_114 : Runs 168 114 ls (.int j :: .int i :: st) h Q ↔ Runs 168 115 ls (.int (i - j) :: st) h Q := R_isub rfl
theorem s168_115 : Runs 168 115 ls [.int i] h Q ↔ Q (some (.int i)) h := R_iret rfl rfl
theorem s168_116 : Runs 168 116 [some (.ref a), x1, x2, x3] st h Q ↔ Runs 168 117 [some (.ref a), x1, x2, x3] (.ref a :: st) h Q := R_aldn rfl rfl
theorem s168_116q : Runs 168 116 [some (zrf r), x1, x2, x3] st h Q ↔ Runs 168 117 [some (zrf r), x1, x2, x3] (zrf r :: st) h Q := R_aldnq rfl rfl
theorem s168_117 (ht : tg a = 10) : Runs 168 117 ls (.ref a :: st) (n, tg, ln, I, J, O) Q ↔ Runs 168 120 ls (zrf (O a 0) :: st) (n, tg, ln, I, J, O) Q := R_getr rfl rfl rfl rfl ht
theorem s168_120 : Runs 168 120 ls st h Q ↔ Runs 168 122 ls (.int 6 :: st) h Q := R_bipush rfl (by decide)
theorem s168_122 : Runs 168 122 ls st h Q ↔ Runs 168 124 ls (.int 12 :: st) h Q := R_bipush rfl (by decide)
theorem s168_124 : Runs 168 124 [x0, x1, x2, some (.int i)] st h Q ↔ Runs 168 125 [x0, x1, x2, some (.int i)] (.int i :: st) h Q := R_ildn rfl rfl
theorem s168_125 : Runs 168 125 ls st h Q ↔ Runs 168 127 ls (.int 100 :: st) h Q := R_bipush rfl (by decide)
theorem s168_127 : Runs 168 127 ls (.int j :: .int i :: st) h Q ↔ (¬ j = 0 ∧ Runs 168 128 ls (.int (i / j) :: st) h Q) := R_idiv rfl
theorem s168_128 : Runs 168 128 ls (.int j :: .int i :: st) h Q ↔ Runs 168 129 ls (.int (i * j) :: st) h Q := R_imul rfl
theorem s168_129 : Runs 168 129 ls (.int j :: .int i :: st) h Q ↔ Runs 168 130 ls (.int (i + j) :: st) h Q := R_iadd rfl
theorem s168_130 : Runs 168 130 [x0, x1, x2, some (.int i)] st h Q ↔ Runs 168 131 [x0, x1, x2, some (.int i)] (.int i :: st) h Q := R_ildn rfl rfl
theorem s168_131 : Runs 168 131 ls st h Q ↔ Runs 168 133 ls (.int 100 :: st) h Q := R_bipush rfl (by decide)
theorem s168_133 : Runs 168 133 ls (.int j :: .int i :: st) h Q ↔ (¬ j = 0 ∧ Runs 168 134 ls (.int (i - i / j * j) :: st) h Q) := R_irem rfl
theorem s168_134 : Runs 168 134 ls (.int j :: .int i :: st) h Q ↔ Runs 168 135 ls (.int (i + j) :: st) h Q := R_iadd rfl
theorem s168_135 : Runs 168 135 [x0, some (.int i), x2, x3] st h Q ↔ Runs 168 136 [x0, some (.int i), x2, x3] (.int i :: st) h Q := R_ildn rfl rfl
theorem s168_136 (ht : tg a = 20) : Runs 168 136 ls (.int j :: .int i :: .ref a :: st) (n, tg, ln, I, J, O) Q ↔ ((0 ≤ i ∧ i < Int32.ofNat (ln a)) ∧ Runs 168 137 ls st (n, tg, ln, zu I a i j, J, O) Q) := R_iast rfl ht
theorem s168_137 : Runs 168 137 [x0, x1, x2, some (.int i)] st h Q ↔ Runs 168 138 [x0, x1, x2, some (.int i)] (.int i :: st) h Q := R_ildn rfl rfl
theorem s168_138 : Runs 168 138 ls st h Q ↔ Runs 168 140 ls (.int 100 :: st) h Q := R_bipush rfl (by decide)
theorem s168_140 : Runs 168 140 ls (.int j :: .int i :: st) h Q ↔ (¬ j = 0 ∧ Runs 168 141 ls (.int (i - i / j * j) :: st) h Q) := R_irem rfl
theorem s168_141 : Runs 168 141 ls [.int i] h Q ↔ Q (some (.int i)) h := R_iret rfl rfl
theorem s169_0 : Runs 169 0 [some (.ref a), x1, x2] st h Q ↔ Runs 169 1 [some (.ref a), x1, x2] (.ref a :: st) h Q := R_aldn rfl rfl
theorem s169_0q : Runs 169 0 [some (zrf r), x1, x2] st h Q ↔ Runs 169 1 [some (zrf r), x1, x2] (zrf r :: st) h Q := R_aldnq rfl rfl
theorem s169_1 : Runs 169 1 [x0, some (.int i), x2] st h Q ↔ Runs 169 2 [x0, some (.int i), x2] (.int i :: st) h Q := R_ildn rfl rfl
theorem s169_2 : Runs 169 2 ls (.int i :: st) h Q ↔ Runs 169 3 ls (.long i.toInt64 :: st) h Q := R_i2l rfl
theorem s169_3 (ht : tg a = 10) (hs : zsumc st ≤ 8) : Runs 169 3 ls (.long u0 :: .ref a :: st) (n, tg, ln, I, J, O) Q ↔ Runs 150 0 [some (.ref a), some (.long u0), none] [] (n, tg, ln, I, J, O) (fun v h2 => Runs 169 6 ls (v.toList ++ st) h2 Q) := R_callv (a := a) (rest := st) rfl rfl rfl rfl rfl rfl rfl ht hs
theorem s169_6 : Runs 169 6 ls (.int i :: st) h Q ↔ if ¬ i = 0 then Runs 169 12 ls st h Q else Runs 169 9 ls st h Q := R_ifne rfl rfl
theorem s169_9 : Runs 169 9 ls st h Q ↔ Runs 169 11 ls (.int (-2) :: st) h Q := R_bipush rfl (by decide)
theorem s169_11 : Runs 169 11 ls [.int i] h Q ↔ Q (some (.int i)) h := R_iret rfl rfl
theorem s169_12 : Runs 169 12 [some (.ref a), x1, x2] st h Q ↔ Runs 169 13 [some (.ref a), x1, x2] (.ref a :: st) h Q := R_aldn rfl rfl
theorem s169_12q : Runs 169 12 [some (zrf r), x1, x2] st h Q ↔ Runs 169 13 [some (zrf r), x1, x2] (zrf r :: st) h Q := R_aldnq rfl rfl
theorem s169_13 : Runs 169 13 ls st h Q ↔ Runs 169 14 ls (.int 0 :: st) h Q := R_iconst rfl rfl
theorem s169_14 : Runs 169 14 [x0, some (.int i), x2] st h Q ↔ Runs 169 15 [x0, some (.int i), x2] (.int i :: st) h Q := R_ildn rfl rfl
theorem s169_15 (ht : tg a = 10) (hs : zsumc st ≤ 8) : Runs 169 15 ls (.int i1 :: .int i0 :: .ref a :: st) (n, tg, ln, I, J, O) Q ↔ Runs 152 0 [some (.ref a), some (.int i0), some (.int i1), none, none] [] (n, tg, ln, I, J, O) (fun v h2 => Runs 169 18 ls (v.toList ++ st) h2 Q) := R_callv (a := a) (rest := st) rfl rfl rfl rfl rfl rfl rfl ht hs
theorem s169_18 : Runs 169 18 ls st h Q ↔ Runs 169 19 ls (.int (-1) :: st) h Q := R_iconst rfl rfl
theorem s169_19 : Runs 169 19 ls (.int j :: .int i :: st) h Q ↔ if i = j then Runs 169 35 ls st h Q else Runs 169 22 ls st h Q := R_iceq rfl rfl
theorem s169_22 : Runs 169 22 [some (.ref a), x1, x2] st h Q ↔ Runs 169 23 [some (.ref a), x1, x2] (.ref a :: st) h Q := R_aldn rfl rfl
theorem s169_22q : Runs 169 22 [some (zrf r), x1, x2] st h Q ↔ Runs 169 23 [some (zrf r), x1, x2] (zrf r :: st) h Q := R_aldnq rfl rfl
theorem s169_23 (ht : tg a = 10) : Runs 169 23 ls (.ref a :: st) (n, tg, ln, I, J, O) Q ↔ Runs 169 26 ls (zrf (O a 0) :: st) (n, tg, ln, I, J, O) Q := R_getr rfl rfl rfl rfl ht
theorem s169_26 : Runs 169 26 ls st h Q ↔ Runs 169 28 ls (.int 30 :: st) h Q := R_bipush rfl (by decide)
theorem s169_28 : Runs 169 28 [x0, some (.int i), x2] st h Q ↔ Runs 169 29 [x0, some (.int i), x2] (.int i :: st) h Q := R_ildn rfl rfl
theorem s169_29 : Runs 169 29 ls (.int j :: .int i :: st) h Q ↔ Runs 169 30 ls (.int (i + j) :: st) h Q := R_iadd rfl
theorem s169_30 (ht : tg a = 20) : Runs 169 30 ls (.int i :: .ref a :: st) (n, tg, ln, I, J, O) Q ↔ ((0 ≤ i ∧ i < Int32.ofNat (ln a)) ∧ Runs 169 31 ls (.int (I a i) :: st) (n, tg, ln, I, J, O) Q) := R_iald rfl ht
theorem s169_31 : Runs 169 31 ls st h Q ↔ Runs 169 32 ls (.int 4 :: st) h Q := R_iconst rfl rfl
theorem s169_32 : Runs 169 32 ls (.int j :: .int i :: st) h Q ↔ if ¬ i = j then Runs 169 38 ls st h Q else Runs 169 35 ls st h Q := R_icne rfl rfl
theorem s169_35 : Runs 169 35 ls st h Q ↔ Runs 169 37 ls (.int (-4) :: st) h Q := R_bipush rfl (by decide)
theorem s169_37 : Runs 169 37 ls [.int i] h Q ↔ Q (some (.int i)) h := R_iret rfl rfl
theorem s169_38 : Runs 169 38 [some (.ref a), x1, x2] st h Q ↔ Runs 169 39 [some (.ref a), x1, x2] (.ref a :: st) h Q := R_aldn rfl rfl
theorem s169_38q : Runs 169 38 [some (zrf r), x1, x2] st h Q ↔ Runs 169 39 [some (zrf r), x1, x2] (zrf r :: st) h Q := R_aldnq rfl rfl
theorem s169_39 (ht : tg a = 10) (hs : zsumc st ≤ 8) : Runs 169 39 ls (.ref a :: st) (n, tg, ln, I, J, O) Q ↔ Runs 163 0 [some (.ref a), none] [] (n, tg, ln, I, J, O) (fun v h2 => Runs 169 42 ls (v.toList ++ st) h2 Q) := R_callv (a := a) (rest := st) rfl rfl rfl rfl rfl rfl rfl ht hs
theorem s169_42 : Runs 169 42 [some (.ref a), x1, x2] st h Q ↔ Runs 169 43 [some (.ref a), x1, x2] (.ref a :: st) h Q := R_aldn rfl rfl
theorem s169_42q : Runs 169 42 [some (zrf r), x1, x2] st h Q ↔ Runs 169 43 [some (zrf r), x1, x2] (zrf r :: st) h Q := R_aldnq rfl rfl
theorem s169_43 (ht : tg a = 10) : Runs 169 43 ls (.ref a :: st) (n, tg, ln, I, J, O) Q ↔ Runs 169 46 ls (zrf (O a 0) :: st) (n, tg, ln, I, J, O) Q := R_getr rfl rfl rfl rfl ht
theorem s169_46 : Runs 169 46 ls st h Q ↔ Runs 169 48 ls (.int 30 :: st) h Q := R_bipush rfl (by decide)
theorem s169_48 : Runs 169 48 [x0, some (.int i), x2] st h Q ↔ Runs 169 49 [x0, some (.int i), x2] (.int i :: st) h Q := R_ildn rfl rfl
theorem s169_49 : Runs 169 49 ls (.int j :: .int i :: st) h Q ↔ Runs 169 50 ls (.int (i + j) :: st) h Q := R_iadd rfl
theorem s169_50 (ht : tg a = 20) : Runs 169 50 ls (.int i :: .ref a :: st) (n, tg, ln, I, J, O) Q ↔ ((0 ≤ i ∧ i < Int32.ofNat (ln a)) ∧ Runs 169 51 ls (.int (I a i) :: st) (n, tg, ln, I, J, O) Q) := R_iald rfl ht
theorem s169_51 : Runs 169 51 [x0, x1, x2] (.int i :: st) h Q ↔ Runs 169 52 [x0, zdrop x1, some (.int i)] st h Q := R_istn rfl rfl rfl
theorem s169_52 : Runs 169 52 [some (.ref a), x1, x2] st h Q ↔ Runs 169 53 [some (.ref a), x1, x2] (.ref a :: st) h Q := R_aldn rfl rfl
theorem s169_52q : Runs 169 52 [some (zrf r), x1, x2] st h Q ↔ Runs 169 53 [some (zrf r), x1, x2] (zrf r :: st) h Q := R_aldnq rfl rfl
theorem s169_53 (ht : tg a = 10) : Runs 169 53 ls (.ref a :: st) (n, tg, ln, I, J, O) Q ↔ Runs 169 56 ls (zrf (O a 0) :: st) (n, tg, ln, I, J, O) Q := R_getr rfl rfl rfl rfl ht
theorem s169_56 : Runs 169 56 ls st h Q ↔ Runs 169 58 ls (.int 30 :: st) h Q := R_bipush rfl (by decide)
theorem s169_58 : Runs 169 58 [x0, some (.int i), x2] st h Q ↔ Runs 169 59 [x0, some (.int i), x2] (.int i :: st) h Q := R_ildn rfl rfl
theorem s169_59 : Runs 169 59 ls (.int j :: .int i :: st) h Q ↔ Runs 169 60 ls (.int (i + j) :: st) h Q := R_iadd rfl
theorem s169_60 : Runs 169 60 ls st h Q ↔ Runs 169 61 ls (.int 4 :: st) h Q := R_iconst rfl rfl
theorem s169_61 (ht : tg a = 20) : Runs 169 61 ls (.int j :: .int i :: .ref a :: st) (n, tg, ln, I, J, O) Q ↔ ((0 ≤ i ∧ i < Int32.ofNat (ln a)) ∧ Runs 169 62 ls st (n, tg, ln, zu I a i j, J, O) Q) := R_iast rfl ht
theorem s169_62 : Runs 169 62 [some (.ref a), x1, x2] st h Q ↔ Runs 169 63 [some (.ref a), x1, x2] (.ref a :: st) h Q := R_aldn rfl rfl
theorem s169_62q : Runs 169 62 [some (zrf r), x1, x2] st h Q ↔ Runs 169 63 [some (zrf r), x1, x2] (zrf r :: st) h Q := R_aldnq rfl rfl
theorem s169_63 (ht : tg a = 10) : Runs 169 63 ls (.ref a :: st) (n, tg, ln, I, J, O) Q ↔ Runs 169 66 ls (zrf (O a 0) :: st) (n, tg, ln, I, J, O) Q := R_getr rfl rfl rfl rfl ht
theorem s169_66 : Runs 169 66 ls st h Q ↔ Runs 169 68 ls (.int 66 :: st) h Q := R_bipush rfl (by decide)
theorem s169_68 : Runs 169 68 [x0, some (.int i), x2] st h Q ↔ Runs 169 69 [x0, some (.int i), x2] (.int i :: st) h Q := R_ildn rfl rfl
theorem s169_69 : Runs 169 69 ls (.int j :: .int i :: st) h Q ↔ Runs 169 70 ls (.int (i + j) :: st) h Q := R_iadd rfl
theorem s169_70 : Runs 169 70 ls st h Q ↔ Runs 169 71 ls (.int 0 :: st) h Q := R_iconst rfl rfl
theorem s169_71 (ht : tg a = 20) : Runs 169 71 ls (.int j :: .int i :: .ref a :: st) (n, tg, ln, I, J, O) Q ↔ ((0 ≤ i ∧ i < Int32.ofNat (ln a)) ∧ Runs 169 72 ls st (n, tg, ln, zu I a i j, J, O) Q) := R_iast rfl ht
theorem s169_72 : Runs 169 72 [x0, x1, some (.int i)] st h Q ↔ Runs 169 73 [x0, x1, some (.int i)] (.int i :: st) h Q := R_ildn rfl rfl
theorem s169_73 : Runs 169 73 ls [.int i] h Q ↔ Q (some (.int i)) h := R_iret rfl rfl
theorem s170_0 : Runs 170 0 [x0, some (.int i), x2] st h Q ↔ Runs 170 1 [x0, some (.int i), x2] (.int i :: st) h Q := R_ildn rfl rfl
theorem s170_1 : Runs 170 1 ls (.int i :: st) h Q ↔ Runs 170 2 ls (.long i.toInt64 :: st) h Q := R_i2l rfl
theorem s170_2 : Runs 170 2 ls st h Q ↔ Runs 170 3 ls (.long 0 :: st) h Q := R_lconst rfl rfl
theorem s170_3 : Runs 170 3 ls st h Q ↔ Runs 170 6 ls (.long 2 :: st) h Q := R_ldc2 rfl rfl
theorem s170_6 (hs : zsumc st ≤ 8) : Runs 170 6 ls (.long u2 :: .long u1 :: .long u0 :: st) h Q ↔ Runs 126 0 [some (.long u0), none, some (.long u1), none, some (.long u2), none] [] h (fun v h2 => Runs 170 9 ls (v.toList ++ st) h2 Q) := R_calls (rest := st) rfl rfl rfl (by simp) rfl rfl rfl rfl hs
theorem s170_9 : Runs 170 9 ls (.int i :: st) h Q ↔ if ¬ i = 0 then Runs 170 15 ls st h Q else Runs 170 12 ls st h Q := R_ifne rfl rfl
theorem s170_12 : Runs 170 12 ls st h Q ↔ Runs 170 14 ls (.int (-3) :: st) h Q := R_bipush rfl (by decide)
theorem s170_14 : Runs 170 14 ls [.int i] h Q ↔ Q (some (.int i)) h := R_iret rfl rfl
theorem s170_15 : Runs 170 15 [some (.ref a), x1, x2] st h Q ↔ Runs 170 16 [some (.ref a), x1, x2] (.ref a :: st) h Q := R_aldn rfl rfl
theorem s170_15q : Runs 170 15 [some (zrf r), x1, x2] st h Q ↔ Runs 170 16 [some (zrf r), x1, x2] (zrf r :: st) h Q := R_aldnq rfl rfl
theorem s170_16 (ht : tg a = 10) : Runs 170 16 ls (.ref a :: st) (n, tg, ln, I, J, O) Q ↔ Runs 170 19 ls (zrf (O a 0) :: st) (n, tg, ln, I, J, O) Q := R_getr rfl rfl rfl rfl ht
theorem s170_19 : Runs 170 19 ls st h Q ↔ Runs 170 20 ls (.int 1 :: st) h Q := R_iconst rfl rfl
theorem s170_20 (ht : tg a = 20) : Runs 170 20 ls (.int i :: .ref a :: st) (n, tg, ln, I, J, O) Q ↔ ((0 ≤ i ∧ i < Int32.ofNat (ln a)) ∧ Runs 170 21 ls (.int (I a i) :: st) (n, tg, ln, I, J, O) Q) := R_iald rfl ht
theorem s170_21 : Runs 170 21 [x0, x1, x2] (.int i :: st) h Q ↔ Runs 170 22 [x0, zdrop x1, some (.int i)] st h Q := R_istn rfl rfl rfl
theorem s170_22 : Runs 170 22 [x0, x1, some (.int i)] st h Q ↔ Runs 170 23 [x0, x1, some (.int i)] (.int i :: st) h Q := R_ildn rfl rfl
theorem s170_23 : Runs 170 23 [x0, some (.int i), x2] st h Q ↔ Runs 170 24 [x0, some (.int i), x2] (.int i :: st) h Q := R_ildn rfl rfl
theorem s170_24 : Runs 170 24 ls (.int j :: .int i :: st) h Q ↔ if ¬ i = j then Runs 170 30 ls st h Q else Runs 170 27 ls st h Q := R_icne rfl rfl
theorem s170_27 : Runs 170 27 ls st h Q ↔ Runs 170 29 ls (.int (-4) :: st) h Q := R_bipush rfl (by decide)
theorem s170_29 : Runs 170 29 ls [.int i] h Q ↔ Q (some (.int i)) h := R_iret rfl rfl
theorem s170_30 : Runs 170 30 [some (.ref a), x1, x2] st h Q ↔ Runs 170 31 [some (.ref a), x1, x2] (.ref a :: st) h Q := R_aldn rfl rfl
theorem s170_30q : Runs 170 30 [some (zrf r), x1, x2] st h Q ↔ Runs 170 31 [some (zrf r), x1, x2] (zrf r :: st) h Q := R_aldnq rfl rfl
theorem s170_31 (ht : tg a = 10) (hs : zsumc st ≤ 8) : Runs 170 31 ls (.ref a :: st) (n, tg, ln, I, J, O) Q ↔ Runs 163 0 [some (.ref a), none] [] (n, tg, ln, I, J, O) (fun v h2 => Runs 170 34 ls (v.toList ++ st) h2 Q) := R_callv (a := a) (rest := st) rfl rfl rfl rfl rfl rfl rfl ht hs
theorem s170_34 : Runs 170 34 [some (.ref a), x1, x2] st h Q ↔ Runs 170 35 [some (.ref a), x1, x2] (.ref a :: st) h Q := R_aldn rfl rfl
theorem s170_34q : Runs 170 34 [some (zrf r), x1, x2] st h Q ↔ Runs 170 35 [some (zrf r), x1, x2] (zrf r :: st) h Q := R_aldnq rfl rfl
theorem s170_35 (ht : tg a = 10) : Runs 170 35 ls (.ref a :: st) (n, tg, ln, I, J, O) Q ↔ Runs 170 38 ls (zrf (O a 0) :: st) (n, tg, ln, I, J, O) Q := R_getr rfl rfl rfl rfl ht
theorem s170_38 : Runs 170 38 ls st h Q ↔ Runs 170 39 ls (.int 1 :: st) h Q := R_iconst rfl rfl
theorem s170_39 : Runs 170 39 [x0, some (.int i), x2] st h Q ↔ Runs 170 40 [x0, some (.int i), x2] (.int i :: st) h Q := R_ildn rfl rfl
theorem s170_40 (ht : tg a = 20) : Runs 170 40 ls (.int j :: .int i :: .ref a :: st) (n, tg, ln, I, J, O) Q ↔ ((0 ≤ i ∧ i < Int32.ofNat (ln a)) ∧ Runs 170 41 ls st (n, tg, ln, zu I a i j, J, O) Q) := R_iast rfl ht
theorem s170_41 : Runs 170 41 [x0, x1, some (.int i)] st h Q ↔ Runs 170 42 [x0, x1, some (.int i)] (.int i :: st) h Q := R_ildn rfl rfl
theorem s170_42 : Runs 170 42 ls [.int i] h Q ↔ Q (some (.int i)) h := R_iret rfl rfl
theorem s171_0 : Runs 171 0 [some (.ref a)] st h Q ↔ Runs 171 1 [some (.ref a)] (.ref a :: st) h Q := R_aldn rfl rfl
theorem s171_0q : Runs 171 0 [some (zrf r)] st h Q ↔ Runs 171 1 [some (zrf r)] (zrf r :: st) h Q := R_aldnq rfl rfl
theorem s171_1 (ht : tg a = 10) : Runs 171 1 ls (.ref a :: st) (n, tg, ln, I, J, O) Q ↔ Runs 171 4 ls (.int (I a 1) :: st) (n, tg, ln, I, J, O) Q := R_geti rfl rfl rfl rfl ht
theorem s171_4 : Runs 171 4 ls (.int i :: st) h Q ↔ if ¬ i = 0 then Runs 171 10 ls st h Q else Runs 171 7 ls st h Q := R_ifne rfl rfl
theorem s171_7 : Runs 171 7 ls st h Q ↔ Runs 171 9 ls (.int (-4) :: st) h Q := R_bipush rfl (by decide)
theorem s171_9 : Runs 171 9 ls [.int i] h Q ↔ Q (some (.int i)) h := R_iret rfl rfl
theorem s171_10 : Runs 171 10 [some (.ref a)] st h Q ↔ Runs 171 11 [some (.ref a)] (.ref a :: st) h Q := R_aldn rfl rfl
theorem s171_10q : Runs 171 10 [some (zrf r)] st h Q ↔ Runs 171 11 [some (zrf r)] (zrf r :: st) h Q := R_aldnq rfl rfl
theorem s171_11 : Runs 171 11 ls (.int i :: st) h Q ↔ Runs 171 12 ls (.int i :: .int i :: st) h Q := R_dupi rfl
theorem s171_11q : Runs 171 11 ls (.ref a :: st) h Q ↔ Runs 171 12 ls (.ref a :: .ref a :: st) h Q := R_dupr rfl
theorem s171_12 (ht : tg a = 10) : Runs 171 12 ls (.ref a :: st) (n, tg, ln, I, J, O) Q ↔ Runs 171 15 ls (.int (I a 1) :: st) (n, tg, ln, I, J, O) Q := R_geti rfl rfl rfl rfl ht
theorem s171_15 : Runs 171 15 ls st h Q ↔ Runs 171 16 ls (.int 1 :: st) h Q := R_iconst rfl rfl
theorem s171_16 : Runs 171 16 ls (.int j :: .int i :: st) h Q ↔ Runs 171 17 ls (.int (i - j) :: st) h Q := R_isub rfl
theorem s171_17 (ht : tg a = 10) : Runs 171 17 ls (.int i :: .ref a :: st) (n, tg, ln, I, J, O) Q ↔ Runs 171 20 ls st (n, tg, ln, zu I a 1 i, J, O) Q := R_puti rfl rfl rfl rfl rfl rfl ht
theorem s171_20 : Runs 171 20 [some (.ref a)] st h Q ↔ Runs 171 21 [some (.ref a)] (.ref a :: st) h Q := R_aldn rfl rfl
theorem s171_20q : Runs 171 20 [some (zrf r)] st h Q ↔ Runs 171 21 [some (zrf r)] (zrf r :: st) h Q := R_aldnq rfl rfl
theorem s171_21 : Runs 171 21 ls st h Q ↔ Runs 171 24 ls (.int 180 :: st) h Q := R_sipush rfl (by decide)
theorem s171_24 : Runs 171 24 ls st h Q ↔ Runs 171 26 ls (.int 90 :: st) h Q := R_bipush rfl (by decide)
theorem s171_26 : Runs 171 26 [some (.ref a)] st h Q ↔ Runs 171 27 [some (.ref a)] (.ref a :: st) h Q := R_aldn rfl rfl
theorem s171_26q : Runs 171 26 [some (zrf r)] st h Q ↔ Runs 171 27 [some (zrf r)] (zrf r :: st) h Q := R_aldnq rfl rfl
theorem s171_27 (ht : tg a = 10) : Runs 171 27 ls (.ref a :: st) (n, tg, ln, I, J, O) Q ↔ Runs 171 30 ls (.int (I a 1) :: st) (n, tg, ln, I, J, O) Q := R_geti rfl rfl rfl rfl ht
theorem s171_30 : Runs 171 30 ls (.int j :: .int i :: st) h Q ↔ Runs 171 31 ls (.int (i * j) :: st) h Q := R_imul rfl
theorem s171_31 : Runs 171 31 ls (.int j :: .int i :: st) h Q ↔ Runs 171 32 ls (.int (i + j) :: st) h Q := R_iadd rfl
theorem s171_32 : Runs 171 32 ls st h Q ↔ Runs 171 33 ls (.int 0 :: st) h Q := R_iconst rfl rfl
theorem s171_33 (ht : tg a = 10) (hs : zsumc st ≤ 8) : Runs 171 33 ls (.int i1 :: .int i0 :: .ref a :: st) (n, tg, ln, I, J, O) Q ↔ Runs 148 0 [some (.ref a), some (.int i0), some (.int i1), none] [] (n, tg, ln, I, J, O) (fun v h2 => Runs 171 36 ls (v.toList ++ st) h2 Q) := R_callv (a := a) (rest := st) rfl rfl rfl rfl rfl rfl rfl ht hs
theorem s171_36 : Runs 171 36 [some (.ref a)] st h Q ↔ Runs 171 37 [some (.ref a)] (.ref a :: st) h Q := R_aldn rfl rfl
theorem s171_36q : Runs 171 36 [some (zrf r)] st h Q ↔ Runs 171 37 [some (zrf r)] (zrf r :: st) h Q := R_aldnq rfl rfl
theorem s171_37 (ht : tg a = 10) : Runs 171 37 ls (.ref a :: st) (n, tg, ln, I, J, O) Q ↔ Runs 171 40 ls (.int (I a 1) :: st) (n, tg, ln, I, J, O) Q := R_geti rfl rfl rfl rfl ht
theorem s171_40 : Runs 171 40 ls [.int i] h Q ↔ Q (some (.int i)) h := R_iret rfl rfl
theorem s172_0 : Runs 172 0 [x0, some (.int i)] st h Q ↔ Runs 172 1 [x0, some (.int i)] (.int i :: st) h Q := R_ildn rfl rfl
theorem s172_1 : Runs 172 1 ls (.int i :: st) h Q ↔ Runs 172 2 ls (.long i.toInt64 :: st) h Q := R_i2l rfl
theorem s172_2 : Runs 172 2 ls st h Q ↔ Runs 172 3 ls (.long 0 :: st) h Q := R_lconst rfl rfl
theorem s172_3 : Runs 172 3 ls st h Q ↔ Runs 172 4 ls (.long 1 :: st) h Q := R_lconst rfl rfl
theorem s172_4 (hs : zsumc st ≤ 8) : Runs 172 4 ls (.long u2 :: .long u1 :: .long u0 :: st) h Q ↔ Runs 126 0 [some (.long u0), none, some (.long u1), none, some (.long u2), none] [] h (fun v h2 => Runs 172 7 ls (v.toList ++ st) h2 Q) := R_calls (rest := st) rfl rfl rfl (by simp) rfl rfl rfl rfl hs
theorem s172_7 : Runs 172 7 ls (.int i :: st) h Q ↔ if ¬ i = 0 then Runs 172 13 ls st h Q else Runs 172 10 ls st h Q := R_ifne rfl rfl
theorem s172_10 : Runs 172 10 ls st h Q ↔ Runs 172 12 ls (.int (-2) :: st) h Q := R_bipush rfl (by decide)
theorem s172_12 : Runs 172 12 ls [.int i] h Q ↔ Q (some (.int i)) h := R_iret rfl rfl
theorem s172_13 : Runs 172 13 [some (.ref a), x1] st h Q ↔ Runs 172 14 [some (.ref a), x1] (.ref a :: st) h Q := R_aldn rfl rfl
theorem s172_13q : Runs 172 13 [some (zrf r), x1] st h Q ↔ Runs 172 14 [some (zrf r), x1] (zrf r :: st) h Q := R_aldnq rfl rfl
theorem s172_14 : Runs 172 14 ls st h Q ↔ Runs 172 15 ls (.int 0 :: st) h Q := R_iconst rfl rfl
theorem s172_15 : Runs 172 15 ls st h Q ↔ Runs 172 18 ls (.int 900 :: st) h Q := R_sipush rfl (by decide)
theorem s172_18 : Runs 172 18 ls st h Q ↔ Runs 172 20 ls (.int 90 :: st) h Q := R_bipush rfl (by decide)
theorem s172_20 : Runs 172 20 [x0, some (.int i)] st h Q ↔ Runs 172 21 [x0, some (.int i)] (.int i :: st) h Q := R_ildn rfl rfl
theorem s172_21 : Runs 172 21 ls (.int j :: .int i :: st) h Q ↔ Runs 172 22 ls (.int (i * j) :: st) h Q := R_imul rfl
theorem s172_22 : Runs 172 22 ls (.int j :: .int i :: st) h Q ↔ Runs 172 23 ls (.int (i + j) :: st) h Q := R_iadd rfl
theorem s172_23 (ht : tg a = 10) (hs : zsumc st ≤ 8) : Runs 172 23 ls (.int i1 :: .int i0 :: .ref a :: st) (n, tg, ln, I, J, O) Q ↔ Runs 148 0 [some (.ref a), some (.int i0), some (.int i1), none] [] (n, tg, ln, I, J, O) (fun v h2 => Runs 172 26 ls (v.toList ++ st) h2 Q) := R_callv (a := a) (rest := st) rfl rfl rfl rfl rfl rfl rfl ht hs
theorem s172_26 : Runs 172 26 [some (.ref a), x1] st h Q ↔ Runs 172 27 [some (.ref a), x1] (.ref a :: st) h Q := R_aldn rfl rfl
theorem s172_26q : Runs 172 26 [some (zrf r), x1] st h Q ↔ Runs 172 27 [some (zrf r), x1] (zrf r :: st) h Q := R_aldnq rfl rfl
theorem s172_27 (ht : tg a = 10) : Runs 172 27 ls (.ref a :: st) (n, tg, ln, I, J, O) Q ↔ Runs 172 30 ls (zrf (O a 2) :: st) (n, tg, ln, I, J, O) Q := R_getr rfl rfl rfl rfl ht
theorem s172_30 : Runs 172 30 [x0, some (.int i)] st h Q ↔ Runs 172 31 [x0, some (.int i)] (.int i :: st) h Q := R_ildn rfl rfl
theorem s172_31 : Runs 172 31 ls st h Q ↔ Runs 172 32 ls (.int 1 :: st) h Q := R_iconst rfl rfl
theorem s172_32 (ht : tg a = 22) (hx : j = 0 ∨ j = 1) : Runs 172 32 ls (.int j :: .int i :: .ref a :: st) (n, tg, ln, I, J, O) Q ↔ ((0 ≤ i ∧ i < Int32.ofNat (ln a)) ∧ Runs 172 33 ls st (n, tg, ln, zu I a i j, J, O) Q) := R_bast rfl ht hx
theorem s172_33 : Runs 172 33 [some (.ref a), x1] st h Q ↔ Runs 172 34 [some (.ref a), x1] (.ref a :: st) h Q := R_aldn rfl rfl
theorem s172_33q : Runs 172 33 [some (zrf r), x1] st h Q ↔ Runs 172 34 [some (zrf r), x1] (zrf r :: st) h Q := R_aldnq rfl rfl
theorem s172_34 (ht : tg a = 10) : Runs 172 34 ls (.ref a :: st) (n, tg, ln, I, J, O) Q ↔ Runs 172 37 ls (zrf (O a 0) :: st) (n, tg, ln, I, J, O) Q := R_getr rfl rfl rfl rfl ht
theorem s172_37 : Runs 172 37 ls st h Q ↔ Runs 172 38 ls (.int 2 :: st) h Q := R_iconst rfl rfl
theorem s172_38 (ht : tg a = 20) : Runs 172 38 ls (.int i :: .ref a :: st) (n, tg, ln, I, J, O) Q ↔ ((0 ≤ i ∧ i < Int32.ofNat (ln a)) ∧ Runs 172 39 ls (.int (I a i) :: st) (n, tg, ln, I, J, O) Q) := R_iald rfl ht
theorem s172_39 : Runs 172 39 ls [.int i] h Q ↔ Q (some (.int i)) h := R_iret rfl rfl
theorem s173_0 : Runs 173 0 [x0, some (.int i)] st h Q ↔ Runs 173 1 [x0, some (.int i)] (.int i :: st) h Q := R_ildn rfl rfl
theorem s173_1 : Runs 173 1 ls (.int i :: st) h Q ↔ Runs 173 2 ls (.long i.toInt64 :: st) h Q := R_i2l rfl
theorem s173_2 : Runs 173 2 ls st h Q ↔ Runs 173 3 ls (.long 0 :: st) h Q := R_lconst rfl rfl
theorem s173_3 : Runs 173 3 ls st h Q ↔ Runs 173 4 ls (.long 1 :: st) h Q := R_lconst rfl rfl
theorem s173_4 (hs : zsumc st ≤ 8) : Runs 173 4 ls (.long u2 :: .long u1 :: .long u0 :: st) h Q ↔ Runs 126 0 [some (.long u0), none, some (.long u1), none, some (.long u2), none] [] h (fun v h2 => Runs 173 7 ls (v.toList ++ st) h2 Q) := R_calls (rest := st) rfl rfl rfl (by simp) rfl rfl rfl rfl hs
theorem s173_7 : Runs 173 7 ls (.int i :: st) h Q ↔ if ¬ i = 0 then Runs 173 13 ls st h Q else Runs 173 10 ls st h Q := R_ifne rfl rfl
theorem s173_10 : Runs 173 10 ls st h Q ↔ Runs 173 12 ls (.int (-2) :: st) h Q := R_bipush rfl (by decide)
theorem s173_12 : Runs 173 12 ls [.int i] h Q ↔ Q (some (.int i)) h := R_iret rfl rfl
theorem s173_13 : Runs 173 13 [some (.ref a), x1] st h Q ↔ Runs 173 14 [some (.ref a), x1] (.ref a :: st) h Q := R_aldn rfl rfl
theorem s173_13q : Runs 173 13 [some (zrf r), x1] st h Q ↔ Runs 173 14 [some (zrf r), x1] (zrf r :: st) h Q := R_aldnq rfl rfl
theorem s173_14 (ht : tg a = 10) : Runs 173 14 ls (.ref a :: st) (n, tg, ln, I, J, O) Q ↔ Runs 173 17 ls (zrf (O a 2) :: st) (n, tg, ln, I, J, O) Q := R_getr rfl rfl rfl rfl ht
theorem s173_17 : Runs 173 17 [x0, some (.int i)] st h Q ↔ Runs 173 18 [x0, some (.int i)] (.int i :: st) h Q := R_ildn rfl rfl
theorem s173_18 (ht : tg a = 22) : Runs 173 18 ls (.int i :: .ref a :: st) (n, tg, ln, I, J, O) Q ↔ ((0 ≤ i ∧ i < Int32.ofNat (ln a)) ∧ Runs 173 19 ls (.int (I a i) :: st) (n, tg, ln, I, J, O) Q) := R_bald rfl ht
theorem s173_19 : Runs 173 19 ls (.int i :: st) h Q ↔ if ¬ i = 0 then Runs 173 25 ls st h Q else Runs 173 22 ls st h Q := R_ifne rfl rfl
theorem s173_22 : Runs 173 22 ls st h Q ↔ Runs 173 24 ls (.int (-4) :: st) h Q := R_bipush rfl (by decide)
theorem s173_24 : Runs 173 24 ls [.int i] h Q ↔ Q (some (.int i)) h := R_iret rfl rfl
theorem s173_25 : Runs 173 25 [some (.ref a), x1] st h Q ↔ Runs 173 26 [some (.ref a), x1] (.ref a :: st) h Q := R_aldn rfl rfl
theorem s173_25q : Runs 173 25 [some (zrf r), x1] st h Q ↔ Runs 173 26 [some (zrf r), x1] (zrf r :: st) h Q := R_aldnq rfl rfl
theorem s173_26 : Runs 173 26 ls st h Q ↔ Runs 173 29 ls (.int 900 :: st) h Q := R_sipush rfl (by decide)
theorem s173_29 : Runs 173 29 ls st h Q ↔ Runs 173 31 ls (.int 90 :: st) h Q := R_bipush rfl (by decide)
theorem s173_31 : Runs 173 31 [x0, some (.int i)] st h Q ↔ Runs 173 32 [x0, some (.int i)] (.int i :: st) h Q := R_ildn rfl rfl
theorem s173_32 : Runs 173 32 ls (.int j :: .int i :: st) h Q ↔ Runs 173 33 ls (.int (i * j) :: st) h Q := R_imul rfl
theorem s173_33 : Runs 173 33 ls (.int j :: .int i :: st) h Q ↔ Runs 173 34 ls (.int (i + j) :: st) h Q := R_iadd rfl
theorem s173_34 : Runs 173 34 ls st h Q ↔ Runs 173 35 ls (.int 0 :: st) h Q := R_iconst rfl rfl
theorem s173_35 (ht : tg a = 10) (hs : zsumc st ≤ 8) : Runs 173 35 ls (.int i1 :: .int i0 :: .ref a :: st) (n, tg, ln, I, J, O) Q ↔ Runs 148 0 [some (.ref a), some (.int i0), some (.int i1), none] [] (n, tg, ln, I, J, O) (fun v h2 => Runs 173 38 ls (v.toList ++ st) h2 Q) := R_callv (a := a) (rest := st) rfl rfl rfl rfl rfl rfl rfl ht hs
theorem s173_38 : Runs 173 38 [some (.ref a), x1] st h Q ↔ Runs 173 39 [some (.ref a), x1] (.ref a :: st) h Q := R_aldn rfl rfl
theorem s173_38q : Runs 173 38 [some (zrf r), x1] st h Q ↔ Runs 173 39 [some (zrf r), x1] (zrf r :: st) h Q := R_aldnq rfl rfl
theorem s173_39 : Runs 173 39 ls st h Q ↔ Runs 173 40 ls (.int 0 :: st) h Q := R_iconst rfl rfl
theorem s173_40 (ht : tg a = 10) : Runs 173 40 ls (.int i :: .ref a :: st) (n, tg, ln, I, J, O) Q ↔ Runs 173 43 ls st (n, tg, ln, zu I a 1 i, J, O) Q := R_puti rfl rfl rfl rfl rfl rfl ht
theorem s173_43 : Runs 173 43 [some (.ref a), x1] st h Q ↔ Runs 173 44 [some (.ref a), x1] (.ref a :: st) h Q := R_aldn rfl rfl
theorem s173_43q : Runs 173 43 [some (zrf r), x1] st h Q ↔ Runs 173 44 [some (zrf r), x1] (zrf r :: st) h Q := R_aldnq rfl rfl
theorem s173_44 (ht : tg a = 10) : Runs 173 44 ls (.ref a :: st) (n, tg, ln, I, J, O) Q ↔ Runs 173 47 ls (zrf (O a 0) :: st) (n, tg, ln, I, J, O) Q := R_getr rfl rfl rfl rfl ht
theorem s173_47 : Runs 173 47 ls st h Q ↔ Runs 173 48 ls (.int 2 :: st) h Q := R_iconst rfl rfl
theorem s173_48 (ht : tg a = 20) : Runs 173 48 ls (.int i :: .ref a :: st) (n, tg, ln, I, J, O) Q ↔ ((0 ≤ i ∧ i < Int32.ofNat (ln a)) ∧ Runs 173 49 ls (.int (I a i) :: st) (n, tg, ln, I, J, O) Q) := R_iald rfl ht
theorem s173_49 : Runs 173 49 ls [.int i] h Q ↔ Q (some (.int i)) h := R_iret rfl rfl
theorem s176_0 : Runs 176 0 [some (.ref a), x1] st h Q ↔ Runs 176 1 [some (.ref a), x1] (.ref a :: st) h Q := R_aldn rfl rfl
theorem s176_0q : Runs 176 0 [some (zrf r), x1] st h Q ↔ Runs 176 1 [some (zrf r), x1] (zrf r :: st) h Q := R_aldnq rfl rfl
theorem s176_1 : Runs 176 1 [x0, some (.int i)] st h Q ↔ Runs 176 2 [x0, some (.int i)] (.int i :: st) h Q := R_ildn rfl rfl
theorem s176_2 : Runs 176 2 ls (.int i :: st) h Q ↔ Runs 176 3 ls (.long i.toInt64 :: st) h Q := R_i2l rfl
theorem s176_3 (ht : tg a = 10) (hs : zsumc st ≤ 8) : Runs 176 3 ls (.long u0 :: .ref a :: st) (n, tg, ln, I, J, O) Q ↔ Runs 150 0 [some (.ref a), some (.long u0), none] [] (n, tg, ln, I, J, O) (fun v h2 => Runs 176 6 ls (v.toList ++ st) h2 Q) := R_callv (a := a) (rest := st) rfl rfl rfl rfl rfl rfl rfl ht hs
theorem s176_6 : Runs 176 6 ls (.int i :: st) h Q ↔ if ¬ i = 0 then Runs 176 12 ls st h Q else Runs 176 9 ls st h Q := R_ifne rfl rfl
theorem s176_9 : Runs 176 9 ls st h Q ↔ Runs 176 11 ls (.int (-2) :: st) h Q := R_bipush rfl (by decide)
theorem s176_11 : Runs 176 11 ls [.int i] h Q ↔ Q (some (.int i)) h := R_iret rfl rfl
theorem s176_12 : Runs 176 12 [some (.ref a), x1] st h Q ↔ Runs 176 13 [some (.ref a), x1] (.ref a :: st) h Q := R_aldn rfl rfl
theorem s176_12q : Runs 176 12 [some (zrf r), x1] st h Q ↔ Runs 176 13 [some (zrf r), x1] (zrf r :: st) h Q := R_aldnq rfl rfl
theorem s176_13 : Runs 176 13 ls st h Q ↔ Runs 176 14 ls (.int 0 :: st) h Q := R_iconst rfl rfl
theorem s176_14 : Runs 176 14 [x0, some (.int i)] st h Q ↔ Runs 176 15 [x0, some (.int i)] (.int i :: st) h Q := R_ildn rfl rfl
theorem s176_15 (ht : tg a = 10) (hs : zsumc st ≤ 8) : Runs 176 15 ls (.int i1 :: .int i0 :: .ref a :: st) (n, tg, ln, I, J, O) Q ↔ Runs 152 0 [some (.ref a), some (.int i0), some (.int i1), none, none] [] (n, tg, ln, I, J, O) (fun v h2 => Runs 176 18 ls (v.toList ++ st) h2 Q) := R_callv (a := a) (rest := st) rfl rfl rfl rfl rfl rfl rfl ht hs
theorem s176_18 : Runs 176 18 ls st h Q ↔ Runs 176 19 ls (.int (-1) :: st) h Q := R_iconst rfl rfl
theorem s176_19 : Runs 176 19 ls (.int j :: .int i :: st) h Q ↔ if ¬ i = j then Runs 176 25 ls st h Q else Runs 176 22 ls st h Q := R_icne rfl rfl
theorem s176_22 : Runs 176 22 ls st h Q ↔ Runs 176 24 ls (.int (-4) :: st) h Q := R_bipush rfl (by decide)
theorem s176_24 : Runs 176 24 ls [.int i] h Q ↔ Q (some (.int i)) h := R_iret rfl rfl
theorem s176_25 : Runs 176 25 [some (.ref a), x1] st h Q ↔ Runs 176 26 [some (.ref a), x1] (.ref a :: st) h Q := R_aldn rfl rfl
theorem s176_25q : Runs 176 25 [some (zrf r), x1] st h Q ↔ Runs 176 26 [some (zrf r), x1] (zrf r :: st) h Q := R_aldnq rfl rfl
theorem s176_26 (ht : tg a = 10) (hs : zsumc st ≤ 8) : Runs 176 26 ls (.ref a :: st) (n, tg, ln, I, J, O) Q ↔ Runs 174 0 [some (.ref a)] [] (n, tg, ln, I, J, O) (fun v h2 => Runs 176 29 ls (v.toList ++ st) h2 Q) := R_callv (a := a) (rest := st) rfl rfl rfl rfl rfl rfl rfl ht hs
theorem s176_29 : Runs 176 29 [some (.ref a), x1] st h Q ↔ Runs 176 30 [some (.ref a), x1] (.ref a :: st) h Q := R_aldn rfl rfl
theorem s176_29q : Runs 176 29 [some (zrf r), x1] st h Q ↔ Runs 176 30 [some (zrf r), x1] (zrf r :: st) h Q := R_aldnq rfl rfl
theorem s176_30 : Runs 176 30 [x0, some (.int i)] st h Q ↔ Runs 176 31 [x0, some (.int i)] (.int i :: st) h Q := R_ildn rfl rfl
theorem s176_31 : Runs 176 31 ls st h Q ↔ Runs 176 33 ls (.int 60 :: st) h Q := R_bipush rfl (by decide)
theorem s176_33 (ht : tg a = 10) (hs : zsumc st ≤ 8) : Runs 176 33 ls (.int i1 :: .int i0 :: .ref a :: st) (n, tg, ln, I, J, O) Q ↔ Runs 175 0 [some (.ref a), some (.int i0), some (.int i1), none] [] (n, tg, ln, I, J, O) (fun v h2 => Runs 176 36 ls (v.toList ++ st) h2 Q) := R_callv (a := a) (rest := st) rfl rfl rfl rfl rfl rfl rfl ht hs
theorem s176_36 : Runs 176 36 ls [.int i] h Q ↔ Q (some (.int i)) h := R_iret rfl rfl
theorem s177_0 : Runs 177 0 [some (.ref a), x1, x2, x3] st h Q ↔ Runs 177 1 [some (.ref a), x1, x2, x3] (.ref a :: st) h Q := R_aldn rfl rfl
theorem s177_0q : Runs 177 0 [some (zrf r), x1, x2, x3] st h Q ↔ Runs 177 1 [some (zrf r), x1, x2, x3] (zrf r :: st) h Q := R_aldnq rfl rfl
theorem s177_1 : Runs 177 1 [x0, some (.int i), x2, x3] st h Q ↔ Runs 177 2 [x0, some (.int i), x2, x3] (.int i :: st) h Q := R_ildn rfl rfl
theorem s177_2 : Runs 177 2 ls (.int i :: st) h Q ↔ Runs 177 3 ls (.long i.toInt64 :: st) h Q := R_i2l rfl
theorem s177_3 (ht : tg a = 10) (hs : zsumc st ≤ 8) : Runs 177 3 ls (.long u0 :: .ref a :: st) (n, tg, ln, I, J, O) Q ↔ Runs 150 0 [some (.ref a), some (.long u0), none] [] (n, tg, ln, I, J, O) (fun v h2 => Runs 177 6 ls (v.toList ++ st) h2 Q) := R_callv (a := a) (rest := st) rfl rfl rfl rfl rfl rfl rfl ht hs
theorem s177_6 : Runs 177 6 ls (.int i :: st) h Q ↔ if ¬ i = 0 then Runs 177 12 ls st h Q else Runs 177 9 ls st h Q := R_ifne rfl rfl
theorem s177_9 : Runs 177 9 ls st h Q ↔ Runs 177 11 ls (.int (-2) :: st) h Q := R_bipush rfl (by decide)
theorem s177_11 : Runs 177 11 ls [.int i] h Q ↔ Q (some (.int i)) h := R_iret rfl rfl
theorem s177_12 : Runs 177 12 [x0, x1, some (.int i), x3] st h Q ↔ Runs 177 13 [x0, x1, some (.int i), x3] (.int i :: st) h Q := R_ildn rfl rfl
theorem s177_13 : Runs 177 13 ls (.int i :: st) h Q ↔ Runs 177 14 ls (.long i.toInt64 :: st) h Q := R_i2l rfl
theorem s177_14 : Runs 177 14 ls st h Q ↔ Runs 177 15 ls (.long 0 :: st) h Q := R_lconst rfl rfl
theorem s177_15 : Runs 177 15 ls st h Q ↔ Runs 177 18 ls (.long 60 :: st) h Q := R_ldc2 rfl rfl
theorem s177_18 (hs : zsumc st ≤ 8) : Runs 177 18 ls (.long u2 :: .long u1 :: .long u0 :: st) h Q ↔ Runs 126 0 [some (.long u0), none, some (.long u1), none, some (.long u2), none] [] h (fun v h2 => Runs 177 21 ls (v.toList ++ st) h2 Q) := R_calls (rest := st) rfl rfl rfl (by simp) rfl rfl rfl rfl hs
theorem s177_21 : Runs 177 21 ls (.int i :: st) h Q ↔ if ¬ i = 0 then Runs 177 27 ls st h Q else Runs 177 24 ls st h Q := R_ifne rfl rfl
theorem s177_24 : Runs 177 24 ls st h Q ↔ Runs 177 26 ls (.int (-3) :: st) h Q := R_bipush rfl (by decide)
theorem s177_26 : Runs 177 26 ls [.int i] h Q ↔ Q (some (.int i)) h := R_iret rfl rfl
theorem s177_27 : Runs 177 27 [some (.ref a), x1, x2, x3] st h Q ↔ Runs 177 28 [some (.ref a), x1, x2, x3] (.ref a :: st) h Q := R_aldn rfl rfl
theorem s177_27q : Runs 177 27 [some (zrf r), x1, x2, x3] st h Q ↔ Runs 177 28 [some (zrf r), x1, x2, x3] (zrf r :: st) h Q := R_aldnq rfl rfl
theorem s177_28 (ht : tg a = 10) (hs : zsumc st ≤ 8) : Runs 177 28 ls (.ref a :: st) (n, tg, ln, I, J, O) Q ↔ Runs 174 0 [some (.ref a)] [] (n, tg, ln, I, J, O) (fun v h2 => Runs 177 31 ls (v.toList ++ st) h2 Q) := R_callv (a := a) (rest := st) rfl rfl rfl rfl rfl rfl rfl ht hs
theorem s177_31 : Runs 177 31 ls st h Q ↔ Runs 177 32 ls (.int 0 :: st) h Q := R_iconst rfl rfl
theorem s177_32 : Runs 177 32 [x0, x1, x2, x3] (.int i :: st) h Q ↔ Runs 177 33 [x0, x1, zdrop x2, some (.int i)] st h Q := R_istn rfl rfl rfl
theorem s177_33 : Runs 177 33 [x0, x1, x2, some (.int i)] st h Q ↔ Runs 177 34 [x0, x1, x2, some (.int i)] (.int i :: st) h Q := R_ildn rfl rfl
theorem s177_34 : Runs 177 34 [x0, x1, some (.int i), x3] st h Q ↔ Runs 177 35 [x0, x1, some (.int i), x3] (.int i :: st) h Q := R_ildn rfl rfl
theorem s177_35 : Runs 177 35 ls (.int j :: .int i :: st) h Q ↔ if j ≤ i then Runs 177 52 ls st h Q else Runs 177 38 ls st h Q := R_icge rfl rfl
theorem s177_38 : Runs 177 38 [some (.ref a), x1, x2, x3] st h Q ↔ Runs 177 39 [some (.ref a), x1, x2, x3] (.ref a :: st) h Q := R_aldn rfl rfl
theorem s177_38q : Runs 177 38 [some (zrf r), x1, x2, x3] st h Q ↔ Runs 177 39 [some (zrf r), x1, x2, x3] (zrf r :: st) h Q := R_aldnq rfl rfl
theorem s177_39 : Runs 177 39 ls st h Q ↔ Runs 177 42 ls (.int 1080 :: st) h Q := R_sipush rfl (by decide)
theorem s177_42 (ht : tg a = 10) (hs : zsumc st ≤ 8) : Runs 177 42 ls (.int i0 :: .ref a :: st) (n, tg, ln, I, J, O) Q ↔ Runs 162 0 [some (.ref a), some (.int i0), none, none] [] (n, tg, ln, I, J, O) (fun v h2 => Runs 177 45 ls (v.toList ++ st) h2 Q) := R_callv (a := a) (rest := st) rfl rfl rfl rfl rfl rfl rfl ht hs
theorem s177_45 : Runs 177 45 ls (.int i :: st) h Q ↔ Runs 177 46 ls st h Q := R_pop rfl
theorem s177_46 : Runs 177 46 [x0, x1, x2, some (.int i)] st h Q ↔ Runs 177 49 [x0, x1, zdrop x2, some (.int (i + 1))] st h Q := R_iinc rfl rfl rfl rfl rfl
theorem s177_49 : Runs 177 49 ls st h Q ↔ Runs 177 33 ls st h Q := R_goto rfl rfl
theorem s177_52 : Runs 177 52 [some (.ref a), x1, x2, x3] st h Q ↔ Runs 177 53 [some (.ref a), x1, x2, x3] (.ref a :: st) h Q := R_aldn rfl rfl
theorem s177_52q : Runs 177 52 [some (zrf r), x1, x2, x3] st h Q ↔ Runs 177 53 [some (zrf r), x1, x2, x3] (zrf r :: st) h Q := R_aldnq rfl rfl
theorem s177_53 : Runs 177 53 ls st h Q ↔ Runs 177 56 ls (.int 1080 :: st) h Q := R_sipush rfl (by decide)
theorem s177_56 : Runs 177 56 [x0, some (.int i), x2, x3] st h Q ↔ Runs 177 57 [x0, some (.int i), x2, x3] (.int i :: st) h Q := R_ildn rfl rfl
theorem s177_57 (ht : tg a = 10) (hs : zsumc st ≤ 8) : Runs 177 57 ls (.int i1 :: .int i0 :: .ref a :: st) (n, tg, ln, I, J, O) Q ↔ Runs 152 0 [some (.ref a), some (.int i0), some (.int i1), none, none] [] (n, tg, ln, I, J, O) (fun v h2 => Runs 177 60 ls (v.toList ++ st) h2 Q) := R_callv (a := a) (rest := st) rfl rfl rfl rfl rfl rfl rfl ht hs
theorem s177_60 : Runs 177 60 ls [.int i] h Q ↔ Q (some (.int i)) h := R_iret rfl rfl
theorem s178_0 : Runs 178 0 [x0, some (.int i), x2, x3, x4, x5] st h Q ↔ Runs 178 1 [x0, some (.int i), x2, x3, x4, x5] (.int i :: st) h Q := R_ildn rfl rfl
theorem s178_1 : Runs 178 1 ls (.int i :: st) h Q ↔ Runs 178 2 ls (.long i.toInt64 :: st) h Q := R_i2l rfl
theorem s178_2 : Runs 178 2 ls st h Q ↔ Runs 178 3 ls (.long 0 :: st) h Q := R_lconst rfl rfl
theorem s178_3 : Runs 178 3 ls st h Q ↔ Runs 178 6 ls (.long 11 :: st) h Q := R_ldc2 rfl rfl
theorem s178_6 (hs : zsumc st ≤ 8) : Runs 178 6 ls (.long u2 :: .long u1 :: .long u0 :: st) h Q ↔ Runs 126 0 [some (.long u0), none, some (.long u1), none, some (.long u2), none] [] h (fun v h2 => Runs 178 9 ls (v.toList ++ st) h2 Q) := R_calls (rest := st) rfl rfl rfl (by simp) rfl rfl rfl rfl hs
theorem s178_9 : Runs 178 9 ls (.int i :: st) h Q ↔ if ¬ i = 0 then Runs 178 15 ls st h Q else Runs 178 12 ls st h Q := R_ifne rfl rfl
theorem s178_12 : Runs 178 12 ls st h Q ↔ Runs 178 14 ls (.int (-3) :: st) h Q := R_bipush rfl (by decide)
theorem s178_14 : Runs 178 14 ls [.int i] h Q ↔ Q (some (.int i)) h := R_iret rfl rfl
theorem s178_15 : Runs 178 15 [some (.ref a), x1, x2, x3, x4, x5] st h Q ↔ Runs 178 16 [some (.ref a), x1, x2, x3, x4, x5] (.ref a :: st) h Q := R_aldn rfl rfl
theorem s178_15q : Runs 178 15 [some (zrf r), x1, x2, x3, x4, x5] st h Q ↔ Runs 178 16 [some (zrf r), x1, x2, x3, x4, x5] (zrf r :: st) h Q := R_aldnq rfl rfl
theorem s178_16 (ht : tg a = 10) (hs : zsumc st ≤ 8) : Runs 178 16 ls (.ref a :: st) (n, tg, ln, I, J, O) Q ↔ Runs 174 0 [some (.ref a)] [] (n, tg, ln, I, J, O) (fun v h2 => Runs 178 19 ls (v.toList ++ st) h2 Q) := R_callv (a := a) (rest := st) rfl rfl rfl rfl rfl rfl rfl ht hs
theorem s178_19 : Runs 178 19 ls st h Q ↔ Runs 178 20 ls (.int 0 :: st) h Q := R_iconst rfl rfl
theorem s178_20 : Runs 178 20 [x0, x1, x2, x3, x4, x5] (.int i :: st) h Q ↔ Runs 178 21 [x0, zdrop x1, some (.int i), x3, x4, x5] st h Q := R_istn rfl rfl rfl
theorem s178_21 : Runs 178 21 ls st h Q ↔ Runs 178 22 ls (.int (-1) :: st) h Q := R_iconst rfl rfl
theorem s178_22 : Runs 178 22 [x0, x1, x2, x3, x4, x5] (.int i :: st) h Q ↔ Runs 178 23 [x0, x1, zdrop x2, some (.int i), x4, x5] st h Q := R_istn rfl rfl rfl
theorem s178_23 : Runs 178 23 ls st h Q ↔ Runs 178 24 ls (.int 0 :: st) h Q := R_iconst rfl rfl
theorem s178_24 : Runs 178 24 [x0, x1, x2, x3, x4, x5] (.int i :: st) h Q ↔ Runs 178 26 [x0, x1, x2, zdrop x3, some (.int i), x5] st h Q := R_ist rfl rfl rfl
theorem s178_26 : Runs 178 26 [x0, x1, x2, x3, some (.int i), x5] st h Q ↔ Runs 178 28 [x0, x1, x2, x3, some (.int i), x5] (.int i :: st) h Q := R_ild rfl rfl
theorem s178_28 : Runs 178 28 ls st h Q ↔ Runs 178 30 ls (.int 60 :: st) h Q := R_bipush rfl (by decide)
theorem s178_30 : Runs 178 30 ls (.int j :: .int i :: st) h Q ↔ if j ≤ i then Runs 178 82 ls st h Q else Runs 178 33 ls st h Q := R_icge rfl rfl
theorem s178_33 : Runs 178 33 [some (.ref a), x1, x2, x3, x4, x5] st h Q ↔ Runs 178 34 [some (.ref a), x1, x2, x3, x4, x5] (.ref a :: st) h Q := R_aldn rfl rfl
theorem s178_33q : Runs 178 33 [some (zrf r), x1, x2, x3, x4, x5] st h Q ↔ Runs 178 34 [some (zrf r), x1, x2, x3, x4, x5] (zrf r :: st) h Q := R_aldnq rfl rfl
theorem s178_34 : Runs 178 34 ls st h Q ↔ Runs 178 37 ls (.int 1080 :: st) h Q := R_sipush rfl (by decide)
theorem s178_37 (ht : tg a = 10) (hs : zsumc st ≤ 8) : Runs 178 37 ls (.int i0 :: .ref a :: st) (n, tg, ln, I, J, O) Q ↔ Runs 162 0 [some (.ref a), some (.int i0), none, none] [] (n, tg, ln, I, J, O) (fun v h2 => Runs 178 40 ls (v.toList ++ st) h2 Q) := R_callv (a := a) (rest := st) rfl rfl rfl rfl rfl rfl rfl ht hs
theorem s178_40 : Runs 178 40 [x0, x1, x2, x3, x4, x5] (.int i :: st) h Q ↔ Runs 178 42 [x0, x1, x2, x3, zdrop x4, some (.int i)] st h Q := R_ist rfl rfl rfl
theorem s178_42 : Runs 178 42 [x0, x1, x2, x3, x4, some (.int i)] st h Q ↔ Runs 178 44 [x0, x1, x2, x3, x4, some (.int i)] (.int i :: st) h Q := R_ild rfl rfl
theorem s178_44 : Runs 178 44 ls st h Q ↔ Runs 178 46 ls (.int 99 :: st) h Q := R_bipush rfl (by decide)
theorem s178_46 : Runs 178 46 ls (.int j :: .int i :: st) h Q ↔ if i = j then Runs 178 59 ls st h Q else Runs 178 49 ls st h Q := R_iceq rfl rfl
theorem s178_49 : Runs 178 49 [x0, x1, some (.int i), x3, x4, x5] st h Q ↔ Runs 178 50 [x0, x1, some (.int i), x3, x4, x5] (.int i :: st) h Q := R_ildn rfl rfl
theorem s178_50 : Runs 178 50 [x0, some (.int i), x2, x3, x4, x5] st h Q ↔ Runs 178 51 [x0, some (.int i), x2, x3, x4, x5] (.int i :: st) h Q := R_ildn rfl rfl
theorem s178_51 : Runs 178 51 ls (.int j :: .int i :: st) h Q ↔ if ¬ i = j then Runs 178 59 ls st h Q else Runs 178 54 ls st h Q := R_icne rfl rfl
theorem s178_54 : Runs 178 54 [x0, x1, x2, x3, x4, some (.int i)] st h Q ↔ Runs 178 56 [x0, x1, x2, x3, x4, some (.int i)] (.int i :: st) h Q := R_ild rfl rfl
theorem s178_56 : Runs 178 56 ls st h Q ↔ Runs 178 60 ls st h Q := R_goto rfl rfl
theorem s178_59 : Runs 178 59 [x0, x1, x2, some (.int i), x4, x5] st h Q ↔ Runs 178 60 [x0, x1, x2, some (.int i), x4, x5] (.int i :: st) h Q := R_ildn rfl rfl
theorem s178_60 : Runs 178 60 [x0, x1, x2, x3, x4, x5] (.int i :: st) h Q ↔ Runs 178 61 [x0, x1, zdrop x2, some (.int i), x4, x5] st h Q := R_istn rfl rfl rfl
theorem s178_61 : Runs 178 61 [x0, x1, some (.int i), x3, x4, x5] st h Q ↔ Runs 178 62 [x0, x1, some (.int i), x3, x4, x5] (.int i :: st) h Q := R_ildn rfl rfl
theorem s178_62 : Runs 178 62 [x0, x1, x2, x3, x4, some (.int i)] st h Q ↔ Runs 178 64 [x0, x1, x2, x3, x4, some (.int i)] (.int i :: st) h Q := R_ild rfl rfl
theorem s178_64 : Runs 178 64 ls st h Q ↔ Runs 178 66 ls (.int 99 :: st) h Q := R_bipush rfl (by decide)
theorem s178_66 : Runs 178 66 ls (.int j :: .int i :: st) h Q ↔ if ¬ i = j then Runs 178 73 ls st h Q else Runs 178 69 ls st h Q := R_icne rfl rfl
theorem s178_69 : Runs 178 69 ls st h Q ↔ Runs 178 70 ls (.int 0 :: st) h Q := R_iconst rfl rfl
theorem s178_70 : Runs 178 70 ls st h Q ↔ Runs 178 74 ls st h Q := R_goto rfl rfl
theorem s178_73 : Runs 178 73 ls st h Q ↔ Runs 178 74 ls (.int 1 :: st) h Q := R_iconst rfl rfl
theorem s178_74 : Runs 178 74 ls (.int j :: .int i :: st) h Q ↔ Runs 178 75 ls (.int (i + j) :: st) h Q := R_iadd rfl
theorem s178_75 : Runs 178 75 [x0, x1, x2, x3, x4, x5] (.int i :: st) h Q ↔ Runs 178 76 [x0, zdrop x1, some (.int i), x3, x4, x5] st h Q := R_istn rfl rfl rfl
theorem s178_76 : Runs 178 76 [x0, x1, x2, x3, some (.int i), x5] st h Q ↔ Runs 178 79 [x0, x1, x2, zdrop x3, some (.int (i + 1)), x5] st h Q := R_iinc rfl rfl rfl rfl rfl
theorem s178_79 : Runs 178 79 ls st h Q ↔ Runs 178 26 ls st h Q := R_goto rfl rfl
theorem s178_82 : Runs 178 82 [x0, x1, x2, some (.int i), x4, x5] st h Q ↔ Runs 178 83 [x0, x1, x2, some (.int i), x4, x5] (.int i :: st) h Q := R_ildn rfl rfl
theorem s178_83 : Runs 178 83 ls [.int i] h Q ↔ Q (some (.int i)) h := R_iret rfl rfl
theorem s180_0 : Runs 180 0 [x0, some (.int i), x2, x3, x4] st h Q ↔ Runs 180 1 [x0, some (.int i), x2, x3, x4] (.int i :: st) h Q := R_ildn rfl rfl
theorem s180_1 : Runs 180 1 ls (.int i :: st) h Q ↔ Runs 180 2 ls (.long i.toInt64 :: st) h Q := R_i2l rfl
theorem s180_2 : Runs 180 2 ls st h Q ↔ Runs 180 3 ls (.long 0 :: st) h Q := R_lconst rfl rfl
theorem s180_3 : Runs 180 3 ls st h Q ↔ Runs 180 6 ls (.long 4 :: st) h Q := R_ldc2 rfl rfl
theorem s180_6 (hs : zsumc st ≤ 8) : Runs 180 6 ls (.long u2 :: .long u1 :: .long u0 :: st) h Q ↔ Runs 126 0 [some (.long u0), none, some (.long u1), none, some (.long u2), none] [] h (fun v h2 => Runs 180 9 ls (v.toList ++ st) h2 Q) := R_calls (rest := st) rfl rfl rfl (by simp) rfl rfl rfl rfl hs
theorem s180_9 : Runs 180 9 ls (.int i :: st) h Q ↔ if i = 0 then Runs 180 24 ls st h Q else Runs 180 12 ls st h Q := R_ifeq rfl rfl
theorem s180_12 : Runs 180 12 [x0, x1, some (.int i), x3, x4] st h Q ↔ Runs 180 13 [x0, x1, some (.int i), x3, x4] (.int i :: st) h Q := R_ildn rfl rfl
theorem s180_13 : Runs 180 13 ls (.int i :: st) h Q ↔ Runs 180 14 ls (.long i.toInt64 :: st) h Q := R_i2l rfl
theorem s180_14 : Runs 180 14 ls st h Q ↔ Runs 180 15 ls (.long 0 :: st) h Q := R_lconst rfl rfl
theorem s180_15 : Runs 180 15 ls st h Q ↔ Runs 180 18 ls (.long 99 :: st) h Q := R_ldc2 rfl rfl
theorem s180_18 (hs : zsumc st ≤ 8) : Runs 180 18 ls (.long u2 :: .long u1 :: .long u0 :: st) h Q ↔ Runs 126 0 [some (.long u0), none, some (.long u1), none, some (.long u2), none] [] h (fun v h2 => Runs 180 21 ls (v.toList ++ st) h2 Q) := R_calls (rest := st) rfl rfl rfl (by simp) rfl rfl rfl rfl hs
theorem s180_21 : Runs 180 21 ls (.int i :: st) h Q ↔ if ¬ i = 0 then Runs 180 27 ls st h Q else Runs 180 24 ls st h Q := R_ifne rfl rfl
theorem s180_24 : Runs 180 24 ls st h Q ↔ Runs 180 26 ls (.int (-3) :: st) h Q := R_bipush rfl (by decide)
theorem s180_26 : Runs 180 26 ls [.int i] h Q ↔ Q (some (.int i)) h := R_iret rfl rfl
theorem s180_27 : Runs 180 27 [some (.ref a), x1, x2, x3, x4] st h Q ↔ Runs 180 28 [some (.ref a), x1, x2, x3, x4] (.ref a :: st) h Q := R_aldn rfl rfl
theorem s180_27q : Runs 180 27 [some (zrf r), x1, x2, x3, x4] st h Q ↔ Runs 180 28 [some (zrf r), x1, x2, x3, x4] (zrf r :: st) h Q := R_aldnq rfl rfl
theorem s180_28 (ht : tg a = 10) : Runs 180 28 ls (.ref a :: st) (n, tg, ln, I, J, O) Q ↔ Runs 180 31 ls (zrf (O a 0) :: st) (n, tg, ln, I, J, O) Q := R_getr rfl rfl rfl rfl ht
theorem s180_31 : Runs 180 31 ls st h Q ↔ Runs 180 32 ls (.int 0 :: st) h Q := R_iconst rfl rfl
theorem s180_32 (ht : tg a = 20) : Runs 180 32 ls (.int i :: .ref a :: st) (n, tg, ln, I, J, O) Q ↔ ((0 ≤ i ∧ i < Int32.ofNat (ln a)) ∧ Runs 180 33 ls (.int (I a i) :: st) (n, tg, ln, I, J, O) Q) := R_iald rfl ht
theorem s180_33 : Runs 180 33 ls st h Q ↔ Runs 180 35 ls (.int 12 :: st) h Q := R_bipush rfl (by decide)
theorem s180_35 : Runs 180 35 ls (.int j :: .int i :: st) h Q ↔ if ¬ i = j then Runs 180 41 ls st h Q else Runs 180 38 ls st h Q := R_icne rfl rfl
theorem s180_38 : Runs 180 38 ls st h Q ↔ Runs 180 40 ls (.int (-5) :: st) h Q := R_bipush rfl (by decide)
theorem s180_40 : Runs 180 40 ls [.int i] h Q ↔ Q (some (.int i)) h := R_iret rfl rfl
theorem s180_41 : Runs 180 41 [some (.ref a), x1, x2, x3, x4] st h Q ↔ Runs 180 42 [some (.ref a), x1, x2, x3, x4] (.ref a :: st) h Q := R_aldn rfl rfl
theorem s180_41q : Runs 180 41 [some (zrf r), x1, x2, x3, x4] st h Q ↔ Runs 180 42 [some (zrf r), x1, x2, x3, x4] (zrf r :: st) h Q := R_aldnq rfl rfl
theorem s180_42 : Runs 180 42 ls st h Q ↔ Runs 180 43 ls (.int 0 :: st) h Q := R_iconst rfl rfl
theorem s180_43 : Runs 180 43 [x0, some (.int i), x2, x3, x4] st h Q ↔ Runs 180 44 [x0, some (.int i), x2, x3, x4] (.int i :: st) h Q := R_ildn rfl rfl
theorem s180_44 : Runs 180 44 [x0, x1, some (.int i), x3, x4] st h Q ↔ Runs 180 45 [x0, x1, some (.int i), x3, x4] (.int i :: st) h Q := R_ildn rfl rfl
theorem s180_45 (ht : tg a = 10) (hs : zsumc st ≤ 8) : Runs 180 45 ls (.int i2 :: .int i1 :: .int i0 :: .ref a :: st) (n, tg, ln, I, J, O) Q ↔ Runs 179 0 [some (.ref a), some (.int i0), some (.int i1), some (.int i2)] [] (n, tg, ln, I, J, O) (fun v h2 => Runs 180 48 ls (v.toList ++ st) h2 Q) := R_callv (a := a) (rest := st) rfl rfl rfl rfl rfl rfl rfl ht hs
theorem s180_48 : Runs 180 48 [x0, x1, x2, x3, x4] (.int i :: st) h Q ↔ Runs 180 49 [x0, x1, zdrop x2, some (.int i), x4] st h Q := R_istn rfl rfl rfl
theorem s180_49 : Runs 180 49 [some (.ref a), x1, x2, x3, x4] st h Q ↔ Runs 180 50 [some (.ref a), x1, x2, x3, x4] (.ref a :: st) h Q := R_aldn rfl rfl
theorem s180_49q : Runs 180 49 [some (zrf r), x1, x2, x3, x4] st h Q ↔ Runs 180 50 [some (zrf r), x1, x2, x3, x4] (zrf r :: st) h Q := R_aldnq rfl rfl
theorem s180_50 : Runs 180 50 ls st h Q ↔ Runs 180 51 ls (.int 1 :: st) h Q := R_iconst rfl rfl
theorem s180_51 : Runs 180 51 [x0, some (.int i), x2, x3, x4] st h Q ↔ Runs 180 52 [x0, some (.int i), x2, x3, x4] (.int i :: st) h Q := R_ildn rfl rfl
theorem s180_52 : Runs 180 52 [x0, x1, some (.int i), x3, x4] st h Q ↔ Runs 180 53 [x0, x1, some (.int i), x3, x4] (.int i :: st) h Q := R_ildn rfl rfl
theorem s180_53 (ht : tg a = 10) (hs : zsumc st ≤ 8) : Runs 180 53 ls (.int i2 :: .int i1 :: .int i0 :: .ref a :: st) (n, tg, ln, I, J, O) Q ↔ Runs 179 0 [some (.ref a), some (.int i0), some (.int i1), some (.int i2)] [] (n, tg, ln, I, J, O) (fun v h2 => Runs 180 56 ls (v.toList ++ st) h2 Q) := R_callv (a := a) (rest := st) rfl rfl rfl rfl rfl rfl rfl ht hs
theorem s180_56 : Runs 180 56 [x0, x1, x2, x3, x4] (.int i :: st) h Q ↔ Runs 180 58 [x0, x1, x2, zdrop x3, some (.int i)] st h Q := R_ist rfl rfl rfl
theorem s180_58 : Runs 180 58 [x0, x1, x2, some (.int i), x4] st h Q ↔ Runs 180 59 [x0, x1, x2, some (.int i), x4] (.int i :: st) h Q := R_ildn rfl rfl
theorem s180_59 : Runs 180 59 ls st h Q ↔ Runs 180 60 ls (.int (-1) :: st) h Q := R_iconst rfl rfl
theorem s180_60 : Runs 180 60 ls (.int j :: .int i :: st) h Q ↔ if ¬ i = j then Runs 180 75 ls st h Q else Runs 180 63 ls st h Q := R_icne rfl rfl
theorem s180_63 : Runs 180 63 [x0, x1, x2, x3, some (.int i)] st h Q ↔ Runs 180 65 [x0, x1, x2, x3, some (.int i)] (.int i :: st) h Q := R_ild rfl rfl
theorem s180_65 : Runs 180 65 ls st h Q ↔ Runs 180 66 ls (.int (-1) :: st) h Q := R_iconst rfl rfl
theorem s180_66 : Runs 180 66 ls (.int j :: .int i :: st) h Q ↔ if ¬ i = j then Runs 180 73 ls st h Q else Runs 180 69 ls st h Q := R_icne rfl rfl
theorem s180_69 : Runs 180 69 ls st h Q ↔ Runs 180 70 ls (.int (-1) :: st) h Q := R_iconst rfl rfl
theorem s180_70 : Runs 180 70 ls st h Q ↔ Runs 180 74 ls st h Q := R_goto rfl rfl
theorem s180_73 : Runs 180 73 ls st h Q ↔ Runs 180 74 ls (.int 1 :: st) h Q := R_iconst rfl rfl
theorem s180_74 : Runs 180 74 ls [.int i] h Q ↔ Q (some (.int i)) h := R_iret rfl rfl
theorem s180_75 : Runs 180 75 [x0, x1, x2, x3, some (.int i)] st h Q ↔ Runs 180 77 [x0, x1, x2, x3, some (.int i)] (.int i :: st) h Q := R_ild rfl rfl
theorem s180_77 : Runs 180 77 ls st h Q ↔ Runs 180 78 ls (.int (-1) :: st) h Q := R_iconst rfl rfl
theorem s180_78 : Runs 180 78 ls (.int j :: .int i :: st) h Q ↔ if i = j then Runs 180 91 ls st h Q else Runs 180 81 ls st h Q := R_iceq rfl rfl
theorem s180_81 : Runs 180 81 [x0, x1, x2, x3, some (.int i)] st h Q ↔ Runs 180 83 [x0, x1, x2, x3, some (.int i)] (.int i :: st) h Q := R_ild rfl rfl
theorem s180_83 : Runs 180 83 [x0, x1, x2, some (.int i), x4] st h Q ↔ Runs 180 84 [x0, x1, x2, some (.int i), x4] (.int i :: st) h Q := R_ildn rfl rfl
theorem s180_84 : Runs 180 84 ls (.int j :: .int i :: st) h Q ↔ if j ≤ i then Runs 180 91 ls st h Q else Runs 180 87 ls st h Q := R_icge rfl rfl
theorem s180_87 : Runs 180 87 ls st h Q ↔ Runs 180 88 ls (.int 1 :: st) h Q := R_iconst rfl rfl
theorem s180_88 : Runs 180 88 ls st h Q ↔ Runs 180 92 ls st h Q := R_goto rfl rfl
theorem s180_91 : Runs 180 91 ls st h Q ↔ Runs 180 92 ls (.int 0 :: st) h Q := R_iconst rfl rfl
theorem s180_92 : Runs 180 92 ls [.int i] h Q ↔ Q (some (.int i)) h := R_iret rfl rfl
theorem s182_0 : Runs 182 0 [some (.ref a), x1, x2, x3, x4, x5] st h Q ↔ Runs 182 1 [some (.ref a), x1, x2, x3, x4, x5] (.ref a :: st) h Q := R_aldn rfl rfl
theorem s182_0q : Runs 182 0 [some (zrf r), x1, x2, x3, x4, x5] st h Q ↔ Runs 182 1 [some (zrf r), x1, x2, x3, x4, x5] (zrf r :: st) h Q := R_aldnq rfl rfl
theorem s182_1 : Runs 182 1 [x0, some (.int i), x2, x3, x4, x5] st h Q ↔ Runs 182 2 [x0, some (.int i), x2, x3, x4, x5] (.int i :: st) h Q := R_ildn rfl rfl
theorem s182_2 : Runs 182 2 ls (.int i :: st) h Q ↔ Runs 182 3 ls (.long i.toInt64 :: st) h Q := R_i2l rfl
theorem s182_3 (ht : tg a = 10) (hs : zsumc st ≤ 8) : Runs 182 3 ls (.long u0 :: .ref a :: st) (n, tg, ln, I, J, O) Q ↔ Runs 150 0 [some (.ref a), some (.long u0), none] [] (n, tg, ln, I, J, O) (fun v h2 => Runs 182 6 ls (v.toList ++ st) h2 Q) := R_callv (a := a) (rest := st) rfl rfl rfl rfl rfl rfl rfl ht hs
theorem s182_6 : Runs 182 6 ls (.int i :: st) h Q ↔ if ¬ i = 0 then Runs 182 12 ls st h Q else Runs 182 9 ls st h Q := R_ifne rfl rfl
theorem s182_9 : Runs 182 9 ls st h Q ↔ Runs 182 11 ls (.int (-2) :: st) h Q := R_bipush rfl (by decide)
theorem s182_11 : Runs 182 11 ls [.int i] h Q ↔ Q (some (.int i)) h := R_iret rfl rfl
theorem s182_12 : Runs 182 12 [x0, x1, some (.int i), x3, x4, x5] st h Q ↔ Runs 182 13 [x0, x1, some (.int i), x3, x4, x5] (.int i :: st) h Q := R_ildn rfl rfl
theorem s182_13 : Runs 182 13 ls (.int i :: st) h Q ↔ Runs 182 14 ls (.long i.toInt64 :: st) h Q := R_i2l rfl
theorem s182_14 : Runs 182 14 ls st h Q ↔ Runs 182 15 ls (.long 1 :: st) h Q := R_lconst rfl rfl
theorem s182_15 : Runs 182 15 ls st h Q ↔ Runs 182 18 ls (.long 60 :: st) h Q := R_ldc2 rfl rfl
theorem s182_18 (hs : zsumc st ≤ 8) : Runs 182 18 ls (.long u2 :: .long u1 :: .long u0 :: st) h Q ↔ Runs 126 0 [some (.long u0), none, some (.long u1), none, some (.long u2), none] [] h (fun v h2 => Runs 182 21 ls (v.toList ++ st) h2 Q) := R_calls (rest := st) rfl rfl rfl (by simp) rfl rfl rfl rfl hs
theorem s182_21 : Runs 182 21 ls (.int i :: st) h Q ↔ if ¬ i = 0 then Runs 182 27 ls st h Q else Runs 182 24 ls st h Q := R_ifne rfl rfl
theorem s182_24 : Runs 182 24 ls st h Q ↔ Runs 182 26 ls (.int (-3) :: st) h Q := R_bipush rfl (by decide)
theorem s182_26 : Runs 182 26 ls [.int i] h Q ↔ Q (some (.int i)) h := R_iret rfl rfl
theorem s182_27 : Runs 182 27 [some (.ref a), x1, x2, x3, x4, x5] st h Q ↔ Runs 182 28 [some (.ref a), x1, x2, x3, x4, x5] (.ref a :: st) h Q := R_aldn rfl rfl
theorem s182_27q : Runs 182 27 [some (zrf r), x1, x2, x3, x4, x5] st h Q ↔ Runs 182 28 [some (zrf r), x1, x2, x3, x4, x5] (zrf r :: st) h Q := R_aldnq rfl rfl
theorem s182_28 : Runs 182 28 ls st h Q ↔ Runs 182 29 ls (.int 0 :: st) h Q := R_iconst rfl rfl
theorem s182_29 : Runs 182 29 [x0, some (.int i), x2, x3, x4, x5] st h Q ↔ Runs 182 30 [x0, some (.int i), x2, x3, x4, x5] (.int i :: st) h Q := R_ildn rfl rfl
theorem s182_30 (ht : tg a = 10) (hs : zsumc st ≤ 8) : Runs 182 30 ls (.int i1 :: .int i0 :: .ref a :: st) (n, tg, ln, I, J, O) Q ↔ Runs 152 0 [some (.ref a), some (.int i0), some (.int i1), none, none] [] (n, tg, ln, I, J, O) (fun v h2 => Runs 182 33 ls (v.toList ++ st) h2 Q) := R_callv (a := a) (rest := st) rfl rfl rfl rfl rfl rfl rfl ht hs
theorem s182_33 : Runs 182 33 ls st h Q ↔ Runs 182 34 ls (.int (-1) :: st) h Q := R_iconst rfl rfl
theorem s182_34 : Runs 182 34 ls (.int j :: .int i :: st) h Q ↔ if ¬ i = j then Runs 182 40 ls st h Q else Runs 182 37 ls st h Q := R_icne rfl rfl
theorem s182_37 : Runs 182 37 ls st h Q ↔ Runs 182 39 ls (.int (-4) :: st) h Q := R_bipush rfl (by decide)
theorem s182_39 : Runs 182 39 ls [.int i] h Q ↔ Q (some (.int i)) h := R_iret rfl rfl
theorem s182_40 : Runs 182 40 ls st h Q ↔ Runs 182 41 ls (.int 0 :: st) h Q := R_iconst rfl rfl
theorem s182_41 : Runs 182 41 [x0, x1, x2, x3, x4, x5] (.int i :: st) h Q ↔ Runs 182 42 [x0, x1, zdrop x2, some (.int i), x4, x5] st h Q := R_istn rfl rfl rfl
theorem s182_42 : Runs 182 42 ls st h Q ↔ Runs 182 43 ls (.int 0 :: st) h Q := R_iconst rfl rfl
theorem s182_43 : Runs 182 43 [x0, x1, x2, x3, x4, x5] (.int i :: st) h Q ↔ Runs 182 45 [x0, x1, x2, zdrop x3, some (.int i), x5] st h Q := R_ist rfl rfl rfl
theorem s182_45 : Runs 182 45 [x0, x1, x2, x3, some (.int i), x5] st h Q ↔ Runs 182 47 [x0, x1, x2, x3, some (.int i), x5] (.int i :: st) h Q := R_ild rfl rfl
theorem s182_47 : Runs 182 47 [some (.ref a), x1, x2, x3, x4, x5] st h Q ↔ Runs 182 48 [some (.ref a), x1, x2, x3, x4, x5] (.ref a :: st) h Q := R_aldn rfl rfl
theorem s182_47q : Runs 182 47 [some (zrf r), x1, x2, x3, x4, x5] st h Q ↔ Runs 182 48 [some (zrf r), x1, x2, x3, x4, x5] (zrf r :: st) h Q := R_aldnq rfl rfl
theorem s182_48 (ht : tg a = 10) : Runs 182 48 ls (.ref a :: st) (n, tg, ln, I, J, O) Q ↔ Runs 182 51 ls (zrf (O a 0) :: st) (n, tg, ln, I, J, O) Q := R_getr rfl rfl rfl rfl ht
theorem s182_51 : Runs 182 51 ls st h Q ↔ Runs 182 52 ls (.int 0 :: st) h Q := R_iconst rfl rfl
theorem s182_52 (ht : tg a = 20) : Runs 182 52 ls (.int i :: .ref a :: st) (n, tg, ln, I, J, O) Q ↔ ((0 ≤ i ∧ i < Int32.ofNat (ln a)) ∧ Runs 182 53 ls (.int (I a i) :: st) (n, tg, ln, I, J, O) Q) := R_iald rfl ht
theorem s182_53 : Runs 182 53 ls (.int j :: .int i :: st) h Q ↔ if j ≤ i then Runs 182 90 ls st h Q else Runs 182 56 ls st h Q := R_icge rfl rfl
theorem s182_56 : Runs 182 56 [x0, x1, x2, some (.int i), x4, x5] st h Q ↔ Runs 182 57 [x0, x1, x2, some (.int i), x4, x5] (.int i :: st) h Q := R_ildn rfl rfl
theorem s182_57 : Runs 182 57 [x0, x1, x2, x3, some (.int i), x5] st h Q ↔ Runs 182 59 [x0, x1, x2, x3, some (.int i), x5] (.int i :: st) h Q := R_ild rfl rfl
theorem s182_59 : Runs 182 59 [x0, some (.int i), x2, x3, x4, x5] st h Q ↔ Runs 182 60 [x0, some (.int i), x2, x3, x4, x5] (.int i :: st) h Q := R_ildn rfl rfl
theorem s182_60 : Runs 182 60 ls (.int j :: .int i :: st) h Q ↔ if i = j then Runs 182 81 ls st h Q else Runs 182 63 ls st h Q := R_iceq rfl rfl
theorem s182_63 : Runs 182 63 [some (.ref a), x1, x2, x3, x4, x5] st h Q ↔ Runs 182 64 [some (.ref a), x1, x2, x3, x4, x5] (.ref a :: st) h Q := R_aldn rfl rfl
theorem s182_63q : Runs 182 63 [some (zrf r), x1, x2, x3, x4, x5] st h Q ↔ Runs 182 64 [some (zrf r), x1, x2, x3, x4, x5] (zrf r :: st) h Q := R_aldnq rfl rfl
theorem s182_64 : Runs 182 64 ls st h Q ↔ Runs 182 65 ls (.int 0 :: st) h Q := R_iconst rfl rfl
theorem s182_65 : Runs 182 65 [x0, x1, x2, x3, some (.int i), x5] st h Q ↔ Runs 182 67 [x0, x1, x2, x3, some (.int i), x5] (.int i :: st) h Q := R_ild rfl rfl
theorem s182_67 (ht : tg a = 10) (hs : zsumc st ≤ 8) : Runs 182 67 ls (.int i1 :: .int i0 :: .ref a :: st) (n, tg, ln, I, J, O) Q ↔ Runs 152 0 [some (.ref a), some (.int i0), some (.int i1), none, none] [] (n, tg, ln, I, J, O) (fun v h2 => Runs 182 70 ls (v.toList ++ st) h2 Q) := R_callv (a := a) (rest := st) rfl rfl rfl rfl rfl rfl rfl ht hs
theorem s182_70 : Runs 182 70 ls st h Q ↔ Runs 182 71 ls (.int (-1) :: st) h Q := R_iconst rfl rfl
theorem s182_71 : Runs 182 71 ls (.int j :: .int i :: st) h Q ↔ if i = j then Runs 182 81 ls st h Q else Runs 182 74 ls st h Q := R_iceq rfl rfl
theorem s182_74 : Runs 182 74 ls st h Q ↔ Runs 182 75 ls (.int 1 :: st) h Q := R_iconst rfl rfl
theorem s182_75 : Runs 182 75 [x0, x1, x2, x3, some (.int i), x5] st h Q ↔ Runs 182 77 [x0, x1, x2, x3, some (.int i), x5] (.int i :: st) h Q := R_ild rfl rfl
theorem s182_77 : Runs 182 77 ls (.int j :: .int i :: st) h Q ↔ Runs 182 78 ls (.int (i <<< (j &&& 31)) :: st) h Q := R_ishl rfl
theorem s182_78 : Runs 182 78 ls st h Q ↔ Runs 182 82 ls st h Q := R_goto rfl rfl
theorem s182_81 : Runs 182 81 ls st h Q ↔ Runs 182 82 ls (.int 0 :: st) h Q := R_iconst rfl rfl
theorem s182_82 : Runs 182 82 ls (.int j :: .int i :: st) h Q ↔ Runs 182 83 ls (.int (i ||| j) :: st) h Q := R_ior rfl
theorem s182_83 : Runs 182 83 [x0, x1, x2, x3, x4, x5] (.int i :: st) h Q ↔ Runs 182 84 [x0, x1, zdrop x2, some (.int i), x4, x5] st h Q := R_istn rfl rfl rfl
theorem s182_84 : Runs 182 84 [x0, x1, x2, x3, some (.int i), x5] st h Q ↔ Runs 182 87 [x0, x1, x2, zdrop x3, some (.int (i + 1)), x5] st h Q := R_iinc rfl rfl rfl rfl rfl
theorem s182_87 : Runs 182 87 ls st h Q ↔ Runs 182 45 ls st h Q := R_goto rfl rfl
theorem s182_90 : Runs 182 90 ls st h Q ↔ Runs 182 91 ls (.int 0 :: st) h Q := R_iconst rfl rfl
theorem s182_91 : Runs 182 91 [x0, x1, x2, x3, x4, x5] (.int i :: st) h Q ↔ Runs 182 93 [x0, x1, x2, zdrop x3, some (.int i), x5] st h Q := R_ist rfl rfl rfl
theorem s182_93 : Runs 182 93 [x0, x1, x2, x3, some (.int i), x5] st h Q ↔ Runs 182 95 [x0, x1, x2, x3, some (.int i), x5] (.int i :: st) h Q := R_ild rfl rfl
theorem s182_95 : Runs 182 95 ls st h Q ↔ Runs 182 96 ls (.int 3 :: st) h Q := R_iconst rfl rfl
theorem s182_96 : Runs 182 96 ls (.int j :: .int i :: st) h Q ↔ if j ≤ i then Runs 182 153 ls st h Q else Runs 182 99 ls st h Q := R_icge rfl rfl
theorem s182_99 : Runs 182 99 ls st h Q ↔ Runs 182 100 ls (.int 0 :: st) h Q := R_iconst rfl rfl
theorem s182_100 : Runs 182 100 [x0, x1, x2, x3, x4, x5] (.int i :: st) h Q ↔ Runs 182 102 [x0, x1, x2, x3, zdrop x4, some (.int i)] st h Q := R_ist rfl rfl rfl
theorem s182_102 : Runs 182 102 [x0, x1, x2, x3, x4, some (.int i)] st h Q ↔ Runs 182 104 [x0, x1, x2, x3, x4, some (.int i)] (.int i :: st) h Q := R_ild rfl rfl
theorem s182_104 : Runs 182 104 [x0, x1, x2, some (.int i), x4, x5] st h Q ↔ Runs 182 105 [x0, x1, x2, some (.int i), x4, x5] (.int i :: st) h Q := R_ildn rfl rfl
theorem s182_105 : Runs 182 105 ls (.int j :: .int i :: st) h Q ↔ if j < i then Runs 182 147 ls st h Q else Runs 182 108 ls st h Q := R_icgt rfl rfl
theorem s182_108 : Runs 182 108 [x0, x1, x2, x3, x4, some (.int i)] st h Q ↔ Runs 182 110 [x0, x1, x2, x3, x4, some (.int i)] (.int i :: st) h Q := R_ild rfl rfl
theorem s182_110 : Runs 182 110 [x0, x1, x2, some (.int i), x4, x5] st h Q ↔ Runs 182 111 [x0, x1, x2, some (.int i), x4, x5] (.int i :: st) h Q := R_ildn rfl rfl
theorem s182_111 : Runs 182 111 ls st h Q ↔ Runs 182 112 ls (.int (-1) :: st) h Q := R_iconst rfl rfl
theorem s182_112 : Runs 182 112 ls (.int j :: .int i :: st) h Q ↔ Runs 182 113 ls (.int (i ^^^ j) :: st) h Q := R_ixor rfl
theorem s182_113 : Runs 182 113 ls (.int j :: .int i :: st) h Q ↔ Runs 182 114 ls (.int (i &&& j) :: st) h Q := R_iand rfl
theorem s182_114 : Runs 182 114 ls (.int i :: st) h Q ↔ if ¬ i = 0 then Runs 182 141 ls st h Q else Runs 182 117 ls st h Q := R_ifne rfl rfl
theorem s182_117 : Runs 182 117 [x0, x1, x2, x3, x4, some (.int i)] st h Q ↔ Runs 182 119 [x0, x1, x2, x3, x4, some (.int i)] (.int i :: st) h Q := R_ild rfl rfl
theorem s182_119 (hs : zsumc st ≤ 8) : Runs 182 119 ls (.int i0 :: st) h Q ↔ Runs 128 0 [some (.int i0), none, none] [] h (fun v h2 => Runs 182 122 ls (v.toList ++ st) h2 Q) := R_calls (rest := st) rfl rfl rfl (by simp) rfl rfl rfl rfl hs
theorem s182_122 : Runs 182 122 [x0, x1, x2, x3, some (.int i), x5] st h Q ↔ Runs 182 124 [x0, x1, x2, x3, some (.int i), x5] (.int i :: st) h Q := R_ild rfl rfl
theorem s182_124 : Runs 182 124 ls (.int j :: .int i :: st) h Q ↔ if ¬ i = j then Runs 182 141 ls st h Q else Runs 182 127 ls st h Q := R_icne rfl rfl
theorem s182_127 : Runs 182 127 [some (.ref a), x1, x2, x3, x4, x5] st h Q ↔ Runs 182 128 [some (.ref a), x1, x2, x3, x4, x5] (.ref a :: st) h Q := R_aldn rfl rfl
theorem s182_127q : Runs 182 127 [some (zrf r), x1, x2, x3, x4, x5] st h Q ↔ Runs 182 128 [some (zrf r), x1, x2, x3, x4, x5] (zrf r :: st) h Q := R_aldnq rfl rfl
theorem s182_128 : Runs 182 128 [x0, some (.int i), x2, x3, x4, x5] st h Q ↔ Runs 182 129 [x0, some (.int i), x2, x3, x4, x5] (.int i :: st) h Q := R_ildn rfl rfl
theorem s182_129 : Runs 182 129 [x0, x1, some (.int i), x3, x4, x5] st h Q ↔ Runs 182 130 [x0, x1, some (.int i), x3, x4, x5] (.int i :: st) h Q := R_ildn rfl rfl
theorem s182_130 : Runs 182 130 [x0, x1, x2, x3, x4, some (.int i)] st h Q ↔ Runs 182 132 [x0, x1, x2, x3, x4, some (.int i)] (.int i :: st) h Q := R_ild rfl rfl
theorem s182_132 (ht : tg a = 10) (hs : zsumc st ≤ 8) : Runs 182 132 ls (.int i2 :: .int i1 :: .int i0 :: .ref a :: st) (n, tg, ln, I, J, O) Q ↔ Runs 181 0 [some (.ref a), some (.int i0), some (.int i1), some (.int i2), none] [] (n, tg, ln, I, J, O) (fun v h2 => Runs 182 135 ls (v.toList ++ st) h2 Q) := R_callv (a := a) (rest := st) rfl rfl rfl rfl rfl rfl rfl ht hs
theorem s182_135 : Runs 182 135 ls (.int i :: st) h Q ↔ if i = 0 then Runs 182 141 ls st h Q else Runs 182 138 ls st h Q := R_ifeq rfl rfl
theorem s182_138 : Runs 182 138 [x0, x1, x2, x3, x4, some (.int i)] st h Q ↔ Runs 182 140 [x0, x1, x2, x3, x4, some (.int i)] (.int i :: st) h Q := R_ild rfl rfl
theorem s182_140 : Runs 182 140 ls [.int i] h Q ↔ Q (some (.int i)) h := R_iret rfl rfl
theorem s182_141 : Runs 182 141 [x0, x1, x2, x3, x4, some (.int i)] st h Q ↔ Runs 182 144 [x0, x1, x2, x3, zdrop x4, some (.int (i + 1))] st h Q := R_iinc rfl rfl rfl rfl rfl
theorem s182_144 : Runs 182 144 ls st h Q ↔ Runs 182 102 ls st h Q := R_goto rfl rfl
theorem s182_147 : Runs 182 147 [x0, x1, x2, x3, some (.int i), x5] st h Q ↔ Runs 182 150 [x0, x1, x2, zdrop x3, some (.int (i + 1)), x5] st h Q := R_iinc rfl rfl rfl rfl rfl
theorem s182_150 : Runs 182 150 ls st h Q ↔ Runs 182 93 ls st h Q := R_goto rfl rfl
theorem s182_153 : Runs 182 153 ls st h Q ↔ Runs 182 154 ls (.int (-1) :: st) h Q := R_iconst rfl rfl
theorem s182_154 : Runs 182 154 ls [.int i] h Q ↔ Q (some (.int i)) h := R_iret rfl rfl
theorem s183_0 : Runs 183 0 [x0, some (.int i), x2, x3, x4, x5] st h Q ↔ Runs 183 1 [x0, some (.int i), x2, x3, x4, x5] (.int i :: st) h Q := R_ildn rfl rfl
theorem s183_1 : Runs 183 1 ls (.int i :: st) h Q ↔ Runs 183 2 ls (.long i.toInt64 :: st) h Q := R_i2l rfl
theorem s183_2 : Runs 183 2 ls st h Q ↔ Runs 183 3 ls (.long 0 :: st) h Q := R_lconst rfl rfl
theorem s183_3 : Runs 183 3 ls st h Q ↔ Runs 183 6 ls (.long 2 :: st) h Q := R_ldc2 rfl rfl
theorem s183_6 (hs : zsumc st ≤ 8) : Runs 183 6 ls (.long u2 :: .long u1 :: .long u0 :: st) h Q ↔ Runs 126 0 [some (.long u0), none, some (.long u1), none, some (.long u2), none] [] h (fun v h2 => Runs 183 9 ls (v.toList ++ st) h2 Q) := R_calls (rest := st) rfl rfl rfl (by simp) rfl rfl rfl rfl hs
theorem s183_9 : Runs 183 9 ls (.int i :: st) h Q ↔ if ¬ i = 0 then Runs 183 15 ls st h Q else Runs 183 12 ls st h Q := R_ifne rfl rfl
theorem s183_12 : Runs 183 12 ls st h Q ↔ Runs 183 14 ls (.int (-3) :: st) h Q := R_bipush rfl (by decide)
theorem s183_14 : Runs 183 14 ls [.int i] h Q ↔ Q (some (.int i)) h := R_iret rfl rfl
theorem s183_15 : Runs 183 15 ls st h Q ↔ Runs 183 16 ls (.int 0 :: st) h Q := R_iconst rfl rfl
theorem s183_16 : Runs 183 16 [x0, x1, x2, x3, x4, x5] (.int i :: st) h Q ↔ Runs 183 17 [x0, zdrop x1, some (.int i), x3, x4, x5] st h Q := R_istn rfl rfl rfl
theorem s183_17 : Runs 183 17 ls st h Q ↔ Runs 183 18 ls (.int 0 :: st) h Q := R_iconst rfl rfl
theorem s183_18 : Runs 183 18 [x0, x1, x2, x3, x4, x5] (.int i :: st) h Q ↔ Runs 183 19 [x0, x1, zdrop x2, some (.int i), x4, x5] st h Q := R_istn rfl rfl rfl
theorem s183_19 : Runs 183 19 [x0, x1, x2, some (.int i), x4, x5] st h Q ↔ Runs 183 20 [x0, x1, x2, some (.int i), x4, x5] (.int i :: st) h Q := R_ildn rfl rfl
theorem s183_20 : Runs 183 20 [some (.ref a), x1, x2, x3, x4, x5] st h Q ↔ Runs 183 21 [some (.ref a), x1, x2, x3, x4, x5] (.ref a :: st) h Q := R_aldn rfl rfl
theorem s183_20q : Runs 183 20 [some (zrf r), x1, x2, x3, x4, x5] st h Q ↔ Runs 183 21 [some (zrf r), x1, x2, x3, x4, x5] (zrf r :: st) h Q := R_aldnq rfl rfl
theorem s183_21 (ht : tg a = 10) : Runs 183 21 ls (.ref a :: st) (n, tg, ln, I, J, O) Q ↔ Runs 183 24 ls (zrf (O a 0) :: st) (n, tg, ln, I, J, O) Q := R_getr rfl rfl rfl rfl ht
theorem s183_24 : Runs 183 24 ls st h Q ↔ Runs 183 25 ls (.int 0 :: st) h Q := R_iconst rfl rfl
theorem s183_25 (ht : tg a = 20) : Runs 183 25 ls (.int i :: .ref a :: st) (n, tg, ln, I, J, O) Q ↔ ((0 ≤ i ∧ i < Int32.ofNat (ln a)) ∧ Runs 183 26 ls (.int (I a i) :: st) (n, tg, ln, I, J, O) Q) := R_iald rfl ht
theorem s183_26 : Runs 183 26 ls (.int j :: .int i :: st) h Q ↔ if j ≤ i then Runs 183 53 ls st h Q else Runs 183 29 ls st h Q := R_icge rfl rfl
theorem s183_29 : Runs 183 29 [x0, x1, some (.int i), x3, x4, x5] st h Q ↔ Runs 183 30 [x0, x1, some (.int i), x3, x4, x5] (.int i :: st) h Q := R_ildn rfl rfl
theorem s183_30 : Runs 183 30 [some (.ref a), x1, x2, x3, x4, x5] st h Q ↔ Runs 183 31 [some (.ref a), x1, x2, x3, x4, x5] (.ref a :: st) h Q := R_aldn rfl rfl
theorem s183_30q : Runs 183 30 [some (zrf r), x1, x2, x3, x4, x5] st h Q ↔ Runs 183 31 [some (zrf r), x1, x2, x3, x4, x5] (zrf r :: st) h Q := R_aldnq rfl rfl
theorem s183_31 : Runs 183 31 ls st h Q ↔ Runs 183 32 ls (.int 0 :: st) h Q := R_iconst rfl rfl
theorem s183_32 : Runs 183 32 [x0, x1, x2, some (.int i), x4, x5] st h Q ↔ Runs 183 33 [x0, x1, x2, some (.int i), x4, x5] (.int i :: st) h Q := R_ildn rfl rfl
theorem s183_33 (ht : tg a = 10) (hs : zsumc st ≤ 8) : Runs 183 33 ls (.int i1 :: .int i0 :: .ref a :: st) (n, tg, ln, I, J, O) Q ↔ Runs 152 0 [some (.ref a), some (.int i0), some (.int i1), none, none] [] (n, tg, ln, I, J, O) (fun v h2 => Runs 183 36 ls (v.toList ++ st) h2 Q) := R_callv (a := a) (rest := st) rfl rfl rfl rfl rfl rfl rfl ht hs
theorem s183_36 : Runs 183 36 ls st h Q ↔ Runs 183 37 ls (.int (-1) :: st) h Q := R_iconst rfl rfl
theorem s183_37 : Runs 183 37 ls (.int j :: .int i :: st) h Q ↔ if ¬ i = j then Runs 183 44 ls st h Q else Runs 183 40 ls st h Q := R_icne rfl rfl
theorem s183_40 : Runs 183 40 ls st h Q ↔ Runs 183 41 ls (.int 0 :: st) h Q := R_iconst rfl rfl
theorem s183_41 : Runs 183 41 ls st h Q ↔ Runs 183 45 ls st h Q := R_goto rfl rfl
theorem s183_44 : Runs 183 44 ls st h Q ↔ Runs 183 45 ls (.int 1 :: st) h Q := R_iconst rfl rfl
theorem s183_45 : Runs 183 45 ls (.int j :: .int i :: st) h Q ↔ Runs 183 46 ls (.int (i + j) :: st) h Q := R_iadd rfl
theorem s183_46 : Runs 183 46 [x0, x1, x2, x3, x4, x5] (.int i :: st) h Q ↔ Runs 183 47 [x0, zdrop x1, some (.int i), x3, x4, x5] st h Q := R_istn rfl rfl rfl
theorem s183_47 : Runs 183 47 [x0, x1, x2, some (.int i), x4, x5] st h Q ↔ Runs 183 50 [x0, x1, zdrop x2, some (.int (i + 1)), x4, x5] st h Q := R_iinc rfl rfl rfl rfl rfl
theorem s183_50 : Runs 183 50 ls st h Q ↔ Runs 183 19 ls st h Q := R_goto rfl rfl
theorem s183_53 : Runs 183 53 [some (.ref a), x1, x2, x3, x4, x5] st h Q ↔ Runs 183 54 [some (.ref a), x1, x2, x3, x4, x5] (.ref a :: st) h Q := R_aldn rfl rfl
theorem s183_53q : Runs 183 53 [some (zrf r), x1, x2, x3, x4, x5] st h Q ↔ Runs 183 54 [some (zrf r), x1, x2, x3, x4, x5] (zrf r :: st) h Q := R_aldnq rfl rfl
theorem s183_54 (ht : tg a = 10) (hs : zsumc st ≤ 8) : Runs 183 54 ls (.ref a :: st) (n, tg, ln, I, J, O) Q ↔ Runs 174 0 [some (.ref a)] [] (n, tg, ln, I, J, O) (fun v h2 => Runs 183 57 ls (v.toList ++ st) h2 Q) := R_callv (a := a) (rest := st) rfl rfl rfl rfl rfl rfl rfl ht hs
theorem s183_57 : Runs 183 57 [some (.ref a), x1, x2, x3, x4, x5] st h Q ↔ Runs 183 58 [some (.ref a), x1, x2, x3, x4, x5] (.ref a :: st) h Q := R_aldn rfl rfl
theorem s183_57q : Runs 183 57 [some (zrf r), x1, x2, x3, x4, x5] st h Q ↔ Runs 183 58 [some (zrf r), x1, x2, x3, x4, x5] (zrf r :: st) h Q := R_aldnq rfl rfl
theorem s183_58 (ht : tg a = 10) : Runs 183 58 ls (.ref a :: st) (n, tg, ln, I, J, O) Q ↔ Runs 183 61 ls (zrf (O a 0) :: st) (n, tg, ln, I, J, O) Q := R_getr rfl rfl rfl rfl ht
theorem s183_61 : Runs 183 61 ls st h Q ↔ Runs 183 64 ls (.int 1081 :: st) h Q := R_sipush rfl (by decide)
theorem s183_64 : Runs 183 64 [x0, some (.int i), x2, x3, x4, x5] st h Q ↔ Runs 183 65 [x0, some (.int i), x2, x3, x4, x5] (.int i :: st) h Q := R_ildn rfl rfl
theorem s183_65 (ht : tg a = 20) : Runs 183 65 ls (.int j :: .int i :: .ref a :: st) (n, tg, ln, I, J, O) Q ↔ ((0 ≤ i ∧ i < Int32.ofNat (ln a)) ∧ Runs 183 66 ls st (n, tg, ln, zu I a i j, J, O) Q) := R_iast rfl ht
theorem s183_66 : Runs 183 66 ls st h Q ↔ Runs 183 67 ls (.int 0 :: st) h Q := R_iconst rfl rfl
theorem s183_67 : Runs 183 67 [x0, x1, x2, x3, x4, x5] (.int i :: st) h Q ↔ Runs 183 68 [x0, x1, zdrop x2, some (.int i), x4, x5] st h Q := R_istn rfl rfl rfl
theorem s183_68 : Runs 183 68 ls st h Q ↔ Runs 183 69 ls (.int 1 :: st) h Q := R_iconst rfl rfl
theorem s183_69 : Runs 183 69 [x0, x1, x2, x3, x4, x5] (.int i :: st) h Q ↔ Runs 183 71 [x0, x1, x2, zdrop x3, some (.int i), x5] st h Q := R_ist rfl rfl rfl
theorem s183_71 : Runs 183 71 [x0, x1, x2, x3, some (.int i), x5] st h Q ↔ Runs 183 73 [x0, x1, x2, x3, some (.int i), x5] (.int i :: st) h Q := R_ild rfl rfl
theorem s183_73 : Runs 183 73 ls st h Q ↔ Runs 183 75 ls (.int 61 :: st) h Q := R_bipush rfl (by decide)
theorem s183_75 : Runs 183 75 ls (.int j :: .int i :: st) h Q ↔ if j ≤ i then Runs 183 130 ls st h Q else Runs 183 78 ls st h Q := R_icge rfl rfl
theorem s183_78 : Runs 183 78 [some (.ref a), x1, x2, x3, x4, x5] st h Q ↔ Runs 183 79 [some (.ref a), x1, x2, x3, x4, x5] (.ref a :: st) h Q := R_aldn rfl rfl
theorem s183_78q : Runs 183 78 [some (zrf r), x1, x2, x3, x4, x5] st h Q ↔ Runs 183 79 [some (zrf r), x1, x2, x3, x4, x5] (zrf r :: st) h Q := R_aldnq rfl rfl
theorem s183_79 : Runs 183 79 ls st h Q ↔ Runs 183 82 ls (.int 1080 :: st) h Q := R_sipush rfl (by decide)
theorem s183_82 (ht : tg a = 10) (hs : zsumc st ≤ 8) : Runs 183 82 ls (.int i0 :: .ref a :: st) (n, tg, ln, I, J, O) Q ↔ Runs 162 0 [some (.ref a), some (.int i0), none, none] [] (n, tg, ln, I, J, O) (fun v h2 => Runs 183 85 ls (v.toList ++ st) h2 Q) := R_callv (a := a) (rest := st) rfl rfl rfl rfl rfl rfl rfl ht hs
theorem s183_85 : Runs 183 85 ls st h Q ↔ Runs 183 87 ls (.int 99 :: st) h Q := R_bipush rfl (by decide)
theorem s183_87 : Runs 183 87 ls (.int j :: .int i :: st) h Q ↔ if i = j then Runs 183 94 ls st h Q else Runs 183 90 ls st h Q := R_iceq rfl rfl
theorem s183_90 : Runs 183 90 ls st h Q ↔ Runs 183 91 ls (.int 1 :: st) h Q := R_iconst rfl rfl
theorem s183_91 : Runs 183 91 ls st h Q ↔ Runs 183 95 ls st h Q := R_goto rfl rfl
theorem s183_94 : Runs 183 94 ls st h Q ↔ Runs 183 95 ls (.int 0 :: st) h Q := R_iconst rfl rfl
theorem s183_95 : Runs 183 95 [x0, x1, x2, x3, x4, x5] (.int i :: st) h Q ↔ Runs 183 97 [x0, x1, x2, x3, zdrop x4, some (.int i)] st h Q := R_ist rfl rfl rfl
theorem s183_97 : Runs 183 97 [x0, x1, x2, some (.int i), x4, x5] st h Q ↔ Runs 183 98 [x0, x1, x2, some (.int i), x4, x5] (.int i :: st) h Q := R_ildn rfl rfl
theorem s183_98 : Runs 183 98 [x0, x1, x2, x3, x4, some (.int i)] st h Q ↔ Runs 183 100 [x0, x1, x2, x3, x4, some (.int i)] (.int i :: st) h Q := R_ild rfl rfl
theorem s183_100 : Runs 183 100 ls (.int i :: st) h Q ↔ if i = 0 then Runs 183 108 ls st h Q else Runs 183 103 ls st h Q := R_ifeq rfl rfl
theorem s183_103 : Runs 183 103 [x0, x1, x2, x3, some (.int i), x5] st h Q ↔ Runs 183 105 [x0, x1, x2, x3, some (.int i), x5] (.int i :: st) h Q := R_ild rfl rfl
theorem s183_105 : Runs 183 105 ls st h Q ↔ Runs 183 109 ls st h Q := R_goto rfl rfl
theorem s183_108 : Runs 183 108 ls st h Q ↔ Runs 183 109 ls (.int 0 :: st) h Q := R_iconst rfl rfl
theorem s183_109 : Runs 183 109 ls (.int j :: .int i :: st) h Q ↔ Runs 183 110 ls (.int (i + j) :: st) h Q := R_iadd rfl
theorem s183_110 : Runs 183 110 [x0, x1, x2, x3, x4, x5] (.int i :: st) h Q ↔ Runs 183 111 [x0, x1, zdrop x2, some (.int i), x4, x5] st h Q := R_istn rfl rfl rfl
theorem s183_111 : Runs 183 111 [x0, x1, some (.int i), x3, x4, x5] st h Q ↔ Runs 183 112 [x0, x1, some (.int i), x3, x4, x5] (.int i :: st) h Q := R_ildn rfl rfl
theorem s183_112 : Runs 183 112 [x0, x1, x2, x3, x4, some (.int i)] st h Q ↔ Runs 183 114 [x0, x1, x2, x3, x4, some (.int i)] (.int i :: st) h Q := R_ild rfl rfl
theorem s183_114 : Runs 183 114 ls (.int i :: st) h Q ↔ if i = 0 then Runs 183 121 ls st h Q else Runs 183 117 ls st h Q := R_ifeq rfl rfl
theorem s183_117 : Runs 183 117 ls st h Q ↔ Runs 183 118 ls (.int 1 :: st) h Q := R_iconst rfl rfl
theorem s183_118 : Runs 183 118 ls st h Q ↔ Runs 183 122 ls st h Q := R_goto rfl rfl
theorem s183_121 : Runs 183 121 ls st h Q ↔ Runs 183 122 ls (.int 0 :: st) h Q := R_iconst rfl rfl
theorem s183_122 : Runs 183 122 ls (.int j :: .int i :: st) h Q ↔ Runs 183 123 ls (.int (i - j) :: st) h Q := R_isub rfl
theorem s183_123 : Runs 183 123 [x0, x1, x2, x3, x4, x5] (.int i :: st) h Q ↔ Runs 183 124 [x0, zdrop x1, some (.int i), x3, x4, x5] st h Q := R_istn rfl rfl rfl
theorem s183_124 : Runs 183 124 [x0, x1, x2, x3, some (.int i), x5] st h Q ↔ Runs 183 127 [x0, x1, x2, zdrop x3, some (.int (i + 1)), x5] st h Q := R_iinc rfl rfl rfl rfl rfl
theorem s183_127 : Runs 183 127 ls st h Q ↔ Runs 183 71 ls st h Q := R_goto rfl rfl
theorem s183_130 : Runs 183 130 [x0, x1, x2, some (.int i), x4, x5] st h Q ↔ Runs 183 131 [x0, x1, x2, some (.int i), x4, x5] (.int i :: st) h Q := R_ildn rfl rfl
theorem s183_131 : Runs 183 131 ls st h Q ↔ Runs 183 133 ls (.int 60 :: st) h Q := R_bipush rfl (by decide)
theorem s183_133 : Runs 183 133 [x0, x1, some (.int i), x3, x4, x5] st h Q ↔ Runs 183 134 [x0, x1, some (.int i), x3, x4, x5] (.int i :: st) h Q := R_ildn rfl rfl
theorem s183_134 : Runs 183 134 ls (.int j :: .int i :: st) h Q ↔ Runs 183 135 ls (.int (i * j) :: st) h Q := R_imul rfl
theorem s183_135 : Runs 183 135 ls (.int j :: .int i :: st) h Q ↔ Runs 183 136 ls (.int (i + j) :: st) h Q := R_iadd rfl
theorem s183_136 : Runs 183 136 ls [.int i] h Q ↔ Q (some (.int i)) h := R_iret rfl rfl
theorem s184_0 : Runs 184 0 [x0, some (.int i), x2] st h Q ↔ Runs 184 1 [x0, some (.int i), x2] (.int i :: st) h Q := R_ildn rfl rfl
theorem s184_1 : Runs 184 1 ls (.int i :: st) h Q ↔ Runs 184 2 ls (.long i.toInt64 :: st) h Q := R_i2l rfl
theorem s184_2 : Runs 184 2 ls st h Q ↔ Runs 184 3 ls (.long 1 :: st) h Q := R_lconst rfl rfl
theorem s184_3 : Runs 184 3 ls st h Q ↔ Runs 184 6 ls (.long 20 :: st) h Q := R_ldc2 rfl rfl
theorem s184_6 (hs : zsumc st ≤ 8) : Runs 184 6 ls (.long u2 :: .long u1 :: .long u0 :: st) h Q ↔ Runs 126 0 [some (.long u0), none, some (.long u1), none, some (.long u2), none] [] h (fun v h2 => Runs 184 9 ls (v.toList ++ st) h2 Q) := R_calls (rest := st) rfl rfl rfl (by simp) rfl rfl rfl rfl hs
theorem s184_9 : Runs 184 9 ls (.int i :: st) h Q ↔ if i = 0 then Runs 184 24 ls st h Q else Runs 184 12 ls st h Q := R_ifeq rfl rfl
theorem s184_12 : Runs 184 12 [x0, x1, some (.int i)] st h Q ↔ Runs 184 13 [x0, x1, some (.int i)] (.int i :: st) h Q := R_ildn rfl rfl
theorem s184_13 : Runs 184 13 ls (.int i :: st) h Q ↔ Runs 184 14 ls (.long i.toInt64 :: st) h Q := R_i2l rfl
theorem s184_14 : Runs 184 14 ls st h Q ↔ Runs 184 15 ls (.long 0 :: st) h Q := R_lconst rfl rfl
theorem s184_15 : Runs 184 15 ls st h Q ↔ Runs 184 18 ls (.long 20 :: st) h Q := R_ldc2 rfl rfl
theorem s184_18 (hs : zsumc st ≤ 8) : Runs 184 18 ls (.long u2 :: .long u1 :: .long u0 :: st) h Q ↔ Runs 126 0 [some (.long u0), none, some (.long u1), none, some (.long u2), none] [] h (fun v h2 => Runs 184 21 ls (v.toList ++ st) h2 Q) := R_calls (rest := st) rfl rfl rfl (by simp) rfl rfl rfl rfl hs
theorem s184_21 : Runs 184 21 ls (.int i :: st) h Q ↔ if ¬ i = 0 then Runs 184 27 ls st h Q else Runs 184 24 ls st h Q := R_ifne rfl rfl
theorem s184_24 : Runs 184 24 ls st h Q ↔ Runs 184 26 ls (.int (-3) :: st) h Q := R_bipush rfl (by decide)
theorem s184_26 : Runs 184 26 ls [.int i] h Q ↔ Q (some (.int i)) h := R_iret rfl rfl
theorem s184_27 : Runs 184 27 [some (.ref a), x1, x2] st h Q ↔ Runs 184 28 [some (.ref a), x1, x2] (.ref a :: st) h Q := R_aldn rfl rfl
theorem s184_27q : Runs 184 27 [some (zrf r), x1, x2] st h Q ↔ Runs 184 28 [some (zrf r), x1, x2] (zrf r :: st) h Q := R_aldnq rfl rfl
theorem s184_28 (ht : tg a = 10) : Runs 184 28 ls (.ref a :: st) (n, tg, ln, I, J, O) Q ↔ Runs 184 31 ls (.int (I a 5) :: st) (n, tg, ln, I, J, O) Q := R_geti rfl rfl rfl rfl ht
theorem s184_31 : Runs 184 31 ls st h Q ↔ Runs 184 33 ls (.int 6 :: st) h Q := R_bipush rfl (by decide)
theorem s184_33 : Runs 184 33 ls (.int j :: .int i :: st) h Q ↔ if ¬ i = j then Runs 184 39 ls st h Q else Runs 184 36 ls st h Q := R_icne rfl rfl
theorem s184_36 : Runs 184 36 ls st h Q ↔ Runs 184 38 ls (.int (-5) :: st) h Q := R_bipush rfl (by decide)
theorem s184_38 : Runs 184 38 ls [.int i] h Q ↔ Q (some (.int i)) h := R_iret rfl rfl
theorem s184_39 : Runs 184 39 [some (.ref a), x1, x2] st h Q ↔ Runs 184 40 [some (.ref a), x1, x2] (.ref a :: st) h Q := R_aldn rfl rfl
theorem s184_39q : Runs 184 39 [some (zrf r), x1, x2] st h Q ↔ Runs 184 40 [some (zrf r), x1, x2] (zrf r :: st) h Q := R_aldnq rfl rfl
theorem s184_40 (ht : tg a = 10) : Runs 184 40 ls (.ref a :: st) (n, tg, ln, I, J, O) Q ↔ Runs 184 43 ls (zrf (O a 6) :: st) (n, tg, ln, I, J, O) Q := R_getr rfl rfl rfl rfl ht
theorem s184_43 : Runs 184 43 [some (.ref a), x1, x2] st h Q ↔ Runs 184 44 [some (.ref a), x1, x2] (.ref a :: st) h Q := R_aldn rfl rfl
theorem s184_43q : Runs 184 43 [some (zrf r), x1, x2] st h Q ↔ Runs 184 44 [some (zrf r), x1, x2] (zrf r :: st) h Q := R_aldnq rfl rfl
theorem s184_44 (ht : tg a = 10) : Runs 184 44 ls (.ref a :: st) (n, tg, ln, I, J, O) Q ↔ Runs 184 47 ls (.int (I a 5) :: st) (n, tg, ln, I, J, O) Q := R_geti rfl rfl rfl rfl ht
theorem s184_47 : Runs 184 47 [x0, some (.int i), x2] st h Q ↔ Runs 184 48 [x0, some (.int i), x2] (.int i :: st) h Q := R_ildn rfl rfl
theorem s184_48 (ht : tg a = 20) : Runs 184 48 ls (.int j :: .int i :: .ref a :: st) (n, tg, ln, I, J, O) Q ↔ ((0 ≤ i ∧ i < Int32.ofNat (ln a)) ∧ Runs 184 49 ls st (n, tg, ln, zu I a i j, J, O) Q) := R_iast rfl ht
theorem s184_49 : Runs 184 49 [some (.ref a), x1, x2] st h Q ↔ Runs 184 50 [some (.ref a), x1, x2] (.ref a :: st) h Q := R_aldn rfl rfl
theorem s184_49q : Runs 184 49 [some (zrf r), x1, x2] st h Q ↔ Runs 184 50 [some (zrf r), x1, x2] (zrf r :: st) h Q := R_aldnq rfl rfl
theorem s184_50 (ht : tg a = 10) : Runs 184 50 ls (.ref a :: st) (n, tg, ln, I, J, O) Q ↔ Runs 184 53 ls (zrf (O a 7) :: st) (n, tg, ln, I, J, O) Q := R_getr rfl rfl rfl rfl ht
theorem s184_53 : Runs 184 53 [some (.ref a), x1, x2] st h Q ↔ Runs 184 54 [some (.ref a), x1, x2] (.ref a :: st) h Q := R_aldn rfl rfl
theorem s184_53q : Runs 184 53 [some (zrf r), x1, x2] st h Q ↔ Runs 184 54 [some (zrf r), x1, x2] (zrf r :: st) h Q := R_aldnq rfl rfl
theorem s184_54 (ht : tg a = 10) : Runs 184 54 ls (.ref a :: st) (n, tg, ln, I, J, O) Q ↔ Runs 184 57 ls (.int (I a 5) :: st) (n, tg, ln, I, J, O) Q := R_geti rfl rfl rfl rfl ht
theorem s184_57 : Runs 184 57 [x0, x1, some (.int i)] st h Q ↔ Runs 184 58 [x0, x1, some (.int i)] (.int i :: st) h Q := R_ildn rfl rfl
theorem s184_58 (ht : tg a = 20) : Runs 184 58 ls (.int j :: .int i :: .ref a :: st) (n, tg, ln, I, J, O) Q ↔ ((0 ≤ i ∧ i < Int32.ofNat (ln a)) ∧ Runs 184 59 ls st (n, tg, ln, zu I a i j, J, O) Q) := R_iast rfl ht
theorem s184_59 : Runs 184 59 [some (.ref a), x1, x2] st h Q ↔ Runs 184 60 [some (.ref a), x1, x2] (.ref a :: st) h Q := R_aldn rfl rfl
theorem s184_59q : Runs 184 59 [some (zrf r), x1, x2] st h Q ↔ Runs 184 60 [some (zrf r), x1, x2] (zrf r :: st) h Q := R_aldnq rfl rfl
theorem s184_60 : Runs 184 60 ls (.int i :: st) h Q ↔ Runs 184 61 ls (.int i :: .int i :: st) h Q := R_dupi rfl
theorem s184_60q : Runs 184 60 ls (.ref a :: st) h Q ↔ Runs 184 61 ls (.ref a :: .ref a :: st) h Q := R_dupr rfl
theorem s184_61 (ht : tg a = 10) : Runs 184 61 ls (.ref a :: st) (n, tg, ln, I, J, O) Q ↔ Runs 184 64 ls (.int (I a 5) :: st) (n, tg, ln, I, J, O) Q := R_geti rfl rfl rfl rfl ht
theorem s184_64 : Runs 184 64 ls st h Q ↔ Runs 184 65 ls (.int 1 :: st) h Q := R_iconst rfl rfl
theorem s184_65 : Runs 184 65 ls (.int j :: .int i :: st) h Q ↔ Runs 184 66 ls (.int (i + j) :: st) h Q := R_iadd rfl
theorem s184_66 (ht : tg a = 10) : Runs 184 66 ls (.int i :: .ref a :: st) (n, tg, ln, I, J, O) Q ↔ Runs 184 69 ls st (n, tg, ln, zu I a 5 i, J, O) Q := R_puti rfl rfl rfl rfl rfl rfl ht
theorem s184_69 : Runs 184 69 [some (.ref a), x1, x2] st h Q ↔ Runs 184 70 [some (.ref a), x1, x2] (.ref a :: st) h Q := R_aldn rfl rfl
theorem s184_69q : Runs 184 69 [some (zrf r), x1, x2] st h Q ↔ Runs 184 70 [some (zrf r), x1, x2] (zrf r :: st) h Q := R_aldnq rfl rfl
theorem s184_70 (ht : tg a = 10) : Runs 184 70 ls (.ref a :: st) (n, tg, ln, I, J, O) Q ↔ Runs 184 73 ls (.int (I a 5) :: st) (n, tg, ln, I, J, O) Q := R_geti rfl rfl rfl rfl ht
theorem s184_73 : Runs 184 73 ls [.int i] h Q ↔ Q (some (.int i)) h := R_iret rfl rfl
theorem s185_0 : Runs 185 0 [some (.ref a), x1] st h Q ↔ Runs 185 1 [some (.ref a), x1] (.ref a :: st) h Q := R_aldn rfl rfl
theorem s185_0q : Runs 185 0 [some (zrf r), x1] st h Q ↔ Runs 185 1 [some (zrf r), x1] (zrf r :: st) h Q := R_aldnq rfl rfl
theorem s185_1 (ht : tg a = 10) : Runs 185 1 ls (.ref a :: st) (n, tg, ln, I, J, O) Q ↔ Runs 185 4 ls (.int (I a 5) :: st) (n, tg, ln, I, J, O) Q := R_geti rfl rfl rfl rfl ht
theorem s185_4 : Runs 185 4 [x0, x1] (.int i :: st) h Q ↔ Runs 185 5 [zdrop x0, some (.int i)] st h Q := R_istn rfl rfl rfl
theorem s185_5 : Runs 185 5 [some (.ref a), x1] st h Q ↔ Runs 185 6 [some (.ref a), x1] (.ref a :: st) h Q := R_aldn rfl rfl
theorem s185_5q : Runs 185 5 [some (zrf r), x1] st h Q ↔ Runs 185 6 [some (zrf r), x1] (zrf r :: st) h Q := R_aldnq rfl rfl
theorem s185_6 : Runs 185 6 ls st h Q ↔ Runs 185 7 ls (.int 0 :: st) h Q := R_iconst rfl rfl
theorem s185_7 (ht : tg a = 10) : Runs 185 7 ls (.int i :: .ref a :: st) (n, tg, ln, I, J, O) Q ↔ Runs 185 10 ls st (n, tg, ln, zu I a 5 i, J, O) Q := R_puti rfl rfl rfl rfl rfl rfl ht
theorem s185_10 : Runs 185 10 [x0, some (.int i)] st h Q ↔ Runs 185 11 [x0, some (.int i)] (.int i :: st) h Q := R_ildn rfl rfl
theorem s185_11 : Runs 185 11 ls [.int i] h Q ↔ Q (some (.int i)) h := R_iret rfl rfl
theorem s187_0 : Runs 187 0 ls st h Q ↔ Runs 187 1 ls (.int 0 :: st) h Q := R_iconst rfl rfl
theorem s187_1 : Runs 187 1 [x0, x1, x2] (.int i :: st) h Q ↔ Runs 187 2 [zdrop x0, some (.int i), x2] st h Q := R_istn rfl rfl rfl
theorem s187_2 : Runs 187 2 ls st h Q ↔ Runs 187 3 ls (.int 0 :: st) h Q := R_iconst rfl rfl
theorem s187_3 : Runs 187 3 [x0, x1, x2] (.int i :: st) h Q ↔ Runs 187 4 [x0, zdrop x1, some (.int i)] st h Q := R_istn rfl rfl rfl
theorem s187_4 : Runs 187 4 [x0, x1, some (.int i)] st h Q ↔ Runs 187 5 [x0, x1, some (.int i)] (.int i :: st) h Q := R_ildn rfl rfl
theorem s187_5 : Runs 187 5 ls st h Q ↔ Runs 187 6 ls (.int 3 :: st) h Q := R_iconst rfl rfl
theorem s187_6 : Runs 187 6 ls (.int j :: .int i :: st) h Q ↔ if j ≤ i then Runs 187 45 ls st h Q else Runs 187 9 ls st h Q := R_icge rfl rfl
theorem s187_9 : Runs 187 9 [some (.ref a), x1, x2] st h Q ↔ Runs 187 10 [some (.ref a), x1, x2] (.ref a :: st) h Q := R_aldn rfl rfl
theorem s187_9q : Runs 187 9 [some (zrf r), x1, x2] st h Q ↔ Runs 187 10 [some (zrf r), x1, x2] (zrf r :: st) h Q := R_aldnq rfl rfl
theorem s187_10 (ht : tg a = 10) (hs : zsumc st ≤ 8) : Runs 187 10 ls (.ref a :: st) (n, tg, ln, I, J, O) Q ↔ Runs 174 0 [some (.ref a)] [] (n, tg, ln, I, J, O) (fun v h2 => Runs 187 13 ls (v.toList ++ st) h2 Q) := R_callv (a := a) (rest := st) rfl rfl rfl rfl rfl rfl rfl ht hs
theorem s187_13 : Runs 187 13 [some (.ref a), x1, x2] st h Q ↔ Runs 187 14 [some (.ref a), x1, x2] (.ref a :: st) h Q := R_aldn rfl rfl
theorem s187_13q : Runs 187 13 [some (zrf r), x1, x2] st h Q ↔ Runs 187 14 [some (zrf r), x1, x2] (zrf r :: st) h Q := R_aldnq rfl rfl
theorem s187_14 (ht : tg a = 10) : Runs 187 14 ls (.ref a :: st) (n, tg, ln, I, J, O) Q ↔ Runs 187 17 ls (zrf (O a 0) :: st) (n, tg, ln, I, J, O) Q := R_getr rfl rfl rfl rfl ht
theorem s187_17 : Runs 187 17 ls st h Q ↔ Runs 187 20 ls (.int 1081 :: st) h Q := R_sipush rfl (by decide)
theorem s187_20 : Runs 187 20 [x0, x1, some (.int i)] st h Q ↔ Runs 187 21 [x0, x1, some (.int i)] (.int i :: st) h Q := R_ildn rfl rfl
theorem s187_21 (ht : tg a = 20) : Runs 187 21 ls (.int j :: .int i :: .ref a :: st) (n, tg, ln, I, J, O) Q ↔ ((0 ≤ i ∧ i < Int32.ofNat (ln a)) ∧ Runs 187 22 ls st (n, tg, ln, zu I a i j, J, O) Q) := R_iast rfl ht
theorem s187_22 : Runs 187 22 [x0, some (.int i), x2] st h Q ↔ Runs 187 23 [x0, some (.int i), x2] (.int i :: st) h Q := R_ildn rfl rfl
theorem s187_23 : Runs 187 23 [some (.ref a), x1, x2] st h Q ↔ Runs 187 24 [some (.ref a), x1, x2] (.ref a :: st) h Q := R_aldn rfl rfl
theorem s187_23q : Runs 187 23 [some (zrf r), x1, x2] st h Q ↔ Runs 187 24 [some (zrf r), x1, x2] (zrf r :: st) h Q := R_aldnq rfl rfl
theorem s187_24 (ht : tg a = 10) (hs : zsumc st ≤ 8) : Runs 187 24 ls (.ref a :: st) (n, tg, ln, I, J, O) Q ↔ Runs 186 0 [some (.ref a), none, none, none, none] [] (n, tg, ln, I, J, O) (fun v h2 => Runs 187 27 ls (v.toList ++ st) h2 Q) := R_callv (a := a) (rest := st) rfl rfl rfl rfl rfl rfl rfl ht hs
theorem s187_27 : Runs 187 27 ls (.int i :: st) h Q ↔ if i = 0 then Runs 187 36 ls st h Q else Runs 187 30 ls st h Q := R_ifeq rfl rfl
theorem s187_30 : Runs 187 30 ls st h Q ↔ Runs 187 31 ls (.int 1 :: st) h Q := R_iconst rfl rfl
theorem s187_31 : Runs 187 31 [x0, x1, some (.int i)] st h Q ↔ Runs 187 32 [x0, x1, some (.int i)] (.int i :: st) h Q := R_ildn rfl rfl
theorem s187_32 : Runs 187 32 ls (.int j :: .int i :: st) h Q ↔ Runs 187 33 ls (.int (i <<< (j &&& 31)) :: st) h Q := R_ishl rfl
theorem s187_33 : Runs 187 33 ls st h Q ↔ Runs 187 37 ls st h Q := R_goto rfl rfl
theorem s187_36 : Runs 187 36 ls st h Q ↔ Runs 187 37 ls (.int 0 :: st) h Q := R_iconst rfl rfl
theorem s187_37 : Runs 187 37 ls (.int j :: .int i :: st) h Q ↔ Runs 187 38 ls (.int (i ||| j) :: st) h Q := R_ior rfl
theorem s187_38 : Runs 187 38 [x0, x1, x2] (.int i :: st) h Q ↔ Runs 187 39 [zdrop x0, some (.int i), x2] st h Q := R_istn rfl rfl rfl
theorem s187_39 : Runs 187 39 [x0, x1, some (.int i)] st h Q ↔ Runs 187 42 [x0, zdrop x1, some (.int (i + 1))] st h Q := R_iinc rfl rfl rfl rfl rfl
theorem s187_42 : Runs 187 42 ls st h Q ↔ Runs 187 4 ls st h Q := R_goto rfl rfl
theorem s187_45 : Runs 187 45 [x0, some (.int i), x2] st h Q ↔ Runs 187 46 [x0, some (.int i), x2] (.int i :: st) h Q := R_ildn rfl rfl
theorem s187_46 : Runs 187 46 ls [.int i] h Q ↔ Q (some (.int i)) h := R_iret rfl rfl
theorem s188_0 : Runs 188 0 [some (.ref a), x1, x2, x3] st h Q ↔ Runs 188 1 [some (.ref a), x1, x2, x3] (.ref a :: st) h Q := R_aldn rfl rfl
theorem s188_0q : Runs 188 0 [some (zrf r), x1, x2, x3] st h Q ↔ Runs 188 1 [some (zrf r), x1, x2, x3] (zrf r :: st) h Q := R_aldnq rfl rfl
theorem s188_1 : Runs 188 1 [x0, some (.int i), x2, x3] st h Q ↔ Runs 188 2 [x0, some (.int i), x2, x3] (.int i :: st) h Q := R_ildn rfl rfl
theorem s188_2 : Runs 188 2 ls (.int i :: st) h Q ↔ Runs 188 3 ls (.long i.toInt64 :: st) h Q := R_i2l rfl
theorem s188_3 (ht : tg a = 10) (hs : zsumc st ≤ 8) : Runs 188 3 ls (.long u0 :: .ref a :: st) (n, tg, ln, I, J, O) Q ↔ Runs 150 0 [some (.ref a), some (.long u0), none] [] (n, tg, ln, I, J, O) (fun v h2 => Runs 188 6 ls (v.toList ++ st) h2 Q) := R_callv (a := a) (rest := st) rfl rfl rfl rfl rfl rfl rfl ht hs
theorem s188_6 : Runs 188 6 ls (.int i :: st) h Q ↔ if ¬ i = 0 then Runs 188 12 ls st h Q else Runs 188 9 ls st h Q := R_ifne rfl rfl
theorem s188_9 : Runs 188 9 ls st h Q ↔ Runs 188 11 ls (.int (-2) :: st) h Q := R_bipush rfl (by decide)
theorem s188_11 : Runs 188 11 ls [.int i] h Q ↔ Q (some (.int i)) h := R_iret rfl rfl
theorem s188_12 : Runs 188 12 [some (.ref a), x1, x2, x3] st h Q ↔ Runs 188 13 [some (.ref a), x1, x2, x3] (.ref a :: st) h Q := R_aldn rfl rfl
theorem s188_12q : Runs 188 12 [some (zrf r), x1, x2, x3] st h Q ↔ Runs 188 13 [some (zrf r), x1, x2, x3] (zrf r :: st) h Q := R_aldnq rfl rfl
theorem s188_13 : Runs 188 13 ls st h Q ↔ Runs 188 14 ls (.int 0 :: st) h Q := R_iconst rfl rfl
theorem s188_14 : Runs 188 14 [x0, some (.int i), x2, x3] st h Q ↔ Runs 188 15 [x0, some (.int i), x2, x3] (.int i :: st) h Q := R_ildn rfl rfl
theorem s188_15 (ht : tg a = 10) (hs : zsumc st ≤ 8) : Runs 188 15 ls (.int i1 :: .int i0 :: .ref a :: st) (n, tg, ln, I, J, O) Q ↔ Runs 152 0 [some (.ref a), some (.int i0), some (.int i1), none, none] [] (n, tg, ln, I, J, O) (fun v h2 => Runs 188 18 ls (v.toList ++ st) h2 Q) := R_callv (a := a) (rest := st) rfl rfl rfl rfl rfl rfl rfl ht hs
theorem s188_18 : Runs 188 18 ls st h Q ↔ Runs 188 19 ls (.int (-1) :: st) h Q := R_iconst rfl rfl
theorem s188_19 : Runs 188 19 ls (.int j :: .int i :: st) h Q ↔ if ¬ i = j then Runs 188 25 ls st h Q else Runs 188 22 ls st h Q := R_icne rfl rfl
theorem s188_22 : Runs 188 22 ls st h Q ↔ Runs 188 24 ls (.int (-4) :: st) h Q := R_bipush rfl (by decide)
theorem s188_24 : Runs 188 24 ls [.int i] h Q ↔ Q (some (.int i)) h := R_iret rfl rfl
theorem s188_25 : Runs 188 25 ls st h Q ↔ Runs 188 26 ls (.int 0 :: st) h Q := R_iconst rfl rfl
theorem s188_26 : Runs 188 26 [x0, x1, x2, x3] (.int i :: st) h Q ↔ Runs 188 27 [x0, zdrop x1, some (.int i), x3] st h Q := R_istn rfl rfl rfl
theorem s188_27 : Runs 188 27 ls st h Q ↔ Runs 188 28 ls (.int 0 :: st) h Q := R_iconst rfl rfl
theorem s188_28 : Runs 188 28 [x0, x1, x2, x3] (.int i :: st) h Q ↔ Runs 188 29 [x0, x1, zdrop x2, some (.int i)] st h Q := R_istn rfl rfl rfl
theorem s188_29 : Runs 188 29 [x0, x1, x2, some (.int i)] st h Q ↔ Runs 188 30 [x0, x1, x2, some (.int i)] (.int i :: st) h Q := R_ildn rfl rfl
theorem s188_30 : Runs 188 30 ls st h Q ↔ Runs 188 31 ls (.int 5 :: st) h Q := R_iconst rfl rfl
theorem s188_31 : Runs 188 31 ls (.int j :: .int i :: st) h Q ↔ if j ≤ i then Runs 188 72 ls st h Q else Runs 188 34 ls st h Q := R_icge rfl rfl
theorem s188_34 : Runs 188 34 [some (.ref a), x1, x2, x3] st h Q ↔ Runs 188 35 [some (.ref a), x1, x2, x3] (.ref a :: st) h Q := R_aldn rfl rfl
theorem s188_34q : Runs 188 34 [some (zrf r), x1, x2, x3] st h Q ↔ Runs 188 35 [some (zrf r), x1, x2, x3] (zrf r :: st) h Q := R_aldnq rfl rfl
theorem s188_35 (ht : tg a = 10) (hs : zsumc st ≤ 8) : Runs 188 35 ls (.ref a :: st) (n, tg, ln, I, J, O) Q ↔ Runs 174 0 [some (.ref a)] [] (n, tg, ln, I, J, O) (fun v h2 => Runs 188 38 ls (v.toList ++ st) h2 Q) := R_callv (a := a) (rest := st) rfl rfl rfl rfl rfl rfl rfl ht hs
theorem s188_38 : Runs 188 38 [some (.ref a), x1, x2, x3] st h Q ↔ Runs 188 39 [some (.ref a), x1, x2, x3] (.ref a :: st) h Q := R_aldn rfl rfl
theorem s188_38q : Runs 188 38 [some (zrf r), x1, x2, x3] st h Q ↔ Runs 188 39 [some (zrf r), x1, x2, x3] (zrf r :: st) h Q := R_aldnq rfl rfl
theorem s188_39 (ht : tg a = 10) : Runs 188 39 ls (.ref a :: st) (n, tg, ln, I, J, O) Q ↔ Runs 188 42 ls (zrf (O a 0) :: st) (n, tg, ln, I, J, O) Q := R_getr rfl rfl rfl rfl ht
theorem s188_42 : Runs 188 42 ls st h Q ↔ Runs 188 45 ls (.int 1110 :: st) h Q := R_sipush rfl (by decide)
theorem s188_45 : Runs 188 45 [x0, some (.int i), x2, x3] st h Q ↔ Runs 188 46 [x0, some (.int i), x2, x3] (.int i :: st) h Q := R_ildn rfl rfl
theorem s188_46 : Runs 188 46 ls (.int j :: .int i :: st) h Q ↔ Runs 188 47 ls (.int (i + j) :: st) h Q := R_iadd rfl
theorem s188_47 : Runs 188 47 [x0, x1, x2, some (.int i)] st h Q ↔ Runs 188 48 [x0, x1, x2, some (.int i)] (.int i :: st) h Q := R_ildn rfl rfl
theorem s188_48 (ht : tg a = 20) : Runs 188 48 ls (.int j :: .int i :: .ref a :: st) (n, tg, ln, I, J, O) Q ↔ ((0 ≤ i ∧ i < Int32.ofNat (ln a)) ∧ Runs 188 49 ls st (n, tg, ln, zu I a i j, J, O) Q) := R_iast rfl ht
theorem s188_49 : Runs 188 49 [x0, x1, some (.int i), x3] st h Q ↔ Runs 188 50 [x0, x1, some (.int i), x3] (.int i :: st) h Q := R_ildn rfl rfl
theorem s188_50 : Runs 188 50 [some (.ref a), x1, x2, x3] st h Q ↔ Runs 188 51 [some (.ref a), x1, x2, x3] (.ref a :: st) h Q := R_aldn rfl rfl
theorem s188_50q : Runs 188 50 [some (zrf r), x1, x2, x3] st h Q ↔ Runs 188 51 [some (zrf r), x1, x2, x3] (zrf r :: st) h Q := R_aldnq rfl rfl
theorem s188_51 (ht : tg a = 10) (hs : zsumc st ≤ 8) : Runs 188 51 ls (.ref a :: st) (n, tg, ln, I, J, O) Q ↔ Runs 186 0 [some (.ref a), none, none, none, none] [] (n, tg, ln, I, J, O) (fun v h2 => Runs 188 54 ls (v.toList ++ st) h2 Q) := R_callv (a := a) (rest := st) rfl rfl rfl rfl rfl rfl rfl ht hs
theorem s188_54 : Runs 188 54 ls (.int i :: st) h Q ↔ if i = 0 then Runs 188 63 ls st h Q else Runs 188 57 ls st h Q := R_ifeq rfl rfl
theorem s188_57 : Runs 188 57 ls st h Q ↔ Runs 188 58 ls (.int 1 :: st) h Q := R_iconst rfl rfl
theorem s188_58 : Runs 188 58 [x0, x1, x2, some (.int i)] st h Q ↔ Runs 188 59 [x0, x1, x2, some (.int i)] (.int i :: st) h Q := R_ildn rfl rfl
theorem s188_59 : Runs 188 59 ls (.int j :: .int i :: st) h Q ↔ Runs 188 60 ls (.int (i <<< (j &&& 31)) :: st) h Q := R_ishl rfl
theorem s188_60 : Runs 188 60 ls st h Q ↔ Runs 188 64 ls st h Q := R_goto rfl rfl
theorem s188_63 : Runs 188 63 ls st h Q ↔ Runs 188 64 ls (.int 0 :: st) h Q := R_iconst rfl rfl
theorem s188_64 : Runs 188 64 ls (.int j :: .int i :: st) h Q ↔ Runs 188 65 ls (.int (i ||| j) :: st) h Q := R_ior rfl
theorem s188_65 : Runs 188 65 [x0, x1, x2, x3] (.int i :: st) h Q ↔ Runs 188 66 [x0, zdrop x1, some (.int i), x3] st h Q := R_istn rfl rfl rfl
theorem s188_66 : Runs 188 66 [x0, x1, x2, some (.int i)] st h Q ↔ Runs 188 69 [x0, x1, zdrop x2, some (.int (i + 1))] st h Q := R_iinc rfl rfl rfl rfl rfl
theorem s188_69 : Runs 188 69 ls st h Q ↔ Runs 188 29 ls st h Q := R_goto rfl rfl
theorem s188_72 : Runs 188 72 [x0, x1, some (.int i), x3] st h Q ↔ Runs 188 73 [x0, x1, some (.int i), x3] (.int i :: st) h Q := R_ildn rfl rfl
theorem s188_73 : Runs 188 73 ls [.int i] h Q ↔ Q (some (.int i)) h := R_iret rfl rfl
theorem s189_0 : Runs 189 0 [x0, some (.int i), x2, x3, x4, x5, x6, x7, x8, x9, x10, x11, x12, x13, x14, x15, x16] st h Q ↔ Runs 189 1 [x0, some (.int i), x2, x3, x4, x5, x6, x7, x8, x9, x10, x11, x12, x13, x14, x15, x16] (.int i :: st) h Q := R_ildn rfl rfl
theorem s189_1 : Runs 189 1 ls (.int i :: st) h Q ↔ Runs 189 2 ls (.long i.toInt64 :: st) h Q := R_i2l rfl
theorem s189_2 : Runs 189 2 ls st h Q ↔ Runs 189 3 ls (.long 0 :: st) h Q := R_lconst rfl rfl
theorem s189_3 : Runs 189 3 ls st h Q ↔ Runs 189 6 ls (.long 9 :: st) h Q := R_ldc2 rfl rfl
theorem s189_6 (hs : zsumc st ≤ 8) : Runs 189 6 ls (.long u2 :: .long u1 :: .long u0 :: st) h Q ↔ Runs 126 0 [some (.long u0), none, some (.long u1), none, some (.long u2), none] [] h (fun v h2 => Runs 189 9 ls (v.toList ++ st) h2 Q) := R_calls (rest := st) rfl rfl rfl (by simp) rfl rfl rfl rfl hs
theorem s189_9 : Runs 189 9 ls (.int i :: st) h Q ↔ if i = 0 then Runs 189 47 ls st h Q else Runs 189 12 ls st h Q := R_ifeq rfl rfl
theorem s189_12 : Runs 189 12 [x0, x1, some (.int i), x3, x4, x5, x6, x7, x8, x9, x10, x11, x12, x13, x14, x15, x16] st h Q ↔ Runs 189 13 [x0, x1, some (.int i), x3, x4, x5, x6, x7, x8, x9, x10, x11, x12, x13, x14, x15, x16] (.int i :: st) h Q := R_ildn rfl rfl
theorem s189_13 : Runs 189 13 ls (.int i :: st) h Q ↔ Runs 189 14 ls (.long i.toInt64 :: st) h Q := R_i2l rfl
theorem s189_14 : Runs 189 14 ls st h Q ↔ Runs 189 15 ls (.long 0 :: st) h Q := R_lconst rfl rfl
theorem s189_15 : Runs 189 15 ls st h Q ↔ Runs 189 18 ls (.long 10 :: st) h Q := R_ldc2 rfl rfl
theorem s189_18 (hs : zsumc st ≤ 8) : Runs 189 18 ls (.long u2 :: .long u1 :: .long u0 :: st) h Q ↔ Runs 126 0 [some (.long u0), none, some (.long u1), none, some (.long u2), none] [] h (fun v h2 => Runs 189 21 ls (v.toList ++ st) h2 Q) := R_calls (rest := st) rfl rfl rfl (by simp) rfl rfl rfl rfl hs
theorem s189_21 : Runs 189 21 ls (.int i :: st) h Q ↔ if i = 0 then Runs 189 47 ls st h Q else Runs 189 24 ls st h Q := R_ifeq rfl rfl
theorem s189_24 : Runs 189 24 [x0, x1, x2, some (.int i), x4, x5, x6, x7, x8, x9, x10, x11, x12, x13, x14, x15, x16] st h Q ↔ Runs 189 25 [x0, x1, x2, some (.int i), x4, x5, x6, x7, x8, x9, x10, x11, x12, x13, x14, x15, x16] (.int i :: st) h Q := R_ildn rfl rfl
theorem s189_25 : Runs 189 25 ls (.int i :: st) h Q ↔ Runs 189 26 ls (.long i.toInt64 :: st) h Q := R_i2l rfl
theorem s189_26 : Runs 189 26 ls st h Q ↔ Runs 189 27 ls (.long 0 :: st) h Q := R_lconst rfl rfl
theorem s189_27 : Runs 189 27 ls st h Q ↔ Runs 189 30 ls (.long 9 :: st) h Q := R_ldc2 rfl rfl
theorem s189_30 (hs : zsumc st ≤ 8) : Runs 189 30 ls (.long u2 :: .long u1 :: .long u0 :: st) h Q ↔ Runs 126 0 [some (.long u0), none, some (.long u1), none, some (.long u2), none] [] h (fun v h2 => Runs 189 33 ls (v.toList ++ st) h2 Q) := R_calls (rest := st) rfl rfl rfl (by simp) rfl rfl rfl rfl hs
theorem s189_33 : Runs 189 33 ls (.int i :: st) h Q ↔ if i = 0 then Runs 189 47 ls st h Q else Runs 189 36 ls st h Q := R_ifeq rfl rfl
theorem s189_36 : Runs 189 36 [x0, x1, x2, x3, some (.int i), x5, x6, x7, x8, x9, x10, x11, x12, x13, x14, x15, x16] st h Q ↔ Runs 189 38 [x0, x1, x2, x3, some (.int i), x5, x6, x7, x8, x9, x10, x11, x12, x13, x14, x15, x16] (.int i :: st) h Q := R_ild rfl rfl
theorem s189_38 : Runs 189 38 ls (.int i :: st) h Q ↔ Runs 189 39 ls (.long i.toInt64 :: st) h Q := R_i2l rfl
theorem s189_39 : Runs 189 39 ls st h Q ↔ Runs 189 40 ls (.long 0 :: st) h Q := R_lconst rfl rfl
theorem s189_40 : Runs 189 40 ls st h Q ↔ Runs 189 41 ls (.long 1 :: st) h Q := R_lconst rfl rfl
theorem s189_41 (hs : zsumc st ≤ 8) : Runs 189 41 ls (.long u2 :: .long u1 :: .long u0 :: st) h Q ↔ Runs 126 0 [some (.long u0), none, some (.long u1), none, some (.long u2), none] [] h (fun v h2 => Runs 189 44 ls (v.toList ++ st) h2 Q) := R_calls (rest := st) rfl rfl rfl (by simp) rfl rfl rfl rfl hs
theorem s189_44 : Runs 189 44 ls (.int i :: st) h Q ↔ if ¬ i = 0 then Runs 189 50 ls st h Q else Runs 189 47 ls st h Q := R_ifne rfl rfl
theorem s189_47 : Runs 189 47 ls st h Q ↔ Runs 189 49 ls (.int (-3) :: st) h Q := R_bipush rfl (by decide)
theorem s189_49 : Runs 189 49 ls [.int i] h Q ↔ Q (some (.int i)) h := R_iret rfl rfl
theorem s189_50 : Runs 189 50 ls st h Q ↔ Runs 189 51 ls (.long 0 :: st) h Q := R_lconst rfl rfl
theorem s189_51 : Runs 189 51 [x0, x1, x2, x3, x4, x5, x6, x7, x8, x9, x10, x11, x12, x13, x14, x15, x16] (.long u :: st) h Q ↔ Runs 189 53 [x0, x1, x2, x3, zdrop x4, some (.long u), none, x7, x8, x9, x10, x11, x12, x13, x14, x15, x16] st h Q := R_lst rfl rfl rfl
theorem s189_53 : Runs 189 53 ls st h Q ↔ Runs 189 54 ls (.long 0 :: st) h Q := R_lconst rfl rfl
theorem s189_54 : Runs 189 54 [x0, x1, x2, x3, x4, x5, x6, x7, x8, x9, x10, x11, x12, x13, x14, x15, x16] (.long u :: st) h Q ↔ Runs 189 56 [x0, x1, x2, x3, x4, x5, zdrop x6, some (.long u), none, x9, x10, x11, x12, x13, x14, x15, x16] st h Q := R_lst rfl rfl rfl
theorem s189_56 : Runs 189 56 ls st h Q ↔ Runs 189 57 ls (.long 1 :: st) h Q := R_lconst rfl rfl
theorem s189_57 : Runs 189 57 [x0, x1, x2, x3, x4, x5, x6, x7, x8, x9, x10, x11, x12, x13, x14, x15, x16] (.long u :: st) h Q ↔ Runs 189 59 [x0, x1, x2, x3, x4, x5, x6, x7, zdrop x8, some (.long u), none, x11, x12, x13, x14, x15, x16] st h Q := R_lst rfl rfl rfl
theorem s189_59 : Runs 189 59 ls st h Q ↔ Runs 189 60 ls (.int 0 :: st) h Q := R_iconst rfl rfl
theorem s189_60 : Runs 189 60 [x0, x1, x2, x3, x4, x5, x6, x7, x8, x9, x10, x11, x12, x13, x14, x15, x16] (.int i :: st) h Q ↔ Runs 189 62 [x0, x1, x2, x3, x4, x5, x6, x7, x8, x9, zdrop x10, some (.int i), x12, x13, x14, x15, x16] st h Q := R_ist rfl rfl rfl
theorem s189_62 : Runs 189 62 [x0, x1, x2, x3, x4, x5, x6, x7, x8, x9, x10, some (.int i), x12, x13, x14, x15, x16] st h Q ↔ Runs 189 64 [x0, x1, x2, x3, x4, x5, x6, x7, x8, x9, x10, some (.int i), x12, x13, x14, x15, x16] (.int i :: st) h Q := R_ild rfl rfl
theorem s189_64 : Runs 189 64 [x0, some (.int i), x2, x3, x4, x5, x6, x7, x8, x9, x10, x11, x12, x13, x14, x15, x16] st h Q ↔ Runs 189 65 [x0, some (.int i), x2, x3, x4, x5, x6, x7, x8, x9, x10, x11, x12, x13, x14, x15, x16] (.int i :: st) h Q := R_ildn rfl rfl
theorem s189_65 : Runs 189 65 ls (.int j :: .int i :: st) h Q ↔ if j < i then Runs 189 155 ls st h Q else Runs 189 68 ls st h Q := R_icgt rfl rfl
theorem s189_68 : Runs 189 68 [x0, x1, x2, x3, x4, x5, x6, x7, x8, some (.long u), x10, x11, x12, x13, x14, x15, x16] st h Q ↔ Runs 189 70 [x0, x1, x2, x3, x4, x5, x6, x7, x8, some (.long u), x10, x11, x12, x13, x14, x15, x16] (.long u :: st) h Q := R_lld rfl rfl
theorem s189_70 : Runs 189 70 [x0, x1, x2, x3, x4, x5, x6, x7, x8, x9, x10, x11, x12, x13, x14, x15, x16] (.long u :: st) h Q ↔ Runs 189 72 [x0, x1, x2, x3, x4, x5, x6, x7, x8, x9, x10, zdrop x11, some (.long u), none, x14, x15, x16] st h Q := R_lst rfl rfl rfl
theorem s189_72 : Runs 189 72 ls st h Q ↔ Runs 189 73 ls (.int 0 :: st) h Q := R_iconst rfl rfl
theorem s189_73 : Runs 189 73 [x0, x1, x2, x3, x4, x5, x6, x7, x8, x9, x10, x11, x12, x13, x14, x15, x16] (.int i :: st) h Q ↔ Runs 189 75 [x0, x1, x2, x3, x4, x5, x6, x7, x8, x9, x10, x11, x12, zdrop x13, some (.int i), x15, x16] st h Q := R_ist rfl rfl rfl
theorem s189_75 : Runs 189 75 [x0, x1, x2, x3, x4, x5, x6, x7, x8, x9, x10, x11, x12, x13, some (.int i), x15, x16] st h Q ↔ Runs 189 77 [x0, x1, x2, x3, x4, x5, x6, x7, x8, x9, x10, x11, x12, x13, some (.int i), x15, x16] (.int i :: st) h Q := R_ild rfl rfl
theorem s189_77 : Runs 189 77 [x0, some (.int i), x2, x3, x4, x5, x6, x7, x8, x9, x10, x11, x12, x13, x14, x15, x16] st h Q ↔ Runs 189 78 [x0, some (.int i), x2, x3, x4, x5, x6, x7, x8, x9, x10, x11, x12, x13, x14, x15, x16] (.int i :: st) h Q := R_ildn rfl rfl
theorem s189_78 : Runs 189 78 ls (.int j :: .int i :: st) h Q ↔ if j ≤ i then Runs 189 109 ls st h Q else Runs 189 81 ls st h Q := R_icge rfl rfl
theorem s189_81 : Runs 189 81 [x0, x1, x2, x3, x4, x5, x6, x7, x8, x9, x10, x11, some (.long u), x13, x14, x15, x16] st h Q ↔ Runs 189 83 [x0, x1, x2, x3, x4, x5, x6, x7, x8, x9, x10, x11, some (.long u), x13, x14, x15, x16] (.long u :: st) h Q := R_lld rfl rfl
theorem s189_83 : Runs 189 83 [x0, x1, x2, x3, x4, x5, x6, x7, x8, x9, x10, x11, x12, x13, some (.int i), x15, x16] st h Q ↔ Runs 189 85 [x0, x1, x2, x3, x4, x5, x6, x7, x8, x9, x10, x11, x12, x13, some (.int i), x15, x16] (.int i :: st) h Q := R_ild rfl rfl
theorem s189_85 : Runs 189 85 [x0, x1, x2, x3, x4, x5, x6, x7, x8, x9, x10, some (.int i), x12, x13, x14, x15, x16] st h Q ↔ Runs 189 87 [x0, x1, x2, x3, x4, x5, x6, x7, x8, x9, x10, some (.int i), x12, x13, x14, x15, x16] (.int i :: st) h Q := R_ild rfl rfl
theorem s189_87 : Runs 189 87 ls (.int j :: .int i :: st) h Q ↔ if j ≤ i then Runs 189 95 ls st h Q else Runs 189 90 ls st h Q := R_icge rfl rfl
theorem s189_90 : Runs 189 90 [x0, x1, some (.int i), x3, x4, x5, x6, x7, x8, x9, x10, x11, x12, x13, x14, x15, x16] st h Q ↔ Runs 189 91 [x0, x1, some (.int i), x3, x4, x5, x6, x7, x8, x9, x10, x11, x12, x13, x14, x15, x16] (.int i :: st) h Q := R_ildn rfl rfl
theorem s189_91 : Runs 189 91 ls (.int i :: st) h Q ↔ Runs 189 92 ls (.long i.toInt64 :: st) h Q := R_i2l rfl
theorem s189_92 : Runs 189 92 ls st h Q ↔ Runs 189 100 ls st h Q := R_goto rfl rfl
theorem s189_95 : Runs 189 95 ls st h Q ↔ Runs 189 97 ls (.int 10 :: st) h Q := R_bipush rfl (by decide)
theorem s189_97 : Runs 189 97 [x0, x1, some (.int i), x3, x4, x5, x6, x7, x8, x9, x10, x11, x12, x13, x14, x15, x16] st h Q ↔ Runs 189 98 [x0, x1, some (.int i), x3, x4, x5, x6, x7, x8, x9, x10, x11, x12, x13, x14, x15, x16] (.int i :: st) h Q := R_ildn rfl rfl
theorem s189_98 : Runs 189 98 ls (.int j :: .int i :: st) h Q ↔ Runs 189 99 ls (.int (i - j) :: st) h Q := R_isub rfl
theorem s189_99 : Runs 189 99 ls (.int i :: st) h Q ↔ Runs 189 100 ls (.long i.toInt64 :: st) h Q := R_i2l rfl
theorem s189_100 : Runs 189 100 ls (.long w :: .long u :: st) h Q ↔ Runs 189 101 ls (.long (u * w) :: st) h Q := R_lmul rfl
theorem s189_101 : Runs 189 101 [x0, x1, x2, x3, x4, x5, x6, x7, x8, x9, x10, x11, x12, x13, x14, x15, x16] (.long u :: st) h Q ↔ Runs 189 103 [x0, x1, x2, x3, x4, x5, x6, x7, x8, x9, x10, zdrop x11, some (.long u), none, x14, x15, x16] st h Q := R_lst rfl rfl rfl
theorem s189_103 : Runs 189 103 [x0, x1, x2, x3, x4, x5, x6, x7, x8, x9, x10, x11, x12, x13, some (.int i), x15, x16] st h Q ↔ Runs 189 106 [x0, x1, x2, x3, x4, x5, x6, x7, x8, x9, x10, x11, x12, zdrop x13, some (.int (i + 1)), x15, x16] st h Q := R_iinc rfl rfl rfl rfl rfl
theorem s189_106 : Runs 189 106 ls st h Q ↔ Runs 189 75 ls st h Q := R_goto rfl rfl
theorem s189_109 : Runs 189 109 [x0, x1, x2, x3, x4, some (.long u), x6, x7, x8, x9, x10, x11, x12, x13, x14, x15, x16] st h Q ↔ Runs 189 111 [x0, x1, x2, x3, x4, some (.long u), x6, x7, x8, x9, x10, x11, x12, x13, x14, x15, x16] (.long u :: st) h Q := R_lld rfl rfl
theorem s189_111 : Runs 189 111 [x0, x1, x2, x3, x4, x5, x6, x7, x8, x9, x10, some (.int i), x12, x13, x14, x15, x16] st h Q ↔ Runs 189 113 [x0, x1, x2, x3, x4, x5, x6, x7, x8, x9, x10, some (.int i), x12, x13, x14, x15, x16] (.int i :: st) h Q := R_ild rfl rfl
theorem s189_113 : Runs 189 113 [x0, x1, x2, some (.int i), x4, x5, x6, x7, x8, x9, x10, x11, x12, x13, x14, x15, x16] st h Q ↔ Runs 189 114 [x0, x1, x2, some (.int i), x4, x5, x6, x7, x8, x9, x10, x11, x12, x13, x14, x15, x16] (.int i :: st) h Q := R_ildn rfl rfl
theorem s189_114 : Runs 189 114 ls (.int j :: .int i :: st) h Q ↔ if j ≤ i then Runs 189 121 ls st h Q else Runs 189 117 ls st h Q := R_icge rfl rfl
theorem s189_117 : Runs 189 117 ls st h Q ↔ Runs 189 118 ls (.long 0 :: st) h Q := R_lconst rfl rfl
theorem s189_118 : Runs 189 118 ls st h Q ↔ Runs 189 123 ls st h Q := R_goto rfl rfl
theorem s189_121 : Runs 189 121 [x0, x1, x2, x3, x4, x5, x6, x7, x8, x9, x10, x11, some (.long u), x13, x14, x15, x16] st h Q ↔ Runs 189 123 [x0, x1, x2, x3, x4, x5, x6, x7, x8, x9, x10, x11, some (.long u), x13, x14, x15, x16] (.long u :: st) h Q := R_lld rfl rfl
theorem s189_123 : Runs 189 123 ls (.long w :: .long u :: st) h Q ↔ Runs 189 124 ls (.long (u + w) :: st) h Q := R_ladd rfl
theorem s189_124 : Runs 189 124 [x0, x1, x2, x3, x4, x5, x6, x7, x8, x9, x10, x11, x12, x13, x14, x15, x16] (.long u :: st) h Q ↔ Runs 189 126 [x0, x1, x2, x3, zdrop x4, some (.long u), none, x7, x8, x9, x10, x11, x12, x13, x14, x15, x16] st h Q := R_lst rfl rfl rfl
theorem s189_126 : Runs 189 126 [x0, x1, x2, x3, x4, x5, x6, some (.long u), x8, x9, x10, x11, x12, x13, x14, x15, x16] st h Q ↔ Runs 189 128 [x0, x1, x2, x3, x4, x5, x6, some (.long u), x8, x9, x10, x11, x12, x13, x14, x15, x16] (.long u :: st) h Q := R_lld rfl rfl
theorem s189_128 : Runs 189 128 [x0, x1, x2, x3, x4, x5, x6, x7, x8, x9, x10, x11, some (.long u), x13, x14, x15, x16] st h Q ↔ Runs 189 130 [x0, x1, x2, x3, x4, x5, x6, x7, x8, x9, x10, x11, some (.long u), x13, x14, x15, x16] (.long u :: st) h Q := R_lld rfl rfl
theorem s189_130 : Runs 189 130 ls (.long w :: .long u :: st) h Q ↔ Runs 189 131 ls (.long (u + w) :: st) h Q := R_ladd rfl
theorem s189_131 : Runs 189 131 [x0, x1, x2, x3, x4, x5, x6, x7, x8, x9, x10, x11, x12, x13, x14, x15, x16] (.long u :: st) h Q ↔ Runs 189 133 [x0, x1, x2, x3, x4, x5, zdrop x6, some (.long u), none, x9, x10, x11, x12, x13, x14, x15, x16] st h Q := R_lst rfl rfl rfl
theorem s189_133 : Runs 189 133 [x0, x1, x2, x3, x4, x5, x6, x7, x8, some (.long u), x10, x11, x12, x13, x14, x15, x16] st h Q ↔ Runs 189 135 [x0, x1, x2, x3, x4, x5, x6, x7, x8, some (.long u), x10, x11, x12, x13, x14, x15, x16] (.long u :: st) h Q := R_lld rfl rfl
theorem s189_135 : Runs 189 135 [x0, some (.int i), x2, x3, x4, x5, x6, x7, x8, x9, x10, x11, x12, x13, x14, x15, x16] st h Q ↔ Runs 189 136 [x0, some (.int i), x2, x3, x4, x5, x6, x7, x8, x9, x10, x11, x12, x13, x14, x15, x16] (.int i :: st) h Q := R_ildn rfl rfl
theorem s189_136 : Runs 189 136 [x0, x1, x2, x3, x4, x5, x6, x7, x8, x9, x10, some (.int i), x12, x13, x14, x15, x16] st h Q ↔ Runs 189 138 [x0, x1, x2, x3, x4, x5, x6, x7, x8, x9, x10, some (.int i), x12, x13, x14, x15, x16] (.int i :: st) h Q := R_ild rfl rfl
theorem s189_138 : Runs 189 138 ls (.int j :: .int i :: st) h Q ↔ Runs 189 139 ls (.int (i - j) :: st) h Q := R_isub rfl
theorem s189_139 : Runs 189 139 ls (.int i :: st) h Q ↔ Runs 189 140 ls (.long i.toInt64 :: st) h Q := R_i2l rfl
theorem s189_140 : Runs 189 140 ls (.long w :: .long u :: st) h Q ↔ Runs 189 141 ls (.long (u * w) :: st) h Q := R_lmul rfl
theorem s189_141 : Runs 189 141 [x0, x1, x2, x3, x4, x5, x6, x7, x8, x9, x10, some (.int i), x12, x13, x14, x15, x16] st h Q ↔ Runs 189 143 [x0, x1, x2, x3, x4, x5, x6, x7, x8, x9, x10, some (.int i), x12, x13, x14, x15, x16] (.int i :: st) h Q := R_ild rfl rfl
theorem s189_143 : Runs 189 143 ls st h Q ↔ Runs 189 144 ls (.int 1 :: st) h Q := R_iconst rfl rfl
theorem s189_144 : Runs 189 144 ls (.int j :: .int i :: st) h Q ↔ Runs 189 145 ls (.int (i + j) :: st) h Q := R_iadd rfl
theorem s189_145 : Runs 189 145 ls (.int i :: st) h Q ↔ Runs 189 146 ls (.long i.toInt64 :: st) h Q := R_i2l rfl
theorem s189_146 : Runs 189 146 ls (.long w :: .long u :: st) h Q ↔ (¬ w = 0 ∧ Runs 189 147 ls (.long (u / w) :: st) h Q) := R_ldiv rfl
theorem s189_147 : Runs 189 147 [x0, x1, x2, x3, x4, x5, x6, x7, x8, x9, x10, x11, x12, x13, x14, x15, x16] (.long u :: st) h Q ↔ Runs 189 149 [x0, x1, x2, x3, x4, x5, x6, x7, zdrop x8, some (.long u), none, x11, x12, x13, x14, x15, x16] st h Q := R_lst rfl rfl rfl
theorem s189_149 : Runs 189 149 [x0, x1, x2, x3, x4, x5, x6, x7, x8, x9, x10, some (.int i), x12, x13, x14, x15, x16] st h Q ↔ Runs 189 152 [x0, x1, x2, x3, x4, x5, x6, x7, x8, x9, zdrop x10, some (.int (i + 1)), x12, x13, x14, x15, x16] st h Q := R_iinc rfl rfl rfl rfl rfl
theorem s189_152 : Runs 189 152 ls st h Q ↔ Runs 189 62 ls st h Q := R_goto rfl rfl
theorem s189_155 : Runs 189 155 [x0, x1, x2, x3, x4, some (.long u), x6, x7, x8, x9, x10, x11, x12, x13, x14, x15, x16] st h Q ↔ Runs 189 157 [x0, x1, x2, x3, x4, some (.long u), x6, x7, x8, x9, x10, x11, x12, x13, x14, x15, x16] (.long u :: st) h Q := R_lld rfl rfl
theorem s189_157 : Runs 189 157 [x0, x1, x2, x3, x4, x5, x6, x7, x8, x9, x10, x11, x12, x13, x14, x15, x16] (.long u :: st) h Q ↔ Runs 189 159 [x0, x1, x2, x3, x4, x5, x6, x7, x8, x9, zdrop x10, some (.long u), none, x13, x14, x15, x16] st h Q := R_lst rfl rfl rfl
theorem s189_159 : Runs 189 159 [x0, x1, x2, x3, x4, x5, x6, some (.long u), x8, x9, x10, x11, x12, x13, x14, x15, x16] st h Q ↔ Runs 189 161 [x0, x1, x2, x3, x4, x5, x6, some (.long u), x8, x9, x10, x11, x12, x13, x14, x15, x16] (.long u :: st) h Q := R_lld rfl rfl
theorem s189_161 : Runs 189 161 [x0, x1, x2, x3, x4, x5, x6, x7, x8, x9, x10, x11, x12, x13, x14, x15, x16] (.long u :: st) h Q ↔ Runs 189 163 [x0, x1, x2, x3, x4, x5, x6, x7, x8, x9, x10, x11, zdrop x12, some (.long u), none, x15, x16] st h Q := R_lst rfl rfl rfl
theorem s189_163 : Runs 189 163 [x0, x1, x2, x3, x4, x5, x6, x7, x8, x9, x10, x11, x12, some (.long u), x14, x15, x16] st h Q ↔ Runs 189 165 [x0, x1, x2, x3, x4, x5, x6, x7, x8, x9, x10, x11, x12, some (.long u), x14, x15, x16] (.long u :: st) h Q := R_lld rfl rfl
theorem s189_165 : Runs 189 165 ls st h Q ↔ Runs 189 166 ls (.long 0 :: st) h Q := R_lconst rfl rfl
theorem s189_166 : Runs 189 166 ls (.long w :: .long u :: st) h Q ↔ Runs 189 167 ls (.int (lg_cmp u w) :: st) h Q := R_lcmp rfl
theorem s189_167 : Runs 189 167 ls (.int i :: st) h Q ↔ if i = 0 then Runs 189 188 ls st h Q else Runs 189 170 ls st h Q := R_ifeq rfl rfl
theorem s189_170 : Runs 189 170 [x0, x1, x2, x3, x4, x5, x6, x7, x8, x9, x10, some (.long u), x12, x13, x14, x15, x16] st h Q ↔ Runs 189 172 [x0, x1, x2, x3, x4, x5, x6, x7, x8, x9, x10, some (.long u), x12, x13, x14, x15, x16] (.long u :: st) h Q := R_lld rfl rfl
theorem s189_172 : Runs 189 172 [x0, x1, x2, x3, x4, x5, x6, x7, x8, x9, x10, x11, x12, some (.long u), x14, x15, x16] st h Q ↔ Runs 189 174 [x0, x1, x2, x3, x4, x5, x6, x7, x8, x9, x10, x11, x12, some (.long u), x14, x15, x16] (.long u :: st) h Q := R_lld rfl rfl
theorem s189_174 : Runs 189 174 ls (.long w :: .long u :: st) h Q ↔ (¬ w = 0 ∧ Runs 189 175 ls (.long (u - u / w * w) :: st) h Q) := R_lrem rfl
theorem s189_175 : Runs 189 175 [x0, x1, x2, x3, x4, x5, x6, x7, x8, x9, x10, x11, x12, x13, x14, x15, x16] (.long u :: st) h Q ↔ Runs 189 177 [x0, x1, x2, x3, x4, x5, x6, x7, x8, x9, x10, x11, x12, x13, zdrop x14, some (.long u), none] st h Q := R_lst rfl rfl rfl
theorem s189_177 : Runs 189 177 [x0, x1, x2, x3, x4, x5, x6, x7, x8, x9, x10, x11, x12, some (.long u), x14, x15, x16] st h Q ↔ Runs 189 179 [x0, x1, x2, x3, x4, x5, x6, x7, x8, x9, x10, x11, x12, some (.long u), x14, x15, x16] (.long u :: st) h Q := R_lld rfl rfl
theorem s189_179 : Runs 189 179 [x0, x1, x2, x3, x4, x5, x6, x7, x8, x9, x10, x11, x12, x13, x14, x15, x16] (.long u :: st) h Q ↔ Runs 189 181 [x0, x1, x2, x3, x4, x5, x6, x7, x8, x9, zdrop x10, some (.long u), none, x13, x14, x15, x16] st h Q := R_lst rfl rfl rfl
theorem s189_181 : Runs 189 181 [x0, x1, x2, x3, x4, x5, x6, x7, x8, x9, x10, x11, x12, x13, x14, some (.long u), x16] st h Q ↔ Runs 189 183 [x0, x1, x2, x3, x4, x5, x6, x7, x8, x9, x10, x11, x12, x13, x14, some (.long u), x16] (.long u :: st) h Q := R_lld rfl rfl
theorem s189_183 : Runs 189 183 [x0, x1, x2, x3, x4, x5, x6, x7, x8, x9, x10, x11, x12, x13, x14, x15, x16] (.long u :: st) h Q ↔ Runs 189 185 [x0, x1, x2, x3, x4, x5, x6, x7, x8, x9, x10, x11, zdrop x12, some (.long u), none, x15, x16] st h Q := R_lst rfl rfl rfl
theorem s189_185 : Runs 189 185 ls st h Q ↔ Runs 189 163 ls st h Q := R_goto rfl rfl
theorem s189_188 : Runs 189 188 [x0, x1, x2, x3, some (.int i), x5, x6, x7, x8, x9, x10, x11, x12, x13, x14, x15, x16] st h Q ↔ Runs 189 190 [x0, x1, x2, x3, some (.int i), x5, x6, x7, x8, x9, x10, x11, x12, x13, x14, x15, x16] (.int i :: st) h Q := R_ild rfl rfl
theorem s189_190 : Runs 189 190 ls (.int i :: st) h Q ↔ if ¬ i = 0 then Runs 189 201 ls st h Q else Runs 189 193 ls st h Q := R_ifne rfl rfl
theorem s189_193 : Runs 189 193 [x0, x1, x2, x3, x4, some (.long u), x6, x7, x8, x9, x10, x11, x12, x13, x14, x15, x16] st h Q ↔ Runs 189 195 [x0, x1, x2, x3, x4, some (.long u), x6, x7, x8, x9, x10, x11, x12, x13, x14, x15, x16] (.long u :: st) h Q := R_lld rfl rfl
theorem s189_195 : Runs 189 195 [x0, x1, x2, x3, x4, x5, x6, x7, x8, x9, x10, some (.long u), x12, x13, x14, x15, x16] st h Q ↔ Runs 189 197 [x0, x1, x2, x3, x4, x5, x6, x7, x8, x9, x10, some (.long u), x12, x13, x14, x15, x16] (.long u :: st) h Q := R_lld rfl rfl
theorem s189_197 : Runs 189 197 ls (.long w :: .long u :: st) h Q ↔ (¬ w = 0 ∧ Runs 189 198 ls (.long (u / w) :: st) h Q) := R_ldiv rfl
theorem s189_198 : Runs 189 198 ls st h Q ↔ Runs 189 206 ls st h Q := R_goto rfl rfl
theorem s189_201 : Runs 189 201 [x0, x1, x2, x3, x4, x5, x6, some (.long u), x8, x9, x10, x11, x12, x13, x14, x15, x16] st h Q ↔ Runs 189 203 [x0, x1, x2, x3, x4, x5, x6, some (.long u), x8, x9, x10, x11, x12, x13, x14, x15, x16] (.long u :: st) h Q := R_lld rfl rfl
theorem s189_203 : Runs 189 203 [x0, x1, x2, x3, x4, x5, x6, x7, x8, x9, x10, some (.long u), x12, x13, x14, x15, x16] st h Q ↔ Runs 189 205 [x0, x1, x2, x3, x4, x5, x6, x7, x8, x9, x10, some (.long u), x12, x13, x14, x15, x16] (.long u :: st) h Q := R_lld rfl rfl
theorem s189_205 : Runs 189 205 ls (.long w :: .long u :: st) h Q ↔ (¬ w = 0 ∧ Runs 189 206 ls (.long (u / w) :: st) h Q) := R_ldiv rfl
theorem s189_206 : Runs 189 206 ls (.long u :: st) h Q ↔ Runs 189 207 ls (.int u.toInt32 :: st) h Q := R_l2i rfl
theorem s189_207 : Runs 189 207 ls [.int i] h Q ↔ Q (some (.int i)) h := R_iret rfl rfl
theorem s190_0 : Runs 190 0 [some (.int i)] st h Q ↔ Runs 190 1 [some (.int i)] (.int i :: st) h Q := R_ildn rfl rfl
theorem s190_1 : Runs 190 1 ls (.int i :: st) h Q ↔ Runs 190 2 ls (.long i.toInt64 :: st) h Q := R_i2l rfl
theorem s190_2 : Runs 190 2 ls st h Q ↔ Runs 190 3 ls (.long 0 :: st) h Q := R_lconst rfl rfl
theorem s190_3 : Runs 190 3 ls st h Q ↔ Runs 190 6 ls (.long 2 :: st) h Q := R_ldc2 rfl rfl
theorem s190_6 (hs : zsumc st ≤ 8) : Runs 190 6 ls (.long u2 :: .long u1 :: .long u0 :: st) h Q ↔ Runs 126 0 [some (.long u0), none, some (.long u1), none, some (.long u2), none] [] h (fun v h2 => Runs 190 9 ls (v.toList ++ st) h2 Q) := R_calls (rest := st) rfl rfl rfl (by simp) rfl rfl rfl rfl hs
theorem s190_9 (hx : i = 0 ∨ i = 1) : Runs 190 9 ls [.int i] h Q ↔ Q (some (.int i)) h := R_zret rfl rfl hx
theorem s191_0 : Runs 191 0 [x0, some (.int i), x2, x3] st h Q ↔ Runs 191 1 [x0, some (.int i), x2, x3] (.int i :: st) h Q := R_ildn rfl rfl
theorem s191_1 (hs : zsumc st ≤ 8) : Runs 191 1 ls (.int i0 :: st) h Q ↔ Runs 190 0 [some (.int i0)] [] h (fun v h2 => Runs 191 4 ls (v.toList ++ st) h2 Q) := R_calls (rest := st) rfl rfl rfl (by simp) rfl rfl rfl rfl hs
theorem s191_4 : Runs 191 4 ls (.int i :: st) h Q ↔ if ¬ i = 0 then Runs 191 10 ls st h Q else Runs 191 7 ls st h Q := R_ifne rfl rfl
theorem s191_7 : Runs 191 7 ls st h Q ↔ Runs 191 9 ls (.int (-2) :: st) h Q := R_bipush rfl (by decide)
theorem s191_9 : Runs 191 9 ls [.int i] h Q ↔ Q (some (.int i)) h := R_iret rfl rfl
theorem s191_10 : Runs 191 10 [x0, x1, some (.int i), x3] st h Q ↔ Runs 191 11 [x0, x1, some (.int i), x3] (.int i :: st) h Q := R_ildn rfl rfl
theorem s191_11 : Runs 191 11 ls st h Q ↔ Runs 191 13 ls (.int 12 :: st) h Q := R_bipush rfl (by decide)
theorem s191_13 : Runs 191 13 ls (.int j :: .int i :: st) h Q ↔ if i ≤ j then Runs 191 19 ls st h Q else Runs 191 16 ls st h Q := R_icle rfl rfl
theorem s191_16 : Runs 191 16 ls st h Q ↔ Runs 191 18 ls (.int (-3) :: st) h Q := R_bipush rfl (by decide)
theorem s191_18 : Runs 191 18 ls [.int i] h Q ↔ Q (some (.int i)) h := R_iret rfl rfl
theorem s191_19 : Runs 191 19 [x0, x1, some (.int i), x3] st h Q ↔ Runs 191 20 [x0, x1, some (.int i), x3] (.int i :: st) h Q := R_ildn rfl rfl
theorem s191_20 : Runs 191 20 ls (.int i :: st) h Q ↔ if 0 ≤ i then Runs 191 26 ls st h Q else Runs 191 23 ls st h Q := R_ifge rfl rfl
theorem s191_23 : Runs 191 23 ls st h Q ↔ Runs 191 25 ls (.int (-15) :: st) h Q := R_bipush rfl (by decide)
theorem s191_25 : Runs 191 25 ls [.int i] h Q ↔ Q (some (.int i)) h := R_iret rfl rfl
theorem s191_26 : Runs 191 26 [some (.ref a), x1, x2, x3] st h Q ↔ Runs 191 27 [some (.ref a), x1, x2, x3] (.ref a :: st) h Q := R_aldn rfl rfl
theorem s191_26q : Runs 191 26 [some (zrf r), x1, x2, x3] st h Q ↔ Runs 191 27 [some (zrf r), x1, x2, x3] (zrf r :: st) h Q := R_aldnq rfl rfl
theorem s191_27 (ht : tg a = 10) : Runs 191 27 ls (.ref a :: st) (n, tg, ln, I, J, O) Q ↔ Runs 191 30 ls (zrf (O a 8) :: st) (n, tg, ln, I, J, O) Q := R_getr rfl rfl rfl rfl ht
theorem s191_30 : Runs 191 30 [x0, some (.int i), x2, x3] st h Q ↔ Runs 191 31 [x0, some (.int i), x2, x3] (.int i :: st) h Q := R_ildn rfl rfl
theorem s191_31 : Runs 191 31 [x0, x1, some (.int i), x3] st h Q ↔ Runs 191 32 [x0, x1, some (.int i), x3] (.int i :: st) h Q := R_ildn rfl rfl
theorem s191_32 (ht : tg a = 20) : Runs 191 32 ls (.int j :: .int i :: .ref a :: st) (n, tg, ln, I, J, O) Q ↔ ((0 ≤ i ∧ i < Int32.ofNat (ln a)) ∧ Runs 191 33 ls st (n, tg, ln, zu I a i j, J, O) Q) := R_iast rfl ht
theorem s191_33 : Runs 191 33 ls st h Q ↔ Runs 191 34 ls (.int 0 :: st) h Q := R_iconst rfl rfl
theorem s191_34 : Runs 191 34 [x0, x1, x2, x3] (.int i :: st) h Q ↔ Runs 191 35 [x0, x1, zdrop x2, some (.int i)] st h Q := R_istn rfl rfl rfl
theorem s191_35 : Runs 191 35 [x0, x1, x2, some (.int i)] st h Q ↔ Runs 191 36 [x0, x1, x2, some (.int i)] (.int i :: st) h Q := R_ildn rfl rfl
theorem s191_36 : Runs 191 36 ls st h Q ↔ Runs 191 38 ls (.int 12 :: st) h Q := R_bipush rfl (by decide)
theorem s191_38 : Runs 191 38 ls (.int j :: .int i :: st) h Q ↔ if j ≤ i then Runs 191 59 ls st h Q else Runs 191 41 ls st h Q := R_icge rfl rfl
theorem s191_41 : Runs 191 41 [some (.ref a), x1, x2, x3] st h Q ↔ Runs 191 42 [some (.ref a), x1, x2, x3] (.ref a :: st) h Q := R_aldn rfl rfl
theorem s191_41q : Runs 191 41 [some (zrf r), x1, x2, x3] st h Q ↔ Runs 191 42 [some (zrf r), x1, x2, x3] (zrf r :: st) h Q := R_aldnq rfl rfl
theorem s191_42 (ht : tg a = 10) : Runs 191 42 ls (.ref a :: st) (n, tg, ln, I, J, O) Q ↔ Runs 191 45 ls (zrf (O a 9) :: st) (n, tg, ln, I, J, O) Q := R_getr rfl rfl rfl rfl ht
theorem s191_45 : Runs 191 45 ls st h Q ↔ Runs 191 47 ls (.int 12 :: st) h Q := R_bipush rfl (by decide)
theorem s191_47 : Runs 191 47 [x0, some (.int i), x2, x3] st h Q ↔ Runs 191 48 [x0, some (.int i), x2, x3] (.int i :: st) h Q := R_ildn rfl rfl
theorem s191_48 : Runs 191 48 ls (.int j :: .int i :: st) h Q ↔ Runs 191 49 ls (.int (i * j) :: st) h Q := R_imul rfl
theorem s191_49 : Runs 191 49 [x0, x1, x2, some (.int i)] st h Q ↔ Runs 191 50 [x0, x1, x2, some (.int i)] (.int i :: st) h Q := R_ildn rfl rfl
theorem s191_50 : Runs 191 50 ls (.int j :: .int i :: st) h Q ↔ Runs 191 51 ls (.int (i + j) :: st) h Q := R_iadd rfl
theorem s191_51 : Runs 191 51 ls st h Q ↔ Runs 191 52 ls (.int 0 :: st) h Q := R_iconst rfl rfl
theorem s191_52 (ht : tg a = 20) : Runs 191 52 ls (.int j :: .int i :: .ref a :: st) (n, tg, ln, I, J, O) Q ↔ ((0 ≤ i ∧ i < Int32.ofNat (ln a)) ∧ Runs 191 53 ls st (n, tg, ln, zu I a i j, J, O) Q) := R_iast rfl ht
theorem s191_53 : Runs 191 53 [x0, x1, x2, some (.int i)] st h Q ↔ Runs 191 56 [x0, x1, zdrop x2, some (.int (i + 1))] st h Q := R_iinc rfl rfl rfl rfl rfl
theorem s191_56 : Runs 191 56 ls st h Q ↔ Runs 191 35 ls st h Q := R_goto rfl rfl
theorem s191_59 : Runs 191 59 [x0, x1, some (.int i), x3] st h Q ↔ Runs 191 60 [x0, x1, some (.int i), x3] (.int i :: st) h Q := R_ildn rfl rfl
theorem s191_60 : Runs 191 60 ls [.int i] h Q ↔ Q (some (.int i)) h := R_iret rfl rfl
theorem s192_0 : Runs 192 0 [some (.ref a), x1, x2] st h Q ↔ Runs 192 1 [some (.ref a), x1, x2] (.ref a :: st) h Q := R_aldn rfl rfl
theorem s192_0q : Runs 192 0 [some (zrf r), x1, x2] st h Q ↔ Runs 192 1 [some (zrf r), x1, x2] (zrf r :: st) h Q := R_aldnq rfl rfl
theorem s192_1 (ht : tg a = 10) : Runs 192 1 ls (.ref a :: st) (n, tg, ln, I, J, O) Q ↔ Runs 192 4 ls (zrf (O a 8) :: st) (n, tg, ln, I, J, O) Q := R_getr rfl rfl rfl rfl ht
theorem s192_4 : Runs 192 4 [x0, some (.int i), x2] st h Q ↔ Runs 192 5 [x0, some (.int i), x2] (.int i :: st) h Q := R_ildn rfl rfl
theorem s192_5 (ht : tg a = 20) : Runs 192 5 ls (.int i :: .ref a :: st) (n, tg, ln, I, J, O) Q ↔ ((0 ≤ i ∧ i < Int32.ofNat (ln a)) ∧ Runs 192 6 ls (.int (I a i) :: st) (n, tg, ln, I, J, O) Q) := R_iald rfl ht
theorem s192_6 : Runs 192 6 ls (.int i :: st) h Q ↔ if 0 ≤ i then Runs 192 14 ls st h Q else Runs 192 9 ls st h Q := R_ifge rfl rfl
theorem s192_9 : Runs 192 9 ls st h Q ↔ Runs 192 11 ls (.int (-11) :: st) h Q := R_bipush rfl (by decide)
theorem s192_11 : Runs 192 11 ls st h Q ↔ Runs 192 38 ls st h Q := R_goto rfl rfl
theorem s192_14 : Runs 192 14 [x0, x1, some (.int i)] st h Q ↔ Runs 192 15 [x0, x1, some (.int i)] (.int i :: st) h Q := R_ildn rfl rfl
theorem s192_15 : Runs 192 15 ls (.int i :: st) h Q ↔ Runs 192 16 ls (.long i.toInt64 :: st) h Q := R_i2l rfl
theorem s192_16 : Runs 192 16 ls st h Q ↔ Runs 192 17 ls (.long 0 :: st) h Q := R_lconst rfl rfl
theorem s192_17 : Runs 192 17 [some (.ref a), x1, x2] st h Q ↔ Runs 192 18 [some (.ref a), x1, x2] (.ref a :: st) h Q := R_aldn rfl rfl
theorem s192_17q : Runs 192 17 [some (zrf r), x1, x2] st h Q ↔ Runs 192 18 [some (zrf r), x1, x2] (zrf r :: st) h Q := R_aldnq rfl rfl
theorem s192_18 (ht : tg a = 10) : Runs 192 18 ls (.ref a :: st) (n, tg, ln, I, J, O) Q ↔ Runs 192 21 ls (zrf (O a 8) :: st) (n, tg, ln, I, J, O) Q := R_getr rfl rfl rfl rfl ht
theorem s192_21 : Runs 192 21 [x0, some (.int i), x2] st h Q ↔ Runs 192 22 [x0, some (.int i), x2] (.int i :: st) h Q := R_ildn rfl rfl
theorem s192_22 (ht : tg a = 20) : Runs 192 22 ls (.int i :: .ref a :: st) (n, tg, ln, I, J, O) Q ↔ ((0 ≤ i ∧ i < Int32.ofNat (ln a)) ∧ Runs 192 23 ls (.int (I a i) :: st) (n, tg, ln, I, J, O) Q) := R_iald rfl ht
theorem s192_23 : Runs 192 23 ls st h Q ↔ Runs 192 24 ls (.int 1 :: st) h Q := R_iconst rfl rfl
theorem s192_24 : Runs 192 24 ls (.int j :: .int i :: st) h Q ↔ Runs 192 25 ls (.int (i - j) :: st) h Q := R_isub rfl
theorem s192_25 : Runs 192 25 ls (.int i :: st) h Q ↔ Runs 192 26 ls (.long i.toInt64 :: st) h Q := R_i2l rfl
theorem s192_26 (hs : zsumc st ≤ 8) : Runs 192 26 ls (.long u2 :: .long u1 :: .long u0 :: st) h Q ↔ Runs 126 0 [some (.long u0), none, some (.long u1), none, some (.long u2), none] [] h (fun v h2 => Runs 192 29 ls (v.toList ++ st) h2 Q) := R_calls (rest := st) rfl rfl rfl (by simp) rfl rfl rfl rfl hs
theorem s192_29 : Runs 192 29 ls (.int i :: st) h Q ↔ if i = 0 then Runs 192 36 ls st h Q else Runs 192 32 ls st h Q := R_ifeq rfl rfl
theorem s192_32 : Runs 192 32 ls st h Q ↔ Runs 192 33 ls (.int 0 :: st) h Q := R_iconst rfl rfl
theorem s192_33 : Runs 192 33 ls st h Q ↔ Runs 192 38 ls st h Q := R_goto rfl rfl
theorem s192_36 : Runs 192 36 ls st h Q ↔ Runs 192 38 ls (.int (-12) :: st) h Q := R_bipush rfl (by decide)
theorem s192_38 : Runs 192 38 ls [.int i] h Q ↔ Q (some (.int i)) h := R_iret rfl rfl
theorem s193_0 : Runs 193 0 [x0, some (.int i), x2, x3, x4, x5, x6] st h Q ↔ Runs 193 1 [x0, some (.int i), x2, x3, x4, x5, x6] (.int i :: st) h Q := R_ildn rfl rfl
theorem s193_1 (hs : zsumc st ≤ 8) : Runs 193 1 ls (.int i0 :: st) h Q ↔ Runs 190 0 [some (.int i0)] [] h (fun v h2 => Runs 193 4 ls (v.toList ++ st) h2 Q) := R_calls (rest := st) rfl rfl rfl (by simp) rfl rfl rfl rfl hs
theorem s193_4 : Runs 193 4 ls (.int i :: st) h Q ↔ if i = 0 then Runs 193 21 ls st h Q else Runs 193 7 ls st h Q := R_ifeq rfl rfl
theorem s193_7 : Runs 193 7 [x0, x1, x2, some (.int i), x4, x5, x6] st h Q ↔ Runs 193 8 [x0, x1, x2, some (.int i), x4, x5, x6] (.int i :: st) h Q := R_ildn rfl rfl
theorem s193_8 : Runs 193 8 ls st h Q ↔ Runs 193 9 ls (.int 1 :: st) h Q := R_iconst rfl rfl
theorem s193_9 : Runs 193 9 ls (.int j :: .int i :: st) h Q ↔ if ¬ i = j then Runs 193 24 ls st h Q else Runs 193 12 ls st h Q := R_icne rfl rfl
theorem s193_12 : Runs 193 12 [some (.ref a), x1, x2, x3, x4, x5, x6] st h Q ↔ Runs 193 13 [some (.ref a), x1, x2, x3, x4, x5, x6] (.ref a :: st) h Q := R_aldn rfl rfl
theorem s193_12q : Runs 193 12 [some (zrf r), x1, x2, x3, x4, x5, x6] st h Q ↔ Runs 193 13 [some (zrf r), x1, x2, x3, x4, x5, x6] (zrf r :: st) h Q := R_aldnq rfl rfl
theorem s193_13 : Runs 193 13 [x0, x1, x2, x3, some (.long u), x5, x6] st h Q ↔ Runs 193 15 [x0, x1, x2, x3, some (.long u), x5, x6] (.long u :: st) h Q := R_lld rfl rfl
theorem s193_15 (ht : tg a = 10) (hs : zsumc st ≤ 8) : Runs 193 15 ls (.long u0 :: .ref a :: st) (n, tg, ln, I, J, O) Q ↔ Runs 150 0 [some (.ref a), some (.long u0), none] [] (n, tg, ln, I, J, O) (fun v h2 => Runs 193 18 ls (v.toList ++ st) h2 Q) := R_callv (a := a) (rest := st) rfl rfl rfl rfl rfl rfl rfl ht hs
theorem s193_18 : Runs 193 18 ls (.int i :: st) h Q ↔ if ¬ i = 0 then Runs 193 24 ls st h Q else Runs 193 21 ls st h Q := R_ifne rfl rfl
theorem s193_21 : Runs 193 21 ls st h Q ↔ Runs 193 23 ls (.int (-2) :: st) h Q := R_bipush rfl (by decide)
theorem s193_23 : Runs 193 23 ls [.int i] h Q ↔ Q (some (.int i)) h := R_iret rfl rfl
theorem s193_24 : Runs 193 24 [x0, x1, x2, some (.int i), x4, x5, x6] st h Q ↔ Runs 193 25 [x0, x1, x2, some (.int i), x4, x5, x6] (.int i :: st) h Q := R_ildn rfl rfl
theorem s193_25 : Runs 193 25 ls (.int i :: st) h Q ↔ Runs 193 26 ls (.long i.toInt64 :: st) h Q := R_i2l rfl
theorem s193_26 : Runs 193 26 ls st h Q ↔ Runs 193 27 ls (.long 0 :: st) h Q := R_lconst rfl rfl
theorem s193_27 : Runs 193 27 ls st h Q ↔ Runs 193 30 ls (.long 2 :: st) h Q := R_ldc2 rfl rfl
theorem s193_30 (hs : zsumc st ≤ 8) : Runs 193 30 ls (.long u2 :: .long u1 :: .long u0 :: st) h Q ↔ Runs 126 0 [some (.long u0), none, some (.long u1), none, some (.long u2), none] [] h (fun v h2 => Runs 193 33 ls (v.toList ++ st) h2 Q) := R_calls (rest := st) rfl rfl rfl (by simp) rfl rfl rfl rfl hs
theorem s193_33 : Runs 193 33 ls (.int i :: st) h Q ↔ if ¬ i = 0 then Runs 193 39 ls st h Q else Runs 193 36 ls st h Q := R_ifne rfl rfl
theorem s193_36 : Runs 193 36 ls st h Q ↔ Runs 193 38 ls (.int (-3) :: st) h Q := R_bipush rfl (by decide)
theorem s193_38 : Runs 193 38 ls [.int i] h Q ↔ Q (some (.int i)) h := R_iret rfl rfl
theorem s193_39 : Runs 193 39 [some (.ref a), x1, x2, x3, x4, x5, x6] st h Q ↔ Runs 193 40 [some (.ref a), x1, x2, x3, x4, x5, x6] (.ref a :: st) h Q := R_aldn rfl rfl
theorem s193_39q : Runs 193 39 [some (zrf r), x1, x2, x3, x4, x5, x6] st h Q ↔ Runs 193 40 [some (zrf r), x1, x2, x3, x4, x5, x6] (zrf r :: st) h Q := R_aldnq rfl rfl
theorem s193_40 : Runs 193 40 [x0, some (.int i), x2, x3, x4, x5, x6] st h Q ↔ Runs 193 41 [x0, some (.int i), x2, x3, x4, x5, x6] (.int i :: st) h Q := R_ildn rfl rfl
theorem s193_41 : Runs 193 41 [x0, x1, some (.int i), x3, x4, x5, x6] st h Q ↔ Runs 193 42 [x0, x1, some (.int i), x3, x4, x5, x6] (.int i :: st) h Q := R_ildn rfl rfl
theorem s193_42 (ht : tg a = 10) (hs : zsumc st ≤ 8) : Runs 193 42 ls (.int i1 :: .int i0 :: .ref a :: st) (n, tg, ln, I, J, O) Q ↔ Runs 192 0 [some (.ref a), some (.int i0), some (.int i1)] [] (n, tg, ln, I, J, O) (fun v h2 => Runs 193 45 ls (v.toList ++ st) h2 Q) := R_callv (a := a) (rest := st) rfl rfl rfl rfl rfl rfl rfl ht hs
theorem s193_45 : Runs 193 45 [x0, x1, x2, x3, x4, x5, x6] (.int i :: st) h Q ↔ Runs 193 47 [x0, x1, x2, x3, x4, zdrop x5, some (.int i)] st h Q := R_ist rfl rfl rfl
theorem s193_47 : Runs 193 47 [x0, x1, x2, x3, x4, x5, some (.int i)] st h Q ↔ Runs 193 49 [x0, x1, x2, x3, x4, x5, some (.int i)] (.int i :: st) h Q := R_ild rfl rfl
theorem s193_49 : Runs 193 49 ls (.int i :: st) h Q ↔ if i = 0 then Runs 193 55 ls st h Q else Runs 193 52 ls st h Q := R_ifeq rfl rfl
theorem s193_52 : Runs 193 52 [x0, x1, x2, x3, x4, x5, some (.int i)] st h Q ↔ Runs 193 54 [x0, x1, x2, x3, x4, x5, some (.int i)] (.int i :: st) h Q := R_ild rfl rfl
theorem s193_54 : Runs 193 54 ls [.int i] h Q ↔ Q (some (.int i)) h := R_iret rfl rfl
theorem s193_55 : Runs 193 55 [some (.ref a), x1, x2, x3, x4, x5, x6] st h Q ↔ Runs 193 56 [some (.ref a), x1, x2, x3, x4, x5, x6] (.ref a :: st) h Q := R_aldn rfl rfl
theorem s193_55q : Runs 193 55 [some (zrf r), x1, x2, x3, x4, x5, x6] st h Q ↔ Runs 193 56 [some (zrf r), x1, x2, x3, x4, x5, x6] (zrf r :: st) h Q := R_aldnq rfl rfl
theorem s193_56 (ht : tg a = 10) : Runs 193 56 ls (.ref a :: st) (n, tg, ln, I, J, O) Q ↔ Runs 193 59 ls (zrf (O a 9) :: st) (n, tg, ln, I, J, O) Q := R_getr rfl rfl rfl rfl ht
theorem s193_59 : Runs 193 59 ls st h Q ↔ Runs 193 61 ls (.int 12 :: st) h Q := R_bipush rfl (by decide)
theorem s193_61 : Runs 193 61 [x0, some (.int i), x2, x3, x4, x5, x6] st h Q ↔ Runs 193 62 [x0, some (.int i), x2, x3, x4, x5, x6] (.int i :: st) h Q := R_ildn rfl rfl
theorem s193_62 : Runs 193 62 ls (.int j :: .int i :: st) h Q ↔ Runs 193 63 ls (.int (i * j) :: st) h Q := R_imul rfl
theorem s193_63 : Runs 193 63 [x0, x1, some (.int i), x3, x4, x5, x6] st h Q ↔ Runs 193 64 [x0, x1, some (.int i), x3, x4, x5, x6] (.int i :: st) h Q := R_ildn rfl rfl
theorem s193_64 : Runs 193 64 ls (.int j :: .int i :: st) h Q ↔ Runs 193 65 ls (.int (i + j) :: st) h Q := R_iadd rfl
theorem s193_65 : Runs 193 65 [x0, x1, x2, some (.int i), x4, x5, x6] st h Q ↔ Runs 193 66 [x0, x1, x2, some (.int i), x4, x5, x6] (.int i :: st) h Q := R_ildn rfl rfl
theorem s193_66 : Runs 193 66 ls st h Q ↔ Runs 193 67 ls (.int 2 :: st) h Q := R_iconst rfl rfl
theorem s193_67 : Runs 193 67 ls (.int j :: .int i :: st) h Q ↔ if ¬ i = j then Runs 193 74 ls st h Q else Runs 193 70 ls st h Q := R_icne rfl rfl
theorem s193_70 : Runs 193 70 ls st h Q ↔ Runs 193 71 ls (.int 0 :: st) h Q := R_iconst rfl rfl
theorem s193_71 : Runs 193 71 ls st h Q ↔ Runs 193 75 ls st h Q := R_goto rfl rfl
theorem s193_74 : Runs 193 74 ls st h Q ↔ Runs 193 75 ls (.int 1 :: st) h Q := R_iconst rfl rfl
theorem s193_75 (ht : tg a = 20) : Runs 193 75 ls (.int j :: .int i :: .ref a :: st) (n, tg, ln, I, J, O) Q ↔ ((0 ≤ i ∧ i < Int32.ofNat (ln a)) ∧ Runs 193 76 ls st (n, tg, ln, zu I a i j, J, O) Q) := R_iast rfl ht
theorem s193_76 : Runs 193 76 [some (.ref a), x1, x2, x3, x4, x5, x6] st h Q ↔ Runs 193 77 [some (.ref a), x1, x2, x3, x4, x5, x6] (.ref a :: st) h Q := R_aldn rfl rfl
theorem s193_76q : Runs 193 76 [some (zrf r), x1, x2, x3, x4, x5, x6] st h Q ↔ Runs 193 77 [some (zrf r), x1, x2, x3, x4, x5, x6] (zrf r :: st) h Q := R_aldnq rfl rfl
theorem s193_77 (ht : tg a = 10) : Runs 193 77 ls (.ref a :: st) (n, tg, ln, I, J, O) Q ↔ Runs 193 80 ls (zrf (O a 10) :: st) (n, tg, ln, I, J, O) Q := R_getr rfl rfl rfl rfl ht
theorem s193_80 : Runs 193 80 ls st h Q ↔ Runs 193 82 ls (.int 12 :: st) h Q := R_bipush rfl (by decide)
theorem s193_82 : Runs 193 82 [x0, some (.int i), x2, x3, x4, x5, x6] st h Q ↔ Runs 193 83 [x0, some (.int i), x2, x3, x4, x5, x6] (.int i :: st) h Q := R_ildn rfl rfl
theorem s193_83 : Runs 193 83 ls (.int j :: .int i :: st) h Q ↔ Runs 193 84 ls (.int (i * j) :: st) h Q := R_imul rfl
theorem s193_84 : Runs 193 84 [x0, x1, some (.int i), x3, x4, x5, x6] st h Q ↔ Runs 193 85 [x0, x1, some (.int i), x3, x4, x5, x6] (.int i :: st) h Q := R_ildn rfl rfl
theorem s193_85 : Runs 193 85 ls (.int j :: .int i :: st) h Q ↔ Runs 193 86 ls (.int (i + j) :: st) h Q := R_iadd rfl
theorem s193_86 : Runs 193 86 [x0, x1, x2, some (.int i), x4, x5, x6] st h Q ↔ Runs 193 87 [x0, x1, x2, some (.int i), x4, x5, x6] (.int i :: st) h Q := R_ildn rfl rfl
theorem s193_87 (ht : tg a = 20) : Runs 193 87 ls (.int j :: .int i :: .ref a :: st) (n, tg, ln, I, J, O) Q ↔ ((0 ≤ i ∧ i < Int32.ofNat (ln a)) ∧ Runs 193 88 ls st (n, tg, ln, zu I a i j, J, O) Q) := R_iast rfl ht
theorem s193_88 : Runs 193 88 [some (.ref a), x1, x2, x3, x4, x5, x6] st h Q ↔ Runs 193 89 [some (.ref a), x1, x2, x3, x4, x5, x6] (.ref a :: st) h Q := R_aldn rfl rfl
theorem s193_88q : Runs 193 88 [some (zrf r), x1, x2, x3, x4, x5, x6] st h Q ↔ Runs 193 89 [some (zrf r), x1, x2, x3, x4, x5, x6] (zrf r :: st) h Q := R_aldnq rfl rfl
theorem s193_89 (ht : tg a = 10) : Runs 193 89 ls (.ref a :: st) (n, tg, ln, I, J, O) Q ↔ Runs 193 92 ls (zrf (O a 11) :: st) (n, tg, ln, I, J, O) Q := R_getr rfl rfl rfl rfl ht
theorem s193_92 : Runs 193 92 ls st h Q ↔ Runs 193 94 ls (.int 12 :: st) h Q := R_bipush rfl (by decide)
theorem s193_94 : Runs 193 94 [x0, some (.int i), x2, x3, x4, x5, x6] st h Q ↔ Runs 193 95 [x0, some (.int i), x2, x3, x4, x5, x6] (.int i :: st) h Q := R_ildn rfl rfl
theorem s193_95 : Runs 193 95 ls (.int j :: .int i :: st) h Q ↔ Runs 193 96 ls (.int (i * j) :: st) h Q := R_imul rfl
theorem s193_96 : Runs 193 96 [x0, x1, some (.int i), x3, x4, x5, x6] st h Q ↔ Runs 193 97 [x0, x1, some (.int i), x3, x4, x5, x6] (.int i :: st) h Q := R_ildn rfl rfl
theorem s193_97 : Runs 193 97 ls (.int j :: .int i :: st) h Q ↔ Runs 193 98 ls (.int (i + j) :: st) h Q := R_iadd rfl
theorem s193_98 : Runs 193 98 [x0, x1, x2, x3, some (.long u), x5, x6] st h Q ↔ Runs 193 100 [x0, x1, x2, x3, some (.long u), x5, x6] (.long u :: st) h Q := R_lld rfl rfl
theorem s193_100 (ht : tg a = 21) : Runs 193 100 ls (.long u :: .int i :: .ref a :: st) (n, tg, ln, I, J, O) Q ↔ ((0 ≤ i ∧ i < Int32.ofNat (ln a)) ∧ Runs 193 101 ls st (n, tg, ln, I, zu J a i u, O) Q) := R_last rfl ht
theorem s193_101 : Runs 193 101 ls st h Q ↔ Runs 193 102 ls (.int 1 :: st) h Q := R_iconst rfl rfl
theorem s193_102 : Runs 193 102 ls [.int i] h Q ↔ Q (some (.int i)) h := R_iret rfl rfl
theorem s194_0 : Runs 194 0 [x0, some (.int i), x2, x3, x4] st h Q ↔ Runs 194 1 [x0, some (.int i), x2, x3, x4] (.int i :: st) h Q := R_ildn rfl rfl
theorem s194_1 (hs : zsumc st ≤ 8) : Runs 194 1 ls (.int i0 :: st) h Q ↔ Runs 190 0 [some (.int i0)] [] h (fun v h2 => Runs 194 4 ls (v.toList ++ st) h2 Q) := R_calls (rest := st) rfl rfl rfl (by simp) rfl rfl rfl rfl hs
theorem s194_4 : Runs 194 4 ls (.int i :: st) h Q ↔ if ¬ i = 0 then Runs 194 10 ls st h Q else Runs 194 7 ls st h Q := R_ifne rfl rfl
theorem s194_7 : Runs 194 7 ls st h Q ↔ Runs 194 9 ls (.int (-2) :: st) h Q := R_bipush rfl (by decide)
theorem s194_9 : Runs 194 9 ls [.int i] h Q ↔ Q (some (.int i)) h := R_iret rfl rfl
theorem s194_10 : Runs 194 10 [some (.ref a), x1, x2, x3, x4] st h Q ↔ Runs 194 11 [some (.ref a), x1, x2, x3, x4] (.ref a :: st) h Q := R_aldn rfl rfl
theorem s194_10q : Runs 194 10 [some (zrf r), x1, x2, x3, x4] st h Q ↔ Runs 194 11 [some (zrf r), x1, x2, x3, x4] (zrf r :: st) h Q := R_aldnq rfl rfl
theorem s194_11 : Runs 194 11 [x0, some (.int i), x2, x3, x4] st h Q ↔ Runs 194 12 [x0, some (.int i), x2, x3, x4] (.int i :: st) h Q := R_ildn rfl rfl
theorem s194_12 : Runs 194 12 [x0, x1, some (.int i), x3, x4] st h Q ↔ Runs 194 13 [x0, x1, some (.int i), x3, x4] (.int i :: st) h Q := R_ildn rfl rfl
theorem s194_13 (ht : tg a = 10) (hs : zsumc st ≤ 8) : Runs 194 13 ls (.int i1 :: .int i0 :: .ref a :: st) (n, tg, ln, I, J, O) Q ↔ Runs 192 0 [some (.ref a), some (.int i0), some (.int i1)] [] (n, tg, ln, I, J, O) (fun v h2 => Runs 194 16 ls (v.toList ++ st) h2 Q) := R_callv (a := a) (rest := st) rfl rfl rfl rfl rfl rfl rfl ht hs
theorem s194_16 : Runs 194 16 [x0, x1, x2, x3, x4] (.int i :: st) h Q ↔ Runs 194 17 [x0, x1, zdrop x2, some (.int i), x4] st h Q := R_istn rfl rfl rfl
theorem s194_17 : Runs 194 17 [x0, x1, x2, some (.int i), x4] st h Q ↔ Runs 194 18 [x0, x1, x2, some (.int i), x4] (.int i :: st) h Q := R_ildn rfl rfl
theorem s194_18 : Runs 194 18 ls (.int i :: st) h Q ↔ if i = 0 then Runs 194 23 ls st h Q else Runs 194 21 ls st h Q := R_ifeq rfl rfl
theorem s194_21 : Runs 194 21 [x0, x1, x2, some (.int i), x4] st h Q ↔ Runs 194 22 [x0, x1, x2, some (.int i), x4] (.int i :: st) h Q := R_ildn rfl rfl
theorem s194_22 : Runs 194 22 ls [.int i] h Q ↔ Q (some (.int i)) h := R_iret rfl rfl
theorem s194_23 : Runs 194 23 ls st h Q ↔ Runs 194 25 ls (.int 12 :: st) h Q := R_bipush rfl (by decide)
theorem s194_25 : Runs 194 25 [x0, some (.int i), x2, x3, x4] st h Q ↔ Runs 194 26 [x0, some (.int i), x2, x3, x4] (.int i :: st) h Q := R_ildn rfl rfl
theorem s194_26 : Runs 194 26 ls (.int j :: .int i :: st) h Q ↔ Runs 194 27 ls (.int (i * j) :: st) h Q := R_imul rfl
theorem s194_27 : Runs 194 27 [x0, x1, some (.int i), x3, x4] st h Q ↔ Runs 194 28 [x0, x1, some (.int i), x3, x4] (.int i :: st) h Q := R_ildn rfl rfl
theorem s194_28 : Runs 194 28 ls (.int j :: .int i :: st) h Q ↔ Runs 194 29 ls (.int (i + j) :: st) h Q := R_iadd rfl
theorem s194_29 : Runs 194 29 [x0, x1, x2, x3, x4] (.int i :: st) h Q ↔ Runs 194 31 [x0, x1, x2, zdrop x3, some (.int i)] st h Q := R_ist rfl rfl rfl
theorem s194_31 : Runs 194 31 [some (.ref a), x1, x2, x3, x4] st h Q ↔ Runs 194 32 [some (.ref a), x1, x2, x3, x4] (.ref a :: st) h Q := R_aldn rfl rfl
theorem s194_31q : Runs 194 31 [some (zrf r), x1, x2, x3, x4] st h Q ↔ Runs 194 32 [some (zrf r), x1, x2, x3, x4] (zrf r :: st) h Q := R_aldnq rfl rfl
theorem s194_32 (ht : tg a = 10) : Runs 194 32 ls (.ref a :: st) (n, tg, ln, I, J, O) Q ↔ Runs 194 35 ls (zrf (O a 9) :: st) (n, tg, ln, I, J, O) Q := R_getr rfl rfl rfl rfl ht
theorem s194_35 : Runs 194 35 [x0, x1, x2, x3, some (.int i)] st h Q ↔ Runs 194 37 [x0, x1, x2, x3, some (.int i)] (.int i :: st) h Q := R_ild rfl rfl
theorem s194_37 (ht : tg a = 20) : Runs 194 37 ls (.int i :: .ref a :: st) (n, tg, ln, I, J, O) Q ↔ ((0 ≤ i ∧ i < Int32.ofNat (ln a)) ∧ Runs 194 38 ls (.int (I a i) :: st) (n, tg, ln, I, J, O) Q) := R_iald rfl ht
theorem s194_38 : Runs 194 38 ls (.int i :: st) h Q ↔ if i = 0 then Runs 194 52 ls st h Q else Runs 194 41 ls st h Q := R_ifeq rfl rfl
theorem s194_41 : Runs 194 41 [some (.ref a), x1, x2, x3, x4] st h Q ↔ Runs 194 42 [some (.ref a), x1, x2, x3, x4] (.ref a :: st) h Q := R_aldn rfl rfl
theorem s194_41q : Runs 194 41 [some (zrf r), x1, x2, x3, x4] st h Q ↔ Runs 194 42 [some (zrf r), x1, x2, x3, x4] (zrf r :: st) h Q := R_aldnq rfl rfl
theorem s194_42 (ht : tg a = 10) : Runs 194 42 ls (.ref a :: st) (n, tg, ln, I, J, O) Q ↔ Runs 194 45 ls (zrf (O a 9) :: st) (n, tg, ln, I, J, O) Q := R_getr rfl rfl rfl rfl ht
theorem s194_45 : Runs 194 45 [x0, x1, x2, x3, some (.int i)] st h Q ↔ Runs 194 47 [x0, x1, x2, x3, some (.int i)] (.int i :: st) h Q := R_ild rfl rfl
theorem s194_47 (ht : tg a = 20) : Runs 194 47 ls (.int i :: .ref a :: st) (n, tg, ln, I, J, O) Q ↔ ((0 ≤ i ∧ i < Int32.ofNat (ln a)) ∧ Runs 194 48 ls (.int (I a i) :: st) (n, tg, ln, I, J, O) Q) := R_iald rfl ht
theorem s194_48 : Runs 194 48 ls st h Q ↔ Runs 194 49 ls (.int 4 :: st) h Q := R_iconst rfl rfl
theorem s194_49 : Runs 194 49 ls (.int j :: .int i :: st) h Q ↔ if ¬ i = j then Runs 194 70 ls st h Q else Runs 194 52 ls st h Q := R_icne rfl rfl
theorem s194_52 : Runs 194 52 [some (.ref a), x1, x2, x3, x4] st h Q ↔ Runs 194 53 [some (.ref a), x1, x2, x3, x4] (.ref a :: st) h Q := R_aldn rfl rfl
theorem s194_52q : Runs 194 52 [some (zrf r), x1, x2, x3, x4] st h Q ↔ Runs 194 53 [some (zrf r), x1, x2, x3, x4] (zrf r :: st) h Q := R_aldnq rfl rfl
theorem s194_53 (ht : tg a = 10) : Runs 194 53 ls (.ref a :: st) (n, tg, ln, I, J, O) Q ↔ Runs 194 56 ls (zrf (O a 9) :: st) (n, tg, ln, I, J, O) Q := R_getr rfl rfl rfl rfl ht
theorem s194_56 : Runs 194 56 [x0, x1, x2, x3, some (.int i)] st h Q ↔ Runs 194 58 [x0, x1, x2, x3, some (.int i)] (.int i :: st) h Q := R_ild rfl rfl
theorem s194_58 (ht : tg a = 20) : Runs 194 58 ls (.int i :: .ref a :: st) (n, tg, ln, I, J, O) Q ↔ ((0 ≤ i ∧ i < Int32.ofNat (ln a)) ∧ Runs 194 59 ls (.int (I a i) :: st) (n, tg, ln, I, J, O) Q) := R_iald rfl ht
theorem s194_59 : Runs 194 59 ls (.int i :: st) h Q ↔ if ¬ i = 0 then Runs 194 67 ls st h Q else Runs 194 62 ls st h Q := R_ifne rfl rfl
theorem s194_62 : Runs 194 62 ls st h Q ↔ Runs 194 64 ls (.int (-13) :: st) h Q := R_bipush rfl (by decide)
theorem s194_64 : Runs 194 64 ls st h Q ↔ Runs 194 69 ls st h Q := R_goto rfl rfl
theorem s194_67 : Runs 194 67 ls st h Q ↔ Runs 194 69 ls (.int (-5) :: st) h Q := R_bipush rfl (by decide)
theorem s194_69 : Runs 194 69 ls [.int i] h Q ↔ Q (some (.int i)) h := R_iret rfl rfl
theorem s194_70 : Runs 194 70 [some (.ref a), x1, x2, x3, x4] st h Q ↔ Runs 194 71 [some (.ref a), x1, x2, x3, x4] (.ref a :: st) h Q := R_aldn rfl rfl
theorem s194_70q : Runs 194 70 [some (zrf r), x1, x2, x3, x4] st h Q ↔ Runs 194 71 [some (zrf r), x1, x2, x3, x4] (zrf r :: st) h Q := R_aldnq rfl rfl
theorem s194_71 (ht : tg a = 10) : Runs 194 71 ls (.ref a :: st) (n, tg, ln, I, J, O) Q ↔ Runs 194 74 ls (zrf (O a 9) :: st) (n, tg, ln, I, J, O) Q := R_getr rfl rfl rfl rfl ht
theorem s194_74 : Runs 194 74 [x0, x1, x2, x3, some (.int i)] st h Q ↔ Runs 194 76 [x0, x1, x2, x3, some (.int i)] (.int i :: st) h Q := R_ild rfl rfl
theorem s194_76 : Runs 194 76 ls (.int i :: .ref a :: st) h Q ↔ Runs 194 77 ls (.int i :: .ref a :: .int i :: .ref a :: st) h Q := R_dup2 rfl
theorem s194_77 (ht : tg a = 20) : Runs 194 77 ls (.int i :: .ref a :: st) (n, tg, ln, I, J, O) Q ↔ ((0 ≤ i ∧ i < Int32.ofNat (ln a)) ∧ Runs 194 78 ls (.int (I a i) :: st) (n, tg, ln, I, J, O) Q) := R_iald rfl ht
theorem s194_78 : Runs 194 78 ls st h Q ↔ Runs 194 79 ls (.int 1 :: st) h Q := R_iconst rfl rfl
theorem s194_79 : Runs 194 79 ls (.int j :: .int i :: st) h Q ↔ Runs 194 80 ls (.int (i + j) :: st) h Q := R_iadd rfl
theorem s194_80 (ht : tg a = 20) : Runs 194 80 ls (.int j :: .int i :: .ref a :: st) (n, tg, ln, I, J, O) Q ↔ ((0 ≤ i ∧ i < Int32.ofNat (ln a)) ∧ Runs 194 81 ls st (n, tg, ln, zu I a i j, J, O) Q) := R_iast rfl ht
theorem s194_81 : Runs 194 81 [some (.ref a), x1, x2, x3, x4] st h Q ↔ Runs 194 82 [some (.ref a), x1, x2, x3, x4] (.ref a :: st) h Q := R_aldn rfl rfl
theorem s194_81q : Runs 194 81 [some (zrf r), x1, x2, x3, x4] st h Q ↔ Runs 194 82 [some (zrf r), x1, x2, x3, x4] (zrf r :: st) h Q := R_aldnq rfl rfl
theorem s194_82 (ht : tg a = 10) : Runs 194 82 ls (.ref a :: st) (n, tg, ln, I, J, O) Q ↔ Runs 194 85 ls (zrf (O a 9) :: st) (n, tg, ln, I, J, O) Q := R_getr rfl rfl rfl rfl ht
theorem s194_85 : Runs 194 85 [x0, x1, x2, x3, some (.int i)] st h Q ↔ Runs 194 87 [x0, x1, x2, x3, some (.int i)] (.int i :: st) h Q := R_ild rfl rfl
theorem s194_87 (ht : tg a = 20) : Runs 194 87 ls (.int i :: .ref a :: st) (n, tg, ln, I, J, O) Q ↔ ((0 ≤ i ∧ i < Int32.ofNat (ln a)) ∧ Runs 194 88 ls (.int (I a i) :: st) (n, tg, ln, I, J, O) Q) := R_iald rfl ht
theorem s194_88 : Runs 194 88 ls [.int i] h Q ↔ Q (some (.int i)) h := R_iret rfl rfl
theorem s195_0 : Runs 195 0 [some (.ref a), x1, x2, x3] st h Q ↔ Runs 195 1 [some (.ref a), x1, x2, x3] (.ref a :: st) h Q := R_aldn rfl rfl
theorem s195_0q : Runs 195 0 [some (zrf r), x1, x2, x3] st h Q ↔ Runs 195 1 [some (zrf r), x1, x2, x3] (zrf r :: st) h Q := R_aldnq rfl rfl
theorem s195_1 : Runs 195 1 [x0, some (.int i), x2, x3] st h Q ↔ Runs 195 2 [x0, some (.int i), x2, x3] (.int i :: st) h Q := R_ildn rfl rfl
theorem s195_2 : Runs 195 2 [x0, x1, some (.int i), x3] st h Q ↔ Runs 195 3 [x0, x1, some (.int i), x3] (.int i :: st) h Q := R_ildn rfl rfl
theorem s195_3 (ht : tg a = 10) (hs : zsumc st ≤ 8) : Runs 195 3 ls (.int i1 :: .int i0 :: .ref a :: st) (n, tg, ln, I, J, O) Q ↔ Runs 192 0 [some (.ref a), some (.int i0), some (.int i1)] [] (n, tg, ln, I, J, O) (fun v h2 => Runs 195 6 ls (v.toList ++ st) h2 Q) := R_callv (a := a) (rest := st) rfl rfl rfl rfl rfl rfl rfl ht hs
theorem s195_6 : Runs 195 6 [x0, x1, x2, x3] (.int i :: st) h Q ↔ Runs 195 7 [x0, x1, zdrop x2, some (.int i)] st h Q := R_istn rfl rfl rfl
theorem s195_7 : Runs 195 7 [x0, x1, x2, some (.int i)] st h Q ↔ Runs 195 8 [x0, x1, x2, some (.int i)] (.int i :: st) h Q := R_ildn rfl rfl
theorem s195_8 : Runs 195 8 ls (.int i :: st) h Q ↔ if i = 0 then Runs 195 13 ls st h Q else Runs 195 11 ls st h Q := R_ifeq rfl rfl
theorem s195_11 : Runs 195 11 [x0, x1, x2, some (.int i)] st h Q ↔ Runs 195 12 [x0, x1, x2, some (.int i)] (.int i :: st) h Q := R_ildn rfl rfl
theorem s195_12 : Runs 195 12 ls [.int i] h Q ↔ Q (some (.int i)) h := R_iret rfl rfl
theorem s195_13 : Runs 195 13 [some (.ref a), x1, x2, x3] st h Q ↔ Runs 195 14 [some (.ref a), x1, x2, x3] (.ref a :: st) h Q := R_aldn rfl rfl
theorem s195_13q : Runs 195 13 [some (zrf r), x1, x2, x3] st h Q ↔ Runs 195 14 [some (zrf r), x1, x2, x3] (zrf r :: st) h Q := R_aldnq rfl rfl
theorem s195_14 (ht : tg a = 10) : Runs 195 14 ls (.ref a :: st) (n, tg, ln, I, J, O) Q ↔ Runs 195 17 ls (zrf (O a 9) :: st) (n, tg, ln, I, J, O) Q := R_getr rfl rfl rfl rfl ht
theorem s195_17 : Runs 195 17 ls st h Q ↔ Runs 195 19 ls (.int 12 :: st) h Q := R_bipush rfl (by decide)
theorem s195_19 : Runs 195 19 [x0, some (.int i), x2, x3] st h Q ↔ Runs 195 20 [x0, some (.int i), x2, x3] (.int i :: st) h Q := R_ildn rfl rfl
theorem s195_20 : Runs 195 20 ls (.int j :: .int i :: st) h Q ↔ Runs 195 21 ls (.int (i * j) :: st) h Q := R_imul rfl
theorem s195_21 : Runs 195 21 [x0, x1, some (.int i), x3] st h Q ↔ Runs 195 22 [x0, x1, some (.int i), x3] (.int i :: st) h Q := R_ildn rfl rfl
theorem s195_22 : Runs 195 22 ls (.int j :: .int i :: st) h Q ↔ Runs 195 23 ls (.int (i + j) :: st) h Q := R_iadd rfl
theorem s195_23 (ht : tg a = 20) : Runs 195 23 ls (.int i :: .ref a :: st) (n, tg, ln, I, J, O) Q ↔ ((0 ≤ i ∧ i < Int32.ofNat (ln a)) ∧ Runs 195 24 ls (.int (I a i) :: st) (n, tg, ln, I, J, O) Q) := R_iald rfl ht
theorem s195_24 : Runs 195 24 ls (.int i :: st) h Q ↔ if ¬ i = 0 then Runs 195 32 ls st h Q else Runs 195 27 ls st h Q := R_ifne rfl rfl
theorem s195_27 : Runs 195 27 ls st h Q ↔ Runs 195 29 ls (.int (-13) :: st) h Q := R_bipush rfl (by decide)
theorem s195_29 : Runs 195 29 ls st h Q ↔ Runs 195 33 ls st h Q := R_goto rfl rfl
theorem s195_32 : Runs 195 32 ls st h Q ↔ Runs 195 33 ls (.int 0 :: st) h Q := R_iconst rfl rfl
theorem s195_33 : Runs 195 33 ls [.int i] h Q ↔ Q (some (.int i)) h := R_iret rfl rfl
theorem s196_0 : Runs 196 0 [x0, some (.int i), x2, x3, x4] st h Q ↔ Runs 196 1 [x0, some (.int i), x2, x3, x4] (.int i :: st) h Q := R_ildn rfl rfl
theorem s196_1 (hs : zsumc st ≤ 8) : Runs 196 1 ls (.int i0 :: st) h Q ↔ Runs 190 0 [some (.int i0)] [] h (fun v h2 => Runs 196 4 ls (v.toList ++ st) h2 Q) := R_calls (rest := st) rfl rfl rfl (by simp) rfl rfl rfl rfl hs
theorem s196_4 : Runs 196 4 ls (.int i :: st) h Q ↔ if ¬ i = 0 then Runs 196 10 ls st h Q else Runs 196 7 ls st h Q := R_ifne rfl rfl
theorem s196_7 : Runs 196 7 ls st h Q ↔ Runs 196 9 ls (.int (-2) :: st) h Q := R_bipush rfl (by decide)
theorem s196_9 : Runs 196 9 ls [.int i] h Q ↔ Q (some (.int i)) h := R_iret rfl rfl
theorem s196_10 : Runs 196 10 [some (.ref a), x1, x2, x3, x4] st h Q ↔ Runs 196 11 [some (.ref a), x1, x2, x3, x4] (.ref a :: st) h Q := R_aldn rfl rfl
theorem s196_10q : Runs 196 10 [some (zrf r), x1, x2, x3, x4] st h Q ↔ Runs 196 11 [some (zrf r), x1, x2, x3, x4] (zrf r :: st) h Q := R_aldnq rfl rfl
theorem s196_11 : Runs 196 11 [x0, some (.int i), x2, x3, x4] st h Q ↔ Runs 196 12 [x0, some (.int i), x2, x3, x4] (.int i :: st) h Q := R_ildn rfl rfl
theorem s196_12 : Runs 196 12 [x0, x1, some (.int i), x3, x4] st h Q ↔ Runs 196 13 [x0, x1, some (.int i), x3, x4] (.int i :: st) h Q := R_ildn rfl rfl
theorem s196_13 (ht : tg a = 10) (hs : zsumc st ≤ 8) : Runs 196 13 ls (.int i1 :: .int i0 :: .ref a :: st) (n, tg, ln, I, J, O) Q ↔ Runs 195 0 [some (.ref a), some (.int i0), some (.int i1), none] [] (n, tg, ln, I, J, O) (fun v h2 => Runs 196 16 ls (v.toList ++ st) h2 Q) := R_callv (a := a) (rest := st) rfl rfl rfl rfl rfl rfl rfl ht hs
theorem s196_16 : Runs 196 16 [x0, x1, x2, x3, x4] (.int i :: st) h Q ↔ Runs 196 17 [x0, x1, zdrop x2, some (.int i), x4] st h Q := R_istn rfl rfl rfl
theorem s196_17 : Runs 196 17 [x0, x1, x2, some (.int i), x4] st h Q ↔ Runs 196 18 [x0, x1, x2, some (.int i), x4] (.int i :: st) h Q := R_ildn rfl rfl
theorem s196_18 : Runs 196 18 ls (.int i :: st) h Q ↔ if i = 0 then Runs 196 23 ls st h Q else Runs 196 21 ls st h Q := R_ifeq rfl rfl
theorem s196_21 : Runs 196 21 [x0, x1, x2, some (.int i), x4] st h Q ↔ Runs 196 22 [x0, x1, x2, some (.int i), x4] (.int i :: st) h Q := R_ildn rfl rfl
theorem s196_22 : Runs 196 22 ls [.int i] h Q ↔ Q (some (.int i)) h := R_iret rfl rfl
theorem s196_23 : Runs 196 23 ls st h Q ↔ Runs 196 25 ls (.int 12 :: st) h Q := R_bipush rfl (by decide)
theorem s196_25 : Runs 196 25 [x0, some (.int i), x2, x3, x4] st h Q ↔ Runs 196 26 [x0, some (.int i), x2, x3, x4] (.int i :: st) h Q := R_ildn rfl rfl
theorem s196_26 : Runs 196 26 ls (.int j :: .int i :: st) h Q ↔ Runs 196 27 ls (.int (i * j) :: st) h Q := R_imul rfl
theorem s196_27 : Runs 196 27 [x0, x1, some (.int i), x3, x4] st h Q ↔ Runs 196 28 [x0, x1, some (.int i), x3, x4] (.int i :: st) h Q := R_ildn rfl rfl
theorem s196_28 : Runs 196 28 ls (.int j :: .int i :: st) h Q ↔ Runs 196 29 ls (.int (i + j) :: st) h Q := R_iadd rfl
theorem s196_29 : Runs 196 29 [x0, x1, x2, x3, x4] (.int i :: st) h Q ↔ Runs 196 31 [x0, x1, x2, zdrop x3, some (.int i)] st h Q := R_ist rfl rfl rfl
theorem s196_31 : Runs 196 31 [some (.ref a), x1, x2, x3, x4] st h Q ↔ Runs 196 32 [some (.ref a), x1, x2, x3, x4] (.ref a :: st) h Q := R_aldn rfl rfl
theorem s196_31q : Runs 196 31 [some (zrf r), x1, x2, x3, x4] st h Q ↔ Runs 196 32 [some (zrf r), x1, x2, x3, x4] (zrf r :: st) h Q := R_aldnq rfl rfl
theorem s196_32 (ht : tg a = 10) : Runs 196 32 ls (.ref a :: st) (n, tg, ln, I, J, O) Q ↔ Runs 196 35 ls (zrf (O a 9) :: st) (n, tg, ln, I, J, O) Q := R_getr rfl rfl rfl rfl ht
theorem s196_35 : Runs 196 35 [x0, x1, x2, x3, some (.int i)] st h Q ↔ Runs 196 37 [x0, x1, x2, x3, some (.int i)] (.int i :: st) h Q := R_ild rfl rfl
theorem s196_37 (ht : tg a = 20) : Runs 196 37 ls (.int i :: .ref a :: st) (n, tg, ln, I, J, O) Q ↔ ((0 ≤ i ∧ i < Int32.ofNat (ln a)) ∧ Runs 196 38 ls (.int (I a i) :: st) (n, tg, ln, I, J, O) Q) := R_iald rfl ht
theorem s196_38 : Runs 196 38 ls st h Q ↔ Runs 196 39 ls (.int 1 :: st) h Q := R_iconst rfl rfl
theorem s196_39 : Runs 196 39 ls (.int j :: .int i :: st) h Q ↔ if ¬ i = j then Runs 196 45 ls st h Q else Runs 196 42 ls st h Q := R_icne rfl rfl
theorem s196_42 : Runs 196 42 ls st h Q ↔ Runs 196 44 ls (.int (-14) :: st) h Q := R_bipush rfl (by decide)
theorem s196_44 : Runs 196 44 ls [.int i] h Q ↔ Q (some (.int i)) h := R_iret rfl rfl
theorem s196_45 : Runs 196 45 [some (.ref a), x1, x2, x3, x4] st h Q ↔ Runs 196 46 [some (.ref a), x1, x2, x3, x4] (.ref a :: st) h Q := R_aldn rfl rfl
theorem s196_45q : Runs 196 45 [some (zrf r), x1, x2, x3, x4] st h Q ↔ Runs 196 46 [some (zrf r), x1, x2, x3, x4] (zrf r :: st) h Q := R_aldnq rfl rfl
theorem s196_46 (ht : tg a = 10) : Runs 196 46 ls (.ref a :: st) (n, tg, ln, I, J, O) Q ↔ Runs 196 49 ls (zrf (O a 9) :: st) (n, tg, ln, I, J, O) Q := R_getr rfl rfl rfl rfl ht
theorem s196_49 : Runs 196 49 [x0, x1, x2, x3, some (.int i)] st h Q ↔ Runs 196 51 [x0, x1, x2, x3, some (.int i)] (.int i :: st) h Q := R_ild rfl rfl
theorem s196_51 : Runs 196 51 ls (.int i :: .ref a :: st) h Q ↔ Runs 196 52 ls (.int i :: .ref a :: .int i :: .ref a :: st) h Q := R_dup2 rfl
theorem s196_52 (ht : tg a = 20) : Runs 196 52 ls (.int i :: .ref a :: st) (n, tg, ln, I, J, O) Q ↔ ((0 ≤ i ∧ i < Int32.ofNat (ln a)) ∧ Runs 196 53 ls (.int (I a i) :: st) (n, tg, ln, I, J, O) Q) := R_iald rfl ht
theorem s196_53 : Runs 196 53 ls st h Q ↔ Runs 196 54 ls (.int 1 :: st) h Q := R_iconst rfl rfl
theorem s196_54 : Runs 196 54 ls (.int j :: .int i :: st) h Q ↔ Runs 196 55 ls (.int (i - j) :: st) h Q := R_isub rfl
theorem s196_55 (ht : tg a = 20) : Runs 196 55 ls (.int j :: .int i :: .ref a :: st) (n, tg, ln, I, J, O) Q ↔ ((0 ≤ i ∧ i < Int32.ofNat (ln a)) ∧ Runs 196 56 ls st (n, tg, ln, zu I a i j, J, O) Q) := R_iast rfl ht
theorem s196_56 : Runs 196 56 [some (.ref a), x1, x2, x3, x4] st h Q ↔ Runs 196 57 [some (.ref a), x1, x2, x3, x4] (.ref a :: st) h Q := R_aldn rfl rfl
theorem s196_56q : Runs 196 56 [some (zrf r), x1, x2, x3, x4] st h Q ↔ Runs 196 57 [some (zrf r), x1, x2, x3, x4] (zrf r :: st) h Q := R_aldnq rfl rfl
theorem s196_57 (ht : tg a = 10) : Runs 196 57 ls (.ref a :: st) (n, tg, ln, I, J, O) Q ↔ Runs 196 60 ls (zrf (O a 9) :: st) (n, tg, ln, I, J, O) Q := R_getr rfl rfl rfl rfl ht
theorem s196_60 : Runs 196 60 [x0, x1, x2, x3, some (.int i)] st h Q ↔ Runs 196 62 [x0, x1, x2, x3, some (.int i)] (.int i :: st) h Q := R_ild rfl rfl
theorem s196_62 (ht : tg a = 20) : Runs 196 62 ls (.int i :: .ref a :: st) (n, tg, ln, I, J, O) Q ↔ ((0 ≤ i ∧ i < Int32.ofNat (ln a)) ∧ Runs 196 63 ls (.int (I a i) :: st) (n, tg, ln, I, J, O) Q) := R_iald rfl ht
theorem s196_63 : Runs 196 63 ls [.int i] h Q ↔ Q (some (.int i)) h := R_iret rfl rfl
theorem s197_0 : Runs 197 0 [x0, some (.int i), x2, x3, x4, x5, x6, x7] st h Q ↔ Runs 197 1 [x0, some (.int i), x2, x3, x4, x5, x6, x7] (.int i :: st) h Q := R_ildn rfl rfl
theorem s197_1 (hs : zsumc st ≤ 8) : Runs 197 1 ls (.int i0 :: st) h Q ↔ Runs 190 0 [some (.int i0)] [] h (fun v h2 => Runs 197 4 ls (v.toList ++ st) h2 Q) := R_calls (rest := st) rfl rfl rfl (by simp) rfl rfl rfl rfl hs
theorem s197_4 : Runs 197 4 ls (.int i :: st) h Q ↔ if ¬ i = 0 then Runs 197 10 ls st h Q else Runs 197 7 ls st h Q := R_ifne rfl rfl
theorem s197_7 : Runs 197 7 ls st h Q ↔ Runs 197 9 ls (.int (-2) :: st) h Q := R_bipush rfl (by decide)
theorem s197_9 : Runs 197 9 ls [.int i] h Q ↔ Q (some (.int i)) h := R_iret rfl rfl
theorem s197_10 : Runs 197 10 [x0, x1, x2, some (.int i), x4, x5, x6, x7] st h Q ↔ Runs 197 11 [x0, x1, x2, some (.int i), x4, x5, x6, x7] (.int i :: st) h Q := R_ildn rfl rfl
theorem s197_11 : Runs 197 11 ls (.int i :: st) h Q ↔ Runs 197 12 ls (.long i.toInt64 :: st) h Q := R_i2l rfl
theorem s197_12 : Runs 197 12 ls st h Q ↔ Runs 197 13 ls (.long 0 :: st) h Q := R_lconst rfl rfl
theorem s197_13 : Runs 197 13 ls st h Q ↔ Runs 197 16 ls (.long 2 :: st) h Q := R_ldc2 rfl rfl
theorem s197_16 (hs : zsumc st ≤ 8) : Runs 197 16 ls (.long u2 :: .long u1 :: .long u0 :: st) h Q ↔ Runs 126 0 [some (.long u0), none, some (.long u1), none, some (.long u2), none] [] h (fun v h2 => Runs 197 19 ls (v.toList ++ st) h2 Q) := R_calls (rest := st) rfl rfl rfl (by simp) rfl rfl rfl rfl hs
theorem s197_19 : Runs 197 19 ls (.int i :: st) h Q ↔ if ¬ i = 0 then Runs 197 25 ls st h Q else Runs 197 22 ls st h Q := R_ifne rfl rfl
theorem s197_22 : Runs 197 22 ls st h Q ↔ Runs 197 24 ls (.int (-3) :: st) h Q := R_bipush rfl (by decide)
theorem s197_24 : Runs 197 24 ls [.int i] h Q ↔ Q (some (.int i)) h := R_iret rfl rfl
theorem s197_25 : Runs 197 25 [some (.ref a), x1, x2, x3, x4, x5, x6, x7] st h Q ↔ Runs 197 26 [some (.ref a), x1, x2, x3, x4, x5, x6, x7] (.ref a :: st) h Q := R_aldn rfl rfl
theorem s197_25q : Runs 197 25 [some (zrf r), x1, x2, x3, x4, x5, x6, x7] st h Q ↔ Runs 197 26 [some (zrf r), x1, x2, x3, x4, x5, x6, x7] (zrf r :: st) h Q := R_aldnq rfl rfl
theorem s197_26 : Runs 197 26 [x0, some (.int i), x2, x3, x4, x5, x6, x7] st h Q ↔ Runs 197 27 [x0, some (.int i), x2, x3, x4, x5, x6, x7] (.int i :: st) h Q := R_ildn rfl rfl
theorem s197_27 : Runs 197 27 [x0, x1, some (.int i), x3, x4, x5, x6, x7] st h Q ↔ Runs 197 28 [x0, x1, some (.int i), x3, x4, x5, x6, x7] (.int i :: st) h Q := R_ildn rfl rfl
theorem s197_28 (ht : tg a = 10) (hs : zsumc st ≤ 8) : Runs 197 28 ls (.int i1 :: .int i0 :: .ref a :: st) (n, tg, ln, I, J, O) Q ↔ Runs 195 0 [some (.ref a), some (.int i0), some (.int i1), none] [] (n, tg, ln, I, J, O) (fun v h2 => Runs 197 31 ls (v.toList ++ st) h2 Q) := R_callv (a := a) (rest := st) rfl rfl rfl rfl rfl rfl rfl ht hs
theorem s197_31 : Runs 197 31 [x0, x1, x2, x3, x4, x5, x6, x7] (.int i :: st) h Q ↔ Runs 197 33 [x0, x1, x2, zdrop x3, some (.int i), x5, x6, x7] st h Q := R_ist rfl rfl rfl
theorem s197_33 : Runs 197 33 [x0, x1, x2, x3, some (.int i), x5, x6, x7] st h Q ↔ Runs 197 35 [x0, x1, x2, x3, some (.int i), x5, x6, x7] (.int i :: st) h Q := R_ild rfl rfl
theorem s197_35 : Runs 197 35 ls (.int i :: st) h Q ↔ if i = 0 then Runs 197 41 ls st h Q else Runs 197 38 ls st h Q := R_ifeq rfl rfl
theorem s197_38 : Runs 197 38 [x0, x1, x2, x3, some (.int i), x5, x6, x7] st h Q ↔ Runs 197 40 [x0, x1, x2, x3, some (.int i), x5, x6, x7] (.int i :: st) h Q := R_ild rfl rfl
theorem s197_40 : Runs 197 40 ls [.int i] h Q ↔ Q (some (.int i)) h := R_iret rfl rfl
theorem s197_41 : Runs 197 41 ls st h Q ↔ Runs 197 43 ls (.int 12 :: st) h Q := R_bipush rfl (by decide)
theorem s197_43 : Runs 197 43 [x0, some (.int i), x2, x3, x4, x5, x6, x7] st h Q ↔ Runs 197 44 [x0, some (.int i), x2, x3, x4, x5, x6, x7] (.int i :: st) h Q := R_ildn rfl rfl
theorem s197_44 : Runs 197 44 ls (.int j :: .int i :: st) h Q ↔ Runs 197 45 ls (.int (i * j) :: st) h Q := R_imul rfl
theorem s197_45 : Runs 197 45 [x0, x1, some (.int i), x3, x4, x5, x6, x7] st h Q ↔ Runs 197 46 [x0, x1, some (.int i), x3, x4, x5, x6, x7] (.int i :: st) h Q := R_ildn rfl rfl
theorem s197_46 : Runs 197 46 ls (.int j :: .int i :: st) h Q ↔ Runs 197 47 ls (.int (i + j) :: st) h Q := R_iadd rfl
theorem s197_47 : Runs 197 47 [x0, x1, x2, x3, x4, x5, x6, x7] (.int i :: st) h Q ↔ Runs 197 49 [x0, x1, x2, x3, zdrop x4, some (.int i), x6, x7] st h Q := R_ist rfl rfl rfl
theorem s197_49 : Runs 197 49 [some (.ref a), x1, x2, x3, x4, x5, x6, x7] st h Q ↔ Runs 197 50 [some (.ref a), x1, x2, x3, x4, x5, x6, x7] (.ref a :: st) h Q := R_aldn rfl rfl
theorem s197_49q : Runs 197 49 [some (zrf r), x1, x2, x3, x4, x5, x6, x7] st h Q ↔ Runs 197 50 [some (zrf r), x1, x2, x3, x4, x5, x6, x7] (zrf r :: st) h Q := R_aldnq rfl rfl
theorem s197_50 (ht : tg a = 10) : Runs 197 50 ls (.ref a :: st) (n, tg, ln, I, J, O) Q ↔ Runs 197 53 ls (zrf (O a 9) :: st) (n, tg, ln, I, J, O) Q := R_getr rfl rfl rfl rfl ht
theorem s197_53 : Runs 197 53 [x0, x1, x2, x3, x4, some (.int i), x6, x7] st h Q ↔ Runs 197 55 [x0, x1, x2, x3, x4, some (.int i), x6, x7] (.int i :: st) h Q := R_ild rfl rfl
theorem s197_55 (ht : tg a = 20) : Runs 197 55 ls (.int i :: .ref a :: st) (n, tg, ln, I, J, O) Q ↔ ((0 ≤ i ∧ i < Int32.ofNat (ln a)) ∧ Runs 197 56 ls (.int (I a i) :: st) (n, tg, ln, I, J, O) Q) := R_iald rfl ht
theorem s197_56 : Runs 197 56 ls st h Q ↔ Runs 197 57 ls (.int 1 :: st) h Q := R_iconst rfl rfl
theorem s197_57 : Runs 197 57 ls (.int j :: .int i :: st) h Q ↔ if i ≤ j then Runs 197 80 ls st h Q else Runs 197 60 ls st h Q := R_icle rfl rfl
theorem s197_60 : Runs 197 60 [x0, x1, x2, some (.int i), x4, x5, x6, x7] st h Q ↔ Runs 197 61 [x0, x1, x2, some (.int i), x4, x5, x6, x7] (.int i :: st) h Q := R_ildn rfl rfl
theorem s197_61 : Runs 197 61 ls st h Q ↔ Runs 197 62 ls (.int 2 :: st) h Q := R_iconst rfl rfl
theorem s197_62 : Runs 197 62 ls (.int j :: .int i :: st) h Q ↔ if ¬ i = j then Runs 197 77 ls st h Q else Runs 197 65 ls st h Q := R_icne rfl rfl
theorem s197_65 : Runs 197 65 [some (.ref a), x1, x2, x3, x4, x5, x6, x7] st h Q ↔ Runs 197 66 [some (.ref a), x1, x2, x3, x4, x5, x6, x7] (.ref a :: st) h Q := R_aldn rfl rfl
theorem s197_65q : Runs 197 65 [some (zrf r), x1, x2, x3, x4, x5, x6, x7] st h Q ↔ Runs 197 66 [some (zrf r), x1, x2, x3, x4, x5, x6, x7] (zrf r :: st) h Q := R_aldnq rfl rfl
theorem s197_66 (ht : tg a = 10) : Runs 197 66 ls (.ref a :: st) (n, tg, ln, I, J, O) Q ↔ Runs 197 69 ls (zrf (O a 9) :: st) (n, tg, ln, I, J, O) Q := R_getr rfl rfl rfl rfl ht
theorem s197_69 : Runs 197 69 [x0, x1, x2, x3, x4, some (.int i), x6, x7] st h Q ↔ Runs 197 71 [x0, x1, x2, x3, x4, some (.int i), x6, x7] (.int i :: st) h Q := R_ild rfl rfl
theorem s197_71 (ht : tg a = 20) : Runs 197 71 ls (.int i :: .ref a :: st) (n, tg, ln, I, J, O) Q ↔ ((0 ≤ i ∧ i < Int32.ofNat (ln a)) ∧ Runs 197 72 ls (.int (I a i) :: st) (n, tg, ln, I, J, O) Q) := R_iald rfl ht
theorem s197_72 : Runs 197 72 ls st h Q ↔ Runs 197 73 ls (.int 1 :: st) h Q := R_iconst rfl rfl
theorem s197_73 : Runs 197 73 ls (.int j :: .int i :: st) h Q ↔ Runs 197 74 ls (.int (i - j) :: st) h Q := R_isub rfl
theorem s197_74 : Runs 197 74 ls st h Q ↔ Runs 197 79 ls st h Q := R_goto rfl rfl
theorem s197_77 : Runs 197 77 ls st h Q ↔ Runs 197 79 ls (.int (-14) :: st) h Q := R_bipush rfl (by decide)
theorem s197_79 : Runs 197 79 ls [.int i] h Q ↔ Q (some (.int i)) h := R_iret rfl rfl
theorem s197_80 : Runs 197 80 [some (.ref a), x1, x2, x3, x4, x5, x6, x7] st h Q ↔ Runs 197 81 [some (.ref a), x1, x2, x3, x4, x5, x6, x7] (.ref a :: st) h Q := R_aldn rfl rfl
theorem s197_80q : Runs 197 80 [some (zrf r), x1, x2, x3, x4, x5, x6, x7] st h Q ↔ Runs 197 81 [some (zrf r), x1, x2, x3, x4, x5, x6, x7] (zrf r :: st) h Q := R_aldnq rfl rfl
theorem s197_81 (ht : tg a = 10) : Runs 197 81 ls (.ref a :: st) (n, tg, ln, I, J, O) Q ↔ Runs 197 84 ls (zrf (O a 10) :: st) (n, tg, ln, I, J, O) Q := R_getr rfl rfl rfl rfl ht
theorem s197_84 : Runs 197 84 [x0, x1, x2, x3, x4, some (.int i), x6, x7] st h Q ↔ Runs 197 86 [x0, x1, x2, x3, x4, some (.int i), x6, x7] (.int i :: st) h Q := R_ild rfl rfl
theorem s197_86 (ht : tg a = 20) : Runs 197 86 ls (.int i :: .ref a :: st) (n, tg, ln, I, J, O) Q ↔ ((0 ≤ i ∧ i < Int32.ofNat (ln a)) ∧ Runs 197 87 ls (.int (I a i) :: st) (n, tg, ln, I, J, O) Q) := R_iald rfl ht
theorem s197_87 : Runs 197 87 [x0, x1, x2, some (.int i), x4, x5, x6, x7] st h Q ↔ Runs 197 88 [x0, x1, x2, some (.int i), x4, x5, x6, x7] (.int i :: st) h Q := R_ildn rfl rfl
theorem s197_88 : Runs 197 88 ls (.int j :: .int i :: st) h Q ↔ if i = j then Runs 197 94 ls st h Q else Runs 197 91 ls st h Q := R_iceq rfl rfl
theorem s197_91 : Runs 197 91 ls st h Q ↔ Runs 197 93 ls (.int (-14) :: st) h Q := R_bipush rfl (by decide)
theorem s197_93 : Runs 197 93 ls [.int i] h Q ↔ Q (some (.int i)) h := R_iret rfl rfl
theorem s197_94 : Runs 197 94 [some (.ref a), x1, x2, x3, x4, x5, x6, x7] st h Q ↔ Runs 197 95 [some (.ref a), x1, x2, x3, x4, x5, x6, x7] (.ref a :: st) h Q := R_aldn rfl rfl
theorem s197_94q : Runs 197 94 [some (zrf r), x1, x2, x3, x4, x5, x6, x7] st h Q ↔ Runs 197 95 [some (zrf r), x1, x2, x3, x4, x5, x6, x7] (zrf r :: st) h Q := R_aldnq rfl rfl
theorem s197_95 (ht : tg a = 10) : Runs 197 95 ls (.ref a :: st) (n, tg, ln, I, J, O) Q ↔ Runs 197 98 ls (zrf (O a 11) :: st) (n, tg, ln, I, J, O) Q := R_getr rfl rfl rfl rfl ht
theorem s197_98 : Runs 197 98 [x0, x1, x2, x3, x4, some (.int i), x6, x7] st h Q ↔ Runs 197 100 [x0, x1, x2, x3, x4, some (.int i), x6, x7] (.int i :: st) h Q := R_ild rfl rfl
theorem s197_100 (ht : tg a = 21) : Runs 197 100 ls (.int i :: .ref a :: st) (n, tg, ln, I, J, O) Q ↔ ((0 ≤ i ∧ i < Int32.ofNat (ln a)) ∧ Runs 197 101 ls (.long (J a i) :: st) (n, tg, ln, I, J, O) Q) := R_lald rfl ht
theorem s197_101 : Runs 197 101 [x0, x1, x2, x3, x4, x5, x6, x7] (.long u :: st) h Q ↔ Runs 197 103 [x0, x1, x2, x3, x4, zdrop x5, some (.long u), none] st h Q := R_lst rfl rfl rfl
theorem s197_103 : Runs 197 103 [x0, x1, x2, some (.int i), x4, x5, x6, x7] st h Q ↔ Runs 197 104 [x0, x1, x2, some (.int i), x4, x5, x6, x7] (.int i :: st) h Q := R_ildn rfl rfl
theorem s197_104 : Runs 197 104 ls st h Q ↔ Runs 197 105 ls (.int 1 :: st) h Q := R_iconst rfl rfl
theorem s197_105 : Runs 197 105 ls (.int j :: .int i :: st) h Q ↔ if ¬ i = j then Runs 197 114 ls st h Q else Runs 197 108 ls st h Q := R_icne rfl rfl
theorem s197_108 : Runs 197 108 [x0, x1, x2, x3, x4, x5, some (.long u), x7] st h Q ↔ Runs 197 110 [x0, x1, x2, x3, x4, x5, some (.long u), x7] (.long u :: st) h Q := R_lld rfl rfl
theorem s197_110 : Runs 197 110 ls (.long u :: st) h Q ↔ Runs 197 111 ls (.int u.toInt32 :: st) h Q := R_l2i rfl
theorem s197_111 : Runs 197 111 ls st h Q ↔ Runs 197 145 ls st h Q := R_goto rfl rfl
theorem s197_114 : Runs 197 114 [x0, x1, x2, x3, x4, x5, some (.long u), x7] st h Q ↔ Runs 197 116 [x0, x1, x2, x3, x4, x5, some (.long u), x7] (.long u :: st) h Q := R_lld rfl rfl
theorem s197_116 : Runs 197 116 ls st h Q ↔ Runs 197 117 ls (.long 0 :: st) h Q := R_lconst rfl rfl
theorem s197_117 : Runs 197 117 ls (.long w :: .long u :: st) h Q ↔ Runs 197 118 ls (.int (lg_cmp u w) :: st) h Q := R_lcmp rfl
theorem s197_118 : Runs 197 118 ls (.int i :: st) h Q ↔ if 0 ≤ i then Runs 197 138 ls st h Q else Runs 197 121 ls st h Q := R_ifge rfl rfl
theorem s197_121 : Runs 197 121 [x0, x1, x2, x3, x4, x5, some (.long u), x7] st h Q ↔ Runs 197 123 [x0, x1, x2, x3, x4, x5, some (.long u), x7] (.long u :: st) h Q := R_lld rfl rfl
theorem s197_123 : Runs 197 123 ls st h Q ↔ Runs 197 124 ls (.long 1 :: st) h Q := R_lconst rfl rfl
theorem s197_124 : Runs 197 124 ls (.long w :: .long u :: st) h Q ↔ Runs 197 125 ls (.long (u + w) :: st) h Q := R_ladd rfl
theorem s197_125 : Runs 197 125 ls (.long u :: st) h Q ↔ Runs 197 126 ls (.long (-u) :: st) h Q := R_lneg rfl
theorem s197_126 : Runs 197 126 ls st h Q ↔ Runs 197 129 ls (.long 1000003 :: st) h Q := R_ldc2 rfl rfl
theorem s197_129 : Runs 197 129 ls (.long w :: .long u :: st) h Q ↔ (¬ w = 0 ∧ Runs 197 130 ls (.long (u - u / w * w) :: st) h Q) := R_lrem rfl
theorem s197_130 : Runs 197 130 ls (.long u :: st) h Q ↔ Runs 197 131 ls (.int u.toInt32 :: st) h Q := R_l2i rfl
theorem s197_131 : Runs 197 131 ls st h Q ↔ Runs 197 134 ls (.int 2000000 :: st) h Q := R_ldcw rfl rfl
theorem s197_134 : Runs 197 134 ls (.int j :: .int i :: st) h Q ↔ Runs 197 135 ls (.int (i + j) :: st) h Q := R_iadd rfl
theorem s197_135 : Runs 197 135 ls st h Q ↔ Runs 197 145 ls st h Q := R_goto rfl rfl
theorem s197_138 : Runs 197 138 [x0, x1, x2, x3, x4, x5, some (.long u), x7] st h Q ↔ Runs 197 140 [x0, x1, x2, x3, x4, x5, some (.long u), x7] (.long u :: st) h Q := R_lld rfl rfl
theorem s197_140 : Runs 197 140 ls st h Q ↔ Runs 197 143 ls (.long 1000003 :: st) h Q := R_ldc2 rfl rfl
theorem s197_143 : Runs 197 143 ls (.long w :: .long u :: st) h Q ↔ (¬ w = 0 ∧ Runs 197 144 ls (.long (u - u / w * w) :: st) h Q) := R_lrem rfl
theorem s197_144 : Runs 197 144 ls (.long u :: st) h Q ↔ Runs 197 145 ls (.int u.toInt32 :: st) h Q := R_l2i rfl
theorem s197_145 : Runs 197 145 ls [.int i] h Q ↔ Q (some (.int i)) h := R_iret rfl rfl
theorem s198_0 : Runs 198 0 [x0, x1, some (.int i), x3] st h Q ↔ Runs 198 1 [x0, x1, some (.int i), x3] (.int i :: st) h Q := R_ildn rfl rfl
theorem s198_1 : Runs 198 1 ls (.int i :: st) h Q ↔ if i < 0 then Runs 198 28 ls st h Q else Runs 198 4 ls st h Q := R_iflt rfl rfl
theorem s198_4 : Runs 198 4 [x0, x1, x2, some (.int i)] st h Q ↔ Runs 198 5 [x0, x1, x2, some (.int i)] (.int i :: st) h Q := R_ildn rfl rfl
theorem s198_5 : Runs 198 5 ls (.int i :: st) h Q ↔ if i < 0 then Runs 198 28 ls st h Q else Runs 198 8 ls st h Q := R_iflt rfl rfl
theorem s198_8 : Runs 198 8 [x0, x1, some (.int i), x3] st h Q ↔ Runs 198 9 [x0, x1, some (.int i), x3] (.int i :: st) h Q := R_ildn rfl rfl
theorem s198_9 : Runs 198 9 ls (.int i :: st) h Q ↔ Runs 198 10 ls (.long i.toInt64 :: st) h Q := R_i2l rfl
theorem s198_10 : Runs 198 10 [x0, x1, x2, some (.int i)] st h Q ↔ Runs 198 11 [x0, x1, x2, some (.int i)] (.int i :: st) h Q := R_ildn rfl rfl
theorem s198_11 : Runs 198 11 ls (.int i :: st) h Q ↔ Runs 198 12 ls (.long i.toInt64 :: st) h Q := R_i2l rfl
theorem s198_12 : Runs 198 12 ls (.long w :: .long u :: st) h Q ↔ Runs 198 13 ls (.long (u + w) :: st) h Q := R_ladd rfl
theorem s198_13 : Runs 198 13 [some (.ref a), x1, x2, x3] st h Q ↔ Runs 198 14 [some (.ref a), x1, x2, x3] (.ref a :: st) h Q := R_aldn rfl rfl
theorem s198_13q : Runs 198 13 [some (zrf r), x1, x2, x3] st h Q ↔ Runs 198 14 [some (zrf r), x1, x2, x3] (zrf r :: st) h Q := R_aldnq rfl rfl
theorem s198_14 (ht : tg a = 10) : Runs 198 14 ls (.ref a :: st) (n, tg, ln, I, J, O) Q ↔ Runs 198 17 ls (zrf (O a 8) :: st) (n, tg, ln, I, J, O) Q := R_getr rfl rfl rfl rfl ht
theorem s198_17 : Runs 198 17 [x0, some (.int i), x2, x3] st h Q ↔ Runs 198 18 [x0, some (.int i), x2, x3] (.int i :: st) h Q := R_ildn rfl rfl
theorem s198_18 (ht : tg a = 20) : Runs 198 18 ls (.int i :: .ref a :: st) (n, tg, ln, I, J, O) Q ↔ ((0 ≤ i ∧ i < Int32.ofNat (ln a)) ∧ Runs 198 19 ls (.int (I a i) :: st) (n, tg, ln, I, J, O) Q) := R_iald rfl ht
theorem s198_19 : Runs 198 19 ls (.int i :: st) h Q ↔ Runs 198 20 ls (.long i.toInt64 :: st) h Q := R_i2l rfl
theorem s198_20 : Runs 198 20 ls (.long w :: .long u :: st) h Q ↔ Runs 198 21 ls (.int (lg_cmp u w) :: st) h Q := R_lcmp rfl
theorem s198_21 : Runs 198 21 ls (.int i :: st) h Q ↔ if 0 < i then Runs 198 28 ls st h Q else Runs 198 24 ls st h Q := R_ifgt rfl rfl
theorem s198_24 : Runs 198 24 ls st h Q ↔ Runs 198 25 ls (.int 1 :: st) h Q := R_iconst rfl rfl
theorem s198_25 : Runs 198 25 ls st h Q ↔ Runs 198 29 ls st h Q := R_goto rfl rfl
theorem s198_28 : Runs 198 28 ls st h Q ↔ Runs 198 29 ls (.int 0 :: st) h Q := R_iconst rfl rfl
theorem s198_29 (hx : i = 0 ∨ i = 1) : Runs 198 29 ls [.int i] h Q ↔ Q (some (.int i)) h := R_zret rfl rfl hx
theorem s199_0 : Runs 199 0 [x0, some (.int i), x2, x3, x4, x5, x6] st h Q ↔ Runs 199 1 [x0, some (.int i), x2, x3, x4, x5, x6] (.int i :: st) h Q := R_ildn rfl rfl
theorem s199_1 (hs : zsumc st ≤ 8) : Runs 199 1 ls (.int i0 :: st) h Q ↔ Runs 190 0 [some (.int i0)] [] h (fun v h2 => Runs 199 4 ls (v.toList ++ st) h2 Q) := R_calls (rest := st) rfl rfl rfl (by simp) rfl rfl rfl rfl hs
theorem s199_4 : Runs 199 4 ls (.int i :: st) h Q ↔ if i = 0 then Runs 199 14 ls st h Q else Runs 199 7 ls st h Q := R_ifeq rfl rfl
theorem s199_7 : Runs 199 7 [x0, x1, x2, some (.int i), x4, x5, x6] st h Q ↔ Runs 199 8 [x0, x1, x2, some (.int i), x4, x5, x6] (.int i :: st) h Q := R_ildn rfl rfl
theorem s199_8 (hs : zsumc st ≤ 8) : Runs 199 8 ls (.int i0 :: st) h Q ↔ Runs 190 0 [some (.int i0)] [] h (fun v h2 => Runs 199 11 ls (v.toList ++ st) h2 Q) := R_calls (rest := st) rfl rfl rfl (by simp) rfl rfl rfl rfl hs
theorem s199_11 : Runs 199 11 ls (.int i :: st) h Q ↔ if ¬ i = 0 then Runs 199 17 ls st h Q else Runs 199 14 ls st h Q := R_ifne rfl rfl
theorem s199_14 : Runs 199 14 ls st h Q ↔ Runs 199 16 ls (.int (-2) :: st) h Q := R_bipush rfl (by decide)
theorem s199_16 : Runs 199 16 ls [.int i] h Q ↔ Q (some (.int i)) h := R_iret rfl rfl
theorem s199_17 : Runs 199 17 [some (.ref a), x1, x2, x3, x4, x5, x6] st h Q ↔ Runs 199 18 [some (.ref a), x1, x2, x3, x4, x5, x6] (.ref a :: st) h Q := R_aldn rfl rfl
theorem s199_17q : Runs 199 17 [some (zrf r), x1, x2, x3, x4, x5, x6] st h Q ↔ Runs 199 18 [some (zrf r), x1, x2, x3, x4, x5, x6] (zrf r :: st) h Q := R_aldnq rfl rfl
theorem s199_18 (ht : tg a = 10) : Runs 199 18 ls (.ref a :: st) (n, tg, ln, I, J, O) Q ↔ Runs 199 21 ls (zrf (O a 8) :: st) (n, tg, ln, I, J, O) Q := R_getr rfl rfl rfl rfl ht
theorem s199_21 : Runs 199 21 [x0, some (.int i), x2, x3, x4, x5, x6] st h Q ↔ Runs 199 22 [x0, some (.int i), x2, x3, x4, x5, x6] (.int i :: st) h Q := R_ildn rfl rfl
theorem s199_22 (ht : tg a = 20) : Runs 199 22 ls (.int i :: .ref a :: st) (n, tg, ln, I, J, O) Q ↔ ((0 ≤ i ∧ i < Int32.ofNat (ln a)) ∧ Runs 199 23 ls (.int (I a i) :: st) (n, tg, ln, I, J, O) Q) := R_iald rfl ht
theorem s199_23 : Runs 199 23 ls (.int i :: st) h Q ↔ if i < 0 then Runs 199 35 ls st h Q else Runs 199 26 ls st h Q := R_iflt rfl rfl
theorem s199_26 : Runs 199 26 [some (.ref a), x1, x2, x3, x4, x5, x6] st h Q ↔ Runs 199 27 [some (.ref a), x1, x2, x3, x4, x5, x6] (.ref a :: st) h Q := R_aldn rfl rfl
theorem s199_26q : Runs 199 26 [some (zrf r), x1, x2, x3, x4, x5, x6] st h Q ↔ Runs 199 27 [some (zrf r), x1, x2, x3, x4, x5, x6] (zrf r :: st) h Q := R_aldnq rfl rfl
theorem s199_27 (ht : tg a = 10) : Runs 199 27 ls (.ref a :: st) (n, tg, ln, I, J, O) Q ↔ Runs 199 30 ls (zrf (O a 8) :: st) (n, tg, ln, I, J, O) Q := R_getr rfl rfl rfl rfl ht
theorem s199_30 : Runs 199 30 [x0, x1, x2, some (.int i), x4, x5, x6] st h Q ↔ Runs 199 31 [x0, x1, x2, some (.int i), x4, x5, x6] (.int i :: st) h Q := R_ildn rfl rfl
theorem s199_31 (ht : tg a = 20) : Runs 199 31 ls (.int i :: .ref a :: st) (n, tg, ln, I, J, O) Q ↔ ((0 ≤ i ∧ i < Int32.ofNat (ln a)) ∧ Runs 199 32 ls (.int (I a i) :: st) (n, tg, ln, I, J, O) Q) := R_iald rfl ht
theorem s199_32 : Runs 199 32 ls (.int i :: st) h Q ↔ if 0 ≤ i then Runs 199 38 ls st h Q else Runs 199 35 ls st h Q := R_ifge rfl rfl
theorem s199_35 : Runs 199 35 ls st h Q ↔ Runs 199 37 ls (.int (-11) :: st) h Q := R_bipush rfl (by decide)
theorem s199_37 : Runs 199 37 ls [.int i] h Q ↔ Q (some (.int i)) h := R_iret rfl rfl
theorem s199_38 : Runs 199 38 [some (.ref a), x1, x2, x3, x4, x5, x6] st h Q ↔ Runs 199 39 [some (.ref a), x1, x2, x3, x4, x5, x6] (.ref a :: st) h Q := R_aldn rfl rfl
theorem s199_38q : Runs 199 38 [some (zrf r), x1, x2, x3, x4, x5, x6] st h Q ↔ Runs 199 39 [some (zrf r), x1, x2, x3, x4, x5, x6] (zrf r :: st) h Q := R_aldnq rfl rfl
theorem s199_39 : Runs 199 39 [x0, some (.int i), x2, x3, x4, x5, x6] st h Q ↔ Runs 199 40 [x0, some (.int i), x2, x3, x4, x5, x6] (.int i :: st) h Q := R_ildn rfl rfl
theorem s199_40 : Runs 199 40 [x0, x1, some (.int i), x3, x4, x5, x6] st h Q ↔ Runs 199 41 [x0, x1, some (.int i), x3, x4, x5, x6] (.int i :: st) h Q := R_ildn rfl rfl
theorem s199_41 : Runs 199 41 [x0, x1, x2, x3, x4, some (.int i), x6] st h Q ↔ Runs 199 43 [x0, x1, x2, x3, x4, some (.int i), x6] (.int i :: st) h Q := R_ild rfl rfl
theorem s199_43 (ht : tg a = 10) (hs : zsumc st ≤ 8) : Runs 199 43 ls (.int i2 :: .int i1 :: .int i0 :: .ref a :: st) (n, tg, ln, I, J, O) Q ↔ Runs 198 0 [some (.ref a), some (.int i0), some (.int i1), some (.int i2)] [] (n, tg, ln, I, J, O) (fun v h2 => Runs 199 46 ls (v.toList ++ st) h2 Q) := R_callv (a := a) (rest := st) rfl rfl rfl rfl rfl rfl rfl ht hs
theorem s199_46 : Runs 199 46 ls (.int i :: st) h Q ↔ if i = 0 then Runs 199 61 ls st h Q else Runs 199 49 ls st h Q := R_ifeq rfl rfl
theorem s199_49 : Runs 199 49 [some (.ref a), x1, x2, x3, x4, x5, x6] st h Q ↔ Runs 199 50 [some (.ref a), x1, x2, x3, x4, x5, x6] (.ref a :: st) h Q := R_aldn rfl rfl
theorem s199_49q : Runs 199 49 [some (zrf r), x1, x2, x3, x4, x5, x6] st h Q ↔ Runs 199 50 [some (zrf r), x1, x2, x3, x4, x5, x6] (zrf r :: st) h Q := R_aldnq rfl rfl
theorem s199_50 : Runs 199 50 [x0, x1, x2, some (.int i), x4, x5, x6] st h Q ↔ Runs 199 51 [x0, x1, x2, some (.int i), x4, x5, x6] (.int i :: st) h Q := R_ildn rfl rfl
theorem s199_51 : Runs 199 51 [x0, x1, x2, x3, some (.int i), x5, x6] st h Q ↔ Runs 199 53 [x0, x1, x2, x3, some (.int i), x5, x6] (.int i :: st) h Q := R_ild rfl rfl
theorem s199_53 : Runs 199 53 [x0, x1, x2, x3, x4, some (.int i), x6] st h Q ↔ Runs 199 55 [x0, x1, x2, x3, x4, some (.int i), x6] (.int i :: st) h Q := R_ild rfl rfl
theorem s199_55 (ht : tg a = 10) (hs : zsumc st ≤ 8) : Runs 199 55 ls (.int i2 :: .int i1 :: .int i0 :: .ref a :: st) (n, tg, ln, I, J, O) Q ↔ Runs 198 0 [some (.ref a), some (.int i0), some (.int i1), some (.int i2)] [] (n, tg, ln, I, J, O) (fun v h2 => Runs 199 58 ls (v.toList ++ st) h2 Q) := R_callv (a := a) (rest := st) rfl rfl rfl rfl rfl rfl rfl ht hs
theorem s199_58 : Runs 199 58 ls (.int i :: st) h Q ↔ if ¬ i = 0 then Runs 199 64 ls st h Q else Runs 199 61 ls st h Q := R_ifne rfl rfl
theorem s199_61 : Runs 199 61 ls st h Q ↔ Runs 199 63 ls (.int (-12) :: st) h Q := R_bipush rfl (by decide)
theorem s199_63 : Runs 199 63 ls [.int i] h Q ↔ Q (some (.int i)) h := R_iret rfl rfl
theorem s199_64 : Runs 199 64 ls st h Q ↔ Runs 199 65 ls (.int 0 :: st) h Q := R_iconst rfl rfl
theorem s199_65 : Runs 199 65 [x0, x1, x2, x3, x4, x5, x6] (.int i :: st) h Q ↔ Runs 199 67 [x0, x1, x2, x3, x4, zdrop x5, some (.int i)] st h Q := R_ist rfl rfl rfl
theorem s199_67 : Runs 199 67 [x0, x1, x2, x3, x4, x5, some (.int i)] st h Q ↔ Runs 199 69 [x0, x1, x2, x3, x4, x5, some (.int i)] (.int i :: st) h Q := R_ild rfl rfl
theorem s199_69 : Runs 199 69 [x0, x1, x2, x3, x4, some (.int i), x6] st h Q ↔ Runs 199 71 [x0, x1, x2, x3, x4, some (.int i), x6] (.int i :: st) h Q := R_ild rfl rfl
theorem s199_71 : Runs 199 71 ls (.int j :: .int i :: st) h Q ↔ if j ≤ i then Runs 199 143 ls st h Q else Runs 199 74 ls st h Q := R_icge rfl rfl
theorem s199_74 : Runs 199 74 [some (.ref a), x1, x2, x3, x4, x5, x6] st h Q ↔ Runs 199 75 [some (.ref a), x1, x2, x3, x4, x5, x6] (.ref a :: st) h Q := R_aldn rfl rfl
theorem s199_74q : Runs 199 74 [some (zrf r), x1, x2, x3, x4, x5, x6] st h Q ↔ Runs 199 75 [some (zrf r), x1, x2, x3, x4, x5, x6] (zrf r :: st) h Q := R_aldnq rfl rfl
theorem s199_75 (ht : tg a = 10) : Runs 199 75 ls (.ref a :: st) (n, tg, ln, I, J, O) Q ↔ Runs 199 78 ls (zrf (O a 26) :: st) (n, tg, ln, I, J, O) Q := R_getr rfl rfl rfl rfl ht
theorem s199_78 : Runs 199 78 [x0, x1, x2, x3, x4, x5, some (.int i)] st h Q ↔ Runs 199 80 [x0, x1, x2, x3, x4, x5, some (.int i)] (.int i :: st) h Q := R_ild rfl rfl
theorem s199_80 : Runs 199 80 [some (.ref a), x1, x2, x3, x4, x5, x6] st h Q ↔ Runs 199 81 [some (.ref a), x1, x2, x3, x4, x5, x6] (.ref a :: st) h Q := R_aldn rfl rfl
theorem s199_80q : Runs 199 80 [some (zrf r), x1, x2, x3, x4, x5, x6] st h Q ↔ Runs 199 81 [some (zrf r), x1, x2, x3, x4, x5, x6] (zrf r :: st) h Q := R_aldnq rfl rfl
theorem s199_81 (ht : tg a = 10) : Runs 199 81 ls (.ref a :: st) (n, tg, ln, I, J, O) Q ↔ Runs 199 84 ls (zrf (O a 9) :: st) (n, tg, ln, I, J, O) Q := R_getr rfl rfl rfl rfl ht
theorem s199_84 : Runs 199 84 ls st h Q ↔ Runs 199 86 ls (.int 12 :: st) h Q := R_bipush rfl (by decide)
theorem s199_86 : Runs 199 86 [x0, some (.int i), x2, x3, x4, x5, x6] st h Q ↔ Runs 199 87 [x0, some (.int i), x2, x3, x4, x5, x6] (.int i :: st) h Q := R_ildn rfl rfl
theorem s199_87 : Runs 199 87 ls (.int j :: .int i :: st) h Q ↔ Runs 199 88 ls (.int (i * j) :: st) h Q := R_imul rfl
theorem s199_88 : Runs 199 88 [x0, x1, some (.int i), x3, x4, x5, x6] st h Q ↔ Runs 199 89 [x0, x1, some (.int i), x3, x4, x5, x6] (.int i :: st) h Q := R_ildn rfl rfl
theorem s199_89 : Runs 199 89 ls (.int j :: .int i :: st) h Q ↔ Runs 199 90 ls (.int (i + j) :: st) h Q := R_iadd rfl
theorem s199_90 : Runs 199 90 [x0, x1, x2, x3, x4, x5, some (.int i)] st h Q ↔ Runs 199 92 [x0, x1, x2, x3, x4, x5, some (.int i)] (.int i :: st) h Q := R_ild rfl rfl
theorem s199_92 : Runs 199 92 ls (.int j :: .int i :: st) h Q ↔ Runs 199 93 ls (.int (i + j) :: st) h Q := R_iadd rfl
theorem s199_93 (ht : tg a = 20) : Runs 199 93 ls (.int i :: .ref a :: st) (n, tg, ln, I, J, O) Q ↔ ((0 ≤ i ∧ i < Int32.ofNat (ln a)) ∧ Runs 199 94 ls (.int (I a i) :: st) (n, tg, ln, I, J, O) Q) := R_iald rfl ht
theorem s199_94 (ht : tg a = 20) : Runs 199 94 ls (.int j :: .int i :: .ref a :: st) (n, tg, ln, I, J, O) Q ↔ ((0 ≤ i ∧ i < Int32.ofNat (ln a)) ∧ Runs 199 95 ls st (n, tg, ln, zu I a i j, J, O) Q) := R_iast rfl ht
theorem s199_95 : Runs 199 95 [some (.ref a), x1, x2, x3, x4, x5, x6] st h Q ↔ Runs 199 96 [some (.ref a), x1, x2, x3, x4, x5, x6] (.ref a :: st) h Q := R_aldn rfl rfl
theorem s199_95q : Runs 199 95 [some (zrf r), x1, x2, x3, x4, x5, x6] st h Q ↔ Runs 199 96 [some (zrf r), x1, x2, x3, x4, x5, x6] (zrf r :: st) h Q := R_aldnq rfl rfl
theorem s199_96 (ht : tg a = 10) : Runs 199 96 ls (.ref a :: st) (n, tg, ln, I, J, O) Q ↔ Runs 199 99 ls (zrf (O a 27) :: st) (n, tg, ln, I, J, O) Q := R_getr rfl rfl rfl rfl ht
theorem s199_99 : Runs 199 99 [x0, x1, x2, x3, x4, x5, some (.int i)] st h Q ↔ Runs 199 101 [x0, x1, x2, x3, x4, x5, some (.int i)] (.int i :: st) h Q := R_ild rfl rfl
theorem s199_101 : Runs 199 101 [some (.ref a), x1, x2, x3, x4, x5, x6] st h Q ↔ Runs 199 102 [some (.ref a), x1, x2, x3, x4, x5, x6] (.ref a :: st) h Q := R_aldn rfl rfl
theorem s199_101q : Runs 199 101 [some (zrf r), x1, x2, x3, x4, x5, x6] st h Q ↔ Runs 199 102 [some (zrf r), x1, x2, x3, x4, x5, x6] (zrf r :: st) h Q := R_aldnq rfl rfl
theorem s199_102 (ht : tg a = 10) : Runs 199 102 ls (.ref a :: st) (n, tg, ln, I, J, O) Q ↔ Runs 199 105 ls (zrf (O a 10) :: st) (n, tg, ln, I, J, O) Q := R_getr rfl rfl rfl rfl ht
theorem s199_105 : Runs 199 105 ls st h Q ↔ Runs 199 107 ls (.int 12 :: st) h Q := R_bipush rfl (by decide)
theorem s199_107 : Runs 199 107 [x0, some (.int i), x2, x3, x4, x5, x6] st h Q ↔ Runs 199 108 [x0, some (.int i), x2, x3, x4, x5, x6] (.int i :: st) h Q := R_ildn rfl rfl
theorem s199_108 : Runs 199 108 ls (.int j :: .int i :: st) h Q ↔ Runs 199 109 ls (.int (i * j) :: st) h Q := R_imul rfl
theorem s199_109 : Runs 199 109 [x0, x1, some (.int i), x3, x4, x5, x6] st h Q ↔ Runs 199 110 [x0, x1, some (.int i), x3, x4, x5, x6] (.int i :: st) h Q := R_ildn rfl rfl
theorem s199_110 : Runs 199 110 ls (.int j :: .int i :: st) h Q ↔ Runs 199 111 ls (.int (i + j) :: st) h Q := R_iadd rfl
theorem s199_111 : Runs 199 111 [x0, x1, x2, x3, x4, x5, some (.int i)] st h Q ↔ Runs 199 113 [x0, x1, x2, x3, x4, x5, some (.int i)] (.int i :: st) h Q := R_ild rfl rfl
theorem s199_113 : Runs 199 113 ls (.int j :: .int i :: st) h Q ↔ Runs 199 114 ls (.int (i + j) :: st) h Q := R_iadd rfl
theorem s199_114 (ht : tg a = 20) : Runs 199 114 ls (.int i :: .ref a :: st) (n, tg, ln, I, J, O) Q ↔ ((0 ≤ i ∧ i < Int32.ofNat (ln a)) ∧ Runs 199 115 ls (.int (I a i) :: st) (n, tg, ln, I, J, O) Q) := R_iald rfl ht
theorem s199_115 (ht : tg a = 20) : Runs 199 115 ls (.int j :: .int i :: .ref a :: st) (n, tg, ln, I, J, O) Q ↔ ((0 ≤ i ∧ i < Int32.ofNat (ln a)) ∧ Runs 199 116 ls st (n, tg, ln, zu I a i j, J, O) Q) := R_iast rfl ht
theorem s199_116 : Runs 199 116 [some (.ref a), x1, x2, x3, x4, x5, x6] st h Q ↔ Runs 199 117 [some (.ref a), x1, x2, x3, x4, x5, x6] (.ref a :: st) h Q := R_aldn rfl rfl
theorem s199_116q : Runs 199 116 [some (zrf r), x1, x2, x3, x4, x5, x6] st h Q ↔ Runs 199 117 [some (zrf r), x1, x2, x3, x4, x5, x6] (zrf r :: st) h Q := R_aldnq rfl rfl
theorem s199_117 (ht : tg a = 10) : Runs 199 117 ls (.ref a :: st) (n, tg, ln, I, J, O) Q ↔ Runs 199 120 ls (zrf (O a 28) :: st) (n, tg, ln, I, J, O) Q := R_getr rfl rfl rfl rfl ht
theorem s199_120 : Runs 199 120 [x0, x1, x2, x3, x4, x5, some (.int i)] st h Q ↔ Runs 199 122 [x0, x1, x2, x3, x4, x5, some (.int i)] (.int i :: st) h Q := R_ild rfl rfl
theorem s199_122 : Runs 199 122 [some (.ref a), x1, x2, x3, x4, x5, x6] st h Q ↔ Runs 199 123 [some (.ref a), x1, x2, x3, x4, x5, x6] (.ref a :: st) h Q := R_aldn rfl rfl
theorem s199_122q : Runs 199 122 [some (zrf r), x1, x2, x3, x4, x5, x6] st h Q ↔ Runs 199 123 [some (zrf r), x1, x2, x3, x4, x5, x6] (zrf r :: st) h Q := R_aldnq rfl rfl
theorem s199_123 (ht : tg a = 10) : Runs 199 123 ls (.ref a :: st) (n, tg, ln, I, J, O) Q ↔ Runs 199 126 ls (zrf (O a 11) :: st) (n, tg, ln, I, J, O) Q := R_getr rfl rfl rfl rfl ht
theorem s199_126 : Runs 199 126 ls st h Q ↔ Runs 199 128 ls (.int 12 :: st) h Q := R_bipush rfl (by decide)
theorem s199_128 : Runs 199 128 [x0, some (.int i), x2, x3, x4, x5, x6] st h Q ↔ Runs 199 129 [x0, some (.int i), x2, x3, x4, x5, x6] (.int i :: st) h Q := R_ildn rfl rfl
theorem s199_129 : Runs 199 129 ls (.int j :: .int i :: st) h Q ↔ Runs 199 130 ls (.int (i * j) :: st) h Q := R_imul rfl
theorem s199_130 : Runs 199 130 [x0, x1, some (.int i), x3, x4, x5, x6] st h Q ↔ Runs 199 131 [x0, x1, some (.int i), x3, x4, x5, x6] (.int i :: st) h Q := R_ildn rfl rfl
theorem s199_131 : Runs 199 131 ls (.int j :: .int i :: st) h Q ↔ Runs 199 132 ls (.int (i + j) :: st) h Q := R_iadd rfl
theorem s199_132 : Runs 199 132 [x0, x1, x2, x3, x4, x5, some (.int i)] st h Q ↔ Runs 199 134 [x0, x1, x2, x3, x4, x5, some (.int i)] (.int i :: st) h Q := R_ild rfl rfl
theorem s199_134 : Runs 199 134 ls (.int j :: .int i :: st) h Q ↔ Runs 199 135 ls (.int (i + j) :: st) h Q := R_iadd rfl
theorem s199_135 (ht : tg a = 21) : Runs 199 135 ls (.int i :: .ref a :: st) (n, tg, ln, I, J, O) Q ↔ ((0 ≤ i ∧ i < Int32.ofNat (ln a)) ∧ Runs 199 136 ls (.long (J a i) :: st) (n, tg, ln, I, J, O) Q) := R_lald rfl ht
theorem s199_136 (ht : tg a = 21) : Runs 199 136 ls (.long u :: .int i :: .ref a :: st) (n, tg, ln, I, J, O) Q ↔ ((0 ≤ i ∧ i < Int32.ofNat (ln a)) ∧ Runs 199 137 ls st (n, tg, ln, I, zu J a i u, O) Q) := R_last rfl ht
theorem s199_137 : Runs 199 137 [x0, x1, x2, x3, x4, x5, some (.int i)] st h Q ↔ Runs 199 140 [x0, x1, x2, x3, x4, zdrop x5, some (.int (i + 1))] st h Q := R_iinc rfl rfl rfl rfl rfl
theorem s199_140 : Runs 199 140 ls st h Q ↔ Runs 199 67 ls st h Q := R_goto rfl rfl
theorem s199_143 : Runs 199 143 ls st h Q ↔ Runs 199 144 ls (.int 0 :: st) h Q := R_iconst rfl rfl
theorem s199_144 : Runs 199 144 [x0, x1, x2, x3, x4, x5, x6] (.int i :: st) h Q ↔ Runs 199 146 [x0, x1, x2, x3, x4, zdrop x5, some (.int i)] st h Q := R_ist rfl rfl rfl
theorem s199_146 : Runs 199 146 [x0, x1, x2, x3, x4, x5, some (.int i)] st h Q ↔ Runs 199 148 [x0, x1, x2, x3, x4, x5, some (.int i)] (.int i :: st) h Q := R_ild rfl rfl
theorem s199_148 : Runs 199 148 [x0, x1, x2, x3, x4, some (.int i), x6] st h Q ↔ Runs 199 150 [x0, x1, x2, x3, x4, some (.int i), x6] (.int i :: st) h Q := R_ild rfl rfl
theorem s199_150 : Runs 199 150 ls (.int j :: .int i :: st) h Q ↔ if j ≤ i then Runs 199 225 ls st h Q else Runs 199 153 ls st h Q := R_icge rfl rfl
theorem s199_153 : Runs 199 153 [some (.ref a), x1, x2, x3, x4, x5, x6] st h Q ↔ Runs 199 154 [some (.ref a), x1, x2, x3, x4, x5, x6] (.ref a :: st) h Q := R_aldn rfl rfl
theorem s199_153q : Runs 199 153 [some (zrf r), x1, x2, x3, x4, x5, x6] st h Q ↔ Runs 199 154 [some (zrf r), x1, x2, x3, x4, x5, x6] (zrf r :: st) h Q := R_aldnq rfl rfl
theorem s199_154 (ht : tg a = 10) : Runs 199 154 ls (.ref a :: st) (n, tg, ln, I, J, O) Q ↔ Runs 199 157 ls (zrf (O a 9) :: st) (n, tg, ln, I, J, O) Q := R_getr rfl rfl rfl rfl ht
theorem s199_157 : Runs 199 157 ls st h Q ↔ Runs 199 159 ls (.int 12 :: st) h Q := R_bipush rfl (by decide)
theorem s199_159 : Runs 199 159 [x0, x1, x2, some (.int i), x4, x5, x6] st h Q ↔ Runs 199 160 [x0, x1, x2, some (.int i), x4, x5, x6] (.int i :: st) h Q := R_ildn rfl rfl
theorem s199_160 : Runs 199 160 ls (.int j :: .int i :: st) h Q ↔ Runs 199 161 ls (.int (i * j) :: st) h Q := R_imul rfl
theorem s199_161 : Runs 199 161 [x0, x1, x2, x3, some (.int i), x5, x6] st h Q ↔ Runs 199 163 [x0, x1, x2, x3, some (.int i), x5, x6] (.int i :: st) h Q := R_ild rfl rfl
theorem s199_163 : Runs 199 163 ls (.int j :: .int i :: st) h Q ↔ Runs 199 164 ls (.int (i + j) :: st) h Q := R_iadd rfl
theorem s199_164 : Runs 199 164 [x0, x1, x2, x3, x4, x5, some (.int i)] st h Q ↔ Runs 199 166 [x0, x1, x2, x3, x4, x5, some (.int i)] (.int i :: st) h Q := R_ild rfl rfl
theorem s199_166 : Runs 199 166 ls (.int j :: .int i :: st) h Q ↔ Runs 199 167 ls (.int (i + j) :: st) h Q := R_iadd rfl
theorem s199_167 : Runs 199 167 [some (.ref a), x1, x2, x3, x4, x5, x6] st h Q ↔ Runs 199 168 [some (.ref a), x1, x2, x3, x4, x5, x6] (.ref a :: st) h Q := R_aldn rfl rfl
theorem s199_167q : Runs 199 167 [some (zrf r), x1, x2, x3, x4, x5, x6] st h Q ↔ Runs 199 168 [some (zrf r), x1, x2, x3, x4, x5, x6] (zrf r :: st) h Q := R_aldnq rfl rfl
theorem s199_168 (ht : tg a = 10) : Runs 199 168 ls (.ref a :: st) (n, tg, ln, I, J, O) Q ↔ Runs 199 171 ls (zrf (O a 26) :: st) (n, tg, ln, I, J, O) Q := R_getr rfl rfl rfl rfl ht
theorem s199_171 : Runs 199 171 [x0, x1, x2, x3, x4, x5, some (.int i)] st h Q ↔ Runs 199 173 [x0, x1, x2, x3, x4, x5, some (.int i)] (.int i :: st) h Q := R_ild rfl rfl
theorem s199_173 (ht : tg a = 20) : Runs 199 173 ls (.int i :: .ref a :: st) (n, tg, ln, I, J, O) Q ↔ ((0 ≤ i ∧ i < Int32.ofNat (ln a)) ∧ Runs 199 174 ls (.int (I a i) :: st) (n, tg, ln, I, J, O) Q) := R_iald rfl ht
theorem s199_174 (ht : tg a = 20) : Runs 199 174 ls (.int j :: .int i :: .ref a :: st) (n, tg, ln, I, J, O) Q ↔ ((0 ≤ i ∧ i < Int32.ofNat (ln a)) ∧ Runs 199 175 ls st (n, tg, ln, zu I a i j, J, O) Q) := R_iast rfl ht
theorem s199_175 : Runs 199 175 [some (.ref a), x1, x2, x3, x4, x5, x6] st h Q ↔ Runs 199 176 [some (.ref a), x1, x2, x3, x4, x5, x6] (.ref a :: st) h Q := R_aldn rfl rfl
theorem s199_175q : Runs 199 175 [some (zrf r), x1, x2, x3, x4, x5, x6] st h Q ↔ Runs 199 176 [some (zrf r), x1, x2, x3, x4, x5, x6] (zrf r :: st) h Q := R_aldnq rfl rfl
theorem s199_176 (ht : tg a = 10) : Runs 199 176 ls (.ref a :: st) (n, tg, ln, I, J, O) Q ↔ Runs 199 179 ls (zrf (O a 10) :: st) (n, tg, ln, I, J, O) Q := R_getr rfl rfl rfl rfl ht
theorem s199_179 : Runs 199 179 ls st h Q ↔ Runs 199 181 ls (.int 12 :: st) h Q := R_bipush rfl (by decide)
theorem s199_181 : Runs 199 181 [x0, x1, x2, some (.int i), x4, x5, x6] st h Q ↔ Runs 199 182 [x0, x1, x2, some (.int i), x4, x5, x6] (.int i :: st) h Q := R_ildn rfl rfl
theorem s199_182 : Runs 199 182 ls (.int j :: .int i :: st) h Q ↔ Runs 199 183 ls (.int (i * j) :: st) h Q := R_imul rfl
theorem s199_183 : Runs 199 183 [x0, x1, x2, x3, some (.int i), x5, x6] st h Q ↔ Runs 199 185 [x0, x1, x2, x3, some (.int i), x5, x6] (.int i :: st) h Q := R_ild rfl rfl
theorem s199_185 : Runs 199 185 ls (.int j :: .int i :: st) h Q ↔ Runs 199 186 ls (.int (i + j) :: st) h Q := R_iadd rfl
theorem s199_186 : Runs 199 186 [x0, x1, x2, x3, x4, x5, some (.int i)] st h Q ↔ Runs 199 188 [x0, x1, x2, x3, x4, x5, some (.int i)] (.int i :: st) h Q := R_ild rfl rfl
theorem s199_188 : Runs 199 188 ls (.int j :: .int i :: st) h Q ↔ Runs 199 189 ls (.int (i + j) :: st) h Q := R_iadd rfl
theorem s199_189 : Runs 199 189 [some (.ref a), x1, x2, x3, x4, x5, x6] st h Q ↔ Runs 199 190 [some (.ref a), x1, x2, x3, x4, x5, x6] (.ref a :: st) h Q := R_aldn rfl rfl
theorem s199_189q : Runs 199 189 [some (zrf r), x1, x2, x3, x4, x5, x6] st h Q ↔ Runs 199 190 [some (zrf r), x1, x2, x3, x4, x5, x6] (zrf r :: st) h Q := R_aldnq rfl rfl
theorem s199_190 (ht : tg a = 10) : Runs 199 190 ls (.ref a :: st) (n, tg, ln, I, J, O) Q ↔ Runs 199 193 ls (zrf (O a 27) :: st) (n, tg, ln, I, J, O) Q := R_getr rfl rfl rfl rfl ht
theorem s199_193 : Runs 199 193 [x0, x1, x2, x3, x4, x5, some (.int i)] st h Q ↔ Runs 199 195 [x0, x1, x2, x3, x4, x5, some (.int i)] (.int i :: st) h Q := R_ild rfl rfl
theorem s199_195 (ht : tg a = 20) : Runs 199 195 ls (.int i :: .ref a :: st) (n, tg, ln, I, J, O) Q ↔ ((0 ≤ i ∧ i < Int32.ofNat (ln a)) ∧ Runs 199 196 ls (.int (I a i) :: st) (n, tg, ln, I, J, O) Q) := R_iald rfl ht
theorem s199_196 (ht : tg a = 20) : Runs 199 196 ls (.int j :: .int i :: .ref a :: st) (n, tg, ln, I, J, O) Q ↔ ((0 ≤ i ∧ i < Int32.ofNat (ln a)) ∧ Runs 199 197 ls st (n, tg, ln, zu I a i j, J, O) Q) := R_iast rfl ht
theorem s199_197 : Runs 199 197 [some (.ref a), x1, x2, x3, x4, x5, x6] st h Q ↔ Runs 199 198 [some (.ref a), x1, x2, x3, x4, x5, x6] (.ref a :: st) h Q := R_aldn rfl rfl
theorem s199_197q : Runs 199 197 [some (zrf r), x1, x2, x3, x4, x5, x6] st h Q ↔ Runs 199 198 [some (zrf r), x1, x2, x3, x4, x5, x6] (zrf r :: st) h Q := R_aldnq rfl rfl
theorem s199_198 (ht : tg a = 10) : Runs 199 198 ls (.ref a :: st) (n, tg, ln, I, J, O) Q ↔ Runs 199 201 ls (zrf (O a 11) :: st) (n, tg, ln, I, J, O) Q := R_getr rfl rfl rfl rfl ht
theorem s199_201 : Runs 199 201 ls st h Q ↔ Runs 199 203 ls (.int 12 :: st) h Q := R_bipush rfl (by decide)
theorem s199_203 : Runs 199 203 [x0, x1, x2, some (.int i), x4, x5, x6] st h Q ↔ Runs 199 204 [x0, x1, x2, some (.int i), x4, x5, x6] (.int i :: st) h Q := R_ildn rfl rfl
theorem s199_204 : Runs 199 204 ls (.int j :: .int i :: st) h Q ↔ Runs 199 205 ls (.int (i * j) :: st) h Q := R_imul rfl
theorem s199_205 : Runs 199 205 [x0, x1, x2, x3, some (.int i), x5, x6] st h Q ↔ Runs 199 207 [x0, x1, x2, x3, some (.int i), x5, x6] (.int i :: st) h Q := R_ild rfl rfl
theorem s199_207 : Runs 199 207 ls (.int j :: .int i :: st) h Q ↔ Runs 199 208 ls (.int (i + j) :: st) h Q := R_iadd rfl
theorem s199_208 : Runs 199 208 [x0, x1, x2, x3, x4, x5, some (.int i)] st h Q ↔ Runs 199 210 [x0, x1, x2, x3, x4, x5, some (.int i)] (.int i :: st) h Q := R_ild rfl rfl
theorem s199_210 : Runs 199 210 ls (.int j :: .int i :: st) h Q ↔ Runs 199 211 ls (.int (i + j) :: st) h Q := R_iadd rfl
theorem s199_211 : Runs 199 211 [some (.ref a), x1, x2, x3, x4, x5, x6] st h Q ↔ Runs 199 212 [some (.ref a), x1, x2, x3, x4, x5, x6] (.ref a :: st) h Q := R_aldn rfl rfl
theorem s199_211q : Runs 199 211 [some (zrf r), x1, x2, x3, x4, x5, x6] st h Q ↔ Runs 199 212 [some (zrf r), x1, x2, x3, x4, x5, x6] (zrf r :: st) h Q := R_aldnq rfl rfl
theorem s199_212 (ht : tg a = 10) : Runs 199 212 ls (.ref a :: st) (n, tg, ln, I, J, O) Q ↔ Runs 199 215 ls (zrf (O a 28) :: st) (n, tg, ln, I, J, O) Q := R_getr rfl rfl rfl rfl ht
theorem s199_215 : Runs 199 215 [x0, x1, x2, x3, x4, x5, some (.int i)] st h Q ↔ Runs 199 217 [x0, x1, x2, x3, x4, x5, some (.int i)] (.int i :: st) h Q := R_ild rfl rfl
theorem s199_217 (ht : tg a = 21) : Runs 199 217 ls (.int i :: .ref a :: st) (n, tg, ln, I, J, O) Q ↔ ((0 ≤ i ∧ i < Int32.ofNat (ln a)) ∧ Runs 199 218 ls (.long (J a i) :: st) (n, tg, ln, I, J, O) Q) := R_lald rfl ht
theorem s199_218 (ht : tg a = 21) : Runs 199 218 ls (.long u :: .int i :: .ref a :: st) (n, tg, ln, I, J, O) Q ↔ ((0 ≤ i ∧ i < Int32.ofNat (ln a)) ∧ Runs 199 219 ls st (n, tg, ln, I, zu J a i u, O) Q) := R_last rfl ht
theorem s199_219 : Runs 199 219 [x0, x1, x2, x3, x4, x5, some (.int i)] st h Q ↔ Runs 199 222 [x0, x1, x2, x3, x4, zdrop x5, some (.int (i + 1))] st h Q := R_iinc rfl rfl rfl rfl rfl
theorem s199_222 : Runs 199 222 ls st h Q ↔ Runs 199 146 ls st h Q := R_goto rfl rfl
theorem s199_225 : Runs 199 225 [x0, x1, x2, x3, x4, some (.int i), x6] st h Q ↔ Runs 199 227 [x0, x1, x2, x3, x4, some (.int i), x6] (.int i :: st) h Q := R_ild rfl rfl
theorem s199_227 : Runs 199 227 ls [.int i] h Q ↔ Q (some (.int i)) h := R_iret rfl rfl
theorem s200_0 : Runs 200 0 [x0, some (.int i), x2, x3] st h Q ↔ Runs 200 1 [x0, some (.int i), x2, x3] (.int i :: st) h Q := R_ildn rfl rfl
theorem s200_1 (hs : zsumc st ≤ 8) : Runs 200 1 ls (.int i0 :: st) h Q ↔ Runs 190 0 [some (.int i0)] [] h (fun v h2 => Runs 200 4 ls (v.toList ++ st) h2 Q) := R_calls (rest := st) rfl rfl rfl (by simp) rfl rfl rfl rfl hs
theorem s200_4 : Runs 200 4 ls (.int i :: st) h Q ↔ if ¬ i = 0 then Runs 200 10 ls st h Q else Runs 200 7 ls st h Q := R_ifne rfl rfl
theorem s200_7 : Runs 200 7 ls st h Q ↔ Runs 200 9 ls (.int (-2) :: st) h Q := R_bipush rfl (by decide)
theorem s200_9 : Runs 200 9 ls [.int i] h Q ↔ Q (some (.int i)) h := R_iret rfl rfl
theorem s200_10 : Runs 200 10 [some (.ref a), x1, x2, x3] st h Q ↔ Runs 200 11 [some (.ref a), x1, x2, x3] (.ref a :: st) h Q := R_aldn rfl rfl
theorem s200_10q : Runs 200 10 [some (zrf r), x1, x2, x3] st h Q ↔ Runs 200 11 [some (zrf r), x1, x2, x3] (zrf r :: st) h Q := R_aldnq rfl rfl
theorem s200_11 (ht : tg a = 10) : Runs 200 11 ls (.ref a :: st) (n, tg, ln, I, J, O) Q ↔ Runs 200 14 ls (zrf (O a 8) :: st) (n, tg, ln, I, J, O) Q := R_getr rfl rfl rfl rfl ht
theorem s200_14 : Runs 200 14 [x0, some (.int i), x2, x3] st h Q ↔ Runs 200 15 [x0, some (.int i), x2, x3] (.int i :: st) h Q := R_ildn rfl rfl
theorem s200_15 (ht : tg a = 20) : Runs 200 15 ls (.int i :: .ref a :: st) (n, tg, ln, I, J, O) Q ↔ ((0 ≤ i ∧ i < Int32.ofNat (ln a)) ∧ Runs 200 16 ls (.int (I a i) :: st) (n, tg, ln, I, J, O) Q) := R_iald rfl ht
theorem s200_16 : Runs 200 16 ls (.int i :: st) h Q ↔ if 0 ≤ i then Runs 200 22 ls st h Q else Runs 200 19 ls st h Q := R_ifge rfl rfl
theorem s200_19 : Runs 200 19 ls st h Q ↔ Runs 200 21 ls (.int (-11) :: st) h Q := R_bipush rfl (by decide)
theorem s200_21 : Runs 200 21 ls [.int i] h Q ↔ Q (some (.int i)) h := R_iret rfl rfl
theorem s200_22 : Runs 200 22 ls st h Q ↔ Runs 200 23 ls (.int 0 :: st) h Q := R_iconst rfl rfl
theorem s200_23 : Runs 200 23 [x0, x1, x2, x3] (.int i :: st) h Q ↔ Runs 200 24 [x0, zdrop x1, some (.int i), x3] st h Q := R_istn rfl rfl rfl
theorem s200_24 : Runs 200 24 ls st h Q ↔ Runs 200 25 ls (.int 0 :: st) h Q := R_iconst rfl rfl
theorem s200_25 : Runs 200 25 [x0, x1, x2, x3] (.int i :: st) h Q ↔ Runs 200 26 [x0, x1, zdrop x2, some (.int i)] st h Q := R_istn rfl rfl rfl
theorem s200_26 : Runs 200 26 [x0, x1, x2, some (.int i)] st h Q ↔ Runs 200 27 [x0, x1, x2, some (.int i)] (.int i :: st) h Q := R_ildn rfl rfl
theorem s200_27 : Runs 200 27 [some (.ref a), x1, x2, x3] st h Q ↔ Runs 200 28 [some (.ref a), x1, x2, x3] (.ref a :: st) h Q := R_aldn rfl rfl
theorem s200_27q : Runs 200 27 [some (zrf r), x1, x2, x3] st h Q ↔ Runs 200 28 [some (zrf r), x1, x2, x3] (zrf r :: st) h Q := R_aldnq rfl rfl
theorem s200_28 (ht : tg a = 10) : Runs 200 28 ls (.ref a :: st) (n, tg, ln, I, J, O) Q ↔ Runs 200 31 ls (zrf (O a 8) :: st) (n, tg, ln, I, J, O) Q := R_getr rfl rfl rfl rfl ht
theorem s200_31 : Runs 200 31 [x0, some (.int i), x2, x3] st h Q ↔ Runs 200 32 [x0, some (.int i), x2, x3] (.int i :: st) h Q := R_ildn rfl rfl
theorem s200_32 (ht : tg a = 20) : Runs 200 32 ls (.int i :: .ref a :: st) (n, tg, ln, I, J, O) Q ↔ ((0 ≤ i ∧ i < Int32.ofNat (ln a)) ∧ Runs 200 33 ls (.int (I a i) :: st) (n, tg, ln, I, J, O) Q) := R_iald rfl ht
theorem s200_33 : Runs 200 33 ls (.int j :: .int i :: st) h Q ↔ if j ≤ i then Runs 200 64 ls st h Q else Runs 200 36 ls st h Q := R_icge rfl rfl
theorem s200_36 : Runs 200 36 [x0, x1, some (.int i), x3] st h Q ↔ Runs 200 37 [x0, x1, some (.int i), x3] (.int i :: st) h Q := R_ildn rfl rfl
theorem s200_37 : Runs 200 37 [some (.ref a), x1, x2, x3] st h Q ↔ Runs 200 38 [some (.ref a), x1, x2, x3] (.ref a :: st) h Q := R_aldn rfl rfl
theorem s200_37q : Runs 200 37 [some (zrf r), x1, x2, x3] st h Q ↔ Runs 200 38 [some (zrf r), x1, x2, x3] (zrf r :: st) h Q := R_aldnq rfl rfl
theorem s200_38 (ht : tg a = 10) : Runs 200 38 ls (.ref a :: st) (n, tg, ln, I, J, O) Q ↔ Runs 200 41 ls (zrf (O a 9) :: st) (n, tg, ln, I, J, O) Q := R_getr rfl rfl rfl rfl ht
theorem s200_41 : Runs 200 41 ls st h Q ↔ Runs 200 43 ls (.int 12 :: st) h Q := R_bipush rfl (by decide)
theorem s200_43 : Runs 200 43 [x0, some (.int i), x2, x3] st h Q ↔ Runs 200 44 [x0, some (.int i), x2, x3] (.int i :: st) h Q := R_ildn rfl rfl
theorem s200_44 : Runs 200 44 ls (.int j :: .int i :: st) h Q ↔ Runs 200 45 ls (.int (i * j) :: st) h Q := R_imul rfl
theorem s200_45 : Runs 200 45 [x0, x1, x2, some (.int i)] st h Q ↔ Runs 200 46 [x0, x1, x2, some (.int i)] (.int i :: st) h Q := R_ildn rfl rfl
theorem s200_46 : Runs 200 46 ls (.int j :: .int i :: st) h Q ↔ Runs 200 47 ls (.int (i + j) :: st) h Q := R_iadd rfl
theorem s200_47 (ht : tg a = 20) : Runs 200 47 ls (.int i :: .ref a :: st) (n, tg, ln, I, J, O) Q ↔ ((0 ≤ i ∧ i < Int32.ofNat (ln a)) ∧ Runs 200 48 ls (.int (I a i) :: st) (n, tg, ln, I, J, O) Q) := R_iald rfl ht
theorem s200_48 : Runs 200 48 ls (.int i :: st) h Q ↔ if i ≤ 0 then Runs 200 55 ls st h Q else Runs 200 51 ls st h Q := R_ifle rfl rfl
theorem s200_51 : Runs 200 51 ls st h Q ↔ Runs 200 52 ls (.int 1 :: st) h Q := R_iconst rfl rfl
theorem s200_52 : Runs 200 52 ls st h Q ↔ Runs 200 56 ls st h Q := R_goto rfl rfl
theorem s200_55 : Runs 200 55 ls st h Q ↔ Runs 200 56 ls (.int 0 :: st) h Q := R_iconst rfl rfl
theorem s200_56 : Runs 200 56 ls (.int j :: .int i :: st) h Q ↔ Runs 200 57 ls (.int (i + j) :: st) h Q := R_iadd rfl
theorem s200_57 : Runs 200 57 [x0, x1, x2, x3] (.int i :: st) h Q ↔ Runs 200 58 [x0, zdrop x1, some (.int i), x3] st h Q := R_istn rfl rfl rfl
theorem s200_58 : Runs 200 58 [x0, x1, x2, some (.int i)] st h Q ↔ Runs 200 61 [x0, x1, zdrop x2, some (.int (i + 1))] st h Q := R_iinc rfl rfl rfl rfl rfl
theorem s200_61 : Runs 200 61 ls st h Q ↔ Runs 200 26 ls st h Q := R_goto rfl rfl
theorem s200_64 : Runs 200 64 [some (.ref a), x1, x2, x3] st h Q ↔ Runs 200 65 [some (.ref a), x1, x2, x3] (.ref a :: st) h Q := R_aldn rfl rfl
theorem s200_64q : Runs 200 64 [some (zrf r), x1, x2, x3] st h Q ↔ Runs 200 65 [some (zrf r), x1, x2, x3] (zrf r :: st) h Q := R_aldnq rfl rfl
theorem s200_65 (ht : tg a = 10) : Runs 200 65 ls (.ref a :: st) (n, tg, ln, I, J, O) Q ↔ Runs 200 68 ls (zrf (O a 8) :: st) (n, tg, ln, I, J, O) Q := R_getr rfl rfl rfl rfl ht
theorem s200_68 : Runs 200 68 [x0, some (.int i), x2, x3] st h Q ↔ Runs 200 69 [x0, some (.int i), x2, x3] (.int i :: st) h Q := R_ildn rfl rfl
theorem s200_69 : Runs 200 69 ls st h Q ↔ Runs 200 70 ls (.int (-1) :: st) h Q := R_iconst rfl rfl
theorem s200_70 (ht : tg a = 20) : Runs 200 70 ls (.int j :: .int i :: .ref a :: st) (n, tg, ln, I, J, O) Q ↔ ((0 ≤ i ∧ i < Int32.ofNat (ln a)) ∧ Runs 200 71 ls st (n, tg, ln, zu I a i j, J, O) Q) := R_iast rfl ht
theorem s200_71 : Runs 200 71 [x0, x1, some (.int i), x3] st h Q ↔ Runs 200 72 [x0, x1, some (.int i), x3] (.int i :: st) h Q := R_ildn rfl rfl
theorem s200_72 : Runs 200 72 ls [.int i] h Q ↔ Q (some (.int i)) h := R_iret rfl rfl
theorem s203_0 : Runs 203 0 [x0, some (.int i)] st h Q ↔ Runs 203 1 [x0, some (.int i)] (.int i :: st) h Q := R_ildn rfl rfl
theorem s203_1 : Runs 203 1 ls (.int i :: st) h Q ↔ if i = 0 then Runs 203 64 ls st h Q else if i = 1 then Runs 203 71 ls st h Q else if i = 2 then Runs 203 78 ls st h Q else if i = 3 then Runs 203 85 ls st h Q else if i = 4 then Runs 203 92 ls st h Q else if i = 5 then Runs 203 99 ls st h Q else if i = 6 then Runs 203 106 ls st h Q else if i = 7 then Runs 203 112 ls st h Q else if i = 8 then Runs 203 118 ls st h Q else if i = 9 then Runs 203 123 ls st h Q else if i = 10 then Runs 203 128 ls st h Q else if i = 11 then Runs 203 133 ls st h Q else Runs 203 138 ls st h Q := by
  by_cases h0 : i = 0
  · rw [if_pos h0]; subst h0; exact R_tabI rfl (by decide) rfl rfl
  rw [if_neg h0]
  by_cases h1 : i = 1
  · rw [if_pos h1]; subst h1; exact R_tabI rfl (by decide) rfl rfl
  rw [if_neg h1]
  by_cases h2 : i = 2
  · rw [if_pos h2]; subst h2; exact R_tabI rfl (by decide) rfl rfl
  rw [if_neg h2]
  by_cases h3 : i = 3
  · rw [if_pos h3]; subst h3; exact R_tabI rfl (by decide) rfl rfl
  rw [if_neg h3]
  by_cases h4 : i = 4
  · rw [if_pos h4]; subst h4; exact R_tabI rfl (by decide) rfl rfl
  rw [if_neg h4]
  by_cases h5 : i = 5
  · rw [if_pos h5]; subst h5; exact R_tabI rfl (by decide) rfl rfl
  rw [if_neg h5]
  by_cases h6 : i = 6
  · rw [if_pos h6]; subst h6; exact R_tabI rfl (by decide) rfl rfl
  rw [if_neg h6]
  by_cases h7 : i = 7
  · rw [if_pos h7]; subst h7; exact R_tabI rfl (by decide) rfl rfl
  rw [if_neg h7]
  by_cases h8 : i = 8
  · rw [if_pos h8]; subst h8; exact R_tabI rfl (by decide) rfl rfl
  rw [if_neg h8]
  by_cases h9 : i = 9
  · rw [if_pos h9]; subst h9; exact R_tabI rfl (by decide) rfl rfl
  rw [if_neg h9]
  by_cases h10 : i = 10
  · rw [if_pos h10]; subst h10; exact R_tabI rfl (by decide) rfl rfl
  rw [if_neg h10]
  by_cases h11 : i = 11
  · rw [if_pos h11]; subst h11; exact R_tabI rfl (by decide) rfl rfl
  rw [if_neg h11]
  exact R_tabO rfl (zout 11 i (by decide) (fun v hv => match v, hv with
    | 0, _ => h0
    | 1, _ => h1
    | 2, _ => h2
    | 3, _ => h3
    | 4, _ => h4
    | 5, _ => h5
    | 6, _ => h6
    | 7, _ => h7
    | 8, _ => h8
    | 9, _ => h9
    | 10, _ => h10
    | 11, _ => h11
    | z + 12, hv => absurd hv (by omega))) rfl
theorem s203_64 : Runs 203 64 [some (.ref a), x1] st h Q ↔ Runs 203 65 [some (.ref a), x1] (.ref a :: st) h Q := R_aldn rfl rfl
theorem s203_64q : Runs 203 64 [some (zrf r), x1] st h Q ↔ Runs 203 65 [some (zrf r), x1] (zrf r :: st) h Q := R_aldnq rfl rfl
theorem s203_65 (ht : tg a = 10) : Runs 203 65 ls (.ref a :: st) (n, tg, ln, I, J, O) Q ↔ Runs 203 68 ls (zrf (O a 0) :: st) (n, tg, ln, I, J, O) Q := R_getr rfl rfl rfl rfl ht
theorem s203_68 : Runs 203 68 ls st h Q ↔ Runs 203 69 ls (.int 0 :: st) h Q := R_iconst rfl rfl
theorem s203_69 (ht : tg a = 20) : Runs 203 69 ls (.int i :: .ref a :: st) (n, tg, ln, I, J, O) Q ↔ ((0 ≤ i ∧ i < Int32.ofNat (ln a)) ∧ Runs 203 70 ls (.int (I a i) :: st) (n, tg, ln, I, J, O) Q) := R_iald rfl ht
theorem s203_70 : Runs 203 70 ls [.int i] h Q ↔ Q (some (.int i)) h := R_iret rfl rfl
theorem s203_71 : Runs 203 71 [some (.ref a), x1] st h Q ↔ Runs 203 72 [some (.ref a), x1] (.ref a :: st) h Q := R_aldn rfl rfl
theorem s203_71q : Runs 203 71 [some (zrf r), x1] st h Q ↔ Runs 203 72 [some (zrf r), x1] (zrf r :: st) h Q := R_aldnq rfl rfl
theorem s203_72 (ht : tg a = 10) : Runs 203 72 ls (.ref a :: st) (n, tg, ln, I, J, O) Q ↔ Runs 203 75 ls (zrf (O a 0) :: st) (n, tg, ln, I, J, O) Q := R_getr rfl rfl rfl rfl ht
theorem s203_75 : Runs 203 75 ls st h Q ↔ Runs 203 76 ls (.int 4 :: st) h Q := R_iconst rfl rfl
theorem s203_76 (ht : tg a = 20) : Runs 203 76 ls (.int i :: .ref a :: st) (n, tg, ln, I, J, O) Q ↔ ((0 ≤ i ∧ i < Int32.ofNat (ln a)) ∧ Runs 203 77 ls (.int (I a i) :: st) (n, tg, ln, I, J, O) Q) := R_iald rfl ht
theorem s203_77 : Runs 203 77 ls [.int i] h Q ↔ Q (some (.int i)) h := R_iret rfl rfl
theorem s203_78 : Runs 203 78 [some (.ref a), x1] st h Q ↔ Runs 203 79 [some (.ref a), x1] (.ref a :: st) h Q := R_aldn rfl rfl
theorem s203_78q : Runs 203 78 [some (zrf r), x1] st h Q ↔ Runs 203 79 [some (zrf r), x1] (zrf r :: st) h Q := R_aldnq rfl rfl
theorem s203_79 (ht : tg a = 10) : Runs 203 79 ls (.ref a :: st) (n, tg, ln, I, J, O) Q ↔ Runs 203 82 ls (zrf (O a 0) :: st) (n, tg, ln, I, J, O) Q := R_getr rfl rfl rfl rfl ht
theorem s203_82 : Runs 203 82 ls st h Q ↔ Runs 203 83 ls (.int 5 :: st) h Q := R_iconst rfl rfl
theorem s203_83 (ht : tg a = 20) : Runs 203 83 ls (.int i :: .ref a :: st) (n, tg, ln, I, J, O) Q ↔ ((0 ≤ i ∧ i < Int32.ofNat (ln a)) ∧ Runs 203 84 ls (.int (I a i) :: st) (n, tg, ln, I, J, O) Q) := R_iald rfl ht
theorem s203_84 : Runs 203 84 ls [.int i] h Q ↔ Q (some (.int i)) h := R_iret rfl rfl
theorem s203_85 : Runs 203 85 [some (.ref a), x1] st h Q ↔ Runs 203 86 [some (.ref a), x1] (.ref a :: st) h Q := R_aldn rfl rfl
theorem s203_85q : Runs 203 85 [some (zrf r), x1] st h Q ↔ Runs 203 86 [some (zrf r), x1] (zrf r :: st) h Q := R_aldnq rfl rfl
theorem s203_86 (ht : tg a = 10) : Runs 203 86 ls (.ref a :: st) (n, tg, ln, I, J, O) Q ↔ Runs 203 89 ls (zrf (O a 0) :: st) (n, tg, ln, I, J, O) Q := R_getr rfl rfl rfl rfl ht
theorem s203_89 : Runs 203 89 ls st h Q ↔ Runs 203 90 ls (.int 1 :: st) h Q := R_iconst rfl rfl
theorem s203_90 (ht : tg a = 20) : Runs 203 90 ls (.int i :: .ref a :: st) (n, tg, ln, I, J, O) Q ↔ ((0 ≤ i ∧ i < Int32.ofNat (ln a)) ∧ Runs 203 91 ls (.int (I a i) :: st) (n, tg, ln, I, J, O) Q) := R_iald rfl ht
theorem s203_91 : Runs 203 91 ls [.int i] h Q ↔ Q (some (.int i)) h := R_iret rfl rfl
theorem s203_92 : Runs 203 92 [some (.ref a), x1] st h Q ↔ Runs 203 93 [some (.ref a), x1] (.ref a :: st) h Q := R_aldn rfl rfl
theorem s203_92q : Runs 203 92 [some (zrf r), x1] st h Q ↔ Runs 203 93 [some (zrf r), x1] (zrf r :: st) h Q := R_aldnq rfl rfl
theorem s203_93 (ht : tg a = 10) : Runs 203 93 ls (.ref a :: st) (n, tg, ln, I, J, O) Q ↔ Runs 203 96 ls (zrf (O a 0) :: st) (n, tg, ln, I, J, O) Q := R_getr rfl rfl rfl rfl ht
theorem s203_96 : Runs 203 96 ls st h Q ↔ Runs 203 97 ls (.int 2 :: st) h Q := R_iconst rfl rfl
theorem s203_97 (ht : tg a = 20) : Runs 203 97 ls (.int i :: .ref a :: st) (n, tg, ln, I, J, O) Q ↔ ((0 ≤ i ∧ i < Int32.ofNat (ln a)) ∧ Runs 203 98 ls (.int (I a i) :: st) (n, tg, ln, I, J, O) Q) := R_iald rfl ht
theorem s203_98 : Runs 203 98 ls [.int i] h Q ↔ Q (some (.int i)) h := R_iret rfl rfl
theorem s203_99 : Runs 203 99 [some (.ref a), x1] st h Q ↔ Runs 203 100 [some (.ref a), x1] (.ref a :: st) h Q := R_aldn rfl rfl
theorem s203_99q : Runs 203 99 [some (zrf r), x1] st h Q ↔ Runs 203 100 [some (zrf r), x1] (zrf r :: st) h Q := R_aldnq rfl rfl
theorem s203_100 (ht : tg a = 10) : Runs 203 100 ls (.ref a :: st) (n, tg, ln, I, J, O) Q ↔ Runs 203 103 ls (zrf (O a 0) :: st) (n, tg, ln, I, J, O) Q := R_getr rfl rfl rfl rfl ht
theorem s203_103 : Runs 203 103 ls st h Q ↔ Runs 203 104 ls (.int 3 :: st) h Q := R_iconst rfl rfl
theorem s203_104 (ht : tg a = 20) : Runs 203 104 ls (.int i :: .ref a :: st) (n, tg, ln, I, J, O) Q ↔ ((0 ≤ i ∧ i < Int32.ofNat (ln a)) ∧ Runs 203 105 ls (.int (I a i) :: st) (n, tg, ln, I, J, O) Q) := R_iald rfl ht
theorem s203_105 : Runs 203 105 ls [.int i] h Q ↔ Q (some (.int i)) h := R_iret rfl rfl
theorem s203_106 : Runs 203 106 [some (.ref a), x1] st h Q ↔ Runs 203 107 [some (.ref a), x1] (.ref a :: st) h Q := R_aldn rfl rfl
theorem s203_106q : Runs 203 106 [some (zrf r), x1] st h Q ↔ Runs 203 107 [some (zrf r), x1] (zrf r :: st) h Q := R_aldnq rfl rfl
theorem s203_107 : Runs 203 107 ls st h Q ↔ Runs 203 108 ls (.int 1 :: st) h Q := R_iconst rfl rfl
theorem s203_108 (ht : tg a = 10) (hs : zsumc st ≤ 8) : Runs 203 108 ls (.int i0 :: .ref a :: st) (n, tg, ln, I, J, O) Q ↔ Runs 201 0 [some (.ref a), some (.int i0), none, none] [] (n, tg, ln, I, J, O) (fun v h2 => Runs 203 111 ls (v.toList ++ st) h2 Q) := R_callv (a := a) (rest := st) rfl rfl rfl rfl rfl rfl rfl ht hs
theorem s203_111 : Runs 203 111 ls [.int i] h Q ↔ Q (some (.int i)) h := R_iret rfl rfl
theorem s203_112 : Runs 203 112 [some (.ref a), x1] st h Q ↔ Runs 203 113 [some (.ref a), x1] (.ref a :: st) h Q := R_aldn rfl rfl
theorem s203_112q : Runs 203 112 [some (zrf r), x1] st h Q ↔ Runs 203 113 [some (zrf r), x1] (zrf r :: st) h Q := R_aldnq rfl rfl
theorem s203_113 : Runs 203 113 ls st h Q ↔ Runs 203 114 ls (.int 2 :: st) h Q := R_iconst rfl rfl
theorem s203_114 (ht : tg a = 10) (hs : zsumc st ≤ 8) : Runs 203 114 ls (.int i0 :: .ref a :: st) (n, tg, ln, I, J, O) Q ↔ Runs 201 0 [some (.ref a), some (.int i0), none, none] [] (n, tg, ln, I, J, O) (fun v h2 => Runs 203 117 ls (v.toList ++ st) h2 Q) := R_callv (a := a) (rest := st) rfl rfl rfl rfl rfl rfl rfl ht hs
theorem s203_117 : Runs 203 117 ls [.int i] h Q ↔ Q (some (.int i)) h := R_iret rfl rfl
theorem s203_118 : Runs 203 118 [some (.ref a), x1] st h Q ↔ Runs 203 119 [some (.ref a), x1] (.ref a :: st) h Q := R_aldn rfl rfl
theorem s203_118q : Runs 203 118 [some (zrf r), x1] st h Q ↔ Runs 203 119 [some (zrf r), x1] (zrf r :: st) h Q := R_aldnq rfl rfl
theorem s203_119 (ht : tg a = 10) : Runs 203 119 ls (.ref a :: st) (n, tg, ln, I, J, O) Q ↔ Runs 203 122 ls (.int (I a 5) :: st) (n, tg, ln, I, J, O) Q := R_geti rfl rfl rfl rfl ht
theorem s203_122 : Runs 203 122 ls [.int i] h Q ↔ Q (some (.int i)) h := R_iret rfl rfl
theorem s203_123 : Runs 203 123 [some (.ref a), x1] st h Q ↔ Runs 203 124 [some (.ref a), x1] (.ref a :: st) h Q := R_aldn rfl rfl
theorem s203_123q : Runs 203 123 [some (zrf r), x1] st h Q ↔ Runs 203 124 [some (zrf r), x1] (zrf r :: st) h Q := R_aldnq rfl rfl
theorem s203_124 (ht : tg a = 10) (hs : zsumc st ≤ 8) : Runs 203 124 ls (.ref a :: st) (n, tg, ln, I, J, O) Q ↔ Runs 202 0 [some (.ref a), none, none] [] (n, tg, ln, I, J, O) (fun v h2 => Runs 203 127 ls (v.toList ++ st) h2 Q) := R_callv (a := a) (rest := st) rfl rfl rfl rfl rfl rfl rfl ht hs
theorem s203_127 : Runs 203 127 ls [.int i] h Q ↔ Q (some (.int i)) h := R_iret rfl rfl
theorem s203_128 : Runs 203 128 [some (.ref a), x1] st h Q ↔ Runs 203 129 [some (.ref a), x1] (.ref a :: st) h Q := R_aldn rfl rfl
theorem s203_128q : Runs 203 128 [some (zrf r), x1] st h Q ↔ Runs 203 129 [some (zrf r), x1] (zrf r :: st) h Q := R_aldnq rfl rfl
theorem s203_129 (ht : tg a = 10) : Runs 203 129 ls (.ref a :: st) (n, tg, ln, I, J, O) Q ↔ Runs 203 132 ls (.int (I a 1) :: st) (n, tg, ln, I, J, O) Q := R_geti rfl rfl rfl rfl ht
theorem s203_132 : Runs 203 132 ls [.int i] h Q ↔ Q (some (.int i)) h := R_iret rfl rfl
theorem s203_133 : Runs 203 133 [some (.ref a), x1] st h Q ↔ Runs 203 134 [some (.ref a), x1] (.ref a :: st) h Q := R_aldn rfl rfl
theorem s203_133q : Runs 203 133 [some (zrf r), x1] st h Q ↔ Runs 203 134 [some (zrf r), x1] (zrf r :: st) h Q := R_aldnq rfl rfl
theorem s203_134 (ht : tg a = 10) : Runs 203 134 ls (.ref a :: st) (n, tg, ln, I, J, O) Q ↔ Runs 203 137 ls (.int (I a 4) :: st) (n, tg, ln, I, J, O) Q := R_geti rfl rfl rfl rfl ht
theorem s203_137 : Runs 203 137 ls [.int i] h Q ↔ Q (some (.int i)) h := R_iret rfl rfl
theorem s203_138 : Runs 203 138 ls st h Q ↔ Runs 203 140 ls (.int (-3) :: st) h Q := R_bipush rfl (by decide)
theorem s203_140 : Runs 203 140 ls [.int i] h Q ↔ Q (some (.int i)) h := R_iret rfl rfl
end ZROWS
