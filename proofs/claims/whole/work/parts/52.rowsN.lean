section ZROWS
variable {ls : List (Option Value)} {st : List Value} {h : ZH} {Q : Option Value → ZH → Prop} {n : Nat} {tg ln : Nat → Nat} {I : Nat → Int32 → Int32} {J : Nat → Int32 → Int64} {O : Nat → Int32 → Option Nat} {i j i0 i1 i2 i3 i4 : Int32} {u w u0 u1 u2 u3 : Int64} {a b b0 b1 b2 : Nat} {r r0 r1 r2 : Option Nat}
variable {x0 x1 x2 x3 x4 x5 x6 x7 x8 x9 x10 x11 x12 x13 x14 x15 x16 x17 x18 x19 : Option Value}
theorem s130_0 : Runs 130 0 [x0, some (.int i)] st h Q ↔ Runs 130 1 [x0, some (.int i)] (.int i :: st) h Q := R_ildn rfl rfl
theorem s130_1 : Runs 130 1 ls (.int i :: st) h Q ↔ Runs 130 2 ls (.long i.toInt64 :: st) h Q := R_i2l rfl
theorem s130_2 : Runs 130 2 ls st h Q ↔ Runs 130 3 ls (.long 0 :: st) h Q := R_lconst rfl rfl
theorem s130_3 : Runs 130 3 ls st h Q ↔ Runs 130 6 ls (.long 255 :: st) h Q := R_ldc2 rfl rfl
theorem s130_6 (hs : zsumc st ≤ 8) : Runs 130 6 ls (.long u2 :: .long u1 :: .long u0 :: st) h Q ↔ Runs 127 0 [some (.long u0), none, some (.long u1), none, some (.long u2), none] [] h (fun v h2 => Runs 130 9 ls (v.toList ++ st) h2 Q) := R_calls (rest := st) rfl rfl rfl (by simp) rfl rfl rfl rfl hs
theorem s130_9 : Runs 130 9 ls (.int i :: st) h Q ↔ if ¬ i = 0 then Runs 130 15 ls st h Q else Runs 130 12 ls st h Q := R_ifne rfl rfl
theorem s130_12 : Runs 130 12 ls st h Q ↔ Runs 130 14 ls (.int (-3) :: st) h Q := R_bipush rfl (by decide)
theorem s130_14 : Runs 130 14 ls [.int i] h Q ↔ Q (some (.int i)) h := R_iret rfl rfl
theorem s130_15 : Runs 130 15 [some (.ref a), x1] st h Q ↔ Runs 130 16 [some (.ref a), x1] (.ref a :: st) h Q := R_aldn rfl rfl
theorem s130_15q : Runs 130 15 [some (zrf r), x1] st h Q ↔ Runs 130 16 [some (zrf r), x1] (zrf r :: st) h Q := R_aldnq rfl rfl
theorem s130_16 (ht : tg a = 10) : Runs 130 16 ls (.ref a :: st) (n, tg, ln, I, J, O) Q ↔ Runs 130 19 ls (.int (I a 4) :: st) (n, tg, ln, I, J, O) Q := R_geti rfl rfl rfl rfl ht
theorem s130_19 : Runs 130 19 ls st h Q ↔ Runs 130 22 ls (.int 200 :: st) h Q := R_sipush rfl (by decide)
theorem s130_22 : Runs 130 22 ls (.int j :: .int i :: st) h Q ↔ if ¬ i = j then Runs 130 28 ls st h Q else Runs 130 25 ls st h Q := R_icne rfl rfl
theorem s130_25 : Runs 130 25 ls st h Q ↔ Runs 130 27 ls (.int (-5) :: st) h Q := R_bipush rfl (by decide)
theorem s130_27 : Runs 130 27 ls [.int i] h Q ↔ Q (some (.int i)) h := R_iret rfl rfl
theorem s130_28 : Runs 130 28 [some (.ref a), x1] st h Q ↔ Runs 130 29 [some (.ref a), x1] (.ref a :: st) h Q := R_aldn rfl rfl
theorem s130_28q : Runs 130 28 [some (zrf r), x1] st h Q ↔ Runs 130 29 [some (zrf r), x1] (zrf r :: st) h Q := R_aldnq rfl rfl
theorem s130_29 (ht : tg a = 10) : Runs 130 29 ls (.ref a :: st) (n, tg, ln, I, J, O) Q ↔ Runs 130 32 ls (zrf (O a 3) :: st) (n, tg, ln, I, J, O) Q := R_getr rfl rfl rfl rfl ht
theorem s130_32 : Runs 130 32 [some (.ref a), x1] st h Q ↔ Runs 130 33 [some (.ref a), x1] (.ref a :: st) h Q := R_aldn rfl rfl
theorem s130_32q : Runs 130 32 [some (zrf r), x1] st h Q ↔ Runs 130 33 [some (zrf r), x1] (zrf r :: st) h Q := R_aldnq rfl rfl
theorem s130_33 (ht : tg a = 10) : Runs 130 33 ls (.ref a :: st) (n, tg, ln, I, J, O) Q ↔ Runs 130 36 ls (.int (I a 4) :: st) (n, tg, ln, I, J, O) Q := R_geti rfl rfl rfl rfl ht
theorem s130_36 : Runs 130 36 [x0, some (.int i)] st h Q ↔ Runs 130 37 [x0, some (.int i)] (.int i :: st) h Q := R_ildn rfl rfl
theorem s130_37 (ht : tg a = 20) : Runs 130 37 ls (.int j :: .int i :: .ref a :: st) (n, tg, ln, I, J, O) Q ↔ ((0 ≤ i ∧ i < Int32.ofNat (ln a)) ∧ Runs 130 38 ls st (n, tg, ln, zu I a i j, J, O) Q) := R_iast rfl ht
theorem s130_38 : Runs 130 38 [some (.ref a), x1] st h Q ↔ Runs 130 39 [some (.ref a), x1] (.ref a :: st) h Q := R_aldn rfl rfl
theorem s130_38q : Runs 130 38 [some (zrf r), x1] st h Q ↔ Runs 130 39 [some (zrf r), x1] (zrf r :: st) h Q := R_aldnq rfl rfl
theorem s130_39 : Runs 130 39 ls (.int i :: st) h Q ↔ Runs 130 40 ls (.int i :: .int i :: st) h Q := R_dupi rfl
theorem s130_39q : Runs 130 39 ls (.ref a :: st) h Q ↔ Runs 130 40 ls (.ref a :: .ref a :: st) h Q := R_dupr rfl
theorem s130_40 (ht : tg a = 10) : Runs 130 40 ls (.ref a :: st) (n, tg, ln, I, J, O) Q ↔ Runs 130 43 ls (.int (I a 4) :: st) (n, tg, ln, I, J, O) Q := R_geti rfl rfl rfl rfl ht
theorem s130_43 : Runs 130 43 ls st h Q ↔ Runs 130 44 ls (.int 1 :: st) h Q := R_iconst rfl rfl
theorem s130_44 : Runs 130 44 ls (.int j :: .int i :: st) h Q ↔ Runs 130 45 ls (.int (i + j) :: st) h Q := R_iadd rfl
theorem s130_45 (ht : tg a = 10) : Runs 130 45 ls (.int i :: .ref a :: st) (n, tg, ln, I, J, O) Q ↔ Runs 130 48 ls st (n, tg, ln, zu I a 4 i, J, O) Q := R_puti rfl rfl rfl rfl rfl rfl ht
theorem s130_48 : Runs 130 48 [some (.ref a), x1] st h Q ↔ Runs 130 49 [some (.ref a), x1] (.ref a :: st) h Q := R_aldn rfl rfl
theorem s130_48q : Runs 130 48 [some (zrf r), x1] st h Q ↔ Runs 130 49 [some (zrf r), x1] (zrf r :: st) h Q := R_aldnq rfl rfl
theorem s130_49 (ht : tg a = 10) : Runs 130 49 ls (.ref a :: st) (n, tg, ln, I, J, O) Q ↔ Runs 130 52 ls (.int (I a 4) :: st) (n, tg, ln, I, J, O) Q := R_geti rfl rfl rfl rfl ht
theorem s130_52 : Runs 130 52 ls [.int i] h Q ↔ Q (some (.int i)) h := R_iret rfl rfl
theorem s131_0 : Runs 131 0 [some (.ref a), x1] st h Q ↔ Runs 131 1 [some (.ref a), x1] (.ref a :: st) h Q := R_aldn rfl rfl
theorem s131_0q : Runs 131 0 [some (zrf r), x1] st h Q ↔ Runs 131 1 [some (zrf r), x1] (zrf r :: st) h Q := R_aldnq rfl rfl
theorem s131_1 (ht : tg a = 10) : Runs 131 1 ls (.ref a :: st) (n, tg, ln, I, J, O) Q ↔ Runs 131 4 ls (.int (I a 4) :: st) (n, tg, ln, I, J, O) Q := R_geti rfl rfl rfl rfl ht
theorem s131_4 : Runs 131 4 [x0, x1] (.int i :: st) h Q ↔ Runs 131 5 [zdrop x0, some (.int i)] st h Q := R_istn rfl rfl rfl
theorem s131_5 : Runs 131 5 [some (.ref a), x1] st h Q ↔ Runs 131 6 [some (.ref a), x1] (.ref a :: st) h Q := R_aldn rfl rfl
theorem s131_5q : Runs 131 5 [some (zrf r), x1] st h Q ↔ Runs 131 6 [some (zrf r), x1] (zrf r :: st) h Q := R_aldnq rfl rfl
theorem s131_6 : Runs 131 6 ls st h Q ↔ Runs 131 7 ls (.int 0 :: st) h Q := R_iconst rfl rfl
theorem s131_7 (ht : tg a = 10) : Runs 131 7 ls (.int i :: .ref a :: st) (n, tg, ln, I, J, O) Q ↔ Runs 131 10 ls st (n, tg, ln, zu I a 4 i, J, O) Q := R_puti rfl rfl rfl rfl rfl rfl ht
theorem s131_10 : Runs 131 10 [x0, some (.int i)] st h Q ↔ Runs 131 11 [x0, some (.int i)] (.int i :: st) h Q := R_ildn rfl rfl
theorem s131_11 : Runs 131 11 ls [.int i] h Q ↔ Q (some (.int i)) h := R_iret rfl rfl
theorem s132_0 : Runs 132 0 [some (.int i)] st h Q ↔ Runs 132 1 [some (.int i)] (.int i :: st) h Q := R_ildn rfl rfl
theorem s132_1 : Runs 132 1 ls (.int i :: st) h Q ↔ Runs 132 2 ls (.long i.toInt64 :: st) h Q := R_i2l rfl
theorem s132_2 : Runs 132 2 ls st h Q ↔ Runs 132 5 ls (.long 97 :: st) h Q := R_ldc2 rfl rfl
theorem s132_5 : Runs 132 5 ls st h Q ↔ Runs 132 8 ls (.long 122 :: st) h Q := R_ldc2 rfl rfl
theorem s132_8 (hs : zsumc st ≤ 8) : Runs 132 8 ls (.long u2 :: .long u1 :: .long u0 :: st) h Q ↔ Runs 127 0 [some (.long u0), none, some (.long u1), none, some (.long u2), none] [] h (fun v h2 => Runs 132 11 ls (v.toList ++ st) h2 Q) := R_calls (rest := st) rfl rfl rfl (by simp) rfl rfl rfl rfl hs
theorem s132_11 (hx : i = 0 ∨ i = 1) : Runs 132 11 ls [.int i] h Q ↔ Q (some (.int i)) h := R_zret rfl rfl hx
theorem s133_0 : Runs 133 0 [some (.int i)] st h Q ↔ Runs 133 1 [some (.int i)] (.int i :: st) h Q := R_ildn rfl rfl
theorem s133_1 : Runs 133 1 ls (.int i :: st) h Q ↔ Runs 133 2 ls (.long i.toInt64 :: st) h Q := R_i2l rfl
theorem s133_2 : Runs 133 2 ls st h Q ↔ Runs 133 5 ls (.long 48 :: st) h Q := R_ldc2 rfl rfl
theorem s133_5 : Runs 133 5 ls st h Q ↔ Runs 133 8 ls (.long 57 :: st) h Q := R_ldc2 rfl rfl
theorem s133_8 (hs : zsumc st ≤ 8) : Runs 133 8 ls (.long u2 :: .long u1 :: .long u0 :: st) h Q ↔ Runs 127 0 [some (.long u0), none, some (.long u1), none, some (.long u2), none] [] h (fun v h2 => Runs 133 11 ls (v.toList ++ st) h2 Q) := R_calls (rest := st) rfl rfl rfl (by simp) rfl rfl rfl rfl hs
theorem s133_11 (hx : i = 0 ∨ i = 1) : Runs 133 11 ls [.int i] h Q ↔ Q (some (.int i)) h := R_zret rfl rfl hx
theorem s134_0 : Runs 134 0 [some (.ref a)] st h Q ↔ Runs 134 1 [some (.ref a)] (.ref a :: st) h Q := R_aldn rfl rfl
theorem s134_0q : Runs 134 0 [some (zrf r)] st h Q ↔ Runs 134 1 [some (zrf r)] (zrf r :: st) h Q := R_aldnq rfl rfl
theorem s134_1 : Runs 134 1 [some (.ref a)] st h Q ↔ Runs 134 2 [some (.ref a)] (.ref a :: st) h Q := R_aldn rfl rfl
theorem s134_1q : Runs 134 1 [some (zrf r)] st h Q ↔ Runs 134 2 [some (zrf r)] (zrf r :: st) h Q := R_aldnq rfl rfl
theorem s134_2 (ht : tg a = 10) : Runs 134 2 ls (.ref a :: st) (n, tg, ln, I, J, O) Q ↔ Runs 134 5 ls (.int (I a 13) :: st) (n, tg, ln, I, J, O) Q := R_geti rfl rfl rfl rfl ht
theorem s134_5 (ht : tg a = 10) : Runs 134 5 ls (.int i :: .ref a :: st) (n, tg, ln, I, J, O) Q ↔ Runs 134 8 ls st (n, tg, ln, zu I a 12 i, J, O) Q := R_puti rfl rfl rfl rfl rfl rfl ht
theorem s134_8 : Runs 134 8 [some (.ref a)] st h Q ↔ Runs 134 9 [some (.ref a)] (.ref a :: st) h Q := R_aldn rfl rfl
theorem s134_8q : Runs 134 8 [some (zrf r)] st h Q ↔ Runs 134 9 [some (zrf r)] (zrf r :: st) h Q := R_aldnq rfl rfl
theorem s134_9 (ht : tg a = 10) : Runs 134 9 ls (.ref a :: st) (n, tg, ln, I, J, O) Q ↔ Runs 134 12 ls (.int (I a 12) :: st) (n, tg, ln, I, J, O) Q := R_geti rfl rfl rfl rfl ht
theorem s134_12 : Runs 134 12 [some (.ref a)] st h Q ↔ Runs 134 13 [some (.ref a)] (.ref a :: st) h Q := R_aldn rfl rfl
theorem s134_12q : Runs 134 12 [some (zrf r)] st h Q ↔ Runs 134 13 [some (zrf r)] (zrf r :: st) h Q := R_aldnq rfl rfl
theorem s134_13 (ht : tg a = 10) : Runs 134 13 ls (.ref a :: st) (n, tg, ln, I, J, O) Q ↔ Runs 134 16 ls (.int (I a 4) :: st) (n, tg, ln, I, J, O) Q := R_geti rfl rfl rfl rfl ht
theorem s134_16 : Runs 134 16 ls (.int j :: .int i :: st) h Q ↔ if j ≤ i then Runs 134 46 ls st h Q else Runs 134 19 ls st h Q := R_icge rfl rfl
theorem s134_19 : Runs 134 19 [some (.ref a)] st h Q ↔ Runs 134 20 [some (.ref a)] (.ref a :: st) h Q := R_aldn rfl rfl
theorem s134_19q : Runs 134 19 [some (zrf r)] st h Q ↔ Runs 134 20 [some (zrf r)] (zrf r :: st) h Q := R_aldnq rfl rfl
theorem s134_20 (ht : tg a = 10) : Runs 134 20 ls (.ref a :: st) (n, tg, ln, I, J, O) Q ↔ Runs 134 23 ls (zrf (O a 3) :: st) (n, tg, ln, I, J, O) Q := R_getr rfl rfl rfl rfl ht
theorem s134_23 : Runs 134 23 [some (.ref a)] st h Q ↔ Runs 134 24 [some (.ref a)] (.ref a :: st) h Q := R_aldn rfl rfl
theorem s134_23q : Runs 134 23 [some (zrf r)] st h Q ↔ Runs 134 24 [some (zrf r)] (zrf r :: st) h Q := R_aldnq rfl rfl
theorem s134_24 (ht : tg a = 10) : Runs 134 24 ls (.ref a :: st) (n, tg, ln, I, J, O) Q ↔ Runs 134 27 ls (.int (I a 12) :: st) (n, tg, ln, I, J, O) Q := R_geti rfl rfl rfl rfl ht
theorem s134_27 (ht : tg a = 20) : Runs 134 27 ls (.int i :: .ref a :: st) (n, tg, ln, I, J, O) Q ↔ ((0 ≤ i ∧ i < Int32.ofNat (ln a)) ∧ Runs 134 28 ls (.int (I a i) :: st) (n, tg, ln, I, J, O) Q) := R_iald rfl ht
theorem s134_28 : Runs 134 28 ls st h Q ↔ Runs 134 30 ls (.int 32 :: st) h Q := R_bipush rfl (by decide)
theorem s134_30 : Runs 134 30 ls (.int j :: .int i :: st) h Q ↔ if ¬ i = j then Runs 134 46 ls st h Q else Runs 134 33 ls st h Q := R_icne rfl rfl
theorem s134_33 : Runs 134 33 [some (.ref a)] st h Q ↔ Runs 134 34 [some (.ref a)] (.ref a :: st) h Q := R_aldn rfl rfl
theorem s134_33q : Runs 134 33 [some (zrf r)] st h Q ↔ Runs 134 34 [some (zrf r)] (zrf r :: st) h Q := R_aldnq rfl rfl
theorem s134_34 : Runs 134 34 ls (.int i :: st) h Q ↔ Runs 134 35 ls (.int i :: .int i :: st) h Q := R_dupi rfl
theorem s134_34q : Runs 134 34 ls (.ref a :: st) h Q ↔ Runs 134 35 ls (.ref a :: .ref a :: st) h Q := R_dupr rfl
theorem s134_35 (ht : tg a = 10) : Runs 134 35 ls (.ref a :: st) (n, tg, ln, I, J, O) Q ↔ Runs 134 38 ls (.int (I a 12) :: st) (n, tg, ln, I, J, O) Q := R_geti rfl rfl rfl rfl ht
theorem s134_38 : Runs 134 38 ls st h Q ↔ Runs 134 39 ls (.int 1 :: st) h Q := R_iconst rfl rfl
theorem s134_39 : Runs 134 39 ls (.int j :: .int i :: st) h Q ↔ Runs 134 40 ls (.int (i + j) :: st) h Q := R_iadd rfl
theorem s134_40 (ht : tg a = 10) : Runs 134 40 ls (.int i :: .ref a :: st) (n, tg, ln, I, J, O) Q ↔ Runs 134 43 ls st (n, tg, ln, zu I a 12 i, J, O) Q := R_puti rfl rfl rfl rfl rfl rfl ht
theorem s134_43 : Runs 134 43 ls st h Q ↔ Runs 134 8 ls st h Q := R_goto rfl rfl
theorem s134_46 : Runs 134 46 [some (.ref a)] st h Q ↔ Runs 134 47 [some (.ref a)] (.ref a :: st) h Q := R_aldn rfl rfl
theorem s134_46q : Runs 134 46 [some (zrf r)] st h Q ↔ Runs 134 47 [some (zrf r)] (zrf r :: st) h Q := R_aldnq rfl rfl
theorem s134_47 : Runs 134 47 [some (.ref a)] st h Q ↔ Runs 134 48 [some (.ref a)] (.ref a :: st) h Q := R_aldn rfl rfl
theorem s134_47q : Runs 134 47 [some (zrf r)] st h Q ↔ Runs 134 48 [some (zrf r)] (zrf r :: st) h Q := R_aldnq rfl rfl
theorem s134_48 (ht : tg a = 10) : Runs 134 48 ls (.ref a :: st) (n, tg, ln, I, J, O) Q ↔ Runs 134 51 ls (.int (I a 12) :: st) (n, tg, ln, I, J, O) Q := R_geti rfl rfl rfl rfl ht
theorem s134_51 : Runs 134 51 [some (.ref a)] st h Q ↔ Runs 134 52 [some (.ref a)] (.ref a :: st) h Q := R_aldn rfl rfl
theorem s134_51q : Runs 134 51 [some (zrf r)] st h Q ↔ Runs 134 52 [some (zrf r)] (zrf r :: st) h Q := R_aldnq rfl rfl
theorem s134_52 (ht : tg a = 10) : Runs 134 52 ls (.ref a :: st) (n, tg, ln, I, J, O) Q ↔ Runs 134 55 ls (.int (I a 4) :: st) (n, tg, ln, I, J, O) Q := R_geti rfl rfl rfl rfl ht
theorem s134_55 : Runs 134 55 ls (.int j :: .int i :: st) h Q ↔ if j ≤ i then Runs 134 67 ls st h Q else Runs 134 58 ls st h Q := R_icge rfl rfl
theorem s134_58 : Runs 134 58 [some (.ref a)] st h Q ↔ Runs 134 59 [some (.ref a)] (.ref a :: st) h Q := R_aldn rfl rfl
theorem s134_58q : Runs 134 58 [some (zrf r)] st h Q ↔ Runs 134 59 [some (zrf r)] (zrf r :: st) h Q := R_aldnq rfl rfl
theorem s134_59 (ht : tg a = 10) : Runs 134 59 ls (.ref a :: st) (n, tg, ln, I, J, O) Q ↔ Runs 134 62 ls (.int (I a 12) :: st) (n, tg, ln, I, J, O) Q := R_geti rfl rfl rfl rfl ht
theorem s134_62 : Runs 134 62 ls st h Q ↔ Runs 134 63 ls (.int 1 :: st) h Q := R_iconst rfl rfl
theorem s134_63 : Runs 134 63 ls (.int j :: .int i :: st) h Q ↔ Runs 134 64 ls (.int (i + j) :: st) h Q := R_iadd rfl
theorem s134_64 : Runs 134 64 ls st h Q ↔ Runs 134 71 ls st h Q := R_goto rfl rfl
theorem s134_67 : Runs 134 67 [some (.ref a)] st h Q ↔ Runs 134 68 [some (.ref a)] (.ref a :: st) h Q := R_aldn rfl rfl
theorem s134_67q : Runs 134 67 [some (zrf r)] st h Q ↔ Runs 134 68 [some (zrf r)] (zrf r :: st) h Q := R_aldnq rfl rfl
theorem s134_68 (ht : tg a = 10) : Runs 134 68 ls (.ref a :: st) (n, tg, ln, I, J, O) Q ↔ Runs 134 71 ls (.int (I a 12) :: st) (n, tg, ln, I, J, O) Q := R_geti rfl rfl rfl rfl ht
theorem s134_71 (ht : tg a = 10) : Runs 134 71 ls (.int i :: .ref a :: st) (n, tg, ln, I, J, O) Q ↔ Runs 134 74 ls st (n, tg, ln, zu I a 13 i, J, O) Q := R_puti rfl rfl rfl rfl rfl rfl ht
theorem s134_74 : Runs 134 74 [some (.ref a)] st h Q ↔ Runs 134 75 [some (.ref a)] (.ref a :: st) h Q := R_aldn rfl rfl
theorem s134_74q : Runs 134 74 [some (zrf r)] st h Q ↔ Runs 134 75 [some (zrf r)] (zrf r :: st) h Q := R_aldnq rfl rfl
theorem s134_75 (ht : tg a = 10) : Runs 134 75 ls (.ref a :: st) (n, tg, ln, I, J, O) Q ↔ Runs 134 78 ls (.int (I a 12) :: st) (n, tg, ln, I, J, O) Q := R_geti rfl rfl rfl rfl ht
theorem s134_78 : Runs 134 78 [some (.ref a)] st h Q ↔ Runs 134 79 [some (.ref a)] (.ref a :: st) h Q := R_aldn rfl rfl
theorem s134_78q : Runs 134 78 [some (zrf r)] st h Q ↔ Runs 134 79 [some (zrf r)] (zrf r :: st) h Q := R_aldnq rfl rfl
theorem s134_79 (ht : tg a = 10) : Runs 134 79 ls (.ref a :: st) (n, tg, ln, I, J, O) Q ↔ Runs 134 82 ls (.int (I a 4) :: st) (n, tg, ln, I, J, O) Q := R_geti rfl rfl rfl rfl ht
theorem s134_82 : Runs 134 82 ls (.int j :: .int i :: st) h Q ↔ if j ≤ i then Runs 134 139 ls st h Q else Runs 134 85 ls st h Q := R_icge rfl rfl
theorem s134_85 : Runs 134 85 [some (.ref a)] st h Q ↔ Runs 134 86 [some (.ref a)] (.ref a :: st) h Q := R_aldn rfl rfl
theorem s134_85q : Runs 134 85 [some (zrf r)] st h Q ↔ Runs 134 86 [some (zrf r)] (zrf r :: st) h Q := R_aldnq rfl rfl
theorem s134_86 (ht : tg a = 10) : Runs 134 86 ls (.ref a :: st) (n, tg, ln, I, J, O) Q ↔ Runs 134 89 ls (zrf (O a 3) :: st) (n, tg, ln, I, J, O) Q := R_getr rfl rfl rfl rfl ht
theorem s134_89 : Runs 134 89 [some (.ref a)] st h Q ↔ Runs 134 90 [some (.ref a)] (.ref a :: st) h Q := R_aldn rfl rfl
theorem s134_89q : Runs 134 89 [some (zrf r)] st h Q ↔ Runs 134 90 [some (zrf r)] (zrf r :: st) h Q := R_aldnq rfl rfl
theorem s134_90 (ht : tg a = 10) : Runs 134 90 ls (.ref a :: st) (n, tg, ln, I, J, O) Q ↔ Runs 134 93 ls (.int (I a 12) :: st) (n, tg, ln, I, J, O) Q := R_geti rfl rfl rfl rfl ht
theorem s134_93 (ht : tg a = 20) : Runs 134 93 ls (.int i :: .ref a :: st) (n, tg, ln, I, J, O) Q ↔ ((0 ≤ i ∧ i < Int32.ofNat (ln a)) ∧ Runs 134 94 ls (.int (I a i) :: st) (n, tg, ln, I, J, O) Q) := R_iald rfl ht
theorem s134_94 (hs : zsumc st ≤ 8) : Runs 134 94 ls (.int i0 :: st) h Q ↔ Runs 132 0 [some (.int i0)] [] h (fun v h2 => Runs 134 97 ls (v.toList ++ st) h2 Q) := R_calls (rest := st) rfl rfl rfl (by simp) rfl rfl rfl rfl hs
theorem s134_97 : Runs 134 97 ls (.int i :: st) h Q ↔ if i = 0 then Runs 134 139 ls st h Q else Runs 134 100 ls st h Q := R_ifeq rfl rfl
theorem s134_100 : Runs 134 100 [some (.ref a)] st h Q ↔ Runs 134 101 [some (.ref a)] (.ref a :: st) h Q := R_aldn rfl rfl
theorem s134_100q : Runs 134 100 [some (zrf r)] st h Q ↔ Runs 134 101 [some (zrf r)] (zrf r :: st) h Q := R_aldnq rfl rfl
theorem s134_101 (ht : tg a = 10) : Runs 134 101 ls (.ref a :: st) (n, tg, ln, I, J, O) Q ↔ Runs 134 104 ls (.int (I a 13) :: st) (n, tg, ln, I, J, O) Q := R_geti rfl rfl rfl rfl ht
theorem s134_104 : Runs 134 104 [some (.ref a)] st h Q ↔ Runs 134 105 [some (.ref a)] (.ref a :: st) h Q := R_aldn rfl rfl
theorem s134_104q : Runs 134 104 [some (zrf r)] st h Q ↔ Runs 134 105 [some (zrf r)] (zrf r :: st) h Q := R_aldnq rfl rfl
theorem s134_105 (ht : tg a = 10) : Runs 134 105 ls (.ref a :: st) (n, tg, ln, I, J, O) Q ↔ Runs 134 108 ls (.int (I a 4) :: st) (n, tg, ln, I, J, O) Q := R_geti rfl rfl rfl rfl ht
theorem s134_108 : Runs 134 108 ls (.int j :: .int i :: st) h Q ↔ if j ≤ i then Runs 134 204 ls st h Q else Runs 134 111 ls st h Q := R_icge rfl rfl
theorem s134_111 : Runs 134 111 [some (.ref a)] st h Q ↔ Runs 134 112 [some (.ref a)] (.ref a :: st) h Q := R_aldn rfl rfl
theorem s134_111q : Runs 134 111 [some (zrf r)] st h Q ↔ Runs 134 112 [some (zrf r)] (zrf r :: st) h Q := R_aldnq rfl rfl
theorem s134_112 (ht : tg a = 10) : Runs 134 112 ls (.ref a :: st) (n, tg, ln, I, J, O) Q ↔ Runs 134 115 ls (zrf (O a 3) :: st) (n, tg, ln, I, J, O) Q := R_getr rfl rfl rfl rfl ht
theorem s134_115 : Runs 134 115 [some (.ref a)] st h Q ↔ Runs 134 116 [some (.ref a)] (.ref a :: st) h Q := R_aldn rfl rfl
theorem s134_115q : Runs 134 115 [some (zrf r)] st h Q ↔ Runs 134 116 [some (zrf r)] (zrf r :: st) h Q := R_aldnq rfl rfl
theorem s134_116 (ht : tg a = 10) : Runs 134 116 ls (.ref a :: st) (n, tg, ln, I, J, O) Q ↔ Runs 134 119 ls (.int (I a 13) :: st) (n, tg, ln, I, J, O) Q := R_geti rfl rfl rfl rfl ht
theorem s134_119 (ht : tg a = 20) : Runs 134 119 ls (.int i :: .ref a :: st) (n, tg, ln, I, J, O) Q ↔ ((0 ≤ i ∧ i < Int32.ofNat (ln a)) ∧ Runs 134 120 ls (.int (I a i) :: st) (n, tg, ln, I, J, O) Q) := R_iald rfl ht
theorem s134_120 (hs : zsumc st ≤ 8) : Runs 134 120 ls (.int i0 :: st) h Q ↔ Runs 132 0 [some (.int i0)] [] h (fun v h2 => Runs 134 123 ls (v.toList ++ st) h2 Q) := R_calls (rest := st) rfl rfl rfl (by simp) rfl rfl rfl rfl hs
theorem s134_123 : Runs 134 123 ls (.int i :: st) h Q ↔ if i = 0 then Runs 134 204 ls st h Q else Runs 134 126 ls st h Q := R_ifeq rfl rfl
theorem s134_126 : Runs 134 126 [some (.ref a)] st h Q ↔ Runs 134 127 [some (.ref a)] (.ref a :: st) h Q := R_aldn rfl rfl
theorem s134_126q : Runs 134 126 [some (zrf r)] st h Q ↔ Runs 134 127 [some (zrf r)] (zrf r :: st) h Q := R_aldnq rfl rfl
theorem s134_127 : Runs 134 127 ls (.int i :: st) h Q ↔ Runs 134 128 ls (.int i :: .int i :: st) h Q := R_dupi rfl
theorem s134_127q : Runs 134 127 ls (.ref a :: st) h Q ↔ Runs 134 128 ls (.ref a :: .ref a :: st) h Q := R_dupr rfl
theorem s134_128 (ht : tg a = 10) : Runs 134 128 ls (.ref a :: st) (n, tg, ln, I, J, O) Q ↔ Runs 134 131 ls (.int (I a 13) :: st) (n, tg, ln, I, J, O) Q := R_geti rfl rfl rfl rfl ht
theorem s134_131 : Runs 134 131 ls st h Q ↔ Runs 134 132 ls (.int 1 :: st) h Q := R_iconst rfl rfl
theorem s134_132 : Runs 134 132 ls (.int j :: .int i :: st) h Q ↔ Runs 134 133 ls (.int (i + j) :: st) h Q := R_iadd rfl
theorem s134_133 (ht : tg a = 10) : Runs 134 133 ls (.int i :: .ref a :: st) (n, tg, ln, I, J, O) Q ↔ Runs 134 136 ls st (n, tg, ln, zu I a 13 i, J, O) Q := R_puti rfl rfl rfl rfl rfl rfl ht
theorem s134_136 : Runs 134 136 ls st h Q ↔ Runs 134 100 ls st h Q := R_goto rfl rfl
theorem s134_139 : Runs 134 139 [some (.ref a)] st h Q ↔ Runs 134 140 [some (.ref a)] (.ref a :: st) h Q := R_aldn rfl rfl
theorem s134_139q : Runs 134 139 [some (zrf r)] st h Q ↔ Runs 134 140 [some (zrf r)] (zrf r :: st) h Q := R_aldnq rfl rfl
theorem s134_140 (ht : tg a = 10) : Runs 134 140 ls (.ref a :: st) (n, tg, ln, I, J, O) Q ↔ Runs 134 143 ls (.int (I a 12) :: st) (n, tg, ln, I, J, O) Q := R_geti rfl rfl rfl rfl ht
theorem s134_143 : Runs 134 143 [some (.ref a)] st h Q ↔ Runs 134 144 [some (.ref a)] (.ref a :: st) h Q := R_aldn rfl rfl
theorem s134_143q : Runs 134 143 [some (zrf r)] st h Q ↔ Runs 134 144 [some (zrf r)] (zrf r :: st) h Q := R_aldnq rfl rfl
theorem s134_144 (ht : tg a = 10) : Runs 134 144 ls (.ref a :: st) (n, tg, ln, I, J, O) Q ↔ Runs 134 147 ls (.int (I a 4) :: st) (n, tg, ln, I, J, O) Q := R_geti rfl rfl rfl rfl ht
theorem s134_147 : Runs 134 147 ls (.int j :: .int i :: st) h Q ↔ if j ≤ i then Runs 134 204 ls st h Q else Runs 134 150 ls st h Q := R_icge rfl rfl
theorem s134_150 : Runs 134 150 [some (.ref a)] st h Q ↔ Runs 134 151 [some (.ref a)] (.ref a :: st) h Q := R_aldn rfl rfl
theorem s134_150q : Runs 134 150 [some (zrf r)] st h Q ↔ Runs 134 151 [some (zrf r)] (zrf r :: st) h Q := R_aldnq rfl rfl
theorem s134_151 (ht : tg a = 10) : Runs 134 151 ls (.ref a :: st) (n, tg, ln, I, J, O) Q ↔ Runs 134 154 ls (zrf (O a 3) :: st) (n, tg, ln, I, J, O) Q := R_getr rfl rfl rfl rfl ht
theorem s134_154 : Runs 134 154 [some (.ref a)] st h Q ↔ Runs 134 155 [some (.ref a)] (.ref a :: st) h Q := R_aldn rfl rfl
theorem s134_154q : Runs 134 154 [some (zrf r)] st h Q ↔ Runs 134 155 [some (zrf r)] (zrf r :: st) h Q := R_aldnq rfl rfl
theorem s134_155 (ht : tg a = 10) : Runs 134 155 ls (.ref a :: st) (n, tg, ln, I, J, O) Q ↔ Runs 134 158 ls (.int (I a 12) :: st) (n, tg, ln, I, J, O) Q := R_geti rfl rfl rfl rfl ht
theorem s134_158 (ht : tg a = 20) : Runs 134 158 ls (.int i :: .ref a :: st) (n, tg, ln, I, J, O) Q ↔ ((0 ≤ i ∧ i < Int32.ofNat (ln a)) ∧ Runs 134 159 ls (.int (I a i) :: st) (n, tg, ln, I, J, O) Q) := R_iald rfl ht
theorem s134_159 (hs : zsumc st ≤ 8) : Runs 134 159 ls (.int i0 :: st) h Q ↔ Runs 133 0 [some (.int i0)] [] h (fun v h2 => Runs 134 162 ls (v.toList ++ st) h2 Q) := R_calls (rest := st) rfl rfl rfl (by simp) rfl rfl rfl rfl hs
theorem s134_162 : Runs 134 162 ls (.int i :: st) h Q ↔ if i = 0 then Runs 134 204 ls st h Q else Runs 134 165 ls st h Q := R_ifeq rfl rfl
theorem s134_165 : Runs 134 165 [some (.ref a)] st h Q ↔ Runs 134 166 [some (.ref a)] (.ref a :: st) h Q := R_aldn rfl rfl
theorem s134_165q : Runs 134 165 [some (zrf r)] st h Q ↔ Runs 134 166 [some (zrf r)] (zrf r :: st) h Q := R_aldnq rfl rfl
theorem s134_166 (ht : tg a = 10) : Runs 134 166 ls (.ref a :: st) (n, tg, ln, I, J, O) Q ↔ Runs 134 169 ls (.int (I a 13) :: st) (n, tg, ln, I, J, O) Q := R_geti rfl rfl rfl rfl ht
theorem s134_169 : Runs 134 169 [some (.ref a)] st h Q ↔ Runs 134 170 [some (.ref a)] (.ref a :: st) h Q := R_aldn rfl rfl
theorem s134_169q : Runs 134 169 [some (zrf r)] st h Q ↔ Runs 134 170 [some (zrf r)] (zrf r :: st) h Q := R_aldnq rfl rfl
theorem s134_170 (ht : tg a = 10) : Runs 134 170 ls (.ref a :: st) (n, tg, ln, I, J, O) Q ↔ Runs 134 173 ls (.int (I a 4) :: st) (n, tg, ln, I, J, O) Q := R_geti rfl rfl rfl rfl ht
theorem s134_173 : Runs 134 173 ls (.int j :: .int i :: st) h Q ↔ if j ≤ i then Runs 134 204 ls st h Q else Runs 134 176 ls st h Q := R_icge rfl rfl
theorem s134_176 : Runs 134 176 [some (.ref a)] st h Q ↔ Runs 134 177 [some (.ref a)] (.ref a :: st) h Q := R_aldn rfl rfl
theorem s134_176q : Runs 134 176 [some (zrf r)] st h Q ↔ Runs 134 177 [some (zrf r)] (zrf r :: st) h Q := R_aldnq rfl rfl
theorem s134_177 (ht : tg a = 10) : Runs 134 177 ls (.ref a :: st) (n, tg, ln, I, J, O) Q ↔ Runs 134 180 ls (zrf (O a 3) :: st) (n, tg, ln, I, J, O) Q := R_getr rfl rfl rfl rfl ht
theorem s134_180 : Runs 134 180 [some (.ref a)] st h Q ↔ Runs 134 181 [some (.ref a)] (.ref a :: st) h Q := R_aldn rfl rfl
theorem s134_180q : Runs 134 180 [some (zrf r)] st h Q ↔ Runs 134 181 [some (zrf r)] (zrf r :: st) h Q := R_aldnq rfl rfl
theorem s134_181 (ht : tg a = 10) : Runs 134 181 ls (.ref a :: st) (n, tg, ln, I, J, O) Q ↔ Runs 134 184 ls (.int (I a 13) :: st) (n, tg, ln, I, J, O) Q := R_geti rfl rfl rfl rfl ht
theorem s134_184 (ht : tg a = 20) : Runs 134 184 ls (.int i :: .ref a :: st) (n, tg, ln, I, J, O) Q ↔ ((0 ≤ i ∧ i < Int32.ofNat (ln a)) ∧ Runs 134 185 ls (.int (I a i) :: st) (n, tg, ln, I, J, O) Q) := R_iald rfl ht
theorem s134_185 (hs : zsumc st ≤ 8) : Runs 134 185 ls (.int i0 :: st) h Q ↔ Runs 133 0 [some (.int i0)] [] h (fun v h2 => Runs 134 188 ls (v.toList ++ st) h2 Q) := R_calls (rest := st) rfl rfl rfl (by simp) rfl rfl rfl rfl hs
theorem s134_188 : Runs 134 188 ls (.int i :: st) h Q ↔ if i = 0 then Runs 134 204 ls st h Q else Runs 134 191 ls st h Q := R_ifeq rfl rfl
theorem s134_191 : Runs 134 191 [some (.ref a)] st h Q ↔ Runs 134 192 [some (.ref a)] (.ref a :: st) h Q := R_aldn rfl rfl
theorem s134_191q : Runs 134 191 [some (zrf r)] st h Q ↔ Runs 134 192 [some (zrf r)] (zrf r :: st) h Q := R_aldnq rfl rfl
theorem s134_192 : Runs 134 192 ls (.int i :: st) h Q ↔ Runs 134 193 ls (.int i :: .int i :: st) h Q := R_dupi rfl
theorem s134_192q : Runs 134 192 ls (.ref a :: st) h Q ↔ Runs 134 193 ls (.ref a :: .ref a :: st) h Q := R_dupr rfl
theorem s134_193 (ht : tg a = 10) : Runs 134 193 ls (.ref a :: st) (n, tg, ln, I, J, O) Q ↔ Runs 134 196 ls (.int (I a 13) :: st) (n, tg, ln, I, J, O) Q := R_geti rfl rfl rfl rfl ht
theorem s134_196 : Runs 134 196 ls st h Q ↔ Runs 134 197 ls (.int 1 :: st) h Q := R_iconst rfl rfl
theorem s134_197 : Runs 134 197 ls (.int j :: .int i :: st) h Q ↔ Runs 134 198 ls (.int (i + j) :: st) h Q := R_iadd rfl
theorem s134_198 (ht : tg a = 10) : Runs 134 198 ls (.int i :: .ref a :: st) (n, tg, ln, I, J, O) Q ↔ Runs 134 201 ls st (n, tg, ln, zu I a 13 i, J, O) Q := R_puti rfl rfl rfl rfl rfl rfl ht
theorem s134_201 : Runs 134 201 ls st h Q ↔ Runs 134 165 ls st h Q := R_goto rfl rfl
theorem s134_204 : Runs 134 204 ls [] h Q ↔ Q none h := R_vret rfl rfl
theorem s135_0 : Runs 135 0 [some (.ref a), x1, x2, x3] st h Q ↔ Runs 135 1 [some (.ref a), x1, x2, x3] (.ref a :: st) h Q := R_aldn rfl rfl
theorem s135_0q : Runs 135 0 [some (zrf r), x1, x2, x3] st h Q ↔ Runs 135 1 [some (zrf r), x1, x2, x3] (zrf r :: st) h Q := R_aldnq rfl rfl
theorem s135_1 (ht : tg a = 10) : Runs 135 1 ls (.ref a :: st) (n, tg, ln, I, J, O) Q ↔ Runs 135 4 ls (.int (I a 13) :: st) (n, tg, ln, I, J, O) Q := R_geti rfl rfl rfl rfl ht
theorem s135_4 : Runs 135 4 [some (.ref a), x1, x2, x3] st h Q ↔ Runs 135 5 [some (.ref a), x1, x2, x3] (.ref a :: st) h Q := R_aldn rfl rfl
theorem s135_4q : Runs 135 4 [some (zrf r), x1, x2, x3] st h Q ↔ Runs 135 5 [some (zrf r), x1, x2, x3] (zrf r :: st) h Q := R_aldnq rfl rfl
theorem s135_5 (ht : tg a = 10) : Runs 135 5 ls (.ref a :: st) (n, tg, ln, I, J, O) Q ↔ Runs 135 8 ls (.int (I a 12) :: st) (n, tg, ln, I, J, O) Q := R_geti rfl rfl rfl rfl ht
theorem s135_8 : Runs 135 8 ls (.int j :: .int i :: st) h Q ↔ Runs 135 9 ls (.int (i - j) :: st) h Q := R_isub rfl
theorem s135_9 : Runs 135 9 [x0, some (.ref a), x2, x3] st h Q ↔ Runs 135 10 [x0, some (.ref a), x2, x3] (.ref a :: st) h Q := R_aldn rfl rfl
theorem s135_9q : Runs 135 9 [x0, some (zrf r), x2, x3] st h Q ↔ Runs 135 10 [x0, some (zrf r), x2, x3] (zrf r :: st) h Q := R_aldnq rfl rfl
theorem s135_10 (ht : tg a = 20 ∨ tg a = 30) : Runs 135 10 ls (.ref a :: st) (n, tg, ln, I, J, O) Q ↔ Runs 135 11 ls (.int (Int32.ofNat (ln a)) :: st) (n, tg, ln, I, J, O) Q := R_alen rfl ht
theorem s135_11 : Runs 135 11 ls (.int j :: .int i :: st) h Q ↔ if ¬ i = j then Runs 135 18 ls st h Q else Runs 135 14 ls st h Q := R_icne rfl rfl
theorem s135_14 : Runs 135 14 ls st h Q ↔ Runs 135 15 ls (.int 1 :: st) h Q := R_iconst rfl rfl
theorem s135_15 : Runs 135 15 ls st h Q ↔ Runs 135 19 ls st h Q := R_goto rfl rfl
theorem s135_18 : Runs 135 18 ls st h Q ↔ Runs 135 19 ls (.int 0 :: st) h Q := R_iconst rfl rfl
theorem s135_19 : Runs 135 19 [x0, x1, x2, x3] (.int i :: st) h Q ↔ Runs 135 20 [x0, zdrop x1, some (.int i), x3] st h Q := R_istn rfl rfl rfl
theorem s135_20 : Runs 135 20 ls st h Q ↔ Runs 135 21 ls (.int 0 :: st) h Q := R_iconst rfl rfl
theorem s135_21 : Runs 135 21 [x0, x1, x2, x3] (.int i :: st) h Q ↔ Runs 135 22 [x0, x1, zdrop x2, some (.int i)] st h Q := R_istn rfl rfl rfl
theorem s135_22 : Runs 135 22 [x0, x1, x2, some (.int i)] st h Q ↔ Runs 135 23 [x0, x1, x2, some (.int i)] (.int i :: st) h Q := R_ildn rfl rfl
theorem s135_23 : Runs 135 23 [x0, some (.ref a), x2, x3] st h Q ↔ Runs 135 24 [x0, some (.ref a), x2, x3] (.ref a :: st) h Q := R_aldn rfl rfl
theorem s135_23q : Runs 135 23 [x0, some (zrf r), x2, x3] st h Q ↔ Runs 135 24 [x0, some (zrf r), x2, x3] (zrf r :: st) h Q := R_aldnq rfl rfl
theorem s135_24 (ht : tg a = 20 ∨ tg a = 30) : Runs 135 24 ls (.ref a :: st) (n, tg, ln, I, J, O) Q ↔ Runs 135 25 ls (.int (Int32.ofNat (ln a)) :: st) (n, tg, ln, I, J, O) Q := R_alen rfl ht
theorem s135_25 : Runs 135 25 ls (.int j :: .int i :: st) h Q ↔ if j ≤ i then Runs 135 61 ls st h Q else Runs 135 28 ls st h Q := R_icge rfl rfl
theorem s135_28 : Runs 135 28 [x0, x1, some (.int i), x3] st h Q ↔ Runs 135 29 [x0, x1, some (.int i), x3] (.int i :: st) h Q := R_ildn rfl rfl
theorem s135_29 : Runs 135 29 ls (.int i :: st) h Q ↔ if i = 0 then Runs 135 61 ls st h Q else Runs 135 32 ls st h Q := R_ifeq rfl rfl
theorem s135_32 : Runs 135 32 [some (.ref a), x1, x2, x3] st h Q ↔ Runs 135 33 [some (.ref a), x1, x2, x3] (.ref a :: st) h Q := R_aldn rfl rfl
theorem s135_32q : Runs 135 32 [some (zrf r), x1, x2, x3] st h Q ↔ Runs 135 33 [some (zrf r), x1, x2, x3] (zrf r :: st) h Q := R_aldnq rfl rfl
theorem s135_33 (ht : tg a = 10) : Runs 135 33 ls (.ref a :: st) (n, tg, ln, I, J, O) Q ↔ Runs 135 36 ls (zrf (O a 3) :: st) (n, tg, ln, I, J, O) Q := R_getr rfl rfl rfl rfl ht
theorem s135_36 : Runs 135 36 [some (.ref a), x1, x2, x3] st h Q ↔ Runs 135 37 [some (.ref a), x1, x2, x3] (.ref a :: st) h Q := R_aldn rfl rfl
theorem s135_36q : Runs 135 36 [some (zrf r), x1, x2, x3] st h Q ↔ Runs 135 37 [some (zrf r), x1, x2, x3] (zrf r :: st) h Q := R_aldnq rfl rfl
theorem s135_37 (ht : tg a = 10) : Runs 135 37 ls (.ref a :: st) (n, tg, ln, I, J, O) Q ↔ Runs 135 40 ls (.int (I a 12) :: st) (n, tg, ln, I, J, O) Q := R_geti rfl rfl rfl rfl ht
theorem s135_40 : Runs 135 40 [x0, x1, x2, some (.int i)] st h Q ↔ Runs 135 41 [x0, x1, x2, some (.int i)] (.int i :: st) h Q := R_ildn rfl rfl
theorem s135_41 : Runs 135 41 ls (.int j :: .int i :: st) h Q ↔ Runs 135 42 ls (.int (i + j) :: st) h Q := R_iadd rfl
theorem s135_42 (ht : tg a = 20) : Runs 135 42 ls (.int i :: .ref a :: st) (n, tg, ln, I, J, O) Q ↔ ((0 ≤ i ∧ i < Int32.ofNat (ln a)) ∧ Runs 135 43 ls (.int (I a i) :: st) (n, tg, ln, I, J, O) Q) := R_iald rfl ht
theorem s135_43 : Runs 135 43 [x0, some (.ref a), x2, x3] st h Q ↔ Runs 135 44 [x0, some (.ref a), x2, x3] (.ref a :: st) h Q := R_aldn rfl rfl
theorem s135_43q : Runs 135 43 [x0, some (zrf r), x2, x3] st h Q ↔ Runs 135 44 [x0, some (zrf r), x2, x3] (zrf r :: st) h Q := R_aldnq rfl rfl
theorem s135_44 : Runs 135 44 [x0, x1, x2, some (.int i)] st h Q ↔ Runs 135 45 [x0, x1, x2, some (.int i)] (.int i :: st) h Q := R_ildn rfl rfl
theorem s135_45 (ht : tg a = 20) : Runs 135 45 ls (.int i :: .ref a :: st) (n, tg, ln, I, J, O) Q ↔ ((0 ≤ i ∧ i < Int32.ofNat (ln a)) ∧ Runs 135 46 ls (.int (I a i) :: st) (n, tg, ln, I, J, O) Q) := R_iald rfl ht
theorem s135_46 : Runs 135 46 ls (.int j :: .int i :: st) h Q ↔ if ¬ i = j then Runs 135 53 ls st h Q else Runs 135 49 ls st h Q := R_icne rfl rfl
theorem s135_49 : Runs 135 49 ls st h Q ↔ Runs 135 50 ls (.int 1 :: st) h Q := R_iconst rfl rfl
theorem s135_50 : Runs 135 50 ls st h Q ↔ Runs 135 54 ls st h Q := R_goto rfl rfl
theorem s135_53 : Runs 135 53 ls st h Q ↔ Runs 135 54 ls (.int 0 :: st) h Q := R_iconst rfl rfl
theorem s135_54 : Runs 135 54 [x0, x1, x2, x3] (.int i :: st) h Q ↔ Runs 135 55 [x0, zdrop x1, some (.int i), x3] st h Q := R_istn rfl rfl rfl
theorem s135_55 : Runs 135 55 [x0, x1, x2, some (.int i)] st h Q ↔ Runs 135 58 [x0, x1, zdrop x2, some (.int (i + 1))] st h Q := R_iinc rfl rfl rfl rfl rfl
theorem s135_58 : Runs 135 58 ls st h Q ↔ Runs 135 22 ls st h Q := R_goto rfl rfl
theorem s135_61 : Runs 135 61 [x0, x1, some (.int i), x3] st h Q ↔ Runs 135 62 [x0, x1, some (.int i), x3] (.int i :: st) h Q := R_ildn rfl rfl
theorem s135_62 (hx : i = 0 ∨ i = 1) : Runs 135 62 ls [.int i] h Q ↔ Q (some (.int i)) h := R_zret rfl rfl hx
theorem s136_0 : Runs 136 0 [some (.ref a), x1, x2, x3] st h Q ↔ Runs 136 1 [some (.ref a), x1, x2, x3] (.ref a :: st) h Q := R_aldn rfl rfl
theorem s136_0q : Runs 136 0 [some (zrf r), x1, x2, x3] st h Q ↔ Runs 136 1 [some (zrf r), x1, x2, x3] (zrf r :: st) h Q := R_aldnq rfl rfl
theorem s136_1 (ht : tg a = 10) : Runs 136 1 ls (.ref a :: st) (n, tg, ln, I, J, O) Q ↔ Runs 136 4 ls (.int (I a 12) :: st) (n, tg, ln, I, J, O) Q := R_geti rfl rfl rfl rfl ht
theorem s136_4 : Runs 136 4 [some (.ref a), x1, x2, x3] st h Q ↔ Runs 136 5 [some (.ref a), x1, x2, x3] (.ref a :: st) h Q := R_aldn rfl rfl
theorem s136_4q : Runs 136 4 [some (zrf r), x1, x2, x3] st h Q ↔ Runs 136 5 [some (zrf r), x1, x2, x3] (zrf r :: st) h Q := R_aldnq rfl rfl
theorem s136_5 (ht : tg a = 10) : Runs 136 5 ls (.ref a :: st) (n, tg, ln, I, J, O) Q ↔ Runs 136 8 ls (.int (I a 4) :: st) (n, tg, ln, I, J, O) Q := R_geti rfl rfl rfl rfl ht
theorem s136_8 : Runs 136 8 ls (.int j :: .int i :: st) h Q ↔ if i = j then Runs 136 39 ls st h Q else Runs 136 11 ls st h Q := R_iceq rfl rfl
theorem s136_11 : Runs 136 11 [some (.ref a), x1, x2, x3] st h Q ↔ Runs 136 12 [some (.ref a), x1, x2, x3] (.ref a :: st) h Q := R_aldn rfl rfl
theorem s136_11q : Runs 136 11 [some (zrf r), x1, x2, x3] st h Q ↔ Runs 136 12 [some (zrf r), x1, x2, x3] (zrf r :: st) h Q := R_aldnq rfl rfl
theorem s136_12 (ht : tg a = 10) : Runs 136 12 ls (.ref a :: st) (n, tg, ln, I, J, O) Q ↔ Runs 136 15 ls (zrf (O a 3) :: st) (n, tg, ln, I, J, O) Q := R_getr rfl rfl rfl rfl ht
theorem s136_15 : Runs 136 15 [some (.ref a), x1, x2, x3] st h Q ↔ Runs 136 16 [some (.ref a), x1, x2, x3] (.ref a :: st) h Q := R_aldn rfl rfl
theorem s136_15q : Runs 136 15 [some (zrf r), x1, x2, x3] st h Q ↔ Runs 136 16 [some (zrf r), x1, x2, x3] (zrf r :: st) h Q := R_aldnq rfl rfl
theorem s136_16 (ht : tg a = 10) : Runs 136 16 ls (.ref a :: st) (n, tg, ln, I, J, O) Q ↔ Runs 136 19 ls (.int (I a 12) :: st) (n, tg, ln, I, J, O) Q := R_geti rfl rfl rfl rfl ht
theorem s136_19 (ht : tg a = 20) : Runs 136 19 ls (.int i :: .ref a :: st) (n, tg, ln, I, J, O) Q ↔ ((0 ≤ i ∧ i < Int32.ofNat (ln a)) ∧ Runs 136 20 ls (.int (I a i) :: st) (n, tg, ln, I, J, O) Q) := R_iald rfl ht
theorem s136_20 (hs : zsumc st ≤ 8) : Runs 136 20 ls (.int i0 :: st) h Q ↔ Runs 133 0 [some (.int i0)] [] h (fun v h2 => Runs 136 23 ls (v.toList ++ st) h2 Q) := R_calls (rest := st) rfl rfl rfl (by simp) rfl rfl rfl rfl hs
theorem s136_23 : Runs 136 23 ls (.int i :: st) h Q ↔ if i = 0 then Runs 136 39 ls st h Q else Runs 136 26 ls st h Q := R_ifeq rfl rfl
theorem s136_26 : Runs 136 26 [some (.ref a), x1, x2, x3] st h Q ↔ Runs 136 27 [some (.ref a), x1, x2, x3] (.ref a :: st) h Q := R_aldn rfl rfl
theorem s136_26q : Runs 136 26 [some (zrf r), x1, x2, x3] st h Q ↔ Runs 136 27 [some (zrf r), x1, x2, x3] (zrf r :: st) h Q := R_aldnq rfl rfl
theorem s136_27 (ht : tg a = 10) : Runs 136 27 ls (.ref a :: st) (n, tg, ln, I, J, O) Q ↔ Runs 136 30 ls (.int (I a 13) :: st) (n, tg, ln, I, J, O) Q := R_geti rfl rfl rfl rfl ht
theorem s136_30 : Runs 136 30 [some (.ref a), x1, x2, x3] st h Q ↔ Runs 136 31 [some (.ref a), x1, x2, x3] (.ref a :: st) h Q := R_aldn rfl rfl
theorem s136_30q : Runs 136 30 [some (zrf r), x1, x2, x3] st h Q ↔ Runs 136 31 [some (zrf r), x1, x2, x3] (zrf r :: st) h Q := R_aldnq rfl rfl
theorem s136_31 (ht : tg a = 10) : Runs 136 31 ls (.ref a :: st) (n, tg, ln, I, J, O) Q ↔ Runs 136 34 ls (.int (I a 12) :: st) (n, tg, ln, I, J, O) Q := R_geti rfl rfl rfl rfl ht
theorem s136_34 : Runs 136 34 ls (.int j :: .int i :: st) h Q ↔ Runs 136 35 ls (.int (i - j) :: st) h Q := R_isub rfl
theorem s136_35 : Runs 136 35 ls st h Q ↔ Runs 136 36 ls (.int 2 :: st) h Q := R_iconst rfl rfl
theorem s136_36 : Runs 136 36 ls (.int j :: .int i :: st) h Q ↔ if i ≤ j then Runs 136 41 ls st h Q else Runs 136 39 ls st h Q := R_icle rfl rfl
theorem s136_39 : Runs 136 39 ls st h Q ↔ Runs 136 40 ls (.int (-1) :: st) h Q := R_iconst rfl rfl
theorem s136_40 : Runs 136 40 ls [.int i] h Q ↔ Q (some (.int i)) h := R_iret rfl rfl
theorem s136_41 : Runs 136 41 ls st h Q ↔ Runs 136 42 ls (.int 0 :: st) h Q := R_iconst rfl rfl
theorem s136_42 : Runs 136 42 [x0, x1, x2, x3] (.int i :: st) h Q ↔ Runs 136 43 [x0, zdrop x1, some (.int i), x3] st h Q := R_istn rfl rfl rfl
theorem s136_43 : Runs 136 43 [some (.ref a), x1, x2, x3] st h Q ↔ Runs 136 44 [some (.ref a), x1, x2, x3] (.ref a :: st) h Q := R_aldn rfl rfl
theorem s136_43q : Runs 136 43 [some (zrf r), x1, x2, x3] st h Q ↔ Runs 136 44 [some (zrf r), x1, x2, x3] (zrf r :: st) h Q := R_aldnq rfl rfl
theorem s136_44 (ht : tg a = 10) : Runs 136 44 ls (.ref a :: st) (n, tg, ln, I, J, O) Q ↔ Runs 136 47 ls (.int (I a 12) :: st) (n, tg, ln, I, J, O) Q := R_geti rfl rfl rfl rfl ht
theorem s136_47 : Runs 136 47 [x0, x1, x2, x3] (.int i :: st) h Q ↔ Runs 136 48 [x0, x1, zdrop x2, some (.int i)] st h Q := R_istn rfl rfl rfl
theorem s136_48 : Runs 136 48 [x0, x1, x2, some (.int i)] st h Q ↔ Runs 136 49 [x0, x1, x2, some (.int i)] (.int i :: st) h Q := R_ildn rfl rfl
theorem s136_49 : Runs 136 49 [some (.ref a), x1, x2, x3] st h Q ↔ Runs 136 50 [some (.ref a), x1, x2, x3] (.ref a :: st) h Q := R_aldn rfl rfl
theorem s136_49q : Runs 136 49 [some (zrf r), x1, x2, x3] st h Q ↔ Runs 136 50 [some (zrf r), x1, x2, x3] (zrf r :: st) h Q := R_aldnq rfl rfl
theorem s136_50 (ht : tg a = 10) : Runs 136 50 ls (.ref a :: st) (n, tg, ln, I, J, O) Q ↔ Runs 136 53 ls (.int (I a 13) :: st) (n, tg, ln, I, J, O) Q := R_geti rfl rfl rfl rfl ht
theorem s136_53 : Runs 136 53 ls (.int j :: .int i :: st) h Q ↔ if j ≤ i then Runs 136 77 ls st h Q else Runs 136 56 ls st h Q := R_icge rfl rfl
theorem s136_56 : Runs 136 56 ls st h Q ↔ Runs 136 58 ls (.int 10 :: st) h Q := R_bipush rfl (by decide)
theorem s136_58 : Runs 136 58 [x0, x1, some (.int i), x3] st h Q ↔ Runs 136 59 [x0, x1, some (.int i), x3] (.int i :: st) h Q := R_ildn rfl rfl
theorem s136_59 : Runs 136 59 ls (.int j :: .int i :: st) h Q ↔ Runs 136 60 ls (.int (i * j) :: st) h Q := R_imul rfl
theorem s136_60 : Runs 136 60 [some (.ref a), x1, x2, x3] st h Q ↔ Runs 136 61 [some (.ref a), x1, x2, x3] (.ref a :: st) h Q := R_aldn rfl rfl
theorem s136_60q : Runs 136 60 [some (zrf r), x1, x2, x3] st h Q ↔ Runs 136 61 [some (zrf r), x1, x2, x3] (zrf r :: st) h Q := R_aldnq rfl rfl
theorem s136_61 (ht : tg a = 10) : Runs 136 61 ls (.ref a :: st) (n, tg, ln, I, J, O) Q ↔ Runs 136 64 ls (zrf (O a 3) :: st) (n, tg, ln, I, J, O) Q := R_getr rfl rfl rfl rfl ht
theorem s136_64 : Runs 136 64 [x0, x1, x2, some (.int i)] st h Q ↔ Runs 136 65 [x0, x1, x2, some (.int i)] (.int i :: st) h Q := R_ildn rfl rfl
theorem s136_65 (ht : tg a = 20) : Runs 136 65 ls (.int i :: .ref a :: st) (n, tg, ln, I, J, O) Q ↔ ((0 ≤ i ∧ i < Int32.ofNat (ln a)) ∧ Runs 136 66 ls (.int (I a i) :: st) (n, tg, ln, I, J, O) Q) := R_iald rfl ht
theorem s136_66 : Runs 136 66 ls (.int j :: .int i :: st) h Q ↔ Runs 136 67 ls (.int (i + j) :: st) h Q := R_iadd rfl
theorem s136_67 : Runs 136 67 ls st h Q ↔ Runs 136 69 ls (.int 48 :: st) h Q := R_bipush rfl (by decide)
theorem s136_69 : Runs 136 69 ls (.int j :: .int i :: st) h Q ↔ Runs 136 70 ls (.int (i - j) :: st) h Q := R_isub rfl
theorem s136_70 : Runs 136 70 [x0, x1, x2, x3] (.int i :: st) h Q ↔ Runs 136 71 [x0, zdrop x1, some (.int i), x3] st h Q := R_istn rfl rfl rfl
theorem s136_71 : Runs 136 71 [x0, x1, x2, some (.int i)] st h Q ↔ Runs 136 74 [x0, x1, zdrop x2, some (.int (i + 1))] st h Q := R_iinc rfl rfl rfl rfl rfl
theorem s136_74 : Runs 136 74 ls st h Q ↔ Runs 136 48 ls st h Q := R_goto rfl rfl
theorem s136_77 : Runs 136 77 [x0, x1, some (.int i), x3] st h Q ↔ Runs 136 78 [x0, x1, some (.int i), x3] (.int i :: st) h Q := R_ildn rfl rfl
theorem s136_78 : Runs 136 78 [x0, some (.int i), x2, x3] st h Q ↔ Runs 136 79 [x0, some (.int i), x2, x3] (.int i :: st) h Q := R_ildn rfl rfl
theorem s136_79 : Runs 136 79 ls (.int j :: .int i :: st) h Q ↔ if j < i then Runs 136 86 ls st h Q else Runs 136 82 ls st h Q := R_icgt rfl rfl
theorem s136_82 : Runs 136 82 [x0, x1, some (.int i), x3] st h Q ↔ Runs 136 83 [x0, x1, some (.int i), x3] (.int i :: st) h Q := R_ildn rfl rfl
theorem s136_83 : Runs 136 83 ls st h Q ↔ Runs 136 87 ls st h Q := R_goto rfl rfl
theorem s136_86 : Runs 136 86 ls st h Q ↔ Runs 136 87 ls (.int (-1) :: st) h Q := R_iconst rfl rfl
theorem s136_87 : Runs 136 87 ls [.int i] h Q ↔ Q (some (.int i)) h := R_iret rfl rfl
theorem s137_0 : Runs 137 0 [some (.ref a), x1, x2, x3] st h Q ↔ Runs 137 1 [some (.ref a), x1, x2, x3] (.ref a :: st) h Q := R_aldn rfl rfl
theorem s137_0q : Runs 137 0 [some (zrf r), x1, x2, x3] st h Q ↔ Runs 137 1 [some (zrf r), x1, x2, x3] (zrf r :: st) h Q := R_aldnq rfl rfl
theorem s137_1 : Runs 137 1 [x0, x1, some (.int i), x3] st h Q ↔ Runs 137 2 [x0, x1, some (.int i), x3] (.int i :: st) h Q := R_ildn rfl rfl
theorem s137_2 (ht : tg a = 10) (hs : zsumc st ≤ 8) : Runs 137 2 ls (.int i0 :: .ref a :: st) (n, tg, ln, I, J, O) Q ↔ Runs 136 0 [some (.ref a), some (.int i0), none, none] [] (n, tg, ln, I, J, O) (fun v h2 => Runs 137 5 ls (v.toList ++ st) h2 Q) := R_callv (a := a) (rest := st) rfl rfl rfl rfl rfl rfl rfl ht hs
theorem s137_5 : Runs 137 5 [x0, x1, x2, x3] (.int i :: st) h Q ↔ Runs 137 6 [x0, x1, zdrop x2, some (.int i)] st h Q := R_istn rfl rfl rfl
theorem s137_6 : Runs 137 6 [x0, x1, x2, some (.int i)] st h Q ↔ Runs 137 7 [x0, x1, x2, some (.int i)] (.int i :: st) h Q := R_ildn rfl rfl
theorem s137_7 : Runs 137 7 ls st h Q ↔ Runs 137 8 ls (.int (-1) :: st) h Q := R_iconst rfl rfl
theorem s137_8 : Runs 137 8 ls (.int j :: .int i :: st) h Q ↔ if ¬ i = j then Runs 137 13 ls st h Q else Runs 137 11 ls st h Q := R_icne rfl rfl
theorem s137_11 : Runs 137 11 ls st h Q ↔ Runs 137 12 ls (.int 0 :: st) h Q := R_iconst rfl rfl
theorem s137_12 (hx : i = 0 ∨ i = 1) : Runs 137 12 ls [.int i] h Q ↔ Q (some (.int i)) h := R_zret rfl rfl hx
theorem s137_13 : Runs 137 13 [some (.ref a), x1, x2, x3] st h Q ↔ Runs 137 14 [some (.ref a), x1, x2, x3] (.ref a :: st) h Q := R_aldn rfl rfl
theorem s137_13q : Runs 137 13 [some (zrf r), x1, x2, x3] st h Q ↔ Runs 137 14 [some (zrf r), x1, x2, x3] (zrf r :: st) h Q := R_aldnq rfl rfl
theorem s137_14 (ht : tg a = 10) : Runs 137 14 ls (.ref a :: st) (n, tg, ln, I, J, O) Q ↔ Runs 137 17 ls (zrf (O a 18) :: st) (n, tg, ln, I, J, O) Q := R_getr rfl rfl rfl rfl ht
theorem s137_17 : Runs 137 17 [x0, some (.int i), x2, x3] st h Q ↔ Runs 137 18 [x0, some (.int i), x2, x3] (.int i :: st) h Q := R_ildn rfl rfl
theorem s137_18 : Runs 137 18 [x0, x1, x2, some (.int i)] st h Q ↔ Runs 137 19 [x0, x1, x2, some (.int i)] (.int i :: st) h Q := R_ildn rfl rfl
theorem s137_19 (ht : tg a = 20) : Runs 137 19 ls (.int j :: .int i :: .ref a :: st) (n, tg, ln, I, J, O) Q ↔ ((0 ≤ i ∧ i < Int32.ofNat (ln a)) ∧ Runs 137 20 ls st (n, tg, ln, zu I a i j, J, O) Q) := R_iast rfl ht
theorem s137_20 : Runs 137 20 [some (.ref a), x1, x2, x3] st h Q ↔ Runs 137 21 [some (.ref a), x1, x2, x3] (.ref a :: st) h Q := R_aldn rfl rfl
theorem s137_20q : Runs 137 20 [some (zrf r), x1, x2, x3] st h Q ↔ Runs 137 21 [some (zrf r), x1, x2, x3] (zrf r :: st) h Q := R_aldnq rfl rfl
theorem s137_21 (ht : tg a = 10) (hs : zsumc st ≤ 8) : Runs 137 21 ls (.ref a :: st) (n, tg, ln, I, J, O) Q ↔ Runs 134 0 [some (.ref a)] [] (n, tg, ln, I, J, O) (fun v h2 => Runs 137 24 ls (v.toList ++ st) h2 Q) := R_callv (a := a) (rest := st) rfl rfl rfl rfl rfl rfl rfl ht hs
theorem s137_24 : Runs 137 24 ls st h Q ↔ Runs 137 25 ls (.int 1 :: st) h Q := R_iconst rfl rfl
theorem s137_25 (hx : i = 0 ∨ i = 1) : Runs 137 25 ls [.int i] h Q ↔ Q (some (.int i)) h := R_zret rfl rfl hx
theorem s138_0 : Runs 138 0 [some (.ref a), x1] st h Q ↔ Runs 138 1 [some (.ref a), x1] (.ref a :: st) h Q := R_aldn rfl rfl
theorem s138_0q : Runs 138 0 [some (zrf r), x1] st h Q ↔ Runs 138 1 [some (zrf r), x1] (zrf r :: st) h Q := R_aldnq rfl rfl
theorem s138_1 : Runs 138 1 ls st h Q ↔ Runs 138 2 ls (.int 1 :: st) h Q := R_iconst rfl rfl
theorem s138_2 (ht : tg a = 10) (hs : zsumc st ≤ 8) : Runs 138 2 ls (.int i0 :: .ref a :: st) (n, tg, ln, I, J, O) Q ↔ Runs 136 0 [some (.ref a), some (.int i0), none, none] [] (n, tg, ln, I, J, O) (fun v h2 => Runs 138 5 ls (v.toList ++ st) h2 Q) := R_callv (a := a) (rest := st) rfl rfl rfl rfl rfl rfl rfl ht hs
theorem s138_5 : Runs 138 5 [x0, x1] (.int i :: st) h Q ↔ Runs 138 6 [zdrop x0, some (.int i)] st h Q := R_istn rfl rfl rfl
theorem s138_6 : Runs 138 6 [x0, some (.int i)] st h Q ↔ Runs 138 7 [x0, some (.int i)] (.int i :: st) h Q := R_ildn rfl rfl
theorem s138_7 : Runs 138 7 ls st h Q ↔ Runs 138 8 ls (.int (-1) :: st) h Q := R_iconst rfl rfl
theorem s138_8 : Runs 138 8 ls (.int j :: .int i :: st) h Q ↔ if i = j then Runs 138 35 ls st h Q else Runs 138 11 ls st h Q := R_iceq rfl rfl
theorem s138_11 : Runs 138 11 [some (.ref a), x1] st h Q ↔ Runs 138 12 [some (.ref a), x1] (.ref a :: st) h Q := R_aldn rfl rfl
theorem s138_11q : Runs 138 11 [some (zrf r), x1] st h Q ↔ Runs 138 12 [some (zrf r), x1] (zrf r :: st) h Q := R_aldnq rfl rfl
theorem s138_12 (ht : tg a = 10) : Runs 138 12 ls (.ref a :: st) (n, tg, ln, I, J, O) Q ↔ Runs 138 15 ls (zrf (O a 15) :: st) (n, tg, ln, I, J, O) Q := R_getr rfl rfl rfl rfl ht
theorem s138_15 : Runs 138 15 [x0, some (.int i)] st h Q ↔ Runs 138 16 [x0, some (.int i)] (.int i :: st) h Q := R_ildn rfl rfl
theorem s138_16 (ht : tg a = 20) : Runs 138 16 ls (.int i :: .ref a :: st) (n, tg, ln, I, J, O) Q ↔ ((0 ≤ i ∧ i < Int32.ofNat (ln a)) ∧ Runs 138 17 ls (.int (I a i) :: st) (n, tg, ln, I, J, O) Q) := R_iald rfl ht
theorem s138_17 : Runs 138 17 ls st h Q ↔ Runs 138 19 ls (.int 12 :: st) h Q := R_bipush rfl (by decide)
theorem s138_19 : Runs 138 19 ls (.int j :: .int i :: st) h Q ↔ if j ≤ i then Runs 138 35 ls st h Q else Runs 138 22 ls st h Q := R_icge rfl rfl
theorem s138_22 : Runs 138 22 [some (.ref a), x1] st h Q ↔ Runs 138 23 [some (.ref a), x1] (.ref a :: st) h Q := R_aldn rfl rfl
theorem s138_22q : Runs 138 22 [some (zrf r), x1] st h Q ↔ Runs 138 23 [some (zrf r), x1] (zrf r :: st) h Q := R_aldnq rfl rfl
theorem s138_23 : Runs 138 23 ls st h Q ↔ Runs 138 24 ls (.int 0 :: st) h Q := R_iconst rfl rfl
theorem s138_24 : Runs 138 24 ls st h Q ↔ Runs 138 25 ls (.int 1 :: st) h Q := R_iconst rfl rfl
theorem s138_25 (ht : tg a = 10) (hs : zsumc st ≤ 8) : Runs 138 25 ls (.int i1 :: .int i0 :: .ref a :: st) (n, tg, ln, I, J, O) Q ↔ Runs 137 0 [some (.ref a), some (.int i0), some (.int i1), none] [] (n, tg, ln, I, J, O) (fun v h2 => Runs 138 28 ls (v.toList ++ st) h2 Q) := R_callv (a := a) (rest := st) rfl rfl rfl rfl rfl rfl rfl ht hs
theorem s138_28 : Runs 138 28 ls (.int i :: st) h Q ↔ if i = 0 then Runs 138 35 ls st h Q else Runs 138 31 ls st h Q := R_ifeq rfl rfl
theorem s138_31 : Runs 138 31 ls st h Q ↔ Runs 138 32 ls (.int 1 :: st) h Q := R_iconst rfl rfl
theorem s138_32 : Runs 138 32 ls st h Q ↔ Runs 138 36 ls st h Q := R_goto rfl rfl
theorem s138_35 : Runs 138 35 ls st h Q ↔ Runs 138 36 ls (.int 0 :: st) h Q := R_iconst rfl rfl
theorem s138_36 (hx : i = 0 ∨ i = 1) : Runs 138 36 ls [.int i] h Q ↔ Q (some (.int i)) h := R_zret rfl rfl hx
theorem s139_0 : Runs 139 0 [some (.ref a)] st h Q ↔ Runs 139 1 [some (.ref a)] (.ref a :: st) h Q := R_aldn rfl rfl
theorem s139_0q : Runs 139 0 [some (zrf r)] st h Q ↔ Runs 139 1 [some (zrf r)] (zrf r :: st) h Q := R_aldnq rfl rfl
theorem s139_1 : Runs 139 1 [some (.ref a)] st h Q ↔ Runs 139 2 [some (.ref a)] (.ref a :: st) h Q := R_aldn rfl rfl
theorem s139_1q : Runs 139 1 [some (zrf r)] st h Q ↔ Runs 139 2 [some (zrf r)] (zrf r :: st) h Q := R_aldnq rfl rfl
theorem s139_2 (ht : tg a = 10) : Runs 139 2 ls (.ref a :: st) (n, tg, ln, I, J, O) Q ↔ Runs 139 5 ls (zrf (O a 20) :: st) (n, tg, ln, I, J, O) Q := R_getr rfl rfl rfl rfl ht
theorem s139_5 (ht : tg a = 10) (hs : zsumc st ≤ 8) : Runs 139 5 ls (.ref b0 :: .ref a :: st) (n, tg, ln, I, J, O) Q ↔ Runs 135 0 [some (.ref a), some (.ref b0), none, none] [] (n, tg, ln, I, J, O) (fun v h2 => Runs 139 8 ls (v.toList ++ st) h2 Q) := R_callv (a := a) (rest := st) rfl rfl rfl rfl rfl rfl rfl ht hs
theorem s139_5q (ht : tg a = 10) (hs : zsumc st ≤ 8) : Runs 139 5 ls (zrf r0 :: .ref a :: st) (n, tg, ln, I, J, O) Q ↔ Runs 135 0 [some (.ref a), some (zrf r0), none, none] [] (n, tg, ln, I, J, O) (fun v h2 => Runs 139 8 ls (v.toList ++ st) h2 Q) := by cases r0 <;> exact R_callv (a := a) (rest := st) rfl rfl rfl rfl rfl rfl rfl ht hs
theorem s139_8 : Runs 139 8 ls (.int i :: st) h Q ↔ if i = 0 then Runs 139 15 ls st h Q else Runs 139 11 ls st h Q := R_ifeq rfl rfl
theorem s139_11 : Runs 139 11 ls st h Q ↔ Runs 139 12 ls (.int 0 :: st) h Q := R_iconst rfl rfl
theorem s139_12 : Runs 139 12 ls st h Q ↔ Runs 139 61 ls st h Q := R_goto rfl rfl
theorem s139_15 : Runs 139 15 [some (.ref a)] st h Q ↔ Runs 139 16 [some (.ref a)] (.ref a :: st) h Q := R_aldn rfl rfl
theorem s139_15q : Runs 139 15 [some (zrf r)] st h Q ↔ Runs 139 16 [some (zrf r)] (zrf r :: st) h Q := R_aldnq rfl rfl
theorem s139_16 : Runs 139 16 [some (.ref a)] st h Q ↔ Runs 139 17 [some (.ref a)] (.ref a :: st) h Q := R_aldn rfl rfl
theorem s139_16q : Runs 139 16 [some (zrf r)] st h Q ↔ Runs 139 17 [some (zrf r)] (zrf r :: st) h Q := R_aldnq rfl rfl
theorem s139_17 (ht : tg a = 10) : Runs 139 17 ls (.ref a :: st) (n, tg, ln, I, J, O) Q ↔ Runs 139 20 ls (zrf (O a 21) :: st) (n, tg, ln, I, J, O) Q := R_getr rfl rfl rfl rfl ht
theorem s139_20 (ht : tg a = 10) (hs : zsumc st ≤ 8) : Runs 139 20 ls (.ref b0 :: .ref a :: st) (n, tg, ln, I, J, O) Q ↔ Runs 135 0 [some (.ref a), some (.ref b0), none, none] [] (n, tg, ln, I, J, O) (fun v h2 => Runs 139 23 ls (v.toList ++ st) h2 Q) := R_callv (a := a) (rest := st) rfl rfl rfl rfl rfl rfl rfl ht hs
theorem s139_20q (ht : tg a = 10) (hs : zsumc st ≤ 8) : Runs 139 20 ls (zrf r0 :: .ref a :: st) (n, tg, ln, I, J, O) Q ↔ Runs 135 0 [some (.ref a), some (zrf r0), none, none] [] (n, tg, ln, I, J, O) (fun v h2 => Runs 139 23 ls (v.toList ++ st) h2 Q) := by cases r0 <;> exact R_callv (a := a) (rest := st) rfl rfl rfl rfl rfl rfl rfl ht hs
theorem s139_23 : Runs 139 23 ls (.int i :: st) h Q ↔ if i = 0 then Runs 139 30 ls st h Q else Runs 139 26 ls st h Q := R_ifeq rfl rfl
theorem s139_26 : Runs 139 26 ls st h Q ↔ Runs 139 27 ls (.int 1 :: st) h Q := R_iconst rfl rfl
theorem s139_27 : Runs 139 27 ls st h Q ↔ Runs 139 61 ls st h Q := R_goto rfl rfl
theorem s139_30 : Runs 139 30 [some (.ref a)] st h Q ↔ Runs 139 31 [some (.ref a)] (.ref a :: st) h Q := R_aldn rfl rfl
theorem s139_30q : Runs 139 30 [some (zrf r)] st h Q ↔ Runs 139 31 [some (zrf r)] (zrf r :: st) h Q := R_aldnq rfl rfl
theorem s139_31 : Runs 139 31 [some (.ref a)] st h Q ↔ Runs 139 32 [some (.ref a)] (.ref a :: st) h Q := R_aldn rfl rfl
theorem s139_31q : Runs 139 31 [some (zrf r)] st h Q ↔ Runs 139 32 [some (zrf r)] (zrf r :: st) h Q := R_aldnq rfl rfl
theorem s139_32 (ht : tg a = 10) : Runs 139 32 ls (.ref a :: st) (n, tg, ln, I, J, O) Q ↔ Runs 139 35 ls (zrf (O a 22) :: st) (n, tg, ln, I, J, O) Q := R_getr rfl rfl rfl rfl ht
theorem s139_35 (ht : tg a = 10) (hs : zsumc st ≤ 8) : Runs 139 35 ls (.ref b0 :: .ref a :: st) (n, tg, ln, I, J, O) Q ↔ Runs 135 0 [some (.ref a), some (.ref b0), none, none] [] (n, tg, ln, I, J, O) (fun v h2 => Runs 139 38 ls (v.toList ++ st) h2 Q) := R_callv (a := a) (rest := st) rfl rfl rfl rfl rfl rfl rfl ht hs
theorem s139_35q (ht : tg a = 10) (hs : zsumc st ≤ 8) : Runs 139 35 ls (zrf r0 :: .ref a :: st) (n, tg, ln, I, J, O) Q ↔ Runs 135 0 [some (.ref a), some (zrf r0), none, none] [] (n, tg, ln, I, J, O) (fun v h2 => Runs 139 38 ls (v.toList ++ st) h2 Q) := by cases r0 <;> exact R_callv (a := a) (rest := st) rfl rfl rfl rfl rfl rfl rfl ht hs
theorem s139_38 : Runs 139 38 ls (.int i :: st) h Q ↔ if i = 0 then Runs 139 45 ls st h Q else Runs 139 41 ls st h Q := R_ifeq rfl rfl
theorem s139_41 : Runs 139 41 ls st h Q ↔ Runs 139 42 ls (.int 2 :: st) h Q := R_iconst rfl rfl
theorem s139_42 : Runs 139 42 ls st h Q ↔ Runs 139 61 ls st h Q := R_goto rfl rfl
theorem s139_45 : Runs 139 45 [some (.ref a)] st h Q ↔ Runs 139 46 [some (.ref a)] (.ref a :: st) h Q := R_aldn rfl rfl
theorem s139_45q : Runs 139 45 [some (zrf r)] st h Q ↔ Runs 139 46 [some (zrf r)] (zrf r :: st) h Q := R_aldnq rfl rfl
theorem s139_46 : Runs 139 46 [some (.ref a)] st h Q ↔ Runs 139 47 [some (.ref a)] (.ref a :: st) h Q := R_aldn rfl rfl
theorem s139_46q : Runs 139 46 [some (zrf r)] st h Q ↔ Runs 139 47 [some (zrf r)] (zrf r :: st) h Q := R_aldnq rfl rfl
theorem s139_47 (ht : tg a = 10) : Runs 139 47 ls (.ref a :: st) (n, tg, ln, I, J, O) Q ↔ Runs 139 50 ls (zrf (O a 23) :: st) (n, tg, ln, I, J, O) Q := R_getr rfl rfl rfl rfl ht
theorem s139_50 (ht : tg a = 10) (hs : zsumc st ≤ 8) : Runs 139 50 ls (.ref b0 :: .ref a :: st) (n, tg, ln, I, J, O) Q ↔ Runs 135 0 [some (.ref a), some (.ref b0), none, none] [] (n, tg, ln, I, J, O) (fun v h2 => Runs 139 53 ls (v.toList ++ st) h2 Q) := R_callv (a := a) (rest := st) rfl rfl rfl rfl rfl rfl rfl ht hs
theorem s139_50q (ht : tg a = 10) (hs : zsumc st ≤ 8) : Runs 139 50 ls (zrf r0 :: .ref a :: st) (n, tg, ln, I, J, O) Q ↔ Runs 135 0 [some (.ref a), some (zrf r0), none, none] [] (n, tg, ln, I, J, O) (fun v h2 => Runs 139 53 ls (v.toList ++ st) h2 Q) := by cases r0 <;> exact R_callv (a := a) (rest := st) rfl rfl rfl rfl rfl rfl rfl ht hs
theorem s139_53 : Runs 139 53 ls (.int i :: st) h Q ↔ if i = 0 then Runs 139 60 ls st h Q else Runs 139 56 ls st h Q := R_ifeq rfl rfl
theorem s139_56 : Runs 139 56 ls st h Q ↔ Runs 139 57 ls (.int 3 :: st) h Q := R_iconst rfl rfl
theorem s139_57 : Runs 139 57 ls st h Q ↔ Runs 139 61 ls st h Q := R_goto rfl rfl
theorem s139_60 : Runs 139 60 ls st h Q ↔ Runs 139 61 ls (.int (-1) :: st) h Q := R_iconst rfl rfl
theorem s139_61 : Runs 139 61 ls [.int i] h Q ↔ Q (some (.int i)) h := R_iret rfl rfl
theorem s142_0 : Runs 142 0 [some (.ref a), x1] st h Q ↔ Runs 142 1 [some (.ref a), x1] (.ref a :: st) h Q := R_aldn rfl rfl
theorem s142_0q : Runs 142 0 [some (zrf r), x1] st h Q ↔ Runs 142 1 [some (zrf r), x1] (zrf r :: st) h Q := R_aldnq rfl rfl
theorem s142_1 (ht : tg a = 10) : Runs 142 1 ls (.ref a :: st) (n, tg, ln, I, J, O) Q ↔ Runs 142 4 ls (.int (I a 14) :: st) (n, tg, ln, I, J, O) Q := R_geti rfl rfl rfl rfl ht
theorem s142_4 : Runs 142 4 ls st h Q ↔ Runs 142 6 ls (.int 12 :: st) h Q := R_bipush rfl (by decide)
theorem s142_6 : Runs 142 6 ls (.int j :: .int i :: st) h Q ↔ if ¬ i = j then Runs 142 11 ls st h Q else Runs 142 9 ls st h Q := R_icne rfl rfl
theorem s142_9 : Runs 142 9 ls st h Q ↔ Runs 142 10 ls (.int 0 :: st) h Q := R_iconst rfl rfl
theorem s142_10 (hx : i = 0 ∨ i = 1) : Runs 142 10 ls [.int i] h Q ↔ Q (some (.int i)) h := R_zret rfl rfl hx
theorem s142_11 : Runs 142 11 [some (.ref a), x1] st h Q ↔ Runs 142 12 [some (.ref a), x1] (.ref a :: st) h Q := R_aldn rfl rfl
theorem s142_11q : Runs 142 11 [some (zrf r), x1] st h Q ↔ Runs 142 12 [some (zrf r), x1] (zrf r :: st) h Q := R_aldnq rfl rfl
theorem s142_12 (ht : tg a = 10) (hs : zsumc st ≤ 8) : Runs 142 12 ls (.ref a :: st) (n, tg, ln, I, J, O) Q ↔ Runs 134 0 [some (.ref a)] [] (n, tg, ln, I, J, O) (fun v h2 => Runs 142 15 ls (v.toList ++ st) h2 Q) := R_callv (a := a) (rest := st) rfl rfl rfl rfl rfl rfl rfl ht hs
theorem s142_15 : Runs 142 15 [some (.ref a), x1] st h Q ↔ Runs 142 16 [some (.ref a), x1] (.ref a :: st) h Q := R_aldn rfl rfl
theorem s142_15q : Runs 142 15 [some (zrf r), x1] st h Q ↔ Runs 142 16 [some (zrf r), x1] (zrf r :: st) h Q := R_aldnq rfl rfl
theorem s142_16 (ht : tg a = 10) (hs : zsumc st ≤ 8) : Runs 142 16 ls (.ref a :: st) (n, tg, ln, I, J, O) Q ↔ Runs 138 0 [some (.ref a), none] [] (n, tg, ln, I, J, O) (fun v h2 => Runs 142 19 ls (v.toList ++ st) h2 Q) := R_callv (a := a) (rest := st) rfl rfl rfl rfl rfl rfl rfl ht hs
theorem s142_19 : Runs 142 19 ls (.int i :: st) h Q ↔ if i = 0 then Runs 142 32 ls st h Q else Runs 142 22 ls st h Q := R_ifeq rfl rfl
theorem s142_22 : Runs 142 22 [some (.ref a), x1] st h Q ↔ Runs 142 23 [some (.ref a), x1] (.ref a :: st) h Q := R_aldn rfl rfl
theorem s142_22q : Runs 142 22 [some (zrf r), x1] st h Q ↔ Runs 142 23 [some (zrf r), x1] (zrf r :: st) h Q := R_aldnq rfl rfl
theorem s142_23 : Runs 142 23 ls st h Q ↔ Runs 142 24 ls (.int 1 :: st) h Q := R_iconst rfl rfl
theorem s142_24 : Runs 142 24 ls st h Q ↔ Runs 142 26 ls (.int 99 :: st) h Q := R_bipush rfl (by decide)
theorem s142_26 (ht : tg a = 10) (hs : zsumc st ≤ 8) : Runs 142 26 ls (.int i1 :: .int i0 :: .ref a :: st) (n, tg, ln, I, J, O) Q ↔ Runs 137 0 [some (.ref a), some (.int i0), some (.int i1), none] [] (n, tg, ln, I, J, O) (fun v h2 => Runs 142 29 ls (v.toList ++ st) h2 Q) := R_callv (a := a) (rest := st) rfl rfl rfl rfl rfl rfl rfl ht hs
theorem s142_29 : Runs 142 29 ls (.int i :: st) h Q ↔ if ¬ i = 0 then Runs 142 34 ls st h Q else Runs 142 32 ls st h Q := R_ifne rfl rfl
theorem s142_32 : Runs 142 32 ls st h Q ↔ Runs 142 33 ls (.int 0 :: st) h Q := R_iconst rfl rfl
theorem s142_33 (hx : i = 0 ∨ i = 1) : Runs 142 33 ls [.int i] h Q ↔ Q (some (.int i)) h := R_zret rfl rfl hx
theorem s142_34 : Runs 142 34 [some (.ref a), x1] st h Q ↔ Runs 142 35 [some (.ref a), x1] (.ref a :: st) h Q := R_aldn rfl rfl
theorem s142_34q : Runs 142 34 [some (zrf r), x1] st h Q ↔ Runs 142 35 [some (zrf r), x1] (zrf r :: st) h Q := R_aldnq rfl rfl
theorem s142_35 : Runs 142 35 ls (.int i :: st) h Q ↔ Runs 142 36 ls (.int i :: .int i :: st) h Q := R_dupi rfl
theorem s142_35q : Runs 142 35 ls (.ref a :: st) h Q ↔ Runs 142 36 ls (.ref a :: .ref a :: st) h Q := R_dupr rfl
theorem s142_36 (ht : tg a = 10) : Runs 142 36 ls (.ref a :: st) (n, tg, ln, I, J, O) Q ↔ Runs 142 39 ls (.int (I a 14) :: st) (n, tg, ln, I, J, O) Q := R_geti rfl rfl rfl rfl ht
theorem s142_39 : Runs 142 39 ls st h Q ↔ Runs 142 40 ls (.int 1 :: st) h Q := R_iconst rfl rfl
theorem s142_40 : Runs 142 40 ls (.int j :: .int i :: st) h Q ↔ Runs 142 41 ls (.int (i + j) :: st) h Q := R_iadd rfl
theorem s142_41 (ht : tg a = 10) : Runs 142 41 ls (.int i :: .ref a :: st) (n, tg, ln, I, J, O) Q ↔ Runs 142 44 ls st (n, tg, ln, zu I a 14 i, J, O) Q := R_puti rfl rfl rfl rfl rfl rfl ht
theorem s142_44 : Runs 142 44 [some (.ref a), x1] st h Q ↔ Runs 142 45 [some (.ref a), x1] (.ref a :: st) h Q := R_aldn rfl rfl
theorem s142_44q : Runs 142 44 [some (zrf r), x1] st h Q ↔ Runs 142 45 [some (zrf r), x1] (zrf r :: st) h Q := R_aldnq rfl rfl
theorem s142_45 (ht : tg a = 10) : Runs 142 45 ls (.ref a :: st) (n, tg, ln, I, J, O) Q ↔ Runs 142 48 ls (zrf (O a 15) :: st) (n, tg, ln, I, J, O) Q := R_getr rfl rfl rfl rfl ht
theorem s142_48 : Runs 142 48 [some (.ref a), x1] st h Q ↔ Runs 142 49 [some (.ref a), x1] (.ref a :: st) h Q := R_aldn rfl rfl
theorem s142_48q : Runs 142 48 [some (zrf r), x1] st h Q ↔ Runs 142 49 [some (zrf r), x1] (zrf r :: st) h Q := R_aldnq rfl rfl
theorem s142_49 (ht : tg a = 10) : Runs 142 49 ls (.ref a :: st) (n, tg, ln, I, J, O) Q ↔ Runs 142 52 ls (zrf (O a 18) :: st) (n, tg, ln, I, J, O) Q := R_getr rfl rfl rfl rfl ht
theorem s142_52 : Runs 142 52 ls st h Q ↔ Runs 142 53 ls (.int 0 :: st) h Q := R_iconst rfl rfl
theorem s142_53 (ht : tg a = 20) : Runs 142 53 ls (.int i :: .ref a :: st) (n, tg, ln, I, J, O) Q ↔ ((0 ≤ i ∧ i < Int32.ofNat (ln a)) ∧ Runs 142 54 ls (.int (I a i) :: st) (n, tg, ln, I, J, O) Q) := R_iald rfl ht
theorem s142_54 : Runs 142 54 ls (.int i :: .ref a :: st) h Q ↔ Runs 142 55 ls (.int i :: .ref a :: .int i :: .ref a :: st) h Q := R_dup2 rfl
theorem s142_55 (ht : tg a = 20) : Runs 142 55 ls (.int i :: .ref a :: st) (n, tg, ln, I, J, O) Q ↔ ((0 ≤ i ∧ i < Int32.ofNat (ln a)) ∧ Runs 142 56 ls (.int (I a i) :: st) (n, tg, ln, I, J, O) Q) := R_iald rfl ht
theorem s142_56 : Runs 142 56 ls st h Q ↔ Runs 142 57 ls (.int 1 :: st) h Q := R_iconst rfl rfl
theorem s142_57 : Runs 142 57 ls (.int j :: .int i :: st) h Q ↔ Runs 142 58 ls (.int (i + j) :: st) h Q := R_iadd rfl
theorem s142_58 (ht : tg a = 20) : Runs 142 58 ls (.int j :: .int i :: .ref a :: st) (n, tg, ln, I, J, O) Q ↔ ((0 ≤ i ∧ i < Int32.ofNat (ln a)) ∧ Runs 142 59 ls st (n, tg, ln, zu I a i j, J, O) Q) := R_iast rfl ht
theorem s142_59 : Runs 142 59 [some (.ref a), x1] st h Q ↔ Runs 142 60 [some (.ref a), x1] (.ref a :: st) h Q := R_aldn rfl rfl
theorem s142_59q : Runs 142 59 [some (zrf r), x1] st h Q ↔ Runs 142 60 [some (zrf r), x1] (zrf r :: st) h Q := R_aldnq rfl rfl
theorem s142_60 (ht : tg a = 10) : Runs 142 60 ls (.ref a :: st) (n, tg, ln, I, J, O) Q ↔ Runs 142 63 ls (.int (I a 17) :: st) (n, tg, ln, I, J, O) Q := R_geti rfl rfl rfl rfl ht
theorem s142_63 : Runs 142 63 ls (.int i :: st) h Q ↔ if i = 0 then Runs 142 85 ls st h Q else Runs 142 66 ls st h Q := R_ifeq rfl rfl
theorem s142_66 : Runs 142 66 [some (.ref a), x1] st h Q ↔ Runs 142 67 [some (.ref a), x1] (.ref a :: st) h Q := R_aldn rfl rfl
theorem s142_66q : Runs 142 66 [some (zrf r), x1] st h Q ↔ Runs 142 67 [some (zrf r), x1] (zrf r :: st) h Q := R_aldnq rfl rfl
theorem s142_67 : Runs 142 67 ls st h Q ↔ Runs 142 69 ls (.int 90 :: st) h Q := R_bipush rfl (by decide)
theorem s142_69 : Runs 142 69 [some (.ref a), x1] st h Q ↔ Runs 142 70 [some (.ref a), x1] (.ref a :: st) h Q := R_aldn rfl rfl
theorem s142_69q : Runs 142 69 [some (zrf r), x1] st h Q ↔ Runs 142 70 [some (zrf r), x1] (zrf r :: st) h Q := R_aldnq rfl rfl
theorem s142_70 (ht : tg a = 10) : Runs 142 70 ls (.ref a :: st) (n, tg, ln, I, J, O) Q ↔ Runs 142 73 ls (zrf (O a 18) :: st) (n, tg, ln, I, J, O) Q := R_getr rfl rfl rfl rfl ht
theorem s142_73 : Runs 142 73 ls st h Q ↔ Runs 142 74 ls (.int 0 :: st) h Q := R_iconst rfl rfl
theorem s142_74 (ht : tg a = 20) : Runs 142 74 ls (.int i :: .ref a :: st) (n, tg, ln, I, J, O) Q ↔ ((0 ≤ i ∧ i < Int32.ofNat (ln a)) ∧ Runs 142 75 ls (.int (I a i) :: st) (n, tg, ln, I, J, O) Q) := R_iald rfl ht
theorem s142_75 : Runs 142 75 [x0, some (.int i)] st h Q ↔ Runs 142 76 [x0, some (.int i)] (.int i :: st) h Q := R_ildn rfl rfl
theorem s142_76 : Runs 142 76 [some (.ref a), x1] st h Q ↔ Runs 142 77 [some (.ref a), x1] (.ref a :: st) h Q := R_aldn rfl rfl
theorem s142_76q : Runs 142 76 [some (zrf r), x1] st h Q ↔ Runs 142 77 [some (zrf r), x1] (zrf r :: st) h Q := R_aldnq rfl rfl
theorem s142_77 (ht : tg a = 10) : Runs 142 77 ls (.ref a :: st) (n, tg, ln, I, J, O) Q ↔ Runs 142 80 ls (zrf (O a 18) :: st) (n, tg, ln, I, J, O) Q := R_getr rfl rfl rfl rfl ht
theorem s142_80 : Runs 142 80 ls st h Q ↔ Runs 142 81 ls (.int 1 :: st) h Q := R_iconst rfl rfl
theorem s142_81 (ht : tg a = 20) : Runs 142 81 ls (.int i :: .ref a :: st) (n, tg, ln, I, J, O) Q ↔ ((0 ≤ i ∧ i < Int32.ofNat (ln a)) ∧ Runs 142 82 ls (.int (I a i) :: st) (n, tg, ln, I, J, O) Q) := R_iald rfl ht
theorem s142_82 (ht : tg a = 10) (hs : zsumc st ≤ 8) : Runs 142 82 ls (.int i3 :: .int i2 :: .int i1 :: .int i0 :: .ref a :: st) (n, tg, ln, I, J, O) Q ↔ Runs 141 0 [some (.ref a), some (.int i0), some (.int i1), some (.int i2), some (.int i3), none] [] (n, tg, ln, I, J, O) (fun v h2 => Runs 142 85 ls (v.toList ++ st) h2 Q) := R_callv (a := a) (rest := st) rfl rfl rfl rfl rfl rfl rfl ht hs
theorem s142_85 : Runs 142 85 ls st h Q ↔ Runs 142 86 ls (.int 1 :: st) h Q := R_iconst rfl rfl
theorem s142_86 (hx : i = 0 ∨ i = 1) : Runs 142 86 ls [.int i] h Q ↔ Q (some (.int i)) h := R_zret rfl rfl hx
theorem s143_0 : Runs 143 0 [some (.ref a)] st h Q ↔ Runs 143 1 [some (.ref a)] (.ref a :: st) h Q := R_aldn rfl rfl
theorem s143_0q : Runs 143 0 [some (zrf r)] st h Q ↔ Runs 143 1 [some (zrf r)] (zrf r :: st) h Q := R_aldnq rfl rfl
theorem s143_1 (ht : tg a = 10) (hs : zsumc st ≤ 8) : Runs 143 1 ls (.ref a :: st) (n, tg, ln, I, J, O) Q ↔ Runs 134 0 [some (.ref a)] [] (n, tg, ln, I, J, O) (fun v h2 => Runs 143 4 ls (v.toList ++ st) h2 Q) := R_callv (a := a) (rest := st) rfl rfl rfl rfl rfl rfl rfl ht hs
theorem s143_4 : Runs 143 4 [some (.ref a)] st h Q ↔ Runs 143 5 [some (.ref a)] (.ref a :: st) h Q := R_aldn rfl rfl
theorem s143_4q : Runs 143 4 [some (zrf r)] st h Q ↔ Runs 143 5 [some (zrf r)] (zrf r :: st) h Q := R_aldnq rfl rfl
theorem s143_5 (ht : tg a = 10) (hs : zsumc st ≤ 8) : Runs 143 5 ls (.ref a :: st) (n, tg, ln, I, J, O) Q ↔ Runs 138 0 [some (.ref a), none] [] (n, tg, ln, I, J, O) (fun v h2 => Runs 143 8 ls (v.toList ++ st) h2 Q) := R_callv (a := a) (rest := st) rfl rfl rfl rfl rfl rfl rfl ht hs
theorem s143_8 : Runs 143 8 ls (.int i :: st) h Q ↔ if ¬ i = 0 then Runs 143 13 ls st h Q else Runs 143 11 ls st h Q := R_ifne rfl rfl
theorem s143_11 : Runs 143 11 ls st h Q ↔ Runs 143 12 ls (.int 0 :: st) h Q := R_iconst rfl rfl
theorem s143_12 (hx : i = 0 ∨ i = 1) : Runs 143 12 ls [.int i] h Q ↔ Q (some (.int i)) h := R_zret rfl rfl hx
theorem s143_13 : Runs 143 13 [some (.ref a)] st h Q ↔ Runs 143 14 [some (.ref a)] (.ref a :: st) h Q := R_aldn rfl rfl
theorem s143_13q : Runs 143 13 [some (zrf r)] st h Q ↔ Runs 143 14 [some (zrf r)] (zrf r :: st) h Q := R_aldnq rfl rfl
theorem s143_14 (ht : tg a = 10) : Runs 143 14 ls (.ref a :: st) (n, tg, ln, I, J, O) Q ↔ Runs 143 17 ls (zrf (O a 15) :: st) (n, tg, ln, I, J, O) Q := R_getr rfl rfl rfl rfl ht
theorem s143_17 : Runs 143 17 [some (.ref a)] st h Q ↔ Runs 143 18 [some (.ref a)] (.ref a :: st) h Q := R_aldn rfl rfl
theorem s143_17q : Runs 143 17 [some (zrf r)] st h Q ↔ Runs 143 18 [some (zrf r)] (zrf r :: st) h Q := R_aldnq rfl rfl
theorem s143_18 (ht : tg a = 10) : Runs 143 18 ls (.ref a :: st) (n, tg, ln, I, J, O) Q ↔ Runs 143 21 ls (zrf (O a 18) :: st) (n, tg, ln, I, J, O) Q := R_getr rfl rfl rfl rfl ht
theorem s143_21 : Runs 143 21 ls st h Q ↔ Runs 143 22 ls (.int 0 :: st) h Q := R_iconst rfl rfl
theorem s143_22 (ht : tg a = 20) : Runs 143 22 ls (.int i :: .ref a :: st) (n, tg, ln, I, J, O) Q ↔ ((0 ≤ i ∧ i < Int32.ofNat (ln a)) ∧ Runs 143 23 ls (.int (I a i) :: st) (n, tg, ln, I, J, O) Q) := R_iald rfl ht
theorem s143_23 : Runs 143 23 ls (.int i :: .ref a :: st) h Q ↔ Runs 143 24 ls (.int i :: .ref a :: .int i :: .ref a :: st) h Q := R_dup2 rfl
theorem s143_24 (ht : tg a = 20) : Runs 143 24 ls (.int i :: .ref a :: st) (n, tg, ln, I, J, O) Q ↔ ((0 ≤ i ∧ i < Int32.ofNat (ln a)) ∧ Runs 143 25 ls (.int (I a i) :: st) (n, tg, ln, I, J, O) Q) := R_iald rfl ht
theorem s143_25 : Runs 143 25 ls st h Q ↔ Runs 143 26 ls (.int 1 :: st) h Q := R_iconst rfl rfl
theorem s143_26 : Runs 143 26 ls (.int j :: .int i :: st) h Q ↔ Runs 143 27 ls (.int (i + j) :: st) h Q := R_iadd rfl
theorem s143_27 (ht : tg a = 20) : Runs 143 27 ls (.int j :: .int i :: .ref a :: st) (n, tg, ln, I, J, O) Q ↔ ((0 ≤ i ∧ i < Int32.ofNat (ln a)) ∧ Runs 143 28 ls st (n, tg, ln, zu I a i j, J, O) Q) := R_iast rfl ht
theorem s143_28 : Runs 143 28 [some (.ref a)] st h Q ↔ Runs 143 29 [some (.ref a)] (.ref a :: st) h Q := R_aldn rfl rfl
theorem s143_28q : Runs 143 28 [some (zrf r)] st h Q ↔ Runs 143 29 [some (zrf r)] (zrf r :: st) h Q := R_aldnq rfl rfl
theorem s143_29 (ht : tg a = 10) : Runs 143 29 ls (.ref a :: st) (n, tg, ln, I, J, O) Q ↔ Runs 143 32 ls (.int (I a 17) :: st) (n, tg, ln, I, J, O) Q := R_geti rfl rfl rfl rfl ht
theorem s143_32 : Runs 143 32 ls (.int i :: st) h Q ↔ if i = 0 then Runs 143 49 ls st h Q else Runs 143 35 ls st h Q := R_ifeq rfl rfl
theorem s143_35 : Runs 143 35 [some (.ref a)] st h Q ↔ Runs 143 36 [some (.ref a)] (.ref a :: st) h Q := R_aldn rfl rfl
theorem s143_35q : Runs 143 35 [some (zrf r)] st h Q ↔ Runs 143 36 [some (zrf r)] (zrf r :: st) h Q := R_aldnq rfl rfl
theorem s143_36 : Runs 143 36 ls st h Q ↔ Runs 143 38 ls (.int 90 :: st) h Q := R_bipush rfl (by decide)
theorem s143_38 : Runs 143 38 [some (.ref a)] st h Q ↔ Runs 143 39 [some (.ref a)] (.ref a :: st) h Q := R_aldn rfl rfl
theorem s143_38q : Runs 143 38 [some (zrf r)] st h Q ↔ Runs 143 39 [some (zrf r)] (zrf r :: st) h Q := R_aldnq rfl rfl
theorem s143_39 (ht : tg a = 10) : Runs 143 39 ls (.ref a :: st) (n, tg, ln, I, J, O) Q ↔ Runs 143 42 ls (zrf (O a 18) :: st) (n, tg, ln, I, J, O) Q := R_getr rfl rfl rfl rfl ht
theorem s143_42 : Runs 143 42 ls st h Q ↔ Runs 143 43 ls (.int 0 :: st) h Q := R_iconst rfl rfl
theorem s143_43 (ht : tg a = 20) : Runs 143 43 ls (.int i :: .ref a :: st) (n, tg, ln, I, J, O) Q ↔ ((0 ≤ i ∧ i < Int32.ofNat (ln a)) ∧ Runs 143 44 ls (.int (I a i) :: st) (n, tg, ln, I, J, O) Q) := R_iald rfl ht
theorem s143_44 : Runs 143 44 ls st h Q ↔ Runs 143 46 ls (.int 90 :: st) h Q := R_bipush rfl (by decide)
theorem s143_46 (ht : tg a = 10) (hs : zsumc st ≤ 8) : Runs 143 46 ls (.int i2 :: .int i1 :: .int i0 :: .ref a :: st) (n, tg, ln, I, J, O) Q ↔ Runs 140 0 [some (.ref a), some (.int i0), some (.int i1), some (.int i2)] [] (n, tg, ln, I, J, O) (fun v h2 => Runs 143 49 ls (v.toList ++ st) h2 Q) := R_callv (a := a) (rest := st) rfl rfl rfl rfl rfl rfl rfl ht hs
theorem s143_49 : Runs 143 49 ls st h Q ↔ Runs 143 50 ls (.int 1 :: st) h Q := R_iconst rfl rfl
theorem s143_50 (hx : i = 0 ∨ i = 1) : Runs 143 50 ls [.int i] h Q ↔ Q (some (.int i)) h := R_zret rfl rfl hx
theorem s144_0 : Runs 144 0 [some (.ref a)] st h Q ↔ Runs 144 1 [some (.ref a)] (.ref a :: st) h Q := R_aldn rfl rfl
theorem s144_0q : Runs 144 0 [some (zrf r)] st h Q ↔ Runs 144 1 [some (zrf r)] (zrf r :: st) h Q := R_aldnq rfl rfl
theorem s144_1 (ht : tg a = 10) (hs : zsumc st ≤ 8) : Runs 144 1 ls (.ref a :: st) (n, tg, ln, I, J, O) Q ↔ Runs 134 0 [some (.ref a)] [] (n, tg, ln, I, J, O) (fun v h2 => Runs 144 4 ls (v.toList ++ st) h2 Q) := R_callv (a := a) (rest := st) rfl rfl rfl rfl rfl rfl rfl ht hs
theorem s144_4 : Runs 144 4 [some (.ref a)] st h Q ↔ Runs 144 5 [some (.ref a)] (.ref a :: st) h Q := R_aldn rfl rfl
theorem s144_4q : Runs 144 4 [some (zrf r)] st h Q ↔ Runs 144 5 [some (zrf r)] (zrf r :: st) h Q := R_aldnq rfl rfl
theorem s144_5 : Runs 144 5 ls st h Q ↔ Runs 144 6 ls (.int 0 :: st) h Q := R_iconst rfl rfl
theorem s144_6 : Runs 144 6 ls st h Q ↔ Runs 144 7 ls (.int 2 :: st) h Q := R_iconst rfl rfl
theorem s144_7 (ht : tg a = 10) (hs : zsumc st ≤ 8) : Runs 144 7 ls (.int i1 :: .int i0 :: .ref a :: st) (n, tg, ln, I, J, O) Q ↔ Runs 137 0 [some (.ref a), some (.int i0), some (.int i1), none] [] (n, tg, ln, I, J, O) (fun v h2 => Runs 144 10 ls (v.toList ++ st) h2 Q) := R_callv (a := a) (rest := st) rfl rfl rfl rfl rfl rfl rfl ht hs
theorem s144_10 : Runs 144 10 ls (.int i :: st) h Q ↔ if ¬ i = 0 then Runs 144 15 ls st h Q else Runs 144 13 ls st h Q := R_ifne rfl rfl
theorem s144_13 : Runs 144 13 ls st h Q ↔ Runs 144 14 ls (.int 0 :: st) h Q := R_iconst rfl rfl
theorem s144_14 (hx : i = 0 ∨ i = 1) : Runs 144 14 ls [.int i] h Q ↔ Q (some (.int i)) h := R_zret rfl rfl hx
theorem s144_15 : Runs 144 15 [some (.ref a)] st h Q ↔ Runs 144 16 [some (.ref a)] (.ref a :: st) h Q := R_aldn rfl rfl
theorem s144_15q : Runs 144 15 [some (zrf r)] st h Q ↔ Runs 144 16 [some (zrf r)] (zrf r :: st) h Q := R_aldnq rfl rfl
theorem s144_16 (ht : tg a = 10) : Runs 144 16 ls (.ref a :: st) (n, tg, ln, I, J, O) Q ↔ Runs 144 19 ls (zrf (O a 0) :: st) (n, tg, ln, I, J, O) Q := R_getr rfl rfl rfl rfl ht
theorem s144_19 : Runs 144 19 ls st h Q ↔ Runs 144 21 ls (.int 91 :: st) h Q := R_bipush rfl (by decide)
theorem s144_21 : Runs 144 21 [some (.ref a)] st h Q ↔ Runs 144 22 [some (.ref a)] (.ref a :: st) h Q := R_aldn rfl rfl
theorem s144_21q : Runs 144 21 [some (zrf r)] st h Q ↔ Runs 144 22 [some (zrf r)] (zrf r :: st) h Q := R_aldnq rfl rfl
theorem s144_22 (ht : tg a = 10) : Runs 144 22 ls (.ref a :: st) (n, tg, ln, I, J, O) Q ↔ Runs 144 25 ls (.int (I a 17) :: st) (n, tg, ln, I, J, O) Q := R_geti rfl rfl rfl rfl ht
theorem s144_25 : Runs 144 25 ls (.int i :: st) h Q ↔ if i = 0 then Runs 144 37 ls st h Q else Runs 144 28 ls st h Q := R_ifeq rfl rfl
theorem s144_28 : Runs 144 28 [some (.ref a)] st h Q ↔ Runs 144 29 [some (.ref a)] (.ref a :: st) h Q := R_aldn rfl rfl
theorem s144_28q : Runs 144 28 [some (zrf r)] st h Q ↔ Runs 144 29 [some (zrf r)] (zrf r :: st) h Q := R_aldnq rfl rfl
theorem s144_29 (ht : tg a = 10) : Runs 144 29 ls (.ref a :: st) (n, tg, ln, I, J, O) Q ↔ Runs 144 32 ls (zrf (O a 18) :: st) (n, tg, ln, I, J, O) Q := R_getr rfl rfl rfl rfl ht
theorem s144_32 : Runs 144 32 ls st h Q ↔ Runs 144 33 ls (.int 0 :: st) h Q := R_iconst rfl rfl
theorem s144_33 (ht : tg a = 20) : Runs 144 33 ls (.int i :: .ref a :: st) (n, tg, ln, I, J, O) Q ↔ ((0 ≤ i ∧ i < Int32.ofNat (ln a)) ∧ Runs 144 34 ls (.int (I a i) :: st) (n, tg, ln, I, J, O) Q) := R_iald rfl ht
theorem s144_34 : Runs 144 34 ls st h Q ↔ Runs 144 44 ls st h Q := R_goto rfl rfl
theorem s144_37 : Runs 144 37 [some (.ref a)] st h Q ↔ Runs 144 38 [some (.ref a)] (.ref a :: st) h Q := R_aldn rfl rfl
theorem s144_37q : Runs 144 37 [some (zrf r)] st h Q ↔ Runs 144 38 [some (zrf r)] (zrf r :: st) h Q := R_aldnq rfl rfl
theorem s144_38 (ht : tg a = 10) : Runs 144 38 ls (.ref a :: st) (n, tg, ln, I, J, O) Q ↔ Runs 144 41 ls (zrf (O a 0) :: st) (n, tg, ln, I, J, O) Q := R_getr rfl rfl rfl rfl ht
theorem s144_41 : Runs 144 41 ls st h Q ↔ Runs 144 43 ls (.int 91 :: st) h Q := R_bipush rfl (by decide)
theorem s144_43 (ht : tg a = 20) : Runs 144 43 ls (.int i :: .ref a :: st) (n, tg, ln, I, J, O) Q ↔ ((0 ≤ i ∧ i < Int32.ofNat (ln a)) ∧ Runs 144 44 ls (.int (I a i) :: st) (n, tg, ln, I, J, O) Q) := R_iald rfl ht
theorem s144_44 (ht : tg a = 20) : Runs 144 44 ls (.int j :: .int i :: .ref a :: st) (n, tg, ln, I, J, O) Q ↔ ((0 ≤ i ∧ i < Int32.ofNat (ln a)) ∧ Runs 144 45 ls st (n, tg, ln, zu I a i j, J, O) Q) := R_iast rfl ht
theorem s144_45 : Runs 144 45 ls st h Q ↔ Runs 144 46 ls (.int 1 :: st) h Q := R_iconst rfl rfl
theorem s144_46 (hx : i = 0 ∨ i = 1) : Runs 144 46 ls [.int i] h Q ↔ Q (some (.int i)) h := R_zret rfl rfl hx
theorem s145_0 : Runs 145 0 [some (.ref a), x1] st h Q ↔ Runs 145 1 [some (.ref a), x1] (.ref a :: st) h Q := R_aldn rfl rfl
theorem s145_0q : Runs 145 0 [some (zrf r), x1] st h Q ↔ Runs 145 1 [some (zrf r), x1] (zrf r :: st) h Q := R_aldnq rfl rfl
theorem s145_1 (ht : tg a = 10) (hs : zsumc st ≤ 8) : Runs 145 1 ls (.ref a :: st) (n, tg, ln, I, J, O) Q ↔ Runs 134 0 [some (.ref a)] [] (n, tg, ln, I, J, O) (fun v h2 => Runs 145 4 ls (v.toList ++ st) h2 Q) := R_callv (a := a) (rest := st) rfl rfl rfl rfl rfl rfl rfl ht hs
theorem s145_4 : Runs 145 4 [some (.ref a), x1] st h Q ↔ Runs 145 5 [some (.ref a), x1] (.ref a :: st) h Q := R_aldn rfl rfl
theorem s145_4q : Runs 145 4 [some (zrf r), x1] st h Q ↔ Runs 145 5 [some (zrf r), x1] (zrf r :: st) h Q := R_aldnq rfl rfl
theorem s145_5 : Runs 145 5 ls st h Q ↔ Runs 145 6 ls (.int 0 :: st) h Q := R_iconst rfl rfl
theorem s145_6 (ht : tg a = 10) : Runs 145 6 ls (.int i :: .ref a :: st) (n, tg, ln, I, J, O) Q ↔ Runs 145 9 ls st (n, tg, ln, zu I a 14 i, J, O) Q := R_puti rfl rfl rfl rfl rfl rfl ht
theorem s145_9 : Runs 145 9 [some (.ref a), x1] st h Q ↔ Runs 145 10 [some (.ref a), x1] (.ref a :: st) h Q := R_aldn rfl rfl
theorem s145_9q : Runs 145 9 [some (zrf r), x1] st h Q ↔ Runs 145 10 [some (zrf r), x1] (zrf r :: st) h Q := R_aldnq rfl rfl
theorem s145_10 (ht : tg a = 10) : Runs 145 10 ls (.ref a :: st) (n, tg, ln, I, J, O) Q ↔ Runs 145 13 ls (zrf (O a 15) :: st) (n, tg, ln, I, J, O) Q := R_getr rfl rfl rfl rfl ht
theorem s145_13 : Runs 145 13 ls st h Q ↔ Runs 145 14 ls (.int 0 :: st) h Q := R_iconst rfl rfl
theorem s145_14 : Runs 145 14 ls st h Q ↔ Runs 145 15 ls (.int 0 :: st) h Q := R_iconst rfl rfl
theorem s145_15 (ht : tg a = 20) : Runs 145 15 ls (.int j :: .int i :: .ref a :: st) (n, tg, ln, I, J, O) Q ↔ ((0 ≤ i ∧ i < Int32.ofNat (ln a)) ∧ Runs 145 16 ls st (n, tg, ln, zu I a i j, J, O) Q) := R_iast rfl ht
theorem s145_16 : Runs 145 16 [some (.ref a), x1] st h Q ↔ Runs 145 17 [some (.ref a), x1] (.ref a :: st) h Q := R_aldn rfl rfl
theorem s145_16q : Runs 145 16 [some (zrf r), x1] st h Q ↔ Runs 145 17 [some (zrf r), x1] (zrf r :: st) h Q := R_aldnq rfl rfl
theorem s145_17 (ht : tg a = 10) : Runs 145 17 ls (.ref a :: st) (n, tg, ln, I, J, O) Q ↔ Runs 145 20 ls (zrf (O a 15) :: st) (n, tg, ln, I, J, O) Q := R_getr rfl rfl rfl rfl ht
theorem s145_20 : Runs 145 20 ls st h Q ↔ Runs 145 21 ls (.int 1 :: st) h Q := R_iconst rfl rfl
theorem s145_21 : Runs 145 21 ls st h Q ↔ Runs 145 22 ls (.int 0 :: st) h Q := R_iconst rfl rfl
theorem s145_22 (ht : tg a = 20) : Runs 145 22 ls (.int j :: .int i :: .ref a :: st) (n, tg, ln, I, J, O) Q ↔ ((0 ≤ i ∧ i < Int32.ofNat (ln a)) ∧ Runs 145 23 ls st (n, tg, ln, zu I a i j, J, O) Q) := R_iast rfl ht
theorem s145_23 : Runs 145 23 ls st h Q ↔ Runs 145 24 ls (.int 0 :: st) h Q := R_iconst rfl rfl
theorem s145_24 : Runs 145 24 [x0, x1] (.int i :: st) h Q ↔ Runs 145 25 [zdrop x0, some (.int i)] st h Q := R_istn rfl rfl rfl
theorem s145_25 : Runs 145 25 [x0, some (.int i)] st h Q ↔ Runs 145 26 [x0, some (.int i)] (.int i :: st) h Q := R_ildn rfl rfl
theorem s145_26 : Runs 145 26 ls st h Q ↔ Runs 145 28 ls (.int 90 :: st) h Q := R_bipush rfl (by decide)
theorem s145_28 : Runs 145 28 ls (.int j :: .int i :: st) h Q ↔ if j ≤ i then Runs 145 54 ls st h Q else Runs 145 31 ls st h Q := R_icge rfl rfl
theorem s145_31 : Runs 145 31 [some (.ref a), x1] st h Q ↔ Runs 145 32 [some (.ref a), x1] (.ref a :: st) h Q := R_aldn rfl rfl
theorem s145_31q : Runs 145 31 [some (zrf r), x1] st h Q ↔ Runs 145 32 [some (zrf r), x1] (zrf r :: st) h Q := R_aldnq rfl rfl
theorem s145_32 (ht : tg a = 10) : Runs 145 32 ls (.ref a :: st) (n, tg, ln, I, J, O) Q ↔ Runs 145 35 ls (.int (I a 17) :: st) (n, tg, ln, I, J, O) Q := R_geti rfl rfl rfl rfl ht
theorem s145_35 : Runs 145 35 ls (.int i :: st) h Q ↔ if i = 0 then Runs 145 54 ls st h Q else Runs 145 38 ls st h Q := R_ifeq rfl rfl
theorem s145_38 : Runs 145 38 [some (.ref a), x1] st h Q ↔ Runs 145 39 [some (.ref a), x1] (.ref a :: st) h Q := R_aldn rfl rfl
theorem s145_38q : Runs 145 38 [some (zrf r), x1] st h Q ↔ Runs 145 39 [some (zrf r), x1] (zrf r :: st) h Q := R_aldnq rfl rfl
theorem s145_39 (ht : tg a = 10) : Runs 145 39 ls (.ref a :: st) (n, tg, ln, I, J, O) Q ↔ Runs 145 42 ls (zrf (O a 0) :: st) (n, tg, ln, I, J, O) Q := R_getr rfl rfl rfl rfl ht
theorem s145_42 : Runs 145 42 ls st h Q ↔ Runs 145 44 ls (.int 90 :: st) h Q := R_bipush rfl (by decide)
theorem s145_44 : Runs 145 44 [x0, some (.int i)] st h Q ↔ Runs 145 45 [x0, some (.int i)] (.int i :: st) h Q := R_ildn rfl rfl
theorem s145_45 : Runs 145 45 ls (.int j :: .int i :: st) h Q ↔ Runs 145 46 ls (.int (i + j) :: st) h Q := R_iadd rfl
theorem s145_46 : Runs 145 46 ls st h Q ↔ Runs 145 47 ls (.int 0 :: st) h Q := R_iconst rfl rfl
theorem s145_47 (ht : tg a = 20) : Runs 145 47 ls (.int j :: .int i :: .ref a :: st) (n, tg, ln, I, J, O) Q ↔ ((0 ≤ i ∧ i < Int32.ofNat (ln a)) ∧ Runs 145 48 ls st (n, tg, ln, zu I a i j, J, O) Q) := R_iast rfl ht
theorem s145_48 : Runs 145 48 [x0, some (.int i)] st h Q ↔ Runs 145 51 [zdrop x0, some (.int (i + 1))] st h Q := R_iinc rfl rfl rfl rfl rfl
theorem s145_51 : Runs 145 51 ls st h Q ↔ Runs 145 25 ls st h Q := R_goto rfl rfl
theorem s145_54 : Runs 145 54 ls st h Q ↔ Runs 145 55 ls (.int 1 :: st) h Q := R_iconst rfl rfl
theorem s145_55 (hx : i = 0 ∨ i = 1) : Runs 145 55 ls [.int i] h Q ↔ Q (some (.int i)) h := R_zret rfl rfl hx
theorem s146_0 : Runs 146 0 [some (.ref a)] st h Q ↔ Runs 146 1 [some (.ref a)] (.ref a :: st) h Q := R_aldn rfl rfl
theorem s146_0q : Runs 146 0 [some (zrf r)] st h Q ↔ Runs 146 1 [some (zrf r)] (zrf r :: st) h Q := R_aldnq rfl rfl
theorem s146_1 (ht : tg a = 10) (hs : zsumc st ≤ 8) : Runs 146 1 ls (.ref a :: st) (n, tg, ln, I, J, O) Q ↔ Runs 139 0 [some (.ref a)] [] (n, tg, ln, I, J, O) (fun v h2 => Runs 146 4 ls (v.toList ++ st) h2 Q) := R_callv (a := a) (rest := st) rfl rfl rfl rfl rfl rfl rfl ht hs
theorem s146_4 : Runs 146 4 ls st h Q ↔ Runs 146 5 ls (.int (-1) :: st) h Q := R_iconst rfl rfl
theorem s146_5 : Runs 146 5 ls (.int j :: .int i :: st) h Q ↔ if i = j then Runs 146 17 ls st h Q else Runs 146 8 ls st h Q := R_iceq rfl rfl
theorem s146_8 : Runs 146 8 [some (.ref a)] st h Q ↔ Runs 146 9 [some (.ref a)] (.ref a :: st) h Q := R_aldn rfl rfl
theorem s146_8q : Runs 146 8 [some (zrf r)] st h Q ↔ Runs 146 9 [some (zrf r)] (zrf r :: st) h Q := R_aldnq rfl rfl
theorem s146_9 : Runs 146 9 [some (.ref a)] st h Q ↔ Runs 146 10 [some (.ref a)] (.ref a :: st) h Q := R_aldn rfl rfl
theorem s146_9q : Runs 146 9 [some (zrf r)] st h Q ↔ Runs 146 10 [some (zrf r)] (zrf r :: st) h Q := R_aldnq rfl rfl
theorem s146_10 (ht : tg a = 10) (hs : zsumc st ≤ 8) : Runs 146 10 ls (.ref a :: st) (n, tg, ln, I, J, O) Q ↔ Runs 139 0 [some (.ref a)] [] (n, tg, ln, I, J, O) (fun v h2 => Runs 146 13 ls (v.toList ++ st) h2 Q) := R_callv (a := a) (rest := st) rfl rfl rfl rfl rfl rfl rfl ht hs
theorem s146_13 (ht : tg a = 10) (hs : zsumc st ≤ 8) : Runs 146 13 ls (.int i0 :: .ref a :: st) (n, tg, ln, I, J, O) Q ↔ Runs 142 0 [some (.ref a), some (.int i0)] [] (n, tg, ln, I, J, O) (fun v h2 => Runs 146 16 ls (v.toList ++ st) h2 Q) := R_callv (a := a) (rest := st) rfl rfl rfl rfl rfl rfl rfl ht hs
theorem s146_16 (hx : i = 0 ∨ i = 1) : Runs 146 16 ls [.int i] h Q ↔ Q (some (.int i)) h := R_zret rfl rfl hx
theorem s146_17 : Runs 146 17 [some (.ref a)] st h Q ↔ Runs 146 18 [some (.ref a)] (.ref a :: st) h Q := R_aldn rfl rfl
theorem s146_17q : Runs 146 17 [some (zrf r)] st h Q ↔ Runs 146 18 [some (zrf r)] (zrf r :: st) h Q := R_aldnq rfl rfl
theorem s146_18 : Runs 146 18 [some (.ref a)] st h Q ↔ Runs 146 19 [some (.ref a)] (.ref a :: st) h Q := R_aldn rfl rfl
theorem s146_18q : Runs 146 18 [some (zrf r)] st h Q ↔ Runs 146 19 [some (zrf r)] (zrf r :: st) h Q := R_aldnq rfl rfl
theorem s146_19 (ht : tg a = 10) : Runs 146 19 ls (.ref a :: st) (n, tg, ln, I, J, O) Q ↔ Runs 146 22 ls (zrf (O a 19) :: st) (n, tg, ln, I, J, O) Q := R_getr rfl rfl rfl rfl ht
theorem s146_22 (ht : tg a = 10) (hs : zsumc st ≤ 8) : Runs 146 22 ls (.ref b0 :: .ref a :: st) (n, tg, ln, I, J, O) Q ↔ Runs 135 0 [some (.ref a), some (.ref b0), none, none] [] (n, tg, ln, I, J, O) (fun v h2 => Runs 146 25 ls (v.toList ++ st) h2 Q) := R_callv (a := a) (rest := st) rfl rfl rfl rfl rfl rfl rfl ht hs
theorem s146_22q (ht : tg a = 10) (hs : zsumc st ≤ 8) : Runs 146 22 ls (zrf r0 :: .ref a :: st) (n, tg, ln, I, J, O) Q ↔ Runs 135 0 [some (.ref a), some (zrf r0), none, none] [] (n, tg, ln, I, J, O) (fun v h2 => Runs 146 25 ls (v.toList ++ st) h2 Q) := by cases r0 <;> exact R_callv (a := a) (rest := st) rfl rfl rfl rfl rfl rfl rfl ht hs
theorem s146_25 : Runs 146 25 ls (.int i :: st) h Q ↔ if i = 0 then Runs 146 35 ls st h Q else Runs 146 28 ls st h Q := R_ifeq rfl rfl
theorem s146_28 : Runs 146 28 [some (.ref a)] st h Q ↔ Runs 146 29 [some (.ref a)] (.ref a :: st) h Q := R_aldn rfl rfl
theorem s146_28q : Runs 146 28 [some (zrf r)] st h Q ↔ Runs 146 29 [some (zrf r)] (zrf r :: st) h Q := R_aldnq rfl rfl
theorem s146_29 (ht : tg a = 10) (hs : zsumc st ≤ 8) : Runs 146 29 ls (.ref a :: st) (n, tg, ln, I, J, O) Q ↔ Runs 145 0 [some (.ref a), none] [] (n, tg, ln, I, J, O) (fun v h2 => Runs 146 32 ls (v.toList ++ st) h2 Q) := R_callv (a := a) (rest := st) rfl rfl rfl rfl rfl rfl rfl ht hs
theorem s146_32 : Runs 146 32 ls st h Q ↔ Runs 146 76 ls st h Q := R_goto rfl rfl
theorem s146_35 : Runs 146 35 [some (.ref a)] st h Q ↔ Runs 146 36 [some (.ref a)] (.ref a :: st) h Q := R_aldn rfl rfl
theorem s146_35q : Runs 146 35 [some (zrf r)] st h Q ↔ Runs 146 36 [some (zrf r)] (zrf r :: st) h Q := R_aldnq rfl rfl
theorem s146_36 : Runs 146 36 [some (.ref a)] st h Q ↔ Runs 146 37 [some (.ref a)] (.ref a :: st) h Q := R_aldn rfl rfl
theorem s146_36q : Runs 146 36 [some (zrf r)] st h Q ↔ Runs 146 37 [some (zrf r)] (zrf r :: st) h Q := R_aldnq rfl rfl
theorem s146_37 (ht : tg a = 10) : Runs 146 37 ls (.ref a :: st) (n, tg, ln, I, J, O) Q ↔ Runs 146 40 ls (zrf (O a 24) :: st) (n, tg, ln, I, J, O) Q := R_getr rfl rfl rfl rfl ht
theorem s146_40 (ht : tg a = 10) (hs : zsumc st ≤ 8) : Runs 146 40 ls (.ref b0 :: .ref a :: st) (n, tg, ln, I, J, O) Q ↔ Runs 135 0 [some (.ref a), some (.ref b0), none, none] [] (n, tg, ln, I, J, O) (fun v h2 => Runs 146 43 ls (v.toList ++ st) h2 Q) := R_callv (a := a) (rest := st) rfl rfl rfl rfl rfl rfl rfl ht hs
theorem s146_40q (ht : tg a = 10) (hs : zsumc st ≤ 8) : Runs 146 40 ls (zrf r0 :: .ref a :: st) (n, tg, ln, I, J, O) Q ↔ Runs 135 0 [some (.ref a), some (zrf r0), none, none] [] (n, tg, ln, I, J, O) (fun v h2 => Runs 146 43 ls (v.toList ++ st) h2 Q) := by cases r0 <;> exact R_callv (a := a) (rest := st) rfl rfl rfl rfl rfl rfl rfl ht hs
theorem s146_43 : Runs 146 43 ls (.int i :: st) h Q ↔ if i = 0 then Runs 146 53 ls st h Q else Runs 146 46 ls st h Q := R_ifeq rfl rfl
theorem s146_46 : Runs 146 46 [some (.ref a)] st h Q ↔ Runs 146 47 [some (.ref a)] (.ref a :: st) h Q := R_aldn rfl rfl
theorem s146_46q : Runs 146 46 [some (zrf r)] st h Q ↔ Runs 146 47 [some (zrf r)] (zrf r :: st) h Q := R_aldnq rfl rfl
theorem s146_47 (ht : tg a = 10) (hs : zsumc st ≤ 8) : Runs 146 47 ls (.ref a :: st) (n, tg, ln, I, J, O) Q ↔ Runs 143 0 [some (.ref a)] [] (n, tg, ln, I, J, O) (fun v h2 => Runs 146 50 ls (v.toList ++ st) h2 Q) := R_callv (a := a) (rest := st) rfl rfl rfl rfl rfl rfl rfl ht hs
theorem s146_50 : Runs 146 50 ls st h Q ↔ Runs 146 76 ls st h Q := R_goto rfl rfl
theorem s146_53 : Runs 146 53 [some (.ref a)] st h Q ↔ Runs 146 54 [some (.ref a)] (.ref a :: st) h Q := R_aldn rfl rfl
theorem s146_53q : Runs 146 53 [some (zrf r)] st h Q ↔ Runs 146 54 [some (zrf r)] (zrf r :: st) h Q := R_aldnq rfl rfl
theorem s146_54 : Runs 146 54 [some (.ref a)] st h Q ↔ Runs 146 55 [some (.ref a)] (.ref a :: st) h Q := R_aldn rfl rfl
theorem s146_54q : Runs 146 54 [some (zrf r)] st h Q ↔ Runs 146 55 [some (zrf r)] (zrf r :: st) h Q := R_aldnq rfl rfl
theorem s146_55 (ht : tg a = 10) : Runs 146 55 ls (.ref a :: st) (n, tg, ln, I, J, O) Q ↔ Runs 146 58 ls (zrf (O a 25) :: st) (n, tg, ln, I, J, O) Q := R_getr rfl rfl rfl rfl ht
theorem s146_58 (ht : tg a = 10) (hs : zsumc st ≤ 8) : Runs 146 58 ls (.ref b0 :: .ref a :: st) (n, tg, ln, I, J, O) Q ↔ Runs 135 0 [some (.ref a), some (.ref b0), none, none] [] (n, tg, ln, I, J, O) (fun v h2 => Runs 146 61 ls (v.toList ++ st) h2 Q) := R_callv (a := a) (rest := st) rfl rfl rfl rfl rfl rfl rfl ht hs
theorem s146_58q (ht : tg a = 10) (hs : zsumc st ≤ 8) : Runs 146 58 ls (zrf r0 :: .ref a :: st) (n, tg, ln, I, J, O) Q ↔ Runs 135 0 [some (.ref a), some (zrf r0), none, none] [] (n, tg, ln, I, J, O) (fun v h2 => Runs 146 61 ls (v.toList ++ st) h2 Q) := by cases r0 <;> exact R_callv (a := a) (rest := st) rfl rfl rfl rfl rfl rfl rfl ht hs
theorem s146_61 : Runs 146 61 ls (.int i :: st) h Q ↔ if i = 0 then Runs 146 75 ls st h Q else Runs 146 64 ls st h Q := R_ifeq rfl rfl
theorem s146_64 : Runs 146 64 [some (.ref a)] st h Q ↔ Runs 146 65 [some (.ref a)] (.ref a :: st) h Q := R_aldn rfl rfl
theorem s146_64q : Runs 146 64 [some (zrf r)] st h Q ↔ Runs 146 65 [some (zrf r)] (zrf r :: st) h Q := R_aldnq rfl rfl
theorem s146_65 (ht : tg a = 10) (hs : zsumc st ≤ 8) : Runs 146 65 ls (.ref a :: st) (n, tg, ln, I, J, O) Q ↔ Runs 144 0 [some (.ref a)] [] (n, tg, ln, I, J, O) (fun v h2 => Runs 146 68 ls (v.toList ++ st) h2 Q) := R_callv (a := a) (rest := st) rfl rfl rfl rfl rfl rfl rfl ht hs
theorem s146_68 : Runs 146 68 ls (.int i :: st) h Q ↔ if i = 0 then Runs 146 75 ls st h Q else Runs 146 71 ls st h Q := R_ifeq rfl rfl
theorem s146_71 : Runs 146 71 ls st h Q ↔ Runs 146 72 ls (.int 1 :: st) h Q := R_iconst rfl rfl
theorem s146_72 : Runs 146 72 ls st h Q ↔ Runs 146 76 ls st h Q := R_goto rfl rfl
theorem s146_75 : Runs 146 75 ls st h Q ↔ Runs 146 76 ls (.int 0 :: st) h Q := R_iconst rfl rfl
theorem s146_76 (hx : i = 0 ∨ i = 1) : Runs 146 76 ls [.int i] h Q ↔ Q (some (.int i)) h := R_zret rfl rfl hx
theorem s147_0 : Runs 147 0 [some (.ref a), x1, x2] st h Q ↔ Runs 147 1 [some (.ref a), x1, x2] (.ref a :: st) h Q := R_aldn rfl rfl
theorem s147_0q : Runs 147 0 [some (zrf r), x1, x2] st h Q ↔ Runs 147 1 [some (zrf r), x1, x2] (zrf r :: st) h Q := R_aldnq rfl rfl
theorem s147_1 : Runs 147 1 [x0, some (.int i), x2] st h Q ↔ Runs 147 2 [x0, some (.int i), x2] (.int i :: st) h Q := R_ildn rfl rfl
theorem s147_2 (ht : tg a = 10) (hx : i = 0 ∨ i = 1) : Runs 147 2 ls (.int i :: .ref a :: st) (n, tg, ln, I, J, O) Q ↔ Runs 147 5 ls st (n, tg, ln, zu I a 17 i, J, O) Q := R_putz rfl rfl rfl rfl rfl ht hx
theorem s147_5 : Runs 147 5 [some (.ref a), x1, x2] st h Q ↔ Runs 147 6 [some (.ref a), x1, x2] (.ref a :: st) h Q := R_aldn rfl rfl
theorem s147_5q : Runs 147 5 [some (zrf r), x1, x2] st h Q ↔ Runs 147 6 [some (zrf r), x1, x2] (zrf r :: st) h Q := R_aldnq rfl rfl
theorem s147_6 : Runs 147 6 ls st h Q ↔ Runs 147 7 ls (.int 0 :: st) h Q := R_iconst rfl rfl
theorem s147_7 (ht : tg a = 10) : Runs 147 7 ls (.int i :: .ref a :: st) (n, tg, ln, I, J, O) Q ↔ Runs 147 10 ls st (n, tg, ln, zu I a 13 i, J, O) Q := R_puti rfl rfl rfl rfl rfl rfl ht
theorem s147_10 : Runs 147 10 [some (.ref a), x1, x2] st h Q ↔ Runs 147 11 [some (.ref a), x1, x2] (.ref a :: st) h Q := R_aldn rfl rfl
theorem s147_10q : Runs 147 10 [some (zrf r), x1, x2] st h Q ↔ Runs 147 11 [some (zrf r), x1, x2] (zrf r :: st) h Q := R_aldnq rfl rfl
theorem s147_11 : Runs 147 11 ls st h Q ↔ Runs 147 12 ls (.int 1 :: st) h Q := R_iconst rfl rfl
theorem s147_12 (ht : tg a = 10) : Runs 147 12 ls (.int i :: .ref a :: st) (n, tg, ln, I, J, O) Q ↔ Runs 147 15 ls st (n, tg, ln, zu I a 16 i, J, O) Q := R_puti rfl rfl rfl rfl rfl rfl ht
theorem s147_15 : Runs 147 15 [some (.ref a), x1, x2] st h Q ↔ Runs 147 16 [some (.ref a), x1, x2] (.ref a :: st) h Q := R_aldn rfl rfl
theorem s147_15q : Runs 147 15 [some (zrf r), x1, x2] st h Q ↔ Runs 147 16 [some (zrf r), x1, x2] (zrf r :: st) h Q := R_aldnq rfl rfl
theorem s147_16 : Runs 147 16 [some (.ref a), x1, x2] st h Q ↔ Runs 147 17 [some (.ref a), x1, x2] (.ref a :: st) h Q := R_aldn rfl rfl
theorem s147_16q : Runs 147 16 [some (zrf r), x1, x2] st h Q ↔ Runs 147 17 [some (zrf r), x1, x2] (zrf r :: st) h Q := R_aldnq rfl rfl
theorem s147_17 (ht : tg a = 10) : Runs 147 17 ls (.ref a :: st) (n, tg, ln, I, J, O) Q ↔ Runs 147 20 ls (zrf (O a 0) :: st) (n, tg, ln, I, J, O) Q := R_getr rfl rfl rfl rfl ht
theorem s147_20 : Runs 147 20 ls st h Q ↔ Runs 147 22 ls (.int 90 :: st) h Q := R_bipush rfl (by decide)
theorem s147_22 (ht : tg a = 20) : Runs 147 22 ls (.int i :: .ref a :: st) (n, tg, ln, I, J, O) Q ↔ ((0 ≤ i ∧ i < Int32.ofNat (ln a)) ∧ Runs 147 23 ls (.int (I a i) :: st) (n, tg, ln, I, J, O) Q) := R_iald rfl ht
theorem s147_23 (ht : tg a = 10) : Runs 147 23 ls (.int i :: .ref a :: st) (n, tg, ln, I, J, O) Q ↔ Runs 147 26 ls st (n, tg, ln, zu I a 14 i, J, O) Q := R_puti rfl rfl rfl rfl rfl rfl ht
theorem s147_26 : Runs 147 26 [some (.ref a), x1, x2] st h Q ↔ Runs 147 27 [some (.ref a), x1, x2] (.ref a :: st) h Q := R_aldn rfl rfl
theorem s147_26q : Runs 147 26 [some (zrf r), x1, x2] st h Q ↔ Runs 147 27 [some (zrf r), x1, x2] (zrf r :: st) h Q := R_aldnq rfl rfl
theorem s147_27 (ht : tg a = 10) : Runs 147 27 ls (.ref a :: st) (n, tg, ln, I, J, O) Q ↔ Runs 147 30 ls (zrf (O a 15) :: st) (n, tg, ln, I, J, O) Q := R_getr rfl rfl rfl rfl ht
theorem s147_30 : Runs 147 30 ls st h Q ↔ Runs 147 31 ls (.int 0 :: st) h Q := R_iconst rfl rfl
theorem s147_31 : Runs 147 31 [some (.ref a), x1, x2] st h Q ↔ Runs 147 32 [some (.ref a), x1, x2] (.ref a :: st) h Q := R_aldn rfl rfl
theorem s147_31q : Runs 147 31 [some (zrf r), x1, x2] st h Q ↔ Runs 147 32 [some (zrf r), x1, x2] (zrf r :: st) h Q := R_aldnq rfl rfl
theorem s147_32 (ht : tg a = 10) : Runs 147 32 ls (.ref a :: st) (n, tg, ln, I, J, O) Q ↔ Runs 147 35 ls (zrf (O a 0) :: st) (n, tg, ln, I, J, O) Q := R_getr rfl rfl rfl rfl ht
theorem s147_35 : Runs 147 35 ls st h Q ↔ Runs 147 37 ls (.int 94 :: st) h Q := R_bipush rfl (by decide)
theorem s147_37 (ht : tg a = 20) : Runs 147 37 ls (.int i :: .ref a :: st) (n, tg, ln, I, J, O) Q ↔ ((0 ≤ i ∧ i < Int32.ofNat (ln a)) ∧ Runs 147 38 ls (.int (I a i) :: st) (n, tg, ln, I, J, O) Q) := R_iald rfl ht
theorem s147_38 (ht : tg a = 20) : Runs 147 38 ls (.int j :: .int i :: .ref a :: st) (n, tg, ln, I, J, O) Q ↔ ((0 ≤ i ∧ i < Int32.ofNat (ln a)) ∧ Runs 147 39 ls st (n, tg, ln, zu I a i j, J, O) Q) := R_iast rfl ht
theorem s147_39 : Runs 147 39 [some (.ref a), x1, x2] st h Q ↔ Runs 147 40 [some (.ref a), x1, x2] (.ref a :: st) h Q := R_aldn rfl rfl
theorem s147_39q : Runs 147 39 [some (zrf r), x1, x2] st h Q ↔ Runs 147 40 [some (zrf r), x1, x2] (zrf r :: st) h Q := R_aldnq rfl rfl
theorem s147_40 (ht : tg a = 10) : Runs 147 40 ls (.ref a :: st) (n, tg, ln, I, J, O) Q ↔ Runs 147 43 ls (zrf (O a 15) :: st) (n, tg, ln, I, J, O) Q := R_getr rfl rfl rfl rfl ht
theorem s147_43 : Runs 147 43 ls st h Q ↔ Runs 147 44 ls (.int 1 :: st) h Q := R_iconst rfl rfl
theorem s147_44 : Runs 147 44 [some (.ref a), x1, x2] st h Q ↔ Runs 147 45 [some (.ref a), x1, x2] (.ref a :: st) h Q := R_aldn rfl rfl
theorem s147_44q : Runs 147 44 [some (zrf r), x1, x2] st h Q ↔ Runs 147 45 [some (zrf r), x1, x2] (zrf r :: st) h Q := R_aldnq rfl rfl
theorem s147_45 (ht : tg a = 10) : Runs 147 45 ls (.ref a :: st) (n, tg, ln, I, J, O) Q ↔ Runs 147 48 ls (zrf (O a 0) :: st) (n, tg, ln, I, J, O) Q := R_getr rfl rfl rfl rfl ht
theorem s147_48 : Runs 147 48 ls st h Q ↔ Runs 147 50 ls (.int 95 :: st) h Q := R_bipush rfl (by decide)
theorem s147_50 (ht : tg a = 20) : Runs 147 50 ls (.int i :: .ref a :: st) (n, tg, ln, I, J, O) Q ↔ ((0 ≤ i ∧ i < Int32.ofNat (ln a)) ∧ Runs 147 51 ls (.int (I a i) :: st) (n, tg, ln, I, J, O) Q) := R_iald rfl ht
theorem s147_51 (ht : tg a = 20) : Runs 147 51 ls (.int j :: .int i :: .ref a :: st) (n, tg, ln, I, J, O) Q ↔ ((0 ≤ i ∧ i < Int32.ofNat (ln a)) ∧ Runs 147 52 ls st (n, tg, ln, zu I a i j, J, O) Q) := R_iast rfl ht
theorem s147_52 : Runs 147 52 [some (.ref a), x1, x2] st h Q ↔ Runs 147 53 [some (.ref a), x1, x2] (.ref a :: st) h Q := R_aldn rfl rfl
theorem s147_52q : Runs 147 52 [some (zrf r), x1, x2] st h Q ↔ Runs 147 53 [some (zrf r), x1, x2] (zrf r :: st) h Q := R_aldnq rfl rfl
theorem s147_53 (ht : tg a = 10) (hs : zsumc st ≤ 8) : Runs 147 53 ls (.ref a :: st) (n, tg, ln, I, J, O) Q ↔ Runs 134 0 [some (.ref a)] [] (n, tg, ln, I, J, O) (fun v h2 => Runs 147 56 ls (v.toList ++ st) h2 Q) := R_callv (a := a) (rest := st) rfl rfl rfl rfl rfl rfl rfl ht hs
theorem s147_56 : Runs 147 56 [some (.ref a), x1, x2] st h Q ↔ Runs 147 57 [some (.ref a), x1, x2] (.ref a :: st) h Q := R_aldn rfl rfl
theorem s147_56q : Runs 147 56 [some (zrf r), x1, x2] st h Q ↔ Runs 147 57 [some (zrf r), x1, x2] (zrf r :: st) h Q := R_aldnq rfl rfl
theorem s147_57 (ht : tg a = 10) (hs : zsumc st ≤ 8) : Runs 147 57 ls (.ref a :: st) (n, tg, ln, I, J, O) Q ↔ Runs 146 0 [some (.ref a)] [] (n, tg, ln, I, J, O) (fun v h2 => Runs 147 60 ls (v.toList ++ st) h2 Q) := R_callv (a := a) (rest := st) rfl rfl rfl rfl rfl rfl rfl ht hs
theorem s147_60 : Runs 147 60 [x0, x1, x2] (.int i :: st) h Q ↔ Runs 147 61 [x0, zdrop x1, some (.int i)] st h Q := R_istn rfl rfl rfl
theorem s147_61 : Runs 147 61 [x0, x1, some (.int i)] st h Q ↔ Runs 147 62 [x0, x1, some (.int i)] (.int i :: st) h Q := R_ildn rfl rfl
theorem s147_62 : Runs 147 62 ls (.int i :: st) h Q ↔ if i = 0 then Runs 147 131 ls st h Q else Runs 147 65 ls st h Q := R_ifeq rfl rfl
theorem s147_65 : Runs 147 65 [some (.ref a), x1, x2] st h Q ↔ Runs 147 66 [some (.ref a), x1, x2] (.ref a :: st) h Q := R_aldn rfl rfl
theorem s147_65q : Runs 147 65 [some (zrf r), x1, x2] st h Q ↔ Runs 147 66 [some (zrf r), x1, x2] (zrf r :: st) h Q := R_aldnq rfl rfl
theorem s147_66 (ht : tg a = 10) : Runs 147 66 ls (.ref a :: st) (n, tg, ln, I, J, O) Q ↔ Runs 147 69 ls (.int (I a 12) :: st) (n, tg, ln, I, J, O) Q := R_geti rfl rfl rfl rfl ht
theorem s147_69 : Runs 147 69 [some (.ref a), x1, x2] st h Q ↔ Runs 147 70 [some (.ref a), x1, x2] (.ref a :: st) h Q := R_aldn rfl rfl
theorem s147_69q : Runs 147 69 [some (zrf r), x1, x2] st h Q ↔ Runs 147 70 [some (zrf r), x1, x2] (zrf r :: st) h Q := R_aldnq rfl rfl
theorem s147_70 (ht : tg a = 10) : Runs 147 70 ls (.ref a :: st) (n, tg, ln, I, J, O) Q ↔ Runs 147 73 ls (.int (I a 4) :: st) (n, tg, ln, I, J, O) Q := R_geti rfl rfl rfl rfl ht
theorem s147_73 : Runs 147 73 ls (.int j :: .int i :: st) h Q ↔ if j ≤ i then Runs 147 131 ls st h Q else Runs 147 76 ls st h Q := R_icge rfl rfl
theorem s147_76 : Runs 147 76 [some (.ref a), x1, x2] st h Q ↔ Runs 147 77 [some (.ref a), x1, x2] (.ref a :: st) h Q := R_aldn rfl rfl
theorem s147_76q : Runs 147 76 [some (zrf r), x1, x2] st h Q ↔ Runs 147 77 [some (zrf r), x1, x2] (zrf r :: st) h Q := R_aldnq rfl rfl
theorem s147_77 (ht : tg a = 10) : Runs 147 77 ls (.ref a :: st) (n, tg, ln, I, J, O) Q ↔ Runs 147 80 ls (.int (I a 16) :: st) (n, tg, ln, I, J, O) Q := R_geti rfl rfl rfl rfl ht
theorem s147_80 : Runs 147 80 ls st h Q ↔ Runs 147 82 ls (.int 20 :: st) h Q := R_bipush rfl (by decide)
theorem s147_82 : Runs 147 82 ls (.int j :: .int i :: st) h Q ↔ if j ≤ i then Runs 147 103 ls st h Q else Runs 147 85 ls st h Q := R_icge rfl rfl
theorem s147_85 : Runs 147 85 [some (.ref a), x1, x2] st h Q ↔ Runs 147 86 [some (.ref a), x1, x2] (.ref a :: st) h Q := R_aldn rfl rfl
theorem s147_85q : Runs 147 85 [some (zrf r), x1, x2] st h Q ↔ Runs 147 86 [some (zrf r), x1, x2] (zrf r :: st) h Q := R_aldnq rfl rfl
theorem s147_86 (ht : tg a = 10) : Runs 147 86 ls (.ref a :: st) (n, tg, ln, I, J, O) Q ↔ Runs 147 89 ls (zrf (O a 3) :: st) (n, tg, ln, I, J, O) Q := R_getr rfl rfl rfl rfl ht
theorem s147_89 : Runs 147 89 [some (.ref a), x1, x2] st h Q ↔ Runs 147 90 [some (.ref a), x1, x2] (.ref a :: st) h Q := R_aldn rfl rfl
theorem s147_89q : Runs 147 89 [some (zrf r), x1, x2] st h Q ↔ Runs 147 90 [some (zrf r), x1, x2] (zrf r :: st) h Q := R_aldnq rfl rfl
theorem s147_90 (ht : tg a = 10) : Runs 147 90 ls (.ref a :: st) (n, tg, ln, I, J, O) Q ↔ Runs 147 93 ls (.int (I a 12) :: st) (n, tg, ln, I, J, O) Q := R_geti rfl rfl rfl rfl ht
theorem s147_93 (ht : tg a = 20) : Runs 147 93 ls (.int i :: .ref a :: st) (n, tg, ln, I, J, O) Q ↔ ((0 ≤ i ∧ i < Int32.ofNat (ln a)) ∧ Runs 147 94 ls (.int (I a i) :: st) (n, tg, ln, I, J, O) Q) := R_iald rfl ht
theorem s147_94 : Runs 147 94 ls st h Q ↔ Runs 147 96 ls (.int 59 :: st) h Q := R_bipush rfl (by decide)
theorem s147_96 : Runs 147 96 ls (.int j :: .int i :: st) h Q ↔ if ¬ i = j then Runs 147 103 ls st h Q else Runs 147 99 ls st h Q := R_icne rfl rfl
theorem s147_99 : Runs 147 99 ls st h Q ↔ Runs 147 100 ls (.int 1 :: st) h Q := R_iconst rfl rfl
theorem s147_100 : Runs 147 100 ls st h Q ↔ Runs 147 104 ls st h Q := R_goto rfl rfl
theorem s147_103 : Runs 147 103 ls st h Q ↔ Runs 147 104 ls (.int 0 :: st) h Q := R_iconst rfl rfl
theorem s147_104 : Runs 147 104 [x0, x1, x2] (.int i :: st) h Q ↔ Runs 147 105 [x0, zdrop x1, some (.int i)] st h Q := R_istn rfl rfl rfl
theorem s147_105 : Runs 147 105 [x0, x1, some (.int i)] st h Q ↔ Runs 147 106 [x0, x1, some (.int i)] (.int i :: st) h Q := R_ildn rfl rfl
theorem s147_106 : Runs 147 106 ls (.int i :: st) h Q ↔ if i = 0 then Runs 147 61 ls st h Q else Runs 147 109 ls st h Q := R_ifeq rfl rfl
theorem s147_109 : Runs 147 109 [some (.ref a), x1, x2] st h Q ↔ Runs 147 110 [some (.ref a), x1, x2] (.ref a :: st) h Q := R_aldn rfl rfl
theorem s147_109q : Runs 147 109 [some (zrf r), x1, x2] st h Q ↔ Runs 147 110 [some (zrf r), x1, x2] (zrf r :: st) h Q := R_aldnq rfl rfl
theorem s147_110 (ht : tg a = 10) (hs : zsumc st ≤ 8) : Runs 147 110 ls (.ref a :: st) (n, tg, ln, I, J, O) Q ↔ Runs 134 0 [some (.ref a)] [] (n, tg, ln, I, J, O) (fun v h2 => Runs 147 113 ls (v.toList ++ st) h2 Q) := R_callv (a := a) (rest := st) rfl rfl rfl rfl rfl rfl rfl ht hs
theorem s147_113 : Runs 147 113 [some (.ref a), x1, x2] st h Q ↔ Runs 147 114 [some (.ref a), x1, x2] (.ref a :: st) h Q := R_aldn rfl rfl
theorem s147_113q : Runs 147 113 [some (zrf r), x1, x2] st h Q ↔ Runs 147 114 [some (zrf r), x1, x2] (zrf r :: st) h Q := R_aldnq rfl rfl
theorem s147_114 (ht : tg a = 10) (hs : zsumc st ≤ 8) : Runs 147 114 ls (.ref a :: st) (n, tg, ln, I, J, O) Q ↔ Runs 146 0 [some (.ref a)] [] (n, tg, ln, I, J, O) (fun v h2 => Runs 147 117 ls (v.toList ++ st) h2 Q) := R_callv (a := a) (rest := st) rfl rfl rfl rfl rfl rfl rfl ht hs
theorem s147_117 : Runs 147 117 [x0, x1, x2] (.int i :: st) h Q ↔ Runs 147 118 [x0, zdrop x1, some (.int i)] st h Q := R_istn rfl rfl rfl
theorem s147_118 : Runs 147 118 [some (.ref a), x1, x2] st h Q ↔ Runs 147 119 [some (.ref a), x1, x2] (.ref a :: st) h Q := R_aldn rfl rfl
theorem s147_118q : Runs 147 118 [some (zrf r), x1, x2] st h Q ↔ Runs 147 119 [some (zrf r), x1, x2] (zrf r :: st) h Q := R_aldnq rfl rfl
theorem s147_119 : Runs 147 119 ls (.int i :: st) h Q ↔ Runs 147 120 ls (.int i :: .int i :: st) h Q := R_dupi rfl
theorem s147_119q : Runs 147 119 ls (.ref a :: st) h Q ↔ Runs 147 120 ls (.ref a :: .ref a :: st) h Q := R_dupr rfl
theorem s147_120 (ht : tg a = 10) : Runs 147 120 ls (.ref a :: st) (n, tg, ln, I, J, O) Q ↔ Runs 147 123 ls (.int (I a 16) :: st) (n, tg, ln, I, J, O) Q := R_geti rfl rfl rfl rfl ht
theorem s147_123 : Runs 147 123 ls st h Q ↔ Runs 147 124 ls (.int 1 :: st) h Q := R_iconst rfl rfl
theorem s147_124 : Runs 147 124 ls (.int j :: .int i :: st) h Q ↔ Runs 147 125 ls (.int (i + j) :: st) h Q := R_iadd rfl
theorem s147_125 (ht : tg a = 10) : Runs 147 125 ls (.int i :: .ref a :: st) (n, tg, ln, I, J, O) Q ↔ Runs 147 128 ls st (n, tg, ln, zu I a 16 i, J, O) Q := R_puti rfl rfl rfl rfl rfl rfl ht
theorem s147_128 : Runs 147 128 ls st h Q ↔ Runs 147 61 ls st h Q := R_goto rfl rfl
theorem s147_131 : Runs 147 131 [x0, x1, some (.int i)] st h Q ↔ Runs 147 132 [x0, x1, some (.int i)] (.int i :: st) h Q := R_ildn rfl rfl
theorem s147_132 (hx : i = 0 ∨ i = 1) : Runs 147 132 ls [.int i] h Q ↔ Q (some (.int i)) h := R_zret rfl rfl hx
theorem s148_0 : Runs 148 0 [some (.ref a)] st h Q ↔ Runs 148 1 [some (.ref a)] (.ref a :: st) h Q := R_aldn rfl rfl
theorem s148_0q : Runs 148 0 [some (zrf r)] st h Q ↔ Runs 148 1 [some (zrf r)] (zrf r :: st) h Q := R_aldnq rfl rfl
theorem s148_1 : Runs 148 1 ls st h Q ↔ Runs 148 2 ls (.int 0 :: st) h Q := R_iconst rfl rfl
theorem s148_2 (ht : tg a = 10) (hs : zsumc st ≤ 8) : Runs 148 2 ls (.int i0 :: .ref a :: st) (n, tg, ln, I, J, O) Q ↔ Runs 147 0 [some (.ref a), some (.int i0), none] [] (n, tg, ln, I, J, O) (fun v h2 => Runs 148 5 ls (v.toList ++ st) h2 Q) := R_callv (a := a) (rest := st) rfl rfl rfl rfl rfl rfl rfl ht hs
theorem s148_5 : Runs 148 5 ls (.int i :: st) h Q ↔ if i = 0 then Runs 148 12 ls st h Q else Runs 148 8 ls st h Q := R_ifeq rfl rfl
theorem s148_8 : Runs 148 8 ls st h Q ↔ Runs 148 9 ls (.int (-1) :: st) h Q := R_iconst rfl rfl
theorem s148_9 : Runs 148 9 ls st h Q ↔ Runs 148 16 ls st h Q := R_goto rfl rfl
theorem s148_12 : Runs 148 12 [some (.ref a)] st h Q ↔ Runs 148 13 [some (.ref a)] (.ref a :: st) h Q := R_aldn rfl rfl
theorem s148_12q : Runs 148 12 [some (zrf r)] st h Q ↔ Runs 148 13 [some (zrf r)] (zrf r :: st) h Q := R_aldnq rfl rfl
theorem s148_13 (ht : tg a = 10) : Runs 148 13 ls (.ref a :: st) (n, tg, ln, I, J, O) Q ↔ Runs 148 16 ls (.int (I a 12) :: st) (n, tg, ln, I, J, O) Q := R_geti rfl rfl rfl rfl ht
theorem s148_16 : Runs 148 16 ls [.int i] h Q ↔ Q (some (.int i)) h := R_iret rfl rfl
theorem s150_0 : Runs 150 0 [some (.ref a), x1] st h Q ↔ Runs 150 1 [some (.ref a), x1] (.ref a :: st) h Q := R_aldn rfl rfl
theorem s150_0q : Runs 150 0 [some (zrf r), x1] st h Q ↔ Runs 150 1 [some (zrf r), x1] (zrf r :: st) h Q := R_aldnq rfl rfl
theorem s150_1 : Runs 150 1 ls st h Q ↔ Runs 150 2 ls (.int 0 :: st) h Q := R_iconst rfl rfl
theorem s150_2 (ht : tg a = 10) (hs : zsumc st ≤ 8) : Runs 150 2 ls (.int i0 :: .ref a :: st) (n, tg, ln, I, J, O) Q ↔ Runs 147 0 [some (.ref a), some (.int i0), none] [] (n, tg, ln, I, J, O) (fun v h2 => Runs 150 5 ls (v.toList ++ st) h2 Q) := R_callv (a := a) (rest := st) rfl rfl rfl rfl rfl rfl rfl ht hs
theorem s150_5 : Runs 150 5 ls (.int i :: st) h Q ↔ if ¬ i = 0 then Runs 150 11 ls st h Q else Runs 150 8 ls st h Q := R_ifne rfl rfl
theorem s150_8 : Runs 150 8 ls st h Q ↔ Runs 150 10 ls (.int (-4) :: st) h Q := R_bipush rfl (by decide)
theorem s150_10 : Runs 150 10 ls [.int i] h Q ↔ Q (some (.int i)) h := R_iret rfl rfl
theorem s150_11 : Runs 150 11 [some (.ref a), x1] st h Q ↔ Runs 150 12 [some (.ref a), x1] (.ref a :: st) h Q := R_aldn rfl rfl
theorem s150_11q : Runs 150 11 [some (zrf r), x1] st h Q ↔ Runs 150 12 [some (zrf r), x1] (zrf r :: st) h Q := R_aldnq rfl rfl
theorem s150_12 : Runs 150 12 ls st h Q ↔ Runs 150 13 ls (.int 1 :: st) h Q := R_iconst rfl rfl
theorem s150_13 (ht : tg a = 10) (hs : zsumc st ≤ 8) : Runs 150 13 ls (.int i0 :: .ref a :: st) (n, tg, ln, I, J, O) Q ↔ Runs 147 0 [some (.ref a), some (.int i0), none] [] (n, tg, ln, I, J, O) (fun v h2 => Runs 150 16 ls (v.toList ++ st) h2 Q) := R_callv (a := a) (rest := st) rfl rfl rfl rfl rfl rfl rfl ht hs
theorem s150_16 : Runs 150 16 ls (.int i :: st) h Q ↔ Runs 150 17 ls st h Q := R_pop rfl
theorem s150_17 : Runs 150 17 [some (.ref a), x1] st h Q ↔ Runs 150 18 [some (.ref a), x1] (.ref a :: st) h Q := R_aldn rfl rfl
theorem s150_17q : Runs 150 17 [some (zrf r), x1] st h Q ↔ Runs 150 18 [some (zrf r), x1] (zrf r :: st) h Q := R_aldnq rfl rfl
theorem s150_18 : Runs 150 18 ls st h Q ↔ Runs 150 19 ls (.int 0 :: st) h Q := R_iconst rfl rfl
theorem s150_19 (ht : tg a = 10) : Runs 150 19 ls (.int i :: .ref a :: st) (n, tg, ln, I, J, O) Q ↔ Runs 150 22 ls st (n, tg, ln, zu I a 4 i, J, O) Q := R_puti rfl rfl rfl rfl rfl rfl ht
theorem s150_22 : Runs 150 22 [some (.ref a), x1] st h Q ↔ Runs 150 23 [some (.ref a), x1] (.ref a :: st) h Q := R_aldn rfl rfl
theorem s150_22q : Runs 150 22 [some (zrf r), x1] st h Q ↔ Runs 150 23 [some (zrf r), x1] (zrf r :: st) h Q := R_aldnq rfl rfl
theorem s150_23 : Runs 150 23 ls st h Q ↔ Runs 150 25 ls (.int 90 :: st) h Q := R_bipush rfl (by decide)
theorem s150_25 : Runs 150 25 ls st h Q ↔ Runs 150 26 ls (.int 0 :: st) h Q := R_iconst rfl rfl
theorem s150_26 (ht : tg a = 10) (hs : zsumc st ≤ 8) : Runs 150 26 ls (.int i1 :: .int i0 :: .ref a :: st) (n, tg, ln, I, J, O) Q ↔ Runs 149 0 [some (.ref a), some (.int i0), some (.int i1), none] [] (n, tg, ln, I, J, O) (fun v h2 => Runs 150 29 ls (v.toList ++ st) h2 Q) := R_callv (a := a) (rest := st) rfl rfl rfl rfl rfl rfl rfl ht hs
theorem s150_29 : Runs 150 29 [some (.ref a), x1] st h Q ↔ Runs 150 30 [some (.ref a), x1] (.ref a :: st) h Q := R_aldn rfl rfl
theorem s150_29q : Runs 150 29 [some (zrf r), x1] st h Q ↔ Runs 150 30 [some (zrf r), x1] (zrf r :: st) h Q := R_aldnq rfl rfl
theorem s150_30 : Runs 150 30 ls st h Q ↔ Runs 150 31 ls (.int 0 :: st) h Q := R_iconst rfl rfl
theorem s150_31 (ht : tg a = 10) : Runs 150 31 ls (.int i :: .ref a :: st) (n, tg, ln, I, J, O) Q ↔ Runs 150 34 ls st (n, tg, ln, zu I a 1 i, J, O) Q := R_puti rfl rfl rfl rfl rfl rfl ht
theorem s150_34 : Runs 150 34 [some (.ref a), x1] st h Q ↔ Runs 150 35 [some (.ref a), x1] (.ref a :: st) h Q := R_aldn rfl rfl
theorem s150_34q : Runs 150 34 [some (zrf r), x1] st h Q ↔ Runs 150 35 [some (zrf r), x1] (zrf r :: st) h Q := R_aldnq rfl rfl
theorem s150_35 (ht : tg a = 10) : Runs 150 35 ls (.ref a :: st) (n, tg, ln, I, J, O) Q ↔ Runs 150 38 ls (zrf (O a 2) :: st) (n, tg, ln, I, J, O) Q := R_getr rfl rfl rfl rfl ht
theorem s150_38 : Runs 150 38 ls st h Q ↔ Runs 150 39 ls (.int 0 :: st) h Q := R_iconst rfl rfl
theorem s150_39 : Runs 150 39 ls st h Q ↔ Runs 150 40 ls (.int 0 :: st) h Q := R_iconst rfl rfl
theorem s150_40 (ht : tg a = 22) (hx : j = 0 ∨ j = 1) : Runs 150 40 ls (.int j :: .int i :: .ref a :: st) (n, tg, ln, I, J, O) Q ↔ ((0 ≤ i ∧ i < Int32.ofNat (ln a)) ∧ Runs 150 41 ls st (n, tg, ln, zu I a i j, J, O) Q) := R_bast rfl ht hx
theorem s150_41 : Runs 150 41 [some (.ref a), x1] st h Q ↔ Runs 150 42 [some (.ref a), x1] (.ref a :: st) h Q := R_aldn rfl rfl
theorem s150_41q : Runs 150 41 [some (zrf r), x1] st h Q ↔ Runs 150 42 [some (zrf r), x1] (zrf r :: st) h Q := R_aldnq rfl rfl
theorem s150_42 (ht : tg a = 10) : Runs 150 42 ls (.ref a :: st) (n, tg, ln, I, J, O) Q ↔ Runs 150 45 ls (zrf (O a 2) :: st) (n, tg, ln, I, J, O) Q := R_getr rfl rfl rfl rfl ht
theorem s150_45 : Runs 150 45 ls st h Q ↔ Runs 150 46 ls (.int 1 :: st) h Q := R_iconst rfl rfl
theorem s150_46 : Runs 150 46 ls st h Q ↔ Runs 150 47 ls (.int 0 :: st) h Q := R_iconst rfl rfl
theorem s150_47 (ht : tg a = 22) (hx : j = 0 ∨ j = 1) : Runs 150 47 ls (.int j :: .int i :: .ref a :: st) (n, tg, ln, I, J, O) Q ↔ ((0 ≤ i ∧ i < Int32.ofNat (ln a)) ∧ Runs 150 48 ls st (n, tg, ln, zu I a i j, J, O) Q) := R_bast rfl ht hx
theorem s150_48 : Runs 150 48 [some (.ref a), x1] st h Q ↔ Runs 150 49 [some (.ref a), x1] (.ref a :: st) h Q := R_aldn rfl rfl
theorem s150_48q : Runs 150 48 [some (zrf r), x1] st h Q ↔ Runs 150 49 [some (zrf r), x1] (zrf r :: st) h Q := R_aldnq rfl rfl
theorem s150_49 : Runs 150 49 ls st h Q ↔ Runs 150 50 ls (.int 0 :: st) h Q := R_iconst rfl rfl
theorem s150_50 (ht : tg a = 10) : Runs 150 50 ls (.int i :: .ref a :: st) (n, tg, ln, I, J, O) Q ↔ Runs 150 53 ls st (n, tg, ln, zu I a 5 i, J, O) Q := R_puti rfl rfl rfl rfl rfl rfl ht
theorem s150_53 : Runs 150 53 ls st h Q ↔ Runs 150 54 ls (.int 0 :: st) h Q := R_iconst rfl rfl
theorem s150_54 : Runs 150 54 [x0, x1] (.int i :: st) h Q ↔ Runs 150 55 [zdrop x0, some (.int i)] st h Q := R_istn rfl rfl rfl
theorem s150_55 : Runs 150 55 [x0, some (.int i)] st h Q ↔ Runs 150 56 [x0, some (.int i)] (.int i :: st) h Q := R_ildn rfl rfl
theorem s150_56 : Runs 150 56 ls st h Q ↔ Runs 150 57 ls (.int 3 :: st) h Q := R_iconst rfl rfl
theorem s150_57 : Runs 150 57 ls (.int j :: .int i :: st) h Q ↔ if j ≤ i then Runs 150 73 ls st h Q else Runs 150 60 ls st h Q := R_icge rfl rfl
theorem s150_60 : Runs 150 60 [some (.ref a), x1] st h Q ↔ Runs 150 61 [some (.ref a), x1] (.ref a :: st) h Q := R_aldn rfl rfl
theorem s150_60q : Runs 150 60 [some (zrf r), x1] st h Q ↔ Runs 150 61 [some (zrf r), x1] (zrf r :: st) h Q := R_aldnq rfl rfl
theorem s150_61 (ht : tg a = 10) : Runs 150 61 ls (.ref a :: st) (n, tg, ln, I, J, O) Q ↔ Runs 150 64 ls (zrf (O a 8) :: st) (n, tg, ln, I, J, O) Q := R_getr rfl rfl rfl rfl ht
theorem s150_64 : Runs 150 64 [x0, some (.int i)] st h Q ↔ Runs 150 65 [x0, some (.int i)] (.int i :: st) h Q := R_ildn rfl rfl
theorem s150_65 : Runs 150 65 ls st h Q ↔ Runs 150 66 ls (.int (-1) :: st) h Q := R_iconst rfl rfl
theorem s150_66 (ht : tg a = 20) : Runs 150 66 ls (.int j :: .int i :: .ref a :: st) (n, tg, ln, I, J, O) Q ↔ ((0 ≤ i ∧ i < Int32.ofNat (ln a)) ∧ Runs 150 67 ls st (n, tg, ln, zu I a i j, J, O) Q) := R_iast rfl ht
theorem s150_67 : Runs 150 67 [x0, some (.int i)] st h Q ↔ Runs 150 70 [zdrop x0, some (.int (i + 1))] st h Q := R_iinc rfl rfl rfl rfl rfl
theorem s150_70 : Runs 150 70 ls st h Q ↔ Runs 150 55 ls st h Q := R_goto rfl rfl
theorem s150_73 : Runs 150 73 [some (.ref a), x1] st h Q ↔ Runs 150 74 [some (.ref a), x1] (.ref a :: st) h Q := R_aldn rfl rfl
theorem s150_73q : Runs 150 73 [some (zrf r), x1] st h Q ↔ Runs 150 74 [some (zrf r), x1] (zrf r :: st) h Q := R_aldnq rfl rfl
theorem s150_74 (ht : tg a = 10) : Runs 150 74 ls (.ref a :: st) (n, tg, ln, I, J, O) Q ↔ Runs 150 77 ls (.int (I a 16) :: st) (n, tg, ln, I, J, O) Q := R_geti rfl rfl rfl rfl ht
theorem s150_77 : Runs 150 77 ls [.int i] h Q ↔ Q (some (.int i)) h := R_iret rfl rfl
theorem s155_0 : Runs 155 0 [some (.ref a), x1, x2, x3] st h Q ↔ Runs 155 1 [some (.ref a), x1, x2, x3] (.ref a :: st) h Q := R_aldn rfl rfl
theorem s155_0q : Runs 155 0 [some (zrf r), x1, x2, x3] st h Q ↔ Runs 155 1 [some (zrf r), x1, x2, x3] (zrf r :: st) h Q := R_aldnq rfl rfl
theorem s155_1 : Runs 155 1 [x0, some (.int i), x2, x3] st h Q ↔ Runs 155 2 [x0, some (.int i), x2, x3] (.int i :: st) h Q := R_ildn rfl rfl
theorem s155_2 : Runs 155 2 ls (.int i :: st) h Q ↔ Runs 155 3 ls (.long i.toInt64 :: st) h Q := R_i2l rfl
theorem s155_3 (ht : tg a = 10) (hs : zsumc st ≤ 8) : Runs 155 3 ls (.long u0 :: .ref a :: st) (n, tg, ln, I, J, O) Q ↔ Runs 151 0 [some (.ref a), some (.long u0), none] [] (n, tg, ln, I, J, O) (fun v h2 => Runs 155 6 ls (v.toList ++ st) h2 Q) := R_callv (a := a) (rest := st) rfl rfl rfl rfl rfl rfl rfl ht hs
theorem s155_6 : Runs 155 6 ls (.int i :: st) h Q ↔ if ¬ i = 0 then Runs 155 12 ls st h Q else Runs 155 9 ls st h Q := R_ifne rfl rfl
theorem s155_9 : Runs 155 9 ls st h Q ↔ Runs 155 11 ls (.int (-2) :: st) h Q := R_bipush rfl (by decide)
theorem s155_11 : Runs 155 11 ls [.int i] h Q ↔ Q (some (.int i)) h := R_iret rfl rfl
theorem s155_12 : Runs 155 12 [some (.ref a), x1, x2, x3] st h Q ↔ Runs 155 13 [some (.ref a), x1, x2, x3] (.ref a :: st) h Q := R_aldn rfl rfl
theorem s155_12q : Runs 155 12 [some (zrf r), x1, x2, x3] st h Q ↔ Runs 155 13 [some (zrf r), x1, x2, x3] (zrf r :: st) h Q := R_aldnq rfl rfl
theorem s155_13 : Runs 155 13 ls st h Q ↔ Runs 155 14 ls (.int 0 :: st) h Q := R_iconst rfl rfl
theorem s155_14 : Runs 155 14 [x0, some (.int i), x2, x3] st h Q ↔ Runs 155 15 [x0, some (.int i), x2, x3] (.int i :: st) h Q := R_ildn rfl rfl
theorem s155_15 (ht : tg a = 10) (hs : zsumc st ≤ 8) : Runs 155 15 ls (.int i1 :: .int i0 :: .ref a :: st) (n, tg, ln, I, J, O) Q ↔ Runs 153 0 [some (.ref a), some (.int i0), some (.int i1), none, none] [] (n, tg, ln, I, J, O) (fun v h2 => Runs 155 18 ls (v.toList ++ st) h2 Q) := R_callv (a := a) (rest := st) rfl rfl rfl rfl rfl rfl rfl ht hs
theorem s155_18 : Runs 155 18 [x0, x1, x2, x3] (.int i :: st) h Q ↔ Runs 155 19 [x0, x1, zdrop x2, some (.int i)] st h Q := R_istn rfl rfl rfl
theorem s155_19 : Runs 155 19 [x0, x1, some (.int i), x3] st h Q ↔ Runs 155 20 [x0, x1, some (.int i), x3] (.int i :: st) h Q := R_ildn rfl rfl
theorem s155_20 : Runs 155 20 ls (.int i :: st) h Q ↔ if i = 0 then Runs 155 60 ls st h Q else if i = 1 then Runs 155 70 ls st h Q else if i = 2 then Runs 155 80 ls st h Q else if i = 3 then Runs 155 94 ls st h Q else if i = 4 then Runs 155 108 ls st h Q else if i = 5 then Runs 155 118 ls st h Q else Runs 155 128 ls st h Q := by
  by_cases h0 : i = 0
  · rw [if_pos h0]; subst h0; exact R_tabI rfl (by decide) rfl rfl
  rw [if_neg h0]
  by_cases h1 : i = 1
  · rw [if_pos h1]; subst h1; exact R_tabI rfl (by decide) rfl rfl
  rw [if_neg h1]
  by_cases h2 : i = 2
  · rw [if_pos h2]; subst h2; exact R_tabI rfl (by decide) rfl rfl
  rw [if_neg h2]
  by_cases h3 : i = 3
  · rw [if_pos h3]; subst h3; exact R_tabI rfl (by decide) rfl rfl
  rw [if_neg h3]
  by_cases h4 : i = 4
  · rw [if_pos h4]; subst h4; exact R_tabI rfl (by decide) rfl rfl
  rw [if_neg h4]
  by_cases h5 : i = 5
  · rw [if_pos h5]; subst h5; exact R_tabI rfl (by decide) rfl rfl
  rw [if_neg h5]
  exact R_tabO rfl (zout 5 i (by decide) (fun v hv => match v, hv with
    | 0, _ => h0
    | 1, _ => h1
    | 2, _ => h2
    | 3, _ => h3
    | 4, _ => h4
    | 5, _ => h5
    | z + 6, hv => absurd hv (by omega))) rfl
theorem s155_60 : Runs 155 60 [some (.ref a), x1, x2, x3] st h Q ↔ Runs 155 61 [some (.ref a), x1, x2, x3] (.ref a :: st) h Q := R_aldn rfl rfl
theorem s155_60q : Runs 155 60 [some (zrf r), x1, x2, x3] st h Q ↔ Runs 155 61 [some (zrf r), x1, x2, x3] (zrf r :: st) h Q := R_aldnq rfl rfl
theorem s155_61 (ht : tg a = 10) : Runs 155 61 ls (.ref a :: st) (n, tg, ln, I, J, O) Q ↔ Runs 155 64 ls (zrf (O a 0) :: st) (n, tg, ln, I, J, O) Q := R_getr rfl rfl rfl rfl ht
theorem s155_64 : Runs 155 64 ls st h Q ↔ Runs 155 66 ls (.int 30 :: st) h Q := R_bipush rfl (by decide)
theorem s155_66 : Runs 155 66 [x0, some (.int i), x2, x3] st h Q ↔ Runs 155 67 [x0, some (.int i), x2, x3] (.int i :: st) h Q := R_ildn rfl rfl
theorem s155_67 : Runs 155 67 ls (.int j :: .int i :: st) h Q ↔ Runs 155 68 ls (.int (i + j) :: st) h Q := R_iadd rfl
theorem s155_68 (ht : tg a = 20) : Runs 155 68 ls (.int i :: .ref a :: st) (n, tg, ln, I, J, O) Q ↔ ((0 ≤ i ∧ i < Int32.ofNat (ln a)) ∧ Runs 155 69 ls (.int (I a i) :: st) (n, tg, ln, I, J, O) Q) := R_iald rfl ht
theorem s155_69 : Runs 155 69 ls [.int i] h Q ↔ Q (some (.int i)) h := R_iret rfl rfl
theorem s155_70 : Runs 155 70 [some (.ref a), x1, x2, x3] st h Q ↔ Runs 155 71 [some (.ref a), x1, x2, x3] (.ref a :: st) h Q := R_aldn rfl rfl
theorem s155_70q : Runs 155 70 [some (zrf r), x1, x2, x3] st h Q ↔ Runs 155 71 [some (zrf r), x1, x2, x3] (zrf r :: st) h Q := R_aldnq rfl rfl
theorem s155_71 (ht : tg a = 10) : Runs 155 71 ls (.ref a :: st) (n, tg, ln, I, J, O) Q ↔ Runs 155 74 ls (zrf (O a 0) :: st) (n, tg, ln, I, J, O) Q := R_getr rfl rfl rfl rfl ht
theorem s155_74 : Runs 155 74 ls st h Q ↔ Runs 155 76 ls (.int 42 :: st) h Q := R_bipush rfl (by decide)
theorem s155_76 : Runs 155 76 [x0, some (.int i), x2, x3] st h Q ↔ Runs 155 77 [x0, some (.int i), x2, x3] (.int i :: st) h Q := R_ildn rfl rfl
theorem s155_77 : Runs 155 77 ls (.int j :: .int i :: st) h Q ↔ Runs 155 78 ls (.int (i + j) :: st) h Q := R_iadd rfl
theorem s155_78 (ht : tg a = 20) : Runs 155 78 ls (.int i :: .ref a :: st) (n, tg, ln, I, J, O) Q ↔ ((0 ≤ i ∧ i < Int32.ofNat (ln a)) ∧ Runs 155 79 ls (.int (I a i) :: st) (n, tg, ln, I, J, O) Q) := R_iald rfl ht
theorem s155_79 : Runs 155 79 ls [.int i] h Q ↔ Q (some (.int i)) h := R_iret rfl rfl
theorem s155_80 : Runs 155 80 [x0, x1, x2, some (.int i)] st h Q ↔ Runs 155 81 [x0, x1, x2, some (.int i)] (.int i :: st) h Q := R_ildn rfl rfl
theorem s155_81 : Runs 155 81 ls st h Q ↔ Runs 155 82 ls (.int (-1) :: st) h Q := R_iconst rfl rfl
theorem s155_82 : Runs 155 82 ls (.int j :: .int i :: st) h Q ↔ if ¬ i = j then Runs 155 89 ls st h Q else Runs 155 85 ls st h Q := R_icne rfl rfl
theorem s155_85 : Runs 155 85 ls st h Q ↔ Runs 155 86 ls (.int (-1) :: st) h Q := R_iconst rfl rfl
theorem s155_86 : Runs 155 86 ls st h Q ↔ Runs 155 93 ls st h Q := R_goto rfl rfl
theorem s155_89 : Runs 155 89 [x0, x1, x2, some (.int i)] st h Q ↔ Runs 155 90 [x0, x1, x2, some (.int i)] (.int i :: st) h Q := R_ildn rfl rfl
theorem s155_90 : Runs 155 90 ls st h Q ↔ Runs 155 92 ls (.int 100 :: st) h Q := R_bipush rfl (by decide)
theorem s155_92 : Runs 155 92 ls (.int j :: .int i :: st) h Q ↔ (¬ j = 0 ∧ Runs 155 93 ls (.int (i / j) :: st) h Q) := R_idiv rfl
theorem s155_93 : Runs 155 93 ls [.int i] h Q ↔ Q (some (.int i)) h := R_iret rfl rfl
theorem s155_94 : Runs 155 94 [x0, x1, x2, some (.int i)] st h Q ↔ Runs 155 95 [x0, x1, x2, some (.int i)] (.int i :: st) h Q := R_ildn rfl rfl
theorem s155_95 : Runs 155 95 ls st h Q ↔ Runs 155 96 ls (.int (-1) :: st) h Q := R_iconst rfl rfl
theorem s155_96 : Runs 155 96 ls (.int j :: .int i :: st) h Q ↔ if ¬ i = j then Runs 155 103 ls st h Q else Runs 155 99 ls st h Q := R_icne rfl rfl
theorem s155_99 : Runs 155 99 ls st h Q ↔ Runs 155 100 ls (.int (-1) :: st) h Q := R_iconst rfl rfl
theorem s155_100 : Runs 155 100 ls st h Q ↔ Runs 155 107 ls st h Q := R_goto rfl rfl
theorem s155_103 : Runs 155 103 [x0, x1, x2, some (.int i)] st h Q ↔ Runs 155 104 [x0, x1, x2, some (.int i)] (.int i :: st) h Q := R_ildn rfl rfl
theorem s155_104 : Runs 155 104 ls st h Q ↔ Runs 155 106 ls (.int 100 :: st) h Q := R_bipush rfl (by decide)
theorem s155_106 : Runs 155 106 ls (.int j :: .int i :: st) h Q ↔ (¬ j = 0 ∧ Runs 155 107 ls (.int (i - i / j * j) :: st) h Q) := R_irem rfl
theorem s155_107 : Runs 155 107 ls [.int i] h Q ↔ Q (some (.int i)) h := R_iret rfl rfl
theorem s155_108 : Runs 155 108 [some (.ref a), x1, x2, x3] st h Q ↔ Runs 155 109 [some (.ref a), x1, x2, x3] (.ref a :: st) h Q := R_aldn rfl rfl
theorem s155_108q : Runs 155 108 [some (zrf r), x1, x2, x3] st h Q ↔ Runs 155 109 [some (zrf r), x1, x2, x3] (zrf r :: st) h Q := R_aldnq rfl rfl
theorem s155_109 (ht : tg a = 10) : Runs 155 109 ls (.ref a :: st) (n, tg, ln, I, J, O) Q ↔ Runs 155 112 ls (zrf (O a 0) :: st) (n, tg, ln, I, J, O) Q := R_getr rfl rfl rfl rfl ht
theorem s155_112 : Runs 155 112 ls st h Q ↔ Runs 155 114 ls (.int 54 :: st) h Q := R_bipush rfl (by decide)
theorem s155_114 : Runs 155 114 [x0, some (.int i), x2, x3] st h Q ↔ Runs 155 115 [x0, some (.int i), x2, x3] (.int i :: st) h Q := R_ildn rfl rfl
theorem s155_115 : Runs 155 115 ls (.int j :: .int i :: st) h Q ↔ Runs 155 116 ls (.int (i + j) :: st) h Q := R_iadd rfl
theorem s155_116 (ht : tg a = 20) : Runs 155 116 ls (.int i :: .ref a :: st) (n, tg, ln, I, J, O) Q ↔ ((0 ≤ i ∧ i < Int32.ofNat (ln a)) ∧ Runs 155 117 ls (.int (I a i) :: st) (n, tg, ln, I, J, O) Q) := R_iald rfl ht
theorem s155_117 : Runs 155 117 ls [.int i] h Q ↔ Q (some (.int i)) h := R_iret rfl rfl
theorem s155_118 : Runs 155 118 [some (.ref a), x1, x2, x3] st h Q ↔ Runs 155 119 [some (.ref a), x1, x2, x3] (.ref a :: st) h Q := R_aldn rfl rfl
theorem s155_118q : Runs 155 118 [some (zrf r), x1, x2, x3] st h Q ↔ Runs 155 119 [some (zrf r), x1, x2, x3] (zrf r :: st) h Q := R_aldnq rfl rfl
theorem s155_119 (ht : tg a = 10) : Runs 155 119 ls (.ref a :: st) (n, tg, ln, I, J, O) Q ↔ Runs 155 122 ls (zrf (O a 0) :: st) (n, tg, ln, I, J, O) Q := R_getr rfl rfl rfl rfl ht
theorem s155_122 : Runs 155 122 ls st h Q ↔ Runs 155 124 ls (.int 66 :: st) h Q := R_bipush rfl (by decide)
theorem s155_124 : Runs 155 124 [x0, some (.int i), x2, x3] st h Q ↔ Runs 155 125 [x0, some (.int i), x2, x3] (.int i :: st) h Q := R_ildn rfl rfl
theorem s155_125 : Runs 155 125 ls (.int j :: .int i :: st) h Q ↔ Runs 155 126 ls (.int (i + j) :: st) h Q := R_iadd rfl
theorem s155_126 (ht : tg a = 20) : Runs 155 126 ls (.int i :: .ref a :: st) (n, tg, ln, I, J, O) Q ↔ ((0 ≤ i ∧ i < Int32.ofNat (ln a)) ∧ Runs 155 127 ls (.int (I a i) :: st) (n, tg, ln, I, J, O) Q) := R_iald rfl ht
theorem s155_127 : Runs 155 127 ls [.int i] h Q ↔ Q (some (.int i)) h := R_iret rfl rfl
theorem s155_128 : Runs 155 128 ls st h Q ↔ Runs 155 130 ls (.int (-3) :: st) h Q := R_bipush rfl (by decide)
theorem s155_130 : Runs 155 130 ls [.int i] h Q ↔ Q (some (.int i)) h := R_iret rfl rfl
theorem s156_0 : Runs 156 0 [x0, some (.int i), x2] st h Q ↔ Runs 156 1 [x0, some (.int i), x2] (.int i :: st) h Q := R_ildn rfl rfl
theorem s156_1 : Runs 156 1 ls (.int i :: st) h Q ↔ Runs 156 2 ls (.long i.toInt64 :: st) h Q := R_i2l rfl
theorem s156_2 : Runs 156 2 ls st h Q ↔ Runs 156 3 ls (.long 0 :: st) h Q := R_lconst rfl rfl
theorem s156_3 : Runs 156 3 ls st h Q ↔ Runs 156 4 ls (.long 1 :: st) h Q := R_lconst rfl rfl
theorem s156_4 (hs : zsumc st ≤ 8) : Runs 156 4 ls (.long u2 :: .long u1 :: .long u0 :: st) h Q ↔ Runs 127 0 [some (.long u0), none, some (.long u1), none, some (.long u2), none] [] h (fun v h2 => Runs 156 7 ls (v.toList ++ st) h2 Q) := R_calls (rest := st) rfl rfl rfl (by simp) rfl rfl rfl rfl hs
theorem s156_7 : Runs 156 7 ls (.int i :: st) h Q ↔ if i = 0 then Runs 156 40 ls st h Q else Runs 156 10 ls st h Q := R_ifeq rfl rfl
theorem s156_10 : Runs 156 10 [x0, x1, some (.int i)] st h Q ↔ Runs 156 11 [x0, x1, some (.int i)] (.int i :: st) h Q := R_ildn rfl rfl
theorem s156_11 : Runs 156 11 ls (.int i :: st) h Q ↔ Runs 156 12 ls (.long i.toInt64 :: st) h Q := R_i2l rfl
theorem s156_12 : Runs 156 12 ls st h Q ↔ Runs 156 13 ls (.long 0 :: st) h Q := R_lconst rfl rfl
theorem s156_13 : Runs 156 13 [some (.ref a), x1, x2] st h Q ↔ Runs 156 14 [some (.ref a), x1, x2] (.ref a :: st) h Q := R_aldn rfl rfl
theorem s156_13q : Runs 156 13 [some (zrf r), x1, x2] st h Q ↔ Runs 156 14 [some (zrf r), x1, x2] (zrf r :: st) h Q := R_aldnq rfl rfl
theorem s156_14 (ht : tg a = 10) : Runs 156 14 ls (.ref a :: st) (n, tg, ln, I, J, O) Q ↔ Runs 156 17 ls (zrf (O a 0) :: st) (n, tg, ln, I, J, O) Q := R_getr rfl rfl rfl rfl ht
theorem s156_17 : Runs 156 17 ls st h Q ↔ Runs 156 18 ls (.int 4 :: st) h Q := R_iconst rfl rfl
theorem s156_18 : Runs 156 18 [x0, some (.int i), x2] st h Q ↔ Runs 156 19 [x0, some (.int i), x2] (.int i :: st) h Q := R_ildn rfl rfl
theorem s156_19 : Runs 156 19 ls (.int j :: .int i :: st) h Q ↔ Runs 156 20 ls (.int (i + j) :: st) h Q := R_iadd rfl
theorem s156_20 (ht : tg a = 20) : Runs 156 20 ls (.int i :: .ref a :: st) (n, tg, ln, I, J, O) Q ↔ ((0 ≤ i ∧ i < Int32.ofNat (ln a)) ∧ Runs 156 21 ls (.int (I a i) :: st) (n, tg, ln, I, J, O) Q) := R_iald rfl ht
theorem s156_21 : Runs 156 21 ls st h Q ↔ Runs 156 22 ls (.int 1 :: st) h Q := R_iconst rfl rfl
theorem s156_22 : Runs 156 22 ls (.int j :: .int i :: st) h Q ↔ Runs 156 23 ls (.int (i - j) :: st) h Q := R_isub rfl
theorem s156_23 : Runs 156 23 ls (.int i :: st) h Q ↔ Runs 156 24 ls (.long i.toInt64 :: st) h Q := R_i2l rfl
theorem s156_24 (hs : zsumc st ≤ 8) : Runs 156 24 ls (.long u2 :: .long u1 :: .long u0 :: st) h Q ↔ Runs 127 0 [some (.long u0), none, some (.long u1), none, some (.long u2), none] [] h (fun v h2 => Runs 156 27 ls (v.toList ++ st) h2 Q) := R_calls (rest := st) rfl rfl rfl (by simp) rfl rfl rfl rfl hs
theorem s156_27 : Runs 156 27 ls (.int i :: st) h Q ↔ if i = 0 then Runs 156 40 ls st h Q else Runs 156 30 ls st h Q := R_ifeq rfl rfl
theorem s156_30 : Runs 156 30 [some (.ref a), x1, x2] st h Q ↔ Runs 156 31 [some (.ref a), x1, x2] (.ref a :: st) h Q := R_aldn rfl rfl
theorem s156_30q : Runs 156 30 [some (zrf r), x1, x2] st h Q ↔ Runs 156 31 [some (zrf r), x1, x2] (zrf r :: st) h Q := R_aldnq rfl rfl
theorem s156_31 : Runs 156 31 ls st h Q ↔ Runs 156 32 ls (.int 0 :: st) h Q := R_iconst rfl rfl
theorem s156_32 : Runs 156 32 [x0, some (.int i), x2] st h Q ↔ Runs 156 33 [x0, some (.int i), x2] (.int i :: st) h Q := R_ildn rfl rfl
theorem s156_33 : Runs 156 33 [x0, x1, some (.int i)] st h Q ↔ Runs 156 34 [x0, x1, some (.int i)] (.int i :: st) h Q := R_ildn rfl rfl
theorem s156_34 (ht : tg a = 10) (hs : zsumc st ≤ 8) : Runs 156 34 ls (.int i2 :: .int i1 :: .int i0 :: .ref a :: st) (n, tg, ln, I, J, O) Q ↔ Runs 152 0 [some (.ref a), some (.int i0), some (.int i1), some (.int i2)] [] (n, tg, ln, I, J, O) (fun v h2 => Runs 156 37 ls (v.toList ++ st) h2 Q) := R_callv (a := a) (rest := st) rfl rfl rfl rfl rfl rfl rfl ht hs
theorem s156_37 : Runs 156 37 ls st h Q ↔ Runs 156 42 ls st h Q := R_goto rfl rfl
theorem s156_40 : Runs 156 40 ls st h Q ↔ Runs 156 42 ls (.int (-2) :: st) h Q := R_bipush rfl (by decide)
theorem s156_42 : Runs 156 42 ls [.int i] h Q ↔ Q (some (.int i)) h := R_iret rfl rfl
theorem s157_0 : Runs 157 0 [some (.ref a), x1, x2, x3, x4] st h Q ↔ Runs 157 1 [some (.ref a), x1, x2, x3, x4] (.ref a :: st) h Q := R_aldn rfl rfl
theorem s157_0q : Runs 157 0 [some (zrf r), x1, x2, x3, x4] st h Q ↔ Runs 157 1 [some (zrf r), x1, x2, x3, x4] (zrf r :: st) h Q := R_aldnq rfl rfl
theorem s157_1 : Runs 157 1 [x0, some (.int i), x2, x3, x4] st h Q ↔ Runs 157 2 [x0, some (.int i), x2, x3, x4] (.int i :: st) h Q := R_ildn rfl rfl
theorem s157_2 : Runs 157 2 ls (.int i :: st) h Q ↔ Runs 157 3 ls (.long i.toInt64 :: st) h Q := R_i2l rfl
theorem s157_3 (ht : tg a = 10) (hs : zsumc st ≤ 8) : Runs 157 3 ls (.long u0 :: .ref a :: st) (n, tg, ln, I, J, O) Q ↔ Runs 151 0 [some (.ref a), some (.long u0), none] [] (n, tg, ln, I, J, O) (fun v h2 => Runs 157 6 ls (v.toList ++ st) h2 Q) := R_callv (a := a) (rest := st) rfl rfl rfl rfl rfl rfl rfl ht hs
theorem s157_6 : Runs 157 6 ls (.int i :: st) h Q ↔ if ¬ i = 0 then Runs 157 12 ls st h Q else Runs 157 9 ls st h Q := R_ifne rfl rfl
theorem s157_9 : Runs 157 9 ls st h Q ↔ Runs 157 11 ls (.int (-2) :: st) h Q := R_bipush rfl (by decide)
theorem s157_11 : Runs 157 11 ls [.int i] h Q ↔ Q (some (.int i)) h := R_iret rfl rfl
theorem s157_12 : Runs 157 12 [x0, x1, some (.int i), x3, x4] st h Q ↔ Runs 157 13 [x0, x1, some (.int i), x3, x4] (.int i :: st) h Q := R_ildn rfl rfl
theorem s157_13 : Runs 157 13 ls (.int i :: st) h Q ↔ Runs 157 14 ls (.long i.toInt64 :: st) h Q := R_i2l rfl
theorem s157_14 : Runs 157 14 ls st h Q ↔ Runs 157 15 ls (.long 0 :: st) h Q := R_lconst rfl rfl
theorem s157_15 : Runs 157 15 ls st h Q ↔ Runs 157 18 ls (.long 5 :: st) h Q := R_ldc2 rfl rfl
theorem s157_18 (hs : zsumc st ≤ 8) : Runs 157 18 ls (.long u2 :: .long u1 :: .long u0 :: st) h Q ↔ Runs 127 0 [some (.long u0), none, some (.long u1), none, some (.long u2), none] [] h (fun v h2 => Runs 157 21 ls (v.toList ++ st) h2 Q) := R_calls (rest := st) rfl rfl rfl (by simp) rfl rfl rfl rfl hs
theorem s157_21 : Runs 157 21 ls (.int i :: st) h Q ↔ if ¬ i = 0 then Runs 157 27 ls st h Q else Runs 157 24 ls st h Q := R_ifne rfl rfl
theorem s157_24 : Runs 157 24 ls st h Q ↔ Runs 157 26 ls (.int (-3) :: st) h Q := R_bipush rfl (by decide)
theorem s157_26 : Runs 157 26 ls [.int i] h Q ↔ Q (some (.int i)) h := R_iret rfl rfl
theorem s157_27 : Runs 157 27 [some (.ref a), x1, x2, x3, x4] st h Q ↔ Runs 157 28 [some (.ref a), x1, x2, x3, x4] (.ref a :: st) h Q := R_aldn rfl rfl
theorem s157_27q : Runs 157 27 [some (zrf r), x1, x2, x3, x4] st h Q ↔ Runs 157 28 [some (zrf r), x1, x2, x3, x4] (zrf r :: st) h Q := R_aldnq rfl rfl
theorem s157_28 (ht : tg a = 10) : Runs 157 28 ls (.ref a :: st) (n, tg, ln, I, J, O) Q ↔ Runs 157 31 ls (zrf (O a 0) :: st) (n, tg, ln, I, J, O) Q := R_getr rfl rfl rfl rfl ht
theorem s157_31 : Runs 157 31 ls st h Q ↔ Runs 157 33 ls (.int 30 :: st) h Q := R_bipush rfl (by decide)
theorem s157_33 : Runs 157 33 [x0, some (.int i), x2, x3, x4] st h Q ↔ Runs 157 34 [x0, some (.int i), x2, x3, x4] (.int i :: st) h Q := R_ildn rfl rfl
theorem s157_34 : Runs 157 34 ls (.int j :: .int i :: st) h Q ↔ Runs 157 35 ls (.int (i + j) :: st) h Q := R_iadd rfl
theorem s157_35 (ht : tg a = 20) : Runs 157 35 ls (.int i :: .ref a :: st) (n, tg, ln, I, J, O) Q ↔ ((0 ≤ i ∧ i < Int32.ofNat (ln a)) ∧ Runs 157 36 ls (.int (I a i) :: st) (n, tg, ln, I, J, O) Q) := R_iald rfl ht
theorem s157_36 : Runs 157 36 [x0, x1, x2, x3, x4] (.int i :: st) h Q ↔ Runs 157 37 [x0, x1, zdrop x2, some (.int i), x4] st h Q := R_istn rfl rfl rfl
theorem s157_37 : Runs 157 37 [x0, x1, some (.int i), x3, x4] st h Q ↔ Runs 157 38 [x0, x1, some (.int i), x3, x4] (.int i :: st) h Q := R_ildn rfl rfl
theorem s157_38 : Runs 157 38 ls (.int i :: st) h Q ↔ if i = 0 then Runs 157 68 ls st h Q else Runs 157 41 ls st h Q := R_ifeq rfl rfl
theorem s157_41 : Runs 157 41 [x0, x1, some (.int i), x3, x4] st h Q ↔ Runs 157 42 [x0, x1, some (.int i), x3, x4] (.int i :: st) h Q := R_ildn rfl rfl
theorem s157_42 : Runs 157 42 [x0, x1, x2, some (.int i), x4] st h Q ↔ Runs 157 43 [x0, x1, x2, some (.int i), x4] (.int i :: st) h Q := R_ildn rfl rfl
theorem s157_43 : Runs 157 43 ls st h Q ↔ Runs 157 44 ls (.int 1 :: st) h Q := R_iconst rfl rfl
theorem s157_44 : Runs 157 44 ls (.int j :: .int i :: st) h Q ↔ Runs 157 45 ls (.int (i + j) :: st) h Q := R_iadd rfl
theorem s157_45 : Runs 157 45 ls (.int j :: .int i :: st) h Q ↔ if i = j then Runs 157 68 ls st h Q else Runs 157 48 ls st h Q := R_iceq rfl rfl
theorem s157_48 : Runs 157 48 [x0, x1, some (.int i), x3, x4] st h Q ↔ Runs 157 49 [x0, x1, some (.int i), x3, x4] (.int i :: st) h Q := R_ildn rfl rfl
theorem s157_49 : Runs 157 49 ls st h Q ↔ Runs 157 50 ls (.int 1 :: st) h Q := R_iconst rfl rfl
theorem s157_50 : Runs 157 50 ls (.int j :: .int i :: st) h Q ↔ if ¬ i = j then Runs 157 58 ls st h Q else Runs 157 53 ls st h Q := R_icne rfl rfl
theorem s157_53 : Runs 157 53 [x0, x1, x2, some (.int i), x4] st h Q ↔ Runs 157 54 [x0, x1, x2, some (.int i), x4] (.int i :: st) h Q := R_ildn rfl rfl
theorem s157_54 : Runs 157 54 ls st h Q ↔ Runs 157 55 ls (.int 3 :: st) h Q := R_iconst rfl rfl
theorem s157_55 : Runs 157 55 ls (.int j :: .int i :: st) h Q ↔ if i < j then Runs 157 68 ls st h Q else Runs 157 58 ls st h Q := R_iclt rfl rfl
theorem s157_58 : Runs 157 58 [x0, x1, some (.int i), x3, x4] st h Q ↔ Runs 157 59 [x0, x1, some (.int i), x3, x4] (.int i :: st) h Q := R_ildn rfl rfl
theorem s157_59 : Runs 157 59 ls st h Q ↔ Runs 157 60 ls (.int 4 :: st) h Q := R_iconst rfl rfl
theorem s157_60 : Runs 157 60 ls (.int j :: .int i :: st) h Q ↔ if ¬ i = j then Runs 157 72 ls st h Q else Runs 157 63 ls st h Q := R_icne rfl rfl
theorem s157_63 : Runs 157 63 [x0, x1, x2, some (.int i), x4] st h Q ↔ Runs 157 64 [x0, x1, x2, some (.int i), x4] (.int i :: st) h Q := R_ildn rfl rfl
theorem s157_64 : Runs 157 64 ls st h Q ↔ Runs 157 65 ls (.int 4 :: st) h Q := R_iconst rfl rfl
theorem s157_65 : Runs 157 65 ls (.int j :: .int i :: st) h Q ↔ if ¬ i = j then Runs 157 72 ls st h Q else Runs 157 68 ls st h Q := R_icne rfl rfl
theorem s157_68 : Runs 157 68 ls st h Q ↔ Runs 157 69 ls (.int 1 :: st) h Q := R_iconst rfl rfl
theorem s157_69 : Runs 157 69 ls st h Q ↔ Runs 157 73 ls st h Q := R_goto rfl rfl
theorem s157_72 : Runs 157 72 ls st h Q ↔ Runs 157 73 ls (.int 0 :: st) h Q := R_iconst rfl rfl
theorem s157_73 : Runs 157 73 [x0, x1, x2, x3, x4] (.int i :: st) h Q ↔ Runs 157 75 [x0, x1, x2, zdrop x3, some (.int i)] st h Q := R_ist rfl rfl rfl
theorem s157_75 : Runs 157 75 [x0, x1, x2, x3, some (.int i)] st h Q ↔ Runs 157 77 [x0, x1, x2, x3, some (.int i)] (.int i :: st) h Q := R_ild rfl rfl
theorem s157_77 : Runs 157 77 ls (.int i :: st) h Q ↔ if i = 0 then Runs 157 87 ls st h Q else Runs 157 80 ls st h Q := R_ifeq rfl rfl
theorem s157_80 : Runs 157 80 [x0, x1, x2, some (.int i), x4] st h Q ↔ Runs 157 81 [x0, x1, x2, some (.int i), x4] (.int i :: st) h Q := R_ildn rfl rfl
theorem s157_81 (hs : zsumc st ≤ 8) : Runs 157 81 ls (.int i0 :: st) h Q ↔ Runs 154 0 [some (.int i0)] [] h (fun v h2 => Runs 157 84 ls (v.toList ++ st) h2 Q) := R_calls (rest := st) rfl rfl rfl (by simp) rfl rfl rfl rfl hs
theorem s157_84 : Runs 157 84 ls st h Q ↔ Runs 157 89 ls st h Q := R_goto rfl rfl
theorem s157_87 : Runs 157 87 ls st h Q ↔ Runs 157 89 ls (.int (-4) :: st) h Q := R_bipush rfl (by decide)
theorem s157_89 : Runs 157 89 ls [.int i] h Q ↔ Q (some (.int i)) h := R_iret rfl rfl
theorem s165_0 : Runs 165 0 [some (.ref a)] st h Q ↔ Runs 165 1 [some (.ref a)] (.ref a :: st) h Q := R_aldn rfl rfl
theorem s165_0q : Runs 165 0 [some (zrf r)] st h Q ↔ Runs 165 1 [some (zrf r)] (zrf r :: st) h Q := R_aldnq rfl rfl
theorem s165_1 (ht : tg a = 10) : Runs 165 1 ls (.ref a :: st) (n, tg, ln, I, J, O) Q ↔ Runs 165 4 ls (zrf (O a 0) :: st) (n, tg, ln, I, J, O) Q := R_getr rfl rfl rfl rfl ht
theorem s165_4 : Runs 165 4 ls st h Q ↔ Runs 165 5 ls (.int 4 :: st) h Q := R_iconst rfl rfl
theorem s165_5 (ht : tg a = 20) : Runs 165 5 ls (.int i :: .ref a :: st) (n, tg, ln, I, J, O) Q ↔ ((0 ≤ i ∧ i < Int32.ofNat (ln a)) ∧ Runs 165 6 ls (.int (I a i) :: st) (n, tg, ln, I, J, O) Q) := R_iald rfl ht
theorem s165_6 : Runs 165 6 [some (.ref a)] st h Q ↔ Runs 165 7 [some (.ref a)] (.ref a :: st) h Q := R_aldn rfl rfl
theorem s165_6q : Runs 165 6 [some (zrf r)] st h Q ↔ Runs 165 7 [some (zrf r)] (zrf r :: st) h Q := R_aldnq rfl rfl
theorem s165_7 (ht : tg a = 10) : Runs 165 7 ls (.ref a :: st) (n, tg, ln, I, J, O) Q ↔ Runs 165 10 ls (zrf (O a 0) :: st) (n, tg, ln, I, J, O) Q := R_getr rfl rfl rfl rfl ht
theorem s165_10 : Runs 165 10 ls st h Q ↔ Runs 165 11 ls (.int 5 :: st) h Q := R_iconst rfl rfl
theorem s165_11 (ht : tg a = 20) : Runs 165 11 ls (.int i :: .ref a :: st) (n, tg, ln, I, J, O) Q ↔ ((0 ≤ i ∧ i < Int32.ofNat (ln a)) ∧ Runs 165 12 ls (.int (I a i) :: st) (n, tg, ln, I, J, O) Q) := R_iald rfl ht
theorem s165_12 : Runs 165 12 ls (.int j :: .int i :: st) h Q ↔ Runs 165 13 ls (.int (i + j) :: st) h Q := R_iadd rfl
theorem s165_13 : Runs 165 13 ls (.int i :: st) h Q ↔ if ¬ i = 0 then Runs 165 19 ls st h Q else Runs 165 16 ls st h Q := R_ifne rfl rfl
theorem s165_16 : Runs 165 16 ls st h Q ↔ Runs 165 18 ls (.int (-4) :: st) h Q := R_bipush rfl (by decide)
theorem s165_18 : Runs 165 18 ls [.int i] h Q ↔ Q (some (.int i)) h := R_iret rfl rfl
theorem s165_19 : Runs 165 19 [some (.ref a)] st h Q ↔ Runs 165 20 [some (.ref a)] (.ref a :: st) h Q := R_aldn rfl rfl
theorem s165_19q : Runs 165 19 [some (zrf r)] st h Q ↔ Runs 165 20 [some (zrf r)] (zrf r :: st) h Q := R_aldnq rfl rfl
theorem s165_20 (ht : tg a = 10) : Runs 165 20 ls (.ref a :: st) (n, tg, ln, I, J, O) Q ↔ Runs 165 23 ls (zrf (O a 0) :: st) (n, tg, ln, I, J, O) Q := R_getr rfl rfl rfl rfl ht
theorem s165_23 : Runs 165 23 ls st h Q ↔ Runs 165 24 ls (.int 2 :: st) h Q := R_iconst rfl rfl
theorem s165_24 (ht : tg a = 20) : Runs 165 24 ls (.int i :: .ref a :: st) (n, tg, ln, I, J, O) Q ↔ ((0 ≤ i ∧ i < Int32.ofNat (ln a)) ∧ Runs 165 25 ls (.int (I a i) :: st) (n, tg, ln, I, J, O) Q) := R_iald rfl ht
theorem s165_25 : Runs 165 25 ls st h Q ↔ Runs 165 28 ls (.int 999 :: st) h Q := R_sipush rfl (by decide)
theorem s165_28 : Runs 165 28 ls (.int j :: .int i :: st) h Q ↔ if ¬ i = j then Runs 165 34 ls st h Q else Runs 165 31 ls st h Q := R_icne rfl rfl
theorem s165_31 : Runs 165 31 ls st h Q ↔ Runs 165 33 ls (.int (-5) :: st) h Q := R_bipush rfl (by decide)
theorem s165_33 : Runs 165 33 ls [.int i] h Q ↔ Q (some (.int i)) h := R_iret rfl rfl
theorem s165_34 : Runs 165 34 [some (.ref a)] st h Q ↔ Runs 165 35 [some (.ref a)] (.ref a :: st) h Q := R_aldn rfl rfl
theorem s165_34q : Runs 165 34 [some (zrf r)] st h Q ↔ Runs 165 35 [some (zrf r)] (zrf r :: st) h Q := R_aldnq rfl rfl
theorem s165_35 (ht : tg a = 10) (hs : zsumc st ≤ 8) : Runs 165 35 ls (.ref a :: st) (n, tg, ln, I, J, O) Q ↔ Runs 164 0 [some (.ref a), none] [] (n, tg, ln, I, J, O) (fun v h2 => Runs 165 38 ls (v.toList ++ st) h2 Q) := R_callv (a := a) (rest := st) rfl rfl rfl rfl rfl rfl rfl ht hs
theorem s165_38 : Runs 165 38 [some (.ref a)] st h Q ↔ Runs 165 39 [some (.ref a)] (.ref a :: st) h Q := R_aldn rfl rfl
theorem s165_38q : Runs 165 38 [some (zrf r)] st h Q ↔ Runs 165 39 [some (zrf r)] (zrf r :: st) h Q := R_aldnq rfl rfl
theorem s165_39 : Runs 165 39 ls st h Q ↔ Runs 165 40 ls (.int 0 :: st) h Q := R_iconst rfl rfl
theorem s165_40 (ht : tg a = 10) (hs : zsumc st ≤ 8) : Runs 165 40 ls (.int i0 :: .ref a :: st) (n, tg, ln, I, J, O) Q ↔ Runs 163 0 [some (.ref a), some (.int i0), none, none] [] (n, tg, ln, I, J, O) (fun v h2 => Runs 165 43 ls (v.toList ++ st) h2 Q) := R_callv (a := a) (rest := st) rfl rfl rfl rfl rfl rfl rfl ht hs
theorem s165_43 : Runs 165 43 ls [.int i] h Q ↔ Q (some (.int i)) h := R_iret rfl rfl
theorem s166_0 : Runs 166 0 [x0, some (.int i), x2, x3] st h Q ↔ Runs 166 1 [x0, some (.int i), x2, x3] (.int i :: st) h Q := R_ildn rfl rfl
theorem s166_1 : Runs 166 1 ls (.int i :: st) h Q ↔ Runs 166 2 ls (.long i.toInt64 :: st) h Q := R_i2l rfl
theorem s166_2 : Runs 166 2 ls st h Q ↔ Runs 166 3 ls (.long 0 :: st) h Q := R_lconst rfl rfl
theorem s166_3 : Runs 166 3 ls st h Q ↔ Runs 166 4 ls (.long 1 :: st) h Q := R_lconst rfl rfl
theorem s166_4 (hs : zsumc st ≤ 8) : Runs 166 4 ls (.long u2 :: .long u1 :: .long u0 :: st) h Q ↔ Runs 127 0 [some (.long u0), none, some (.long u1), none, some (.long u2), none] [] h (fun v h2 => Runs 166 7 ls (v.toList ++ st) h2 Q) := R_calls (rest := st) rfl rfl rfl (by simp) rfl rfl rfl rfl hs
theorem s166_7 : Runs 166 7 ls (.int i :: st) h Q ↔ if ¬ i = 0 then Runs 166 13 ls st h Q else Runs 166 10 ls st h Q := R_ifne rfl rfl
theorem s166_10 : Runs 166 10 ls st h Q ↔ Runs 166 12 ls (.int (-2) :: st) h Q := R_bipush rfl (by decide)
theorem s166_12 : Runs 166 12 ls [.int i] h Q ↔ Q (some (.int i)) h := R_iret rfl rfl
theorem s166_13 : Runs 166 13 [x0, x1, some (.int i), x3] st h Q ↔ Runs 166 14 [x0, x1, some (.int i), x3] (.int i :: st) h Q := R_ildn rfl rfl
theorem s166_14 : Runs 166 14 ls (.int i :: st) h Q ↔ Runs 166 15 ls (.long i.toInt64 :: st) h Q := R_i2l rfl
theorem s166_15 : Runs 166 15 ls st h Q ↔ Runs 166 16 ls (.long 0 :: st) h Q := R_lconst rfl rfl
theorem s166_16 : Runs 166 16 ls st h Q ↔ Runs 166 19 ls (.long 4 :: st) h Q := R_ldc2 rfl rfl
theorem s166_19 (hs : zsumc st ≤ 8) : Runs 166 19 ls (.long u2 :: .long u1 :: .long u0 :: st) h Q ↔ Runs 127 0 [some (.long u0), none, some (.long u1), none, some (.long u2), none] [] h (fun v h2 => Runs 166 22 ls (v.toList ++ st) h2 Q) := R_calls (rest := st) rfl rfl rfl (by simp) rfl rfl rfl rfl hs
theorem s166_22 : Runs 166 22 ls (.int i :: st) h Q ↔ if i = 0 then Runs 166 37 ls st h Q else Runs 166 25 ls st h Q := R_ifeq rfl rfl
theorem s166_25 : Runs 166 25 [x0, x1, x2, some (.int i)] st h Q ↔ Runs 166 26 [x0, x1, x2, some (.int i)] (.int i :: st) h Q := R_ildn rfl rfl
theorem s166_26 : Runs 166 26 ls (.int i :: st) h Q ↔ Runs 166 27 ls (.long i.toInt64 :: st) h Q := R_i2l rfl
theorem s166_27 : Runs 166 27 ls st h Q ↔ Runs 166 28 ls (.long 0 :: st) h Q := R_lconst rfl rfl
theorem s166_28 : Runs 166 28 ls st h Q ↔ Runs 166 31 ls (.long 99 :: st) h Q := R_ldc2 rfl rfl
theorem s166_31 (hs : zsumc st ≤ 8) : Runs 166 31 ls (.long u2 :: .long u1 :: .long u0 :: st) h Q ↔ Runs 127 0 [some (.long u0), none, some (.long u1), none, some (.long u2), none] [] h (fun v h2 => Runs 166 34 ls (v.toList ++ st) h2 Q) := R_calls (rest := st) rfl rfl rfl (by simp) rfl rfl rfl rfl hs
theorem s166_34 : Runs 166 34 ls (.int i :: st) h Q ↔ if ¬ i = 0 then Runs 166 40 ls st h Q else Runs 166 37 ls st h Q := R_ifne rfl rfl
theorem s166_37 : Runs 166 37 ls st h Q ↔ Runs 166 39 ls (.int (-3) :: st) h Q := R_bipush rfl (by decide)
theorem s166_39 : Runs 166 39 ls [.int i] h Q ↔ Q (some (.int i)) h := R_iret rfl rfl
theorem s166_40 : Runs 166 40 [some (.ref a), x1, x2, x3] st h Q ↔ Runs 166 41 [some (.ref a), x1, x2, x3] (.ref a :: st) h Q := R_aldn rfl rfl
theorem s166_40q : Runs 166 40 [some (zrf r), x1, x2, x3] st h Q ↔ Runs 166 41 [some (zrf r), x1, x2, x3] (zrf r :: st) h Q := R_aldnq rfl rfl
theorem s166_41 (ht : tg a = 10) : Runs 166 41 ls (.ref a :: st) (n, tg, ln, I, J, O) Q ↔ Runs 166 44 ls (zrf (O a 0) :: st) (n, tg, ln, I, J, O) Q := R_getr rfl rfl rfl rfl ht
theorem s166_44 : Runs 166 44 ls st h Q ↔ Runs 166 45 ls (.int 0 :: st) h Q := R_iconst rfl rfl
theorem s166_45 (ht : tg a = 20) : Runs 166 45 ls (.int i :: .ref a :: st) (n, tg, ln, I, J, O) Q ↔ ((0 ≤ i ∧ i < Int32.ofNat (ln a)) ∧ Runs 166 46 ls (.int (I a i) :: st) (n, tg, ln, I, J, O) Q) := R_iald rfl ht
theorem s166_46 : Runs 166 46 ls st h Q ↔ Runs 166 48 ls (.int 12 :: st) h Q := R_bipush rfl (by decide)
theorem s166_48 : Runs 166 48 ls (.int j :: .int i :: st) h Q ↔ if i = j then Runs 166 64 ls st h Q else Runs 166 51 ls st h Q := R_iceq rfl rfl
theorem s166_51 : Runs 166 51 [some (.ref a), x1, x2, x3] st h Q ↔ Runs 166 52 [some (.ref a), x1, x2, x3] (.ref a :: st) h Q := R_aldn rfl rfl
theorem s166_51q : Runs 166 51 [some (zrf r), x1, x2, x3] st h Q ↔ Runs 166 52 [some (zrf r), x1, x2, x3] (zrf r :: st) h Q := R_aldnq rfl rfl
theorem s166_52 (ht : tg a = 10) : Runs 166 52 ls (.ref a :: st) (n, tg, ln, I, J, O) Q ↔ Runs 166 55 ls (zrf (O a 0) :: st) (n, tg, ln, I, J, O) Q := R_getr rfl rfl rfl rfl ht
theorem s166_55 : Runs 166 55 ls st h Q ↔ Runs 166 56 ls (.int 4 :: st) h Q := R_iconst rfl rfl
theorem s166_56 : Runs 166 56 [x0, some (.int i), x2, x3] st h Q ↔ Runs 166 57 [x0, some (.int i), x2, x3] (.int i :: st) h Q := R_ildn rfl rfl
theorem s166_57 : Runs 166 57 ls (.int j :: .int i :: st) h Q ↔ Runs 166 58 ls (.int (i + j) :: st) h Q := R_iadd rfl
theorem s166_58 (ht : tg a = 20) : Runs 166 58 ls (.int i :: .ref a :: st) (n, tg, ln, I, J, O) Q ↔ ((0 ≤ i ∧ i < Int32.ofNat (ln a)) ∧ Runs 166 59 ls (.int (I a i) :: st) (n, tg, ln, I, J, O) Q) := R_iald rfl ht
theorem s166_59 : Runs 166 59 ls st h Q ↔ Runs 166 61 ls (.int 12 :: st) h Q := R_bipush rfl (by decide)
theorem s166_61 : Runs 166 61 ls (.int j :: .int i :: st) h Q ↔ if ¬ i = j then Runs 166 67 ls st h Q else Runs 166 64 ls st h Q := R_icne rfl rfl
theorem s166_64 : Runs 166 64 ls st h Q ↔ Runs 166 66 ls (.int (-5) :: st) h Q := R_bipush rfl (by decide)
theorem s166_66 : Runs 166 66 ls [.int i] h Q ↔ Q (some (.int i)) h := R_iret rfl rfl
theorem s166_67 : Runs 166 67 [some (.ref a), x1, x2, x3] st h Q ↔ Runs 166 68 [some (.ref a), x1, x2, x3] (.ref a :: st) h Q := R_aldn rfl rfl
theorem s166_67q : Runs 166 67 [some (zrf r), x1, x2, x3] st h Q ↔ Runs 166 68 [some (zrf r), x1, x2, x3] (zrf r :: st) h Q := R_aldnq rfl rfl
theorem s166_68 (ht : tg a = 10) (hs : zsumc st ≤ 8) : Runs 166 68 ls (.ref a :: st) (n, tg, ln, I, J, O) Q ↔ Runs 164 0 [some (.ref a), none] [] (n, tg, ln, I, J, O) (fun v h2 => Runs 166 71 ls (v.toList ++ st) h2 Q) := R_callv (a := a) (rest := st) rfl rfl rfl rfl rfl rfl rfl ht hs
theorem s166_71 : Runs 166 71 [some (.ref a), x1, x2, x3] st h Q ↔ Runs 166 72 [some (.ref a), x1, x2, x3] (.ref a :: st) h Q := R_aldn rfl rfl
theorem s166_71q : Runs 166 71 [some (zrf r), x1, x2, x3] st h Q ↔ Runs 166 72 [some (zrf r), x1, x2, x3] (zrf r :: st) h Q := R_aldnq rfl rfl
theorem s166_72 : Runs 166 72 ls st h Q ↔ Runs 166 73 ls (.int 0 :: st) h Q := R_iconst rfl rfl
theorem s166_73 : Runs 166 73 [x0, some (.int i), x2, x3] st h Q ↔ Runs 166 74 [x0, some (.int i), x2, x3] (.int i :: st) h Q := R_ildn rfl rfl
theorem s166_74 : Runs 166 74 [x0, x1, some (.int i), x3] st h Q ↔ Runs 166 75 [x0, x1, some (.int i), x3] (.int i :: st) h Q := R_ildn rfl rfl
theorem s166_75 : Runs 166 75 [x0, x1, x2, some (.int i)] st h Q ↔ Runs 166 76 [x0, x1, x2, some (.int i)] (.int i :: st) h Q := R_ildn rfl rfl
theorem s166_76 (ht : tg a = 10) (hs : zsumc st ≤ 8) : Runs 166 76 ls (.int i3 :: .int i2 :: .int i1 :: .int i0 :: .ref a :: st) (n, tg, ln, I, J, O) Q ↔ Runs 141 0 [some (.ref a), some (.int i0), some (.int i1), some (.int i2), some (.int i3), none] [] (n, tg, ln, I, J, O) (fun v h2 => Runs 166 79 ls (v.toList ++ st) h2 Q) := R_callv (a := a) (rest := st) rfl rfl rfl rfl rfl rfl rfl ht hs
theorem s166_79 : Runs 166 79 [some (.ref a), x1, x2, x3] st h Q ↔ Runs 166 80 [some (.ref a), x1, x2, x3] (.ref a :: st) h Q := R_aldn rfl rfl
theorem s166_79q : Runs 166 79 [some (zrf r), x1, x2, x3] st h Q ↔ Runs 166 80 [some (zrf r), x1, x2, x3] (zrf r :: st) h Q := R_aldnq rfl rfl
theorem s166_80 (ht : tg a = 10) : Runs 166 80 ls (.ref a :: st) (n, tg, ln, I, J, O) Q ↔ Runs 166 83 ls (zrf (O a 0) :: st) (n, tg, ln, I, J, O) Q := R_getr rfl rfl rfl rfl ht
theorem s166_83 : Runs 166 83 ls st h Q ↔ Runs 166 84 ls (.int 0 :: st) h Q := R_iconst rfl rfl
theorem s166_84 (ht : tg a = 20) : Runs 166 84 ls (.int i :: .ref a :: st) (n, tg, ln, I, J, O) Q ↔ ((0 ≤ i ∧ i < Int32.ofNat (ln a)) ∧ Runs 166 85 ls (.int (I a i) :: st) (n, tg, ln, I, J, O) Q) := R_iald rfl ht
theorem s166_85 : Runs 166 85 ls st h Q ↔ Runs 166 86 ls (.int 1 :: st) h Q := R_iconst rfl rfl
theorem s166_86 : Runs 166 86 ls (.int j :: .int i :: st) h Q ↔ Runs 166 87 ls (.int (i - j) :: st) h Q := R_isub rfl
theorem s166_87 : Runs 166 87 ls [.int i] h Q ↔ Q (some (.int i)) h := R_iret rfl rfl
theorem s168_0 : Runs 168 0 [some (.ref a), x1, x2] st h Q ↔ Runs 168 1 [some (.ref a), x1, x2] (.ref a :: st) h Q := R_aldn rfl rfl
theorem s168_0q : Runs 168 0 [some (zrf r), x1, x2] st h Q ↔ Runs 168 1 [some (zrf r), x1, x2] (zrf r :: st) h Q := R_aldnq rfl rfl
theorem s168_1 : Runs 168 1 [x0, some (.int i), x2] st h Q ↔ Runs 168 2 [x0, some (.int i), x2] (.int i :: st) h Q := R_ildn rfl rfl
theorem s168_2 : Runs 168 2 ls (.int i :: st) h Q ↔ Runs 168 3 ls (.long i.toInt64 :: st) h Q := R_i2l rfl
theorem s168_3 (ht : tg a = 10) (hs : zsumc st ≤ 8) : Runs 168 3 ls (.long u0 :: .ref a :: st) (n, tg, ln, I, J, O) Q ↔ Runs 151 0 [some (.ref a), some (.long u0), none] [] (n, tg, ln, I, J, O) (fun v h2 => Runs 168 6 ls (v.toList ++ st) h2 Q) := R_callv (a := a) (rest := st) rfl rfl rfl rfl rfl rfl rfl ht hs
theorem s168_6 : Runs 168 6 ls (.int i :: st) h Q ↔ if ¬ i = 0 then Runs 168 12 ls st h Q else Runs 168 9 ls st h Q := R_ifne rfl rfl
theorem s168_9 : Runs 168 9 ls st h Q ↔ Runs 168 11 ls (.int (-2) :: st) h Q := R_bipush rfl (by decide)
theorem s168_11 : Runs 168 11 ls [.int i] h Q ↔ Q (some (.int i)) h := R_iret rfl rfl
theorem s168_12 : Runs 168 12 [some (.ref a), x1, x2] st h Q ↔ Runs 168 13 [some (.ref a), x1, x2] (.ref a :: st) h Q := R_aldn rfl rfl
theorem s168_12q : Runs 168 12 [some (zrf r), x1, x2] st h Q ↔ Runs 168 13 [some (zrf r), x1, x2] (zrf r :: st) h Q := R_aldnq rfl rfl
theorem s168_13 : Runs 168 13 ls st h Q ↔ Runs 168 14 ls (.int 0 :: st) h Q := R_iconst rfl rfl
theorem s168_14 : Runs 168 14 [x0, some (.int i), x2] st h Q ↔ Runs 168 15 [x0, some (.int i), x2] (.int i :: st) h Q := R_ildn rfl rfl
theorem s168_15 (ht : tg a = 10) (hs : zsumc st ≤ 8) : Runs 168 15 ls (.int i1 :: .int i0 :: .ref a :: st) (n, tg, ln, I, J, O) Q ↔ Runs 153 0 [some (.ref a), some (.int i0), some (.int i1), none, none] [] (n, tg, ln, I, J, O) (fun v h2 => Runs 168 18 ls (v.toList ++ st) h2 Q) := R_callv (a := a) (rest := st) rfl rfl rfl rfl rfl rfl rfl ht hs
theorem s168_18 : Runs 168 18 [x0, x1, x2] (.int i :: st) h Q ↔ Runs 168 19 [x0, zdrop x1, some (.int i)] st h Q := R_istn rfl rfl rfl
theorem s168_19 : Runs 168 19 [x0, x1, some (.int i)] st h Q ↔ Runs 168 20 [x0, x1, some (.int i)] (.int i :: st) h Q := R_ildn rfl rfl
theorem s168_20 : Runs 168 20 ls st h Q ↔ Runs 168 21 ls (.int (-1) :: st) h Q := R_iconst rfl rfl
theorem s168_21 : Runs 168 21 ls (.int j :: .int i :: st) h Q ↔ if ¬ i = j then Runs 168 27 ls st h Q else Runs 168 24 ls st h Q := R_icne rfl rfl
theorem s168_24 : Runs 168 24 ls st h Q ↔ Runs 168 26 ls (.int (-4) :: st) h Q := R_bipush rfl (by decide)
theorem s168_26 : Runs 168 26 ls [.int i] h Q ↔ Q (some (.int i)) h := R_iret rfl rfl
theorem s168_27 : Runs 168 27 [some (.ref a), x1, x2] st h Q ↔ Runs 168 28 [some (.ref a), x1, x2] (.ref a :: st) h Q := R_aldn rfl rfl
theorem s168_27q : Runs 168 27 [some (zrf r), x1, x2] st h Q ↔ Runs 168 28 [some (zrf r), x1, x2] (zrf r :: st) h Q := R_aldnq rfl rfl
theorem s168_28 (ht : tg a = 10) (hs : zsumc st ≤ 8) : Runs 168 28 ls (.ref a :: st) (n, tg, ln, I, J, O) Q ↔ Runs 164 0 [some (.ref a), none] [] (n, tg, ln, I, J, O) (fun v h2 => Runs 168 31 ls (v.toList ++ st) h2 Q) := R_callv (a := a) (rest := st) rfl rfl rfl rfl rfl rfl rfl ht hs
theorem s168_31 : Runs 168 31 [some (.ref a), x1, x2] st h Q ↔ Runs 168 32 [some (.ref a), x1, x2] (.ref a :: st) h Q := R_aldn rfl rfl
theorem s168_31q : Runs 168 31 [some (zrf r), x1, x2] st h Q ↔ Runs 168 32 [some (zrf r), x1, x2] (zrf r :: st) h Q := R_aldnq rfl rfl
theorem s168_32 : Runs 168 32 ls st h Q ↔ Runs 168 33 ls (.int 0 :: st) h Q := R_iconst rfl rfl
theorem s168_33 : Runs 168 33 [x0, some (.int i), x2] st h Q ↔ Runs 168 34 [x0, some (.int i), x2] (.int i :: st) h Q := R_ildn rfl rfl
theorem s168_34 (ht : tg a = 10) (hs : zsumc st ≤ 8) : Runs 168 34 ls (.int i1 :: .int i0 :: .ref a :: st) (n, tg, ln, I, J, O) Q ↔ Runs 167 0 [some (.ref a), some (.int i0), some (.int i1), none] [] (n, tg, ln, I, J, O) (fun v h2 => Runs 168 37 ls (v.toList ++ st) h2 Q) := R_callv (a := a) (rest := st) rfl rfl rfl rfl rfl rfl rfl ht hs
theorem s168_37 : Runs 168 37 [x0, x1, some (.int i)] st h Q ↔ Runs 168 38 [x0, x1, some (.int i)] (.int i :: st) h Q := R_ildn rfl rfl
theorem s168_38 : Runs 168 38 ls st h Q ↔ Runs 168 40 ls (.int 100 :: st) h Q := R_bipush rfl (by decide)
theorem s168_40 : Runs 168 40 ls (.int j :: .int i :: st) h Q ↔ (¬ j = 0 ∧ Runs 168 41 ls (.int (i - i / j * j) :: st) h Q) := R_irem rfl
theorem s168_41 : Runs 168 41 ls [.int i] h Q ↔ Q (some (.int i)) h := R_iret rfl rfl
theorem s169_0 : Runs 169 0 [some (.ref a), x1, x2, x3] st h Q ↔ Runs 169 1 [some (.ref a), x1, x2, x3] (.ref a :: st) h Q := R_aldn rfl rfl
theorem s169_0q : Runs 169 0 [some (zrf r), x1, x2, x3] st h Q ↔ Runs 169 1 [some (zrf r), x1, x2, x3] (zrf r :: st) h Q := R_aldnq rfl rfl
theorem s169_1 : Runs 169 1 [x0, some (.int i), x2, x3] st h Q ↔ Runs 169 2 [x0, some (.int i), x2, x3] (.int i :: st) h Q := R_ildn rfl rfl
theorem s169_2 : Runs 169 2 ls (.int i :: st) h Q ↔ Runs 169 3 ls (.long i.toInt64 :: st) h Q := R_i2l rfl
theorem s169_3 (ht : tg a = 10) (hs : zsumc st ≤ 8) : Runs 169 3 ls (.long u0 :: .ref a :: st) (n, tg, ln, I, J, O) Q ↔ Runs 151 0 [some (.ref a), some (.long u0), none] [] (n, tg, ln, I, J, O) (fun v h2 => Runs 169 6 ls (v.toList ++ st) h2 Q) := R_callv (a := a) (rest := st) rfl rfl rfl rfl rfl rfl rfl ht hs
theorem s169_6 : Runs 169 6 ls (.int i :: st) h Q ↔ if ¬ i = 0 then Runs 169 12 ls st h Q else Runs 169 9 ls st h Q := R_ifne rfl rfl
theorem s169_9 : Runs 169 9 ls st h Q ↔ Runs 169 11 ls (.int (-2) :: st) h Q := R_bipush rfl (by decide)
theorem s169_11 : Runs 169 11 ls [.int i] h Q ↔ Q (some (.int i)) h := R_iret rfl rfl
theorem s169_12 : Runs 169 12 [some (.ref a), x1, x2, x3] st h Q ↔ Runs 169 13 [some (.ref a), x1, x2, x3] (.ref a :: st) h Q := R_aldn rfl rfl
theorem s169_12q : Runs 169 12 [some (zrf r), x1, x2, x3] st h Q ↔ Runs 169 13 [some (zrf r), x1, x2, x3] (zrf r :: st) h Q := R_aldnq rfl rfl
theorem s169_13 (ht : tg a = 10) : Runs 169 13 ls (.ref a :: st) (n, tg, ln, I, J, O) Q ↔ Runs 169 16 ls (zrf (O a 0) :: st) (n, tg, ln, I, J, O) Q := R_getr rfl rfl rfl rfl ht
theorem s169_16 : Runs 169 16 ls st h Q ↔ Runs 169 18 ls (.int 54 :: st) h Q := R_bipush rfl (by decide)
theorem s169_18 : Runs 169 18 [x0, some (.int i), x2, x3] st h Q ↔ Runs 169 19 [x0, some (.int i), x2, x3] (.int i :: st) h Q := R_ildn rfl rfl
theorem s169_19 : Runs 169 19 ls (.int j :: .int i :: st) h Q ↔ Runs 169 20 ls (.int (i + j) :: st) h Q := R_iadd rfl
theorem s169_20 (ht : tg a = 20) : Runs 169 20 ls (.int i :: .ref a :: st) (n, tg, ln, I, J, O) Q ↔ ((0 ≤ i ∧ i < Int32.ofNat (ln a)) ∧ Runs 169 21 ls (.int (I a i) :: st) (n, tg, ln, I, J, O) Q) := R_iald rfl ht
theorem s169_21 : Runs 169 21 ls st h Q ↔ Runs 169 22 ls (.int 2 :: st) h Q := R_iconst rfl rfl
theorem s169_22 : Runs 169 22 ls (.int j :: .int i :: st) h Q ↔ if i = j then Runs 169 28 ls st h Q else Runs 169 25 ls st h Q := R_iceq rfl rfl
theorem s169_25 : Runs 169 25 ls st h Q ↔ Runs 169 27 ls (.int (-4) :: st) h Q := R_bipush rfl (by decide)
theorem s169_27 : Runs 169 27 ls [.int i] h Q ↔ Q (some (.int i)) h := R_iret rfl rfl
theorem s169_28 : Runs 169 28 [some (.ref a), x1, x2, x3] st h Q ↔ Runs 169 29 [some (.ref a), x1, x2, x3] (.ref a :: st) h Q := R_aldn rfl rfl
theorem s169_28q : Runs 169 28 [some (zrf r), x1, x2, x3] st h Q ↔ Runs 169 29 [some (zrf r), x1, x2, x3] (zrf r :: st) h Q := R_aldnq rfl rfl
theorem s169_29 (ht : tg a = 10) : Runs 169 29 ls (.ref a :: st) (n, tg, ln, I, J, O) Q ↔ Runs 169 32 ls (zrf (O a 0) :: st) (n, tg, ln, I, J, O) Q := R_getr rfl rfl rfl rfl ht
theorem s169_32 : Runs 169 32 ls st h Q ↔ Runs 169 34 ls (.int 78 :: st) h Q := R_bipush rfl (by decide)
theorem s169_34 : Runs 169 34 [x0, some (.int i), x2, x3] st h Q ↔ Runs 169 35 [x0, some (.int i), x2, x3] (.int i :: st) h Q := R_ildn rfl rfl
theorem s169_35 : Runs 169 35 ls (.int j :: .int i :: st) h Q ↔ Runs 169 36 ls (.int (i + j) :: st) h Q := R_iadd rfl
theorem s169_36 (ht : tg a = 20) : Runs 169 36 ls (.int i :: .ref a :: st) (n, tg, ln, I, J, O) Q ↔ ((0 ≤ i ∧ i < Int32.ofNat (ln a)) ∧ Runs 169 37 ls (.int (I a i) :: st) (n, tg, ln, I, J, O) Q) := R_iald rfl ht
theorem s169_37 : Runs 169 37 [x0, x1, x2, x3] (.int i :: st) h Q ↔ Runs 169 38 [x0, zdrop x1, some (.int i), x3] st h Q := R_istn rfl rfl rfl
theorem s169_38 : Runs 169 38 [some (.ref a), x1, x2, x3] st h Q ↔ Runs 169 39 [some (.ref a), x1, x2, x3] (.ref a :: st) h Q := R_aldn rfl rfl
theorem s169_38q : Runs 169 38 [some (zrf r), x1, x2, x3] st h Q ↔ Runs 169 39 [some (zrf r), x1, x2, x3] (zrf r :: st) h Q := R_aldnq rfl rfl
theorem s169_39 : Runs 169 39 ls st h Q ↔ Runs 169 40 ls (.int 0 :: st) h Q := R_iconst rfl rfl
theorem s169_40 : Runs 169 40 ls st h Q ↔ Runs 169 42 ls (.int 50 :: st) h Q := R_bipush rfl (by decide)
theorem s169_42 : Runs 169 42 [x0, some (.int i), x2, x3] st h Q ↔ Runs 169 43 [x0, some (.int i), x2, x3] (.int i :: st) h Q := R_ildn rfl rfl
theorem s169_43 : Runs 169 43 ls (.int j :: .int i :: st) h Q ↔ Runs 169 44 ls (.int (i + j) :: st) h Q := R_iadd rfl
theorem s169_44 (ht : tg a = 10) (hs : zsumc st ≤ 8) : Runs 169 44 ls (.int i1 :: .int i0 :: .ref a :: st) (n, tg, ln, I, J, O) Q ↔ Runs 153 0 [some (.ref a), some (.int i0), some (.int i1), none, none] [] (n, tg, ln, I, J, O) (fun v h2 => Runs 169 47 ls (v.toList ++ st) h2 Q) := R_callv (a := a) (rest := st) rfl rfl rfl rfl rfl rfl rfl ht hs
theorem s169_47 : Runs 169 47 [x0, x1, x2, x3] (.int i :: st) h Q ↔ Runs 169 48 [x0, x1, zdrop x2, some (.int i)] st h Q := R_istn rfl rfl rfl
theorem s169_48 : Runs 169 48 [x0, x1, x2, some (.int i)] st h Q ↔ Runs 169 49 [x0, x1, x2, some (.int i)] (.int i :: st) h Q := R_ildn rfl rfl
theorem s169_49 : Runs 169 49 ls st h Q ↔ Runs 169 50 ls (.int (-1) :: st) h Q := R_iconst rfl rfl
theorem s169_50 : Runs 169 50 ls (.int j :: .int i :: st) h Q ↔ if ¬ i = j then Runs 169 69 ls st h Q else Runs 169 53 ls st h Q := R_icne rfl rfl
theorem s169_53 : Runs 169 53 [some (.ref a), x1, x2, x3] st h Q ↔ Runs 169 54 [some (.ref a), x1, x2, x3] (.ref a :: st) h Q := R_aldn rfl rfl
theorem s169_53q : Runs 169 53 [some (zrf r), x1, x2, x3] st h Q ↔ Runs 169 54 [some (zrf r), x1, x2, x3] (zrf r :: st) h Q := R_aldnq rfl rfl
theorem s169_54 (ht : tg a = 10) : Runs 169 54 ls (.ref a :: st) (n, tg, ln, I, J, O) Q ↔ Runs 169 57 ls (zrf (O a 0) :: st) (n, tg, ln, I, J, O) Q := R_getr rfl rfl rfl rfl ht
theorem s169_57 : Runs 169 57 ls st h Q ↔ Runs 169 58 ls (.int 4 :: st) h Q := R_iconst rfl rfl
theorem s169_58 : Runs 169 58 [x0, x1, some (.int i), x3] st h Q ↔ Runs 169 59 [x0, x1, some (.int i), x3] (.int i :: st) h Q := R_ildn rfl rfl
theorem s169_59 : Runs 169 59 ls (.int j :: .int i :: st) h Q ↔ Runs 169 60 ls (.int (i + j) :: st) h Q := R_iadd rfl
theorem s169_60 (ht : tg a = 20) : Runs 169 60 ls (.int i :: .ref a :: st) (n, tg, ln, I, J, O) Q ↔ ((0 ≤ i ∧ i < Int32.ofNat (ln a)) ∧ Runs 169 61 ls (.int (I a i) :: st) (n, tg, ln, I, J, O) Q) := R_iald rfl ht
theorem s169_61 : Runs 169 61 ls st h Q ↔ Runs 169 63 ls (.int 12 :: st) h Q := R_bipush rfl (by decide)
theorem s169_63 : Runs 169 63 ls (.int j :: .int i :: st) h Q ↔ if ¬ i = j then Runs 169 69 ls st h Q else Runs 169 66 ls st h Q := R_icne rfl rfl
theorem s169_66 : Runs 169 66 ls st h Q ↔ Runs 169 68 ls (.int (-5) :: st) h Q := R_bipush rfl (by decide)
theorem s169_68 : Runs 169 68 ls [.int i] h Q ↔ Q (some (.int i)) h := R_iret rfl rfl
theorem s169_69 : Runs 169 69 [some (.ref a), x1, x2, x3] st h Q ↔ Runs 169 70 [some (.ref a), x1, x2, x3] (.ref a :: st) h Q := R_aldn rfl rfl
theorem s169_69q : Runs 169 69 [some (zrf r), x1, x2, x3] st h Q ↔ Runs 169 70 [some (zrf r), x1, x2, x3] (zrf r :: st) h Q := R_aldnq rfl rfl
theorem s169_70 (ht : tg a = 10) (hs : zsumc st ≤ 8) : Runs 169 70 ls (.ref a :: st) (n, tg, ln, I, J, O) Q ↔ Runs 164 0 [some (.ref a), none] [] (n, tg, ln, I, J, O) (fun v h2 => Runs 169 73 ls (v.toList ++ st) h2 Q) := R_callv (a := a) (rest := st) rfl rfl rfl rfl rfl rfl rfl ht hs
theorem s169_73 : Runs 169 73 [some (.ref a), x1, x2, x3] st h Q ↔ Runs 169 74 [some (.ref a), x1, x2, x3] (.ref a :: st) h Q := R_aldn rfl rfl
theorem s169_73q : Runs 169 73 [some (zrf r), x1, x2, x3] st h Q ↔ Runs 169 74 [some (zrf r), x1, x2, x3] (zrf r :: st) h Q := R_aldnq rfl rfl
theorem s169_74 (ht : tg a = 10) : Runs 169 74 ls (.ref a :: st) (n, tg, ln, I, J, O) Q ↔ Runs 169 77 ls (zrf (O a 0) :: st) (n, tg, ln, I, J, O) Q := R_getr rfl rfl rfl rfl ht
theorem s169_77 : Runs 169 77 ls st h Q ↔ Runs 169 79 ls (.int 54 :: st) h Q := R_bipush rfl (by decide)
theorem s169_79 : Runs 169 79 [x0, some (.int i), x2, x3] st h Q ↔ Runs 169 80 [x0, some (.int i), x2, x3] (.int i :: st) h Q := R_ildn rfl rfl
theorem s169_80 : Runs 169 80 ls (.int j :: .int i :: st) h Q ↔ Runs 169 81 ls (.int (i + j) :: st) h Q := R_iadd rfl
theorem s169_81 : Runs 169 81 ls st h Q ↔ Runs 169 82 ls (.int 0 :: st) h Q := R_iconst rfl rfl
theorem s169_82 (ht : tg a = 20) : Runs 169 82 ls (.int j :: .int i :: .ref a :: st) (n, tg, ln, I, J, O) Q ↔ ((0 ≤ i ∧ i < Int32.ofNat (ln a)) ∧ Runs 169 83 ls st (n, tg, ln, zu I a i j, J, O) Q) := R_iast rfl ht
theorem s169_83 : Runs 169 83 [x0, x1, x2, some (.int i)] st h Q ↔ Runs 169 84 [x0, x1, x2, some (.int i)] (.int i :: st) h Q := R_ildn rfl rfl
theorem s169_84 : Runs 169 84 ls st h Q ↔ Runs 169 85 ls (.int (-1) :: st) h Q := R_iconst rfl rfl
theorem s169_85 : Runs 169 85 ls (.int j :: .int i :: st) h Q ↔ if ¬ i = j then Runs 169 116 ls st h Q else Runs 169 88 ls st h Q := R_icne rfl rfl
theorem s169_88 : Runs 169 88 [some (.ref a), x1, x2, x3] st h Q ↔ Runs 169 89 [some (.ref a), x1, x2, x3] (.ref a :: st) h Q := R_aldn rfl rfl
theorem s169_88q : Runs 169 88 [some (zrf r), x1, x2, x3] st h Q ↔ Runs 169 89 [some (zrf r), x1, x2, x3] (zrf r :: st) h Q := R_aldnq rfl rfl
theorem s169_89 (ht : tg a = 10) : Runs 169 89 ls (.ref a :: st) (n, tg, ln, I, J, O) Q ↔ Runs 169 92 ls (zrf (O a 0) :: st) (n, tg, ln, I, J, O) Q := R_getr rfl rfl rfl rfl ht
theorem s169_92 : Runs 169 92 ls st h Q ↔ Runs 169 94 ls (.int 66 :: st) h Q := R_bipush rfl (by decide)
theorem s169_94 : Runs 169 94 [x0, some (.int i), x2, x3] st h Q ↔ Runs 169 95 [x0, some (.int i), x2, x3] (.int i :: st) h Q := R_ildn rfl rfl
theorem s169_95 : Runs 169 95 ls (.int j :: .int i :: st) h Q ↔ Runs 169 96 ls (.int (i + j) :: st) h Q := R_iadd rfl
theorem s169_96 : Runs 169 96 ls st h Q ↔ Runs 169 97 ls (.int 0 :: st) h Q := R_iconst rfl rfl
theorem s169_97 (ht : tg a = 20) : Runs 169 97 ls (.int j :: .int i :: .ref a :: st) (n, tg, ln, I, J, O) Q ↔ ((0 ≤ i ∧ i < Int32.ofNat (ln a)) ∧ Runs 169 98 ls st (n, tg, ln, zu I a i j, J, O) Q) := R_iast rfl ht
theorem s169_98 : Runs 169 98 [some (.ref a), x1, x2, x3] st h Q ↔ Runs 169 99 [some (.ref a), x1, x2, x3] (.ref a :: st) h Q := R_aldn rfl rfl
theorem s169_98q : Runs 169 98 [some (zrf r), x1, x2, x3] st h Q ↔ Runs 169 99 [some (zrf r), x1, x2, x3] (zrf r :: st) h Q := R_aldnq rfl rfl
theorem s169_99 : Runs 169 99 ls st h Q ↔ Runs 169 100 ls (.int 0 :: st) h Q := R_iconst rfl rfl
theorem s169_100 : Runs 169 100 [x0, x1, some (.int i), x3] st h Q ↔ Runs 169 101 [x0, x1, some (.int i), x3] (.int i :: st) h Q := R_ildn rfl rfl
theorem s169_101 : Runs 169 101 [x0, some (.int i), x2, x3] st h Q ↔ Runs 169 102 [x0, some (.int i), x2, x3] (.int i :: st) h Q := R_ildn rfl rfl
theorem s169_102 (ht : tg a = 10) (hs : zsumc st ≤ 8) : Runs 169 102 ls (.int i2 :: .int i1 :: .int i0 :: .ref a :: st) (n, tg, ln, I, J, O) Q ↔ Runs 140 0 [some (.ref a), some (.int i0), some (.int i1), some (.int i2)] [] (n, tg, ln, I, J, O) (fun v h2 => Runs 169 105 ls (v.toList ++ st) h2 Q) := R_callv (a := a) (rest := st) rfl rfl rfl rfl rfl rfl rfl ht hs
theorem s169_105 : Runs 169 105 [some (.ref a), x1, x2, x3] st h Q ↔ Runs 169 106 [some (.ref a), x1, x2, x3] (.ref a :: st) h Q := R_aldn rfl rfl
theorem s169_105q : Runs 169 105 [some (zrf r), x1, x2, x3] st h Q ↔ Runs 169 106 [some (zrf r), x1, x2, x3] (zrf r :: st) h Q := R_aldnq rfl rfl
theorem s169_106 (ht : tg a = 10) : Runs 169 106 ls (.ref a :: st) (n, tg, ln, I, J, O) Q ↔ Runs 169 109 ls (zrf (O a 0) :: st) (n, tg, ln, I, J, O) Q := R_getr rfl rfl rfl rfl ht
theorem s169_109 : Runs 169 109 ls st h Q ↔ Runs 169 110 ls (.int 4 :: st) h Q := R_iconst rfl rfl
theorem s169_110 : Runs 169 110 [x0, x1, some (.int i), x3] st h Q ↔ Runs 169 111 [x0, x1, some (.int i), x3] (.int i :: st) h Q := R_ildn rfl rfl
theorem s169_111 : Runs 169 111 ls (.int j :: .int i :: st) h Q ↔ Runs 169 112 ls (.int (i + j) :: st) h Q := R_iadd rfl
theorem s169_112 (ht : tg a = 20) : Runs 169 112 ls (.int i :: .ref a :: st) (n, tg, ln, I, J, O) Q ↔ ((0 ≤ i ∧ i < Int32.ofNat (ln a)) ∧ Runs 169 113 ls (.int (I a i) :: st) (n, tg, ln, I, J, O) Q) := R_iald rfl ht
theorem s169_113 : Runs 169 113 ls st h Q ↔ Runs 169 114 ls (.int 1 :: st) h Q := R_iconst rfl rfl
theorem s169_114 : Runs 169 114 ls (.int j :: .int i :: st) h Q ↔ Runs 169 115 ls (.int (i - j) :: st) h Q := R_isub rfl
theorem s169_115 : Runs 169 115 ls [.int i] h Q ↔ Q (some (.int i)) h := R_iret rfl rfl
theorem s169_116 : Runs 169 116 [some (.ref a), x1, x2, x3] st h Q ↔ Runs 169 117 [some (.ref a), x1, x2, x3] (.ref a :: st) h Q := R_aldn rfl rfl
theorem s169_116q : Runs 169 116 [some (zrf r), x1, x2, x3] st h Q ↔ Runs 169 117 [some (zrf r), x1, x2, x3] (zrf r :: st) h Q := R_aldnq rfl rfl
theorem s169_117 (ht : tg a = 10) : Runs 169 117 ls (.ref a :: st) (n, tg, ln, I, J, O) Q ↔ Runs 169 120 ls (zrf (O a 0) :: st) (n, tg, ln, I, J, O) Q := R_getr rfl rfl rfl rfl ht
theorem s169_120 : Runs 169 120 ls st h Q ↔ Runs 169 122 ls (.int 6 :: st) h Q := R_bipush rfl (by decide)
theorem s169_122 : Runs 169 122 ls st h Q ↔ Runs 169 124 ls (.int 12 :: st) h Q := R_bipush rfl (by decide)
theorem s169_124 : Runs 169 124 [x0, x1, x2, some (.int i)] st h Q ↔ Runs 169 125 [x0, x1, x2, some (.int i)] (.int i :: st) h Q := R_ildn rfl rfl
theorem s169_125 : Runs 169 125 ls st h Q ↔ Runs 169 127 ls (.int 100 :: st) h Q := R_bipush rfl (by decide)
theorem s169_127 : Runs 169 127 ls (.int j :: .int i :: st) h Q ↔ (¬ j = 0 ∧ Runs 169 128 ls (.int (i / j) :: st) h Q) := R_idiv rfl
theorem s169_128 : Runs 169 128 ls (.int j :: .int i :: st) h Q ↔ Runs 169 129 ls (.int (i * j) :: st) h Q := R_imul rfl
theorem s169_129 : Runs 169 129 ls (.int j :: .int i :: st) h Q ↔ Runs 169 130 ls (.int (i + j) :: st) h Q := R_iadd rfl
theorem s169_130 : Runs 169 130 [x0, x1, x2, some (.int i)] st h Q ↔ Runs 169 131 [x0, x1, x2, some (.int i)] (.int i :: st) h Q := R_ildn rfl rfl
theorem s169_131 : Runs 169 131 ls st h Q ↔ Runs 169 133 ls (.int 100 :: st) h Q := R_bipush rfl (by decide)
theorem s169_133 : Runs 169 133 ls (.int j :: .int i :: st) h Q ↔ (¬ j = 0 ∧ Runs 169 134 ls (.int (i - i / j * j) :: st) h Q) := R_irem rfl
theorem s169_134 : Runs 169 134 ls (.int j :: .int i :: st) h Q ↔ Runs 169 135 ls (.int (i + j) :: st) h Q := R_iadd rfl
theorem s169_135 : Runs 169 135 [x0, some (.int i), x2, x3] st h Q ↔ Runs 169 136 [x0, some (.int i), x2, x3] (.int i :: st) h Q := R_ildn rfl rfl
theorem s169_136 (ht : tg a = 20) : Runs 169 136 ls (.int j :: .int i :: .ref a :: st) (n, tg, ln, I, J, O) Q ↔ ((0 ≤ i ∧ i < Int32.ofNat (ln a)) ∧ Runs 169 137 ls st (n, tg, ln, zu I a i j, J, O) Q) := R_iast rfl ht
theorem s169_137 : Runs 169 137 [x0, x1, x2, some (.int i)] st h Q ↔ Runs 169 138 [x0, x1, x2, some (.int i)] (.int i :: st) h Q := R_ildn rfl rfl
theorem s169_138 : Runs 169 138 ls st h Q ↔ Runs 169 140 ls (.int 100 :: st) h Q := R_bipush rfl (by decide)
theorem s169_140 : Runs 169 140 ls (.int j :: .int i :: st) h Q ↔ (¬ j = 0 ∧ Runs 169 141 ls (.int (i - i / j * j) :: st) h Q) := R_irem rfl
theorem s169_141 : Runs 169 141 ls [.int i] h Q ↔ Q (some (.int i)) h := R_iret rfl rfl
theorem s170_0 : Runs 170 0 [some (.ref a), x1, x2] st h Q ↔ Runs 170 1 [some (.ref a), x1, x2] (.ref a :: st) h Q := R_aldn rfl rfl
theorem s170_0q : Runs 170 0 [some (zrf r), x1, x2] st h Q ↔ Runs 170 1 [some (zrf r), x1, x2] (zrf r :: st) h Q := R_aldnq rfl rfl
theorem s170_1 : Runs 170 1 [x0, some (.int i), x2] st h Q ↔ Runs 170 2 [x0, some (.int i), x2] (.int i :: st) h Q := R_ildn rfl rfl
theorem s170_2 : Runs 170 2 ls (.int i :: st) h Q ↔ Runs 170 3 ls (.long i.toInt64 :: st) h Q := R_i2l rfl
theorem s170_3 (ht : tg a = 10) (hs : zsumc st ≤ 8) : Runs 170 3 ls (.long u0 :: .ref a :: st) (n, tg, ln, I, J, O) Q ↔ Runs 151 0 [some (.ref a), some (.long u0), none] [] (n, tg, ln, I, J, O) (fun v h2 => Runs 170 6 ls (v.toList ++ st) h2 Q) := R_callv (a := a) (rest := st) rfl rfl rfl rfl rfl rfl rfl ht hs
theorem s170_6 : Runs 170 6 ls (.int i :: st) h Q ↔ if ¬ i = 0 then Runs 170 12 ls st h Q else Runs 170 9 ls st h Q := R_ifne rfl rfl
theorem s170_9 : Runs 170 9 ls st h Q ↔ Runs 170 11 ls (.int (-2) :: st) h Q := R_bipush rfl (by decide)
theorem s170_11 : Runs 170 11 ls [.int i] h Q ↔ Q (some (.int i)) h := R_iret rfl rfl
theorem s170_12 : Runs 170 12 [some (.ref a), x1, x2] st h Q ↔ Runs 170 13 [some (.ref a), x1, x2] (.ref a :: st) h Q := R_aldn rfl rfl
theorem s170_12q : Runs 170 12 [some (zrf r), x1, x2] st h Q ↔ Runs 170 13 [some (zrf r), x1, x2] (zrf r :: st) h Q := R_aldnq rfl rfl
theorem s170_13 : Runs 170 13 ls st h Q ↔ Runs 170 14 ls (.int 0 :: st) h Q := R_iconst rfl rfl
theorem s170_14 : Runs 170 14 [x0, some (.int i), x2] st h Q ↔ Runs 170 15 [x0, some (.int i), x2] (.int i :: st) h Q := R_ildn rfl rfl
theorem s170_15 (ht : tg a = 10) (hs : zsumc st ≤ 8) : Runs 170 15 ls (.int i1 :: .int i0 :: .ref a :: st) (n, tg, ln, I, J, O) Q ↔ Runs 153 0 [some (.ref a), some (.int i0), some (.int i1), none, none] [] (n, tg, ln, I, J, O) (fun v h2 => Runs 170 18 ls (v.toList ++ st) h2 Q) := R_callv (a := a) (rest := st) rfl rfl rfl rfl rfl rfl rfl ht hs
theorem s170_18 : Runs 170 18 ls st h Q ↔ Runs 170 19 ls (.int (-1) :: st) h Q := R_iconst rfl rfl
theorem s170_19 : Runs 170 19 ls (.int j :: .int i :: st) h Q ↔ if i = j then Runs 170 35 ls st h Q else Runs 170 22 ls st h Q := R_iceq rfl rfl
theorem s170_22 : Runs 170 22 [some (.ref a), x1, x2] st h Q ↔ Runs 170 23 [some (.ref a), x1, x2] (.ref a :: st) h Q := R_aldn rfl rfl
theorem s170_22q : Runs 170 22 [some (zrf r), x1, x2] st h Q ↔ Runs 170 23 [some (zrf r), x1, x2] (zrf r :: st) h Q := R_aldnq rfl rfl
theorem s170_23 (ht : tg a = 10) : Runs 170 23 ls (.ref a :: st) (n, tg, ln, I, J, O) Q ↔ Runs 170 26 ls (zrf (O a 0) :: st) (n, tg, ln, I, J, O) Q := R_getr rfl rfl rfl rfl ht
theorem s170_26 : Runs 170 26 ls st h Q ↔ Runs 170 28 ls (.int 30 :: st) h Q := R_bipush rfl (by decide)
theorem s170_28 : Runs 170 28 [x0, some (.int i), x2] st h Q ↔ Runs 170 29 [x0, some (.int i), x2] (.int i :: st) h Q := R_ildn rfl rfl
theorem s170_29 : Runs 170 29 ls (.int j :: .int i :: st) h Q ↔ Runs 170 30 ls (.int (i + j) :: st) h Q := R_iadd rfl
theorem s170_30 (ht : tg a = 20) : Runs 170 30 ls (.int i :: .ref a :: st) (n, tg, ln, I, J, O) Q ↔ ((0 ≤ i ∧ i < Int32.ofNat (ln a)) ∧ Runs 170 31 ls (.int (I a i) :: st) (n, tg, ln, I, J, O) Q) := R_iald rfl ht
theorem s170_31 : Runs 170 31 ls st h Q ↔ Runs 170 32 ls (.int 4 :: st) h Q := R_iconst rfl rfl
theorem s170_32 : Runs 170 32 ls (.int j :: .int i :: st) h Q ↔ if ¬ i = j then Runs 170 38 ls st h Q else Runs 170 35 ls st h Q := R_icne rfl rfl
theorem s170_35 : Runs 170 35 ls st h Q ↔ Runs 170 37 ls (.int (-4) :: st) h Q := R_bipush rfl (by decide)
theorem s170_37 : Runs 170 37 ls [.int i] h Q ↔ Q (some (.int i)) h := R_iret rfl rfl
theorem s170_38 : Runs 170 38 [some (.ref a), x1, x2] st h Q ↔ Runs 170 39 [some (.ref a), x1, x2] (.ref a :: st) h Q := R_aldn rfl rfl
theorem s170_38q : Runs 170 38 [some (zrf r), x1, x2] st h Q ↔ Runs 170 39 [some (zrf r), x1, x2] (zrf r :: st) h Q := R_aldnq rfl rfl
theorem s170_39 (ht : tg a = 10) (hs : zsumc st ≤ 8) : Runs 170 39 ls (.ref a :: st) (n, tg, ln, I, J, O) Q ↔ Runs 164 0 [some (.ref a), none] [] (n, tg, ln, I, J, O) (fun v h2 => Runs 170 42 ls (v.toList ++ st) h2 Q) := R_callv (a := a) (rest := st) rfl rfl rfl rfl rfl rfl rfl ht hs
theorem s170_42 : Runs 170 42 [some (.ref a), x1, x2] st h Q ↔ Runs 170 43 [some (.ref a), x1, x2] (.ref a :: st) h Q := R_aldn rfl rfl
theorem s170_42q : Runs 170 42 [some (zrf r), x1, x2] st h Q ↔ Runs 170 43 [some (zrf r), x1, x2] (zrf r :: st) h Q := R_aldnq rfl rfl
theorem s170_43 (ht : tg a = 10) : Runs 170 43 ls (.ref a :: st) (n, tg, ln, I, J, O) Q ↔ Runs 170 46 ls (zrf (O a 0) :: st) (n, tg, ln, I, J, O) Q := R_getr rfl rfl rfl rfl ht
theorem s170_46 : Runs 170 46 ls st h Q ↔ Runs 170 48 ls (.int 30 :: st) h Q := R_bipush rfl (by decide)
theorem s170_48 : Runs 170 48 [x0, some (.int i), x2] st h Q ↔ Runs 170 49 [x0, some (.int i), x2] (.int i :: st) h Q := R_ildn rfl rfl
theorem s170_49 : Runs 170 49 ls (.int j :: .int i :: st) h Q ↔ Runs 170 50 ls (.int (i + j) :: st) h Q := R_iadd rfl
theorem s170_50 (ht : tg a = 20) : Runs 170 50 ls (.int i :: .ref a :: st) (n, tg, ln, I, J, O) Q ↔ ((0 ≤ i ∧ i < Int32.ofNat (ln a)) ∧ Runs 170 51 ls (.int (I a i) :: st) (n, tg, ln, I, J, O) Q) := R_iald rfl ht
theorem s170_51 : Runs 170 51 [x0, x1, x2] (.int i :: st) h Q ↔ Runs 170 52 [x0, zdrop x1, some (.int i)] st h Q := R_istn rfl rfl rfl
theorem s170_52 : Runs 170 52 [some (.ref a), x1, x2] st h Q ↔ Runs 170 53 [some (.ref a), x1, x2] (.ref a :: st) h Q := R_aldn rfl rfl
theorem s170_52q : Runs 170 52 [some (zrf r), x1, x2] st h Q ↔ Runs 170 53 [some (zrf r), x1, x2] (zrf r :: st) h Q := R_aldnq rfl rfl
theorem s170_53 (ht : tg a = 10) : Runs 170 53 ls (.ref a :: st) (n, tg, ln, I, J, O) Q ↔ Runs 170 56 ls (zrf (O a 0) :: st) (n, tg, ln, I, J, O) Q := R_getr rfl rfl rfl rfl ht
theorem s170_56 : Runs 170 56 ls st h Q ↔ Runs 170 58 ls (.int 30 :: st) h Q := R_bipush rfl (by decide)
theorem s170_58 : Runs 170 58 [x0, some (.int i), x2] st h Q ↔ Runs 170 59 [x0, some (.int i), x2] (.int i :: st) h Q := R_ildn rfl rfl
theorem s170_59 : Runs 170 59 ls (.int j :: .int i :: st) h Q ↔ Runs 170 60 ls (.int (i + j) :: st) h Q := R_iadd rfl
theorem s170_60 : Runs 170 60 ls st h Q ↔ Runs 170 61 ls (.int 4 :: st) h Q := R_iconst rfl rfl
theorem s170_61 (ht : tg a = 20) : Runs 170 61 ls (.int j :: .int i :: .ref a :: st) (n, tg, ln, I, J, O) Q ↔ ((0 ≤ i ∧ i < Int32.ofNat (ln a)) ∧ Runs 170 62 ls st (n, tg, ln, zu I a i j, J, O) Q) := R_iast rfl ht
theorem s170_62 : Runs 170 62 [some (.ref a), x1, x2] st h Q ↔ Runs 170 63 [some (.ref a), x1, x2] (.ref a :: st) h Q := R_aldn rfl rfl
theorem s170_62q : Runs 170 62 [some (zrf r), x1, x2] st h Q ↔ Runs 170 63 [some (zrf r), x1, x2] (zrf r :: st) h Q := R_aldnq rfl rfl
theorem s170_63 (ht : tg a = 10) : Runs 170 63 ls (.ref a :: st) (n, tg, ln, I, J, O) Q ↔ Runs 170 66 ls (zrf (O a 0) :: st) (n, tg, ln, I, J, O) Q := R_getr rfl rfl rfl rfl ht
theorem s170_66 : Runs 170 66 ls st h Q ↔ Runs 170 68 ls (.int 66 :: st) h Q := R_bipush rfl (by decide)
theorem s170_68 : Runs 170 68 [x0, some (.int i), x2] st h Q ↔ Runs 170 69 [x0, some (.int i), x2] (.int i :: st) h Q := R_ildn rfl rfl
theorem s170_69 : Runs 170 69 ls (.int j :: .int i :: st) h Q ↔ Runs 170 70 ls (.int (i + j) :: st) h Q := R_iadd rfl
theorem s170_70 : Runs 170 70 ls st h Q ↔ Runs 170 71 ls (.int 0 :: st) h Q := R_iconst rfl rfl
theorem s170_71 (ht : tg a = 20) : Runs 170 71 ls (.int j :: .int i :: .ref a :: st) (n, tg, ln, I, J, O) Q ↔ ((0 ≤ i ∧ i < Int32.ofNat (ln a)) ∧ Runs 170 72 ls st (n, tg, ln, zu I a i j, J, O) Q) := R_iast rfl ht
theorem s170_72 : Runs 170 72 [x0, x1, some (.int i)] st h Q ↔ Runs 170 73 [x0, x1, some (.int i)] (.int i :: st) h Q := R_ildn rfl rfl
theorem s170_73 : Runs 170 73 ls [.int i] h Q ↔ Q (some (.int i)) h := R_iret rfl rfl
theorem s171_0 : Runs 171 0 [x0, some (.int i), x2] st h Q ↔ Runs 171 1 [x0, some (.int i), x2] (.int i :: st) h Q := R_ildn rfl rfl
theorem s171_1 : Runs 171 1 ls (.int i :: st) h Q ↔ Runs 171 2 ls (.long i.toInt64 :: st) h Q := R_i2l rfl
theorem s171_2 : Runs 171 2 ls st h Q ↔ Runs 171 3 ls (.long 0 :: st) h Q := R_lconst rfl rfl
theorem s171_3 : Runs 171 3 ls st h Q ↔ Runs 171 6 ls (.long 2 :: st) h Q := R_ldc2 rfl rfl
theorem s171_6 (hs : zsumc st ≤ 8) : Runs 171 6 ls (.long u2 :: .long u1 :: .long u0 :: st) h Q ↔ Runs 127 0 [some (.long u0), none, some (.long u1), none, some (.long u2), none] [] h (fun v h2 => Runs 171 9 ls (v.toList ++ st) h2 Q) := R_calls (rest := st) rfl rfl rfl (by simp) rfl rfl rfl rfl hs
theorem s171_9 : Runs 171 9 ls (.int i :: st) h Q ↔ if ¬ i = 0 then Runs 171 15 ls st h Q else Runs 171 12 ls st h Q := R_ifne rfl rfl
theorem s171_12 : Runs 171 12 ls st h Q ↔ Runs 171 14 ls (.int (-3) :: st) h Q := R_bipush rfl (by decide)
theorem s171_14 : Runs 171 14 ls [.int i] h Q ↔ Q (some (.int i)) h := R_iret rfl rfl
theorem s171_15 : Runs 171 15 [some (.ref a), x1, x2] st h Q ↔ Runs 171 16 [some (.ref a), x1, x2] (.ref a :: st) h Q := R_aldn rfl rfl
theorem s171_15q : Runs 171 15 [some (zrf r), x1, x2] st h Q ↔ Runs 171 16 [some (zrf r), x1, x2] (zrf r :: st) h Q := R_aldnq rfl rfl
theorem s171_16 (ht : tg a = 10) : Runs 171 16 ls (.ref a :: st) (n, tg, ln, I, J, O) Q ↔ Runs 171 19 ls (zrf (O a 0) :: st) (n, tg, ln, I, J, O) Q := R_getr rfl rfl rfl rfl ht
theorem s171_19 : Runs 171 19 ls st h Q ↔ Runs 171 20 ls (.int 1 :: st) h Q := R_iconst rfl rfl
theorem s171_20 (ht : tg a = 20) : Runs 171 20 ls (.int i :: .ref a :: st) (n, tg, ln, I, J, O) Q ↔ ((0 ≤ i ∧ i < Int32.ofNat (ln a)) ∧ Runs 171 21 ls (.int (I a i) :: st) (n, tg, ln, I, J, O) Q) := R_iald rfl ht
theorem s171_21 : Runs 171 21 [x0, x1, x2] (.int i :: st) h Q ↔ Runs 171 22 [x0, zdrop x1, some (.int i)] st h Q := R_istn rfl rfl rfl
theorem s171_22 : Runs 171 22 [x0, x1, some (.int i)] st h Q ↔ Runs 171 23 [x0, x1, some (.int i)] (.int i :: st) h Q := R_ildn rfl rfl
theorem s171_23 : Runs 171 23 [x0, some (.int i), x2] st h Q ↔ Runs 171 24 [x0, some (.int i), x2] (.int i :: st) h Q := R_ildn rfl rfl
theorem s171_24 : Runs 171 24 ls (.int j :: .int i :: st) h Q ↔ if ¬ i = j then Runs 171 30 ls st h Q else Runs 171 27 ls st h Q := R_icne rfl rfl
theorem s171_27 : Runs 171 27 ls st h Q ↔ Runs 171 29 ls (.int (-4) :: st) h Q := R_bipush rfl (by decide)
theorem s171_29 : Runs 171 29 ls [.int i] h Q ↔ Q (some (.int i)) h := R_iret rfl rfl
theorem s171_30 : Runs 171 30 [some (.ref a), x1, x2] st h Q ↔ Runs 171 31 [some (.ref a), x1, x2] (.ref a :: st) h Q := R_aldn rfl rfl
theorem s171_30q : Runs 171 30 [some (zrf r), x1, x2] st h Q ↔ Runs 171 31 [some (zrf r), x1, x2] (zrf r :: st) h Q := R_aldnq rfl rfl
theorem s171_31 (ht : tg a = 10) (hs : zsumc st ≤ 8) : Runs 171 31 ls (.ref a :: st) (n, tg, ln, I, J, O) Q ↔ Runs 164 0 [some (.ref a), none] [] (n, tg, ln, I, J, O) (fun v h2 => Runs 171 34 ls (v.toList ++ st) h2 Q) := R_callv (a := a) (rest := st) rfl rfl rfl rfl rfl rfl rfl ht hs
theorem s171_34 : Runs 171 34 [some (.ref a), x1, x2] st h Q ↔ Runs 171 35 [some (.ref a), x1, x2] (.ref a :: st) h Q := R_aldn rfl rfl
theorem s171_34q : Runs 171 34 [some (zrf r), x1, x2] st h Q ↔ Runs 171 35 [some (zrf r), x1, x2] (zrf r :: st) h Q := R_aldnq rfl rfl
theorem s171_35 (ht : tg a = 10) : Runs 171 35 ls (.ref a :: st) (n, tg, ln, I, J, O) Q ↔ Runs 171 38 ls (zrf (O a 0) :: st) (n, tg, ln, I, J, O) Q := R_getr rfl rfl rfl rfl ht
theorem s171_38 : Runs 171 38 ls st h Q ↔ Runs 171 39 ls (.int 1 :: st) h Q := R_iconst rfl rfl
theorem s171_39 : Runs 171 39 [x0, some (.int i), x2] st h Q ↔ Runs 171 40 [x0, some (.int i), x2] (.int i :: st) h Q := R_ildn rfl rfl
theorem s171_40 (ht : tg a = 20) : Runs 171 40 ls (.int j :: .int i :: .ref a :: st) (n, tg, ln, I, J, O) Q ↔ ((0 ≤ i ∧ i < Int32.ofNat (ln a)) ∧ Runs 171 41 ls st (n, tg, ln, zu I a i j, J, O) Q) := R_iast rfl ht
theorem s171_41 : Runs 171 41 [x0, x1, some (.int i)] st h Q ↔ Runs 171 42 [x0, x1, some (.int i)] (.int i :: st) h Q := R_ildn rfl rfl
theorem s171_42 : Runs 171 42 ls [.int i] h Q ↔ Q (some (.int i)) h := R_iret rfl rfl
theorem s172_0 : Runs 172 0 [some (.ref a)] st h Q ↔ Runs 172 1 [some (.ref a)] (.ref a :: st) h Q := R_aldn rfl rfl
theorem s172_0q : Runs 172 0 [some (zrf r)] st h Q ↔ Runs 172 1 [some (zrf r)] (zrf r :: st) h Q := R_aldnq rfl rfl
theorem s172_1 (ht : tg a = 10) : Runs 172 1 ls (.ref a :: st) (n, tg, ln, I, J, O) Q ↔ Runs 172 4 ls (.int (I a 1) :: st) (n, tg, ln, I, J, O) Q := R_geti rfl rfl rfl rfl ht
theorem s172_4 : Runs 172 4 ls (.int i :: st) h Q ↔ if ¬ i = 0 then Runs 172 10 ls st h Q else Runs 172 7 ls st h Q := R_ifne rfl rfl
theorem s172_7 : Runs 172 7 ls st h Q ↔ Runs 172 9 ls (.int (-4) :: st) h Q := R_bipush rfl (by decide)
theorem s172_9 : Runs 172 9 ls [.int i] h Q ↔ Q (some (.int i)) h := R_iret rfl rfl
theorem s172_10 : Runs 172 10 [some (.ref a)] st h Q ↔ Runs 172 11 [some (.ref a)] (.ref a :: st) h Q := R_aldn rfl rfl
theorem s172_10q : Runs 172 10 [some (zrf r)] st h Q ↔ Runs 172 11 [some (zrf r)] (zrf r :: st) h Q := R_aldnq rfl rfl
theorem s172_11 : Runs 172 11 ls (.int i :: st) h Q ↔ Runs 172 12 ls (.int i :: .int i :: st) h Q := R_dupi rfl
theorem s172_11q : Runs 172 11 ls (.ref a :: st) h Q ↔ Runs 172 12 ls (.ref a :: .ref a :: st) h Q := R_dupr rfl
theorem s172_12 (ht : tg a = 10) : Runs 172 12 ls (.ref a :: st) (n, tg, ln, I, J, O) Q ↔ Runs 172 15 ls (.int (I a 1) :: st) (n, tg, ln, I, J, O) Q := R_geti rfl rfl rfl rfl ht
theorem s172_15 : Runs 172 15 ls st h Q ↔ Runs 172 16 ls (.int 1 :: st) h Q := R_iconst rfl rfl
theorem s172_16 : Runs 172 16 ls (.int j :: .int i :: st) h Q ↔ Runs 172 17 ls (.int (i - j) :: st) h Q := R_isub rfl
theorem s172_17 (ht : tg a = 10) : Runs 172 17 ls (.int i :: .ref a :: st) (n, tg, ln, I, J, O) Q ↔ Runs 172 20 ls st (n, tg, ln, zu I a 1 i, J, O) Q := R_puti rfl rfl rfl rfl rfl rfl ht
theorem s172_20 : Runs 172 20 [some (.ref a)] st h Q ↔ Runs 172 21 [some (.ref a)] (.ref a :: st) h Q := R_aldn rfl rfl
theorem s172_20q : Runs 172 20 [some (zrf r)] st h Q ↔ Runs 172 21 [some (zrf r)] (zrf r :: st) h Q := R_aldnq rfl rfl
theorem s172_21 : Runs 172 21 ls st h Q ↔ Runs 172 24 ls (.int 180 :: st) h Q := R_sipush rfl (by decide)
theorem s172_24 : Runs 172 24 ls st h Q ↔ Runs 172 26 ls (.int 90 :: st) h Q := R_bipush rfl (by decide)
theorem s172_26 : Runs 172 26 [some (.ref a)] st h Q ↔ Runs 172 27 [some (.ref a)] (.ref a :: st) h Q := R_aldn rfl rfl
theorem s172_26q : Runs 172 26 [some (zrf r)] st h Q ↔ Runs 172 27 [some (zrf r)] (zrf r :: st) h Q := R_aldnq rfl rfl
theorem s172_27 (ht : tg a = 10) : Runs 172 27 ls (.ref a :: st) (n, tg, ln, I, J, O) Q ↔ Runs 172 30 ls (.int (I a 1) :: st) (n, tg, ln, I, J, O) Q := R_geti rfl rfl rfl rfl ht
theorem s172_30 : Runs 172 30 ls (.int j :: .int i :: st) h Q ↔ Runs 172 31 ls (.int (i * j) :: st) h Q := R_imul rfl
theorem s172_31 : Runs 172 31 ls (.int j :: .int i :: st) h Q ↔ Runs 172 32 ls (.int (i + j) :: st) h Q := R_iadd rfl
theorem s172_32 : Runs 172 32 ls st h Q ↔ Runs 172 33 ls (.int 0 :: st) h Q := R_iconst rfl rfl
theorem s172_33 (ht : tg a = 10) (hs : zsumc st ≤ 8) : Runs 172 33 ls (.int i1 :: .int i0 :: .ref a :: st) (n, tg, ln, I, J, O) Q ↔ Runs 149 0 [some (.ref a), some (.int i0), some (.int i1), none] [] (n, tg, ln, I, J, O) (fun v h2 => Runs 172 36 ls (v.toList ++ st) h2 Q) := R_callv (a := a) (rest := st) rfl rfl rfl rfl rfl rfl rfl ht hs
theorem s172_36 : Runs 172 36 [some (.ref a)] st h Q ↔ Runs 172 37 [some (.ref a)] (.ref a :: st) h Q := R_aldn rfl rfl
theorem s172_36q : Runs 172 36 [some (zrf r)] st h Q ↔ Runs 172 37 [some (zrf r)] (zrf r :: st) h Q := R_aldnq rfl rfl
theorem s172_37 (ht : tg a = 10) : Runs 172 37 ls (.ref a :: st) (n, tg, ln, I, J, O) Q ↔ Runs 172 40 ls (.int (I a 1) :: st) (n, tg, ln, I, J, O) Q := R_geti rfl rfl rfl rfl ht
theorem s172_40 : Runs 172 40 ls [.int i] h Q ↔ Q (some (.int i)) h := R_iret rfl rfl
theorem s173_0 : Runs 173 0 [x0, some (.int i)] st h Q ↔ Runs 173 1 [x0, some (.int i)] (.int i :: st) h Q := R_ildn rfl rfl
theorem s173_1 : Runs 173 1 ls (.int i :: st) h Q ↔ Runs 173 2 ls (.long i.toInt64 :: st) h Q := R_i2l rfl
theorem s173_2 : Runs 173 2 ls st h Q ↔ Runs 173 3 ls (.long 0 :: st) h Q := R_lconst rfl rfl
theorem s173_3 : Runs 173 3 ls st h Q ↔ Runs 173 4 ls (.long 1 :: st) h Q := R_lconst rfl rfl
theorem s173_4 (hs : zsumc st ≤ 8) : Runs 173 4 ls (.long u2 :: .long u1 :: .long u0 :: st) h Q ↔ Runs 127 0 [some (.long u0), none, some (.long u1), none, some (.long u2), none] [] h (fun v h2 => Runs 173 7 ls (v.toList ++ st) h2 Q) := R_calls (rest := st) rfl rfl rfl (by simp) rfl rfl rfl rfl hs
theorem s173_7 : Runs 173 7 ls (.int i :: st) h Q ↔ if ¬ i = 0 then Runs 173 13 ls st h Q else Runs 173 10 ls st h Q := R_ifne rfl rfl
theorem s173_10 : Runs 173 10 ls st h Q ↔ Runs 173 12 ls (.int (-2) :: st) h Q := R_bipush rfl (by decide)
theorem s173_12 : Runs 173 12 ls [.int i] h Q ↔ Q (some (.int i)) h := R_iret rfl rfl
theorem s173_13 : Runs 173 13 [some (.ref a), x1] st h Q ↔ Runs 173 14 [some (.ref a), x1] (.ref a :: st) h Q := R_aldn rfl rfl
theorem s173_13q : Runs 173 13 [some (zrf r), x1] st h Q ↔ Runs 173 14 [some (zrf r), x1] (zrf r :: st) h Q := R_aldnq rfl rfl
theorem s173_14 : Runs 173 14 ls st h Q ↔ Runs 173 15 ls (.int 0 :: st) h Q := R_iconst rfl rfl
theorem s173_15 : Runs 173 15 ls st h Q ↔ Runs 173 18 ls (.int 900 :: st) h Q := R_sipush rfl (by decide)
theorem s173_18 : Runs 173 18 ls st h Q ↔ Runs 173 20 ls (.int 90 :: st) h Q := R_bipush rfl (by decide)
theorem s173_20 : Runs 173 20 [x0, some (.int i)] st h Q ↔ Runs 173 21 [x0, some (.int i)] (.int i :: st) h Q := R_ildn rfl rfl
theorem s173_21 : Runs 173 21 ls (.int j :: .int i :: st) h Q ↔ Runs 173 22 ls (.int (i * j) :: st) h Q := R_imul rfl
theorem s173_22 : Runs 173 22 ls (.int j :: .int i :: st) h Q ↔ Runs 173 23 ls (.int (i + j) :: st) h Q := R_iadd rfl
theorem s173_23 (ht : tg a = 10) (hs : zsumc st ≤ 8) : Runs 173 23 ls (.int i1 :: .int i0 :: .ref a :: st) (n, tg, ln, I, J, O) Q ↔ Runs 149 0 [some (.ref a), some (.int i0), some (.int i1), none] [] (n, tg, ln, I, J, O) (fun v h2 => Runs 173 26 ls (v.toList ++ st) h2 Q) := R_callv (a := a) (rest := st) rfl rfl rfl rfl rfl rfl rfl ht hs
theorem s173_26 : Runs 173 26 [some (.ref a), x1] st h Q ↔ Runs 173 27 [some (.ref a), x1] (.ref a :: st) h Q := R_aldn rfl rfl
theorem s173_26q : Runs 173 26 [some (zrf r), x1] st h Q ↔ Runs 173 27 [some (zrf r), x1] (zrf r :: st) h Q := R_aldnq rfl rfl
theorem s173_27 (ht : tg a = 10) : Runs 173 27 ls (.ref a :: st) (n, tg, ln, I, J, O) Q ↔ Runs 173 30 ls (zrf (O a 2) :: st) (n, tg, ln, I, J, O) Q := R_getr rfl rfl rfl rfl ht
theorem s173_30 : Runs 173 30 [x0, some (.int i)] st h Q ↔ Runs 173 31 [x0, some (.int i)] (.int i :: st) h Q := R_ildn rfl rfl
theorem s173_31 : Runs 173 31 ls st h Q ↔ Runs 173 32 ls (.int 1 :: st) h Q := R_iconst rfl rfl
theorem s173_32 (ht : tg a = 22) (hx : j = 0 ∨ j = 1) : Runs 173 32 ls (.int j :: .int i :: .ref a :: st) (n, tg, ln, I, J, O) Q ↔ ((0 ≤ i ∧ i < Int32.ofNat (ln a)) ∧ Runs 173 33 ls st (n, tg, ln, zu I a i j, J, O) Q) := R_bast rfl ht hx
theorem s173_33 : Runs 173 33 [some (.ref a), x1] st h Q ↔ Runs 173 34 [some (.ref a), x1] (.ref a :: st) h Q := R_aldn rfl rfl
theorem s173_33q : Runs 173 33 [some (zrf r), x1] st h Q ↔ Runs 173 34 [some (zrf r), x1] (zrf r :: st) h Q := R_aldnq rfl rfl
theorem s173_34 (ht : tg a = 10) : Runs 173 34 ls (.ref a :: st) (n, tg, ln, I, J, O) Q ↔ Runs 173 37 ls (zrf (O a 0) :: st) (n, tg, ln, I, J, O) Q := R_getr rfl rfl rfl rfl ht
theorem s173_37 : Runs 173 37 ls st h Q ↔ Runs 173 38 ls (.int 2 :: st) h Q := R_iconst rfl rfl
theorem s173_38 (ht : tg a = 20) : Runs 173 38 ls (.int i :: .ref a :: st) (n, tg, ln, I, J, O) Q ↔ ((0 ≤ i ∧ i < Int32.ofNat (ln a)) ∧ Runs 173 39 ls (.int (I a i) :: st) (n, tg, ln, I, J, O) Q) := R_iald rfl ht
theorem s173_39 : Runs 173 39 ls [.int i] h Q ↔ Q (some (.int i)) h := R_iret rfl rfl
theorem s174_0 : Runs 174 0 [x0, some (.int i)] st h Q ↔ Runs 174 1 [x0, some (.int i)] (.int i :: st) h Q := R_ildn rfl rfl
theorem s174_1 : Runs 174 1 ls (.int i :: st) h Q ↔ Runs 174 2 ls (.long i.toInt64 :: st) h Q := R_i2l rfl
theorem s174_2 : Runs 174 2 ls st h Q ↔ Runs 174 3 ls (.long 0 :: st) h Q := R_lconst rfl rfl
theorem s174_3 : Runs 174 3 ls st h Q ↔ Runs 174 4 ls (.long 1 :: st) h Q := R_lconst rfl rfl
theorem s174_4 (hs : zsumc st ≤ 8) : Runs 174 4 ls (.long u2 :: .long u1 :: .long u0 :: st) h Q ↔ Runs 127 0 [some (.long u0), none, some (.long u1), none, some (.long u2), none] [] h (fun v h2 => Runs 174 7 ls (v.toList ++ st) h2 Q) := R_calls (rest := st) rfl rfl rfl (by simp) rfl rfl rfl rfl hs
theorem s174_7 : Runs 174 7 ls (.int i :: st) h Q ↔ if ¬ i = 0 then Runs 174 13 ls st h Q else Runs 174 10 ls st h Q := R_ifne rfl rfl
theorem s174_10 : Runs 174 10 ls st h Q ↔ Runs 174 12 ls (.int (-2) :: st) h Q := R_bipush rfl (by decide)
theorem s174_12 : Runs 174 12 ls [.int i] h Q ↔ Q (some (.int i)) h := R_iret rfl rfl
theorem s174_13 : Runs 174 13 [some (.ref a), x1] st h Q ↔ Runs 174 14 [some (.ref a), x1] (.ref a :: st) h Q := R_aldn rfl rfl
theorem s174_13q : Runs 174 13 [some (zrf r), x1] st h Q ↔ Runs 174 14 [some (zrf r), x1] (zrf r :: st) h Q := R_aldnq rfl rfl
theorem s174_14 (ht : tg a = 10) : Runs 174 14 ls (.ref a :: st) (n, tg, ln, I, J, O) Q ↔ Runs 174 17 ls (zrf (O a 2) :: st) (n, tg, ln, I, J, O) Q := R_getr rfl rfl rfl rfl ht
theorem s174_17 : Runs 174 17 [x0, some (.int i)] st h Q ↔ Runs 174 18 [x0, some (.int i)] (.int i :: st) h Q := R_ildn rfl rfl
theorem s174_18 (ht : tg a = 22) : Runs 174 18 ls (.int i :: .ref a :: st) (n, tg, ln, I, J, O) Q ↔ ((0 ≤ i ∧ i < Int32.ofNat (ln a)) ∧ Runs 174 19 ls (.int (I a i) :: st) (n, tg, ln, I, J, O) Q) := R_bald rfl ht
theorem s174_19 : Runs 174 19 ls (.int i :: st) h Q ↔ if ¬ i = 0 then Runs 174 25 ls st h Q else Runs 174 22 ls st h Q := R_ifne rfl rfl
theorem s174_22 : Runs 174 22 ls st h Q ↔ Runs 174 24 ls (.int (-4) :: st) h Q := R_bipush rfl (by decide)
theorem s174_24 : Runs 174 24 ls [.int i] h Q ↔ Q (some (.int i)) h := R_iret rfl rfl
theorem s174_25 : Runs 174 25 [some (.ref a), x1] st h Q ↔ Runs 174 26 [some (.ref a), x1] (.ref a :: st) h Q := R_aldn rfl rfl
theorem s174_25q : Runs 174 25 [some (zrf r), x1] st h Q ↔ Runs 174 26 [some (zrf r), x1] (zrf r :: st) h Q := R_aldnq rfl rfl
theorem s174_26 : Runs 174 26 ls st h Q ↔ Runs 174 29 ls (.int 900 :: st) h Q := R_sipush rfl (by decide)
theorem s174_29 : Runs 174 29 ls st h Q ↔ Runs 174 31 ls (.int 90 :: st) h Q := R_bipush rfl (by decide)
theorem s174_31 : Runs 174 31 [x0, some (.int i)] st h Q ↔ Runs 174 32 [x0, some (.int i)] (.int i :: st) h Q := R_ildn rfl rfl
theorem s174_32 : Runs 174 32 ls (.int j :: .int i :: st) h Q ↔ Runs 174 33 ls (.int (i * j) :: st) h Q := R_imul rfl
theorem s174_33 : Runs 174 33 ls (.int j :: .int i :: st) h Q ↔ Runs 174 34 ls (.int (i + j) :: st) h Q := R_iadd rfl
theorem s174_34 : Runs 174 34 ls st h Q ↔ Runs 174 35 ls (.int 0 :: st) h Q := R_iconst rfl rfl
theorem s174_35 (ht : tg a = 10) (hs : zsumc st ≤ 8) : Runs 174 35 ls (.int i1 :: .int i0 :: .ref a :: st) (n, tg, ln, I, J, O) Q ↔ Runs 149 0 [some (.ref a), some (.int i0), some (.int i1), none] [] (n, tg, ln, I, J, O) (fun v h2 => Runs 174 38 ls (v.toList ++ st) h2 Q) := R_callv (a := a) (rest := st) rfl rfl rfl rfl rfl rfl rfl ht hs
theorem s174_38 : Runs 174 38 [some (.ref a), x1] st h Q ↔ Runs 174 39 [some (.ref a), x1] (.ref a :: st) h Q := R_aldn rfl rfl
theorem s174_38q : Runs 174 38 [some (zrf r), x1] st h Q ↔ Runs 174 39 [some (zrf r), x1] (zrf r :: st) h Q := R_aldnq rfl rfl
theorem s174_39 : Runs 174 39 ls st h Q ↔ Runs 174 40 ls (.int 0 :: st) h Q := R_iconst rfl rfl
theorem s174_40 (ht : tg a = 10) : Runs 174 40 ls (.int i :: .ref a :: st) (n, tg, ln, I, J, O) Q ↔ Runs 174 43 ls st (n, tg, ln, zu I a 1 i, J, O) Q := R_puti rfl rfl rfl rfl rfl rfl ht
theorem s174_43 : Runs 174 43 [some (.ref a), x1] st h Q ↔ Runs 174 44 [some (.ref a), x1] (.ref a :: st) h Q := R_aldn rfl rfl
theorem s174_43q : Runs 174 43 [some (zrf r), x1] st h Q ↔ Runs 174 44 [some (zrf r), x1] (zrf r :: st) h Q := R_aldnq rfl rfl
theorem s174_44 (ht : tg a = 10) : Runs 174 44 ls (.ref a :: st) (n, tg, ln, I, J, O) Q ↔ Runs 174 47 ls (zrf (O a 0) :: st) (n, tg, ln, I, J, O) Q := R_getr rfl rfl rfl rfl ht
theorem s174_47 : Runs 174 47 ls st h Q ↔ Runs 174 48 ls (.int 2 :: st) h Q := R_iconst rfl rfl
theorem s174_48 (ht : tg a = 20) : Runs 174 48 ls (.int i :: .ref a :: st) (n, tg, ln, I, J, O) Q ↔ ((0 ≤ i ∧ i < Int32.ofNat (ln a)) ∧ Runs 174 49 ls (.int (I a i) :: st) (n, tg, ln, I, J, O) Q) := R_iald rfl ht
theorem s174_49 : Runs 174 49 ls [.int i] h Q ↔ Q (some (.int i)) h := R_iret rfl rfl
theorem s177_0 : Runs 177 0 [some (.ref a), x1] st h Q ↔ Runs 177 1 [some (.ref a), x1] (.ref a :: st) h Q := R_aldn rfl rfl
theorem s177_0q : Runs 177 0 [some (zrf r), x1] st h Q ↔ Runs 177 1 [some (zrf r), x1] (zrf r :: st) h Q := R_aldnq rfl rfl
theorem s177_1 : Runs 177 1 [x0, some (.int i)] st h Q ↔ Runs 177 2 [x0, some (.int i)] (.int i :: st) h Q := R_ildn rfl rfl
theorem s177_2 : Runs 177 2 ls (.int i :: st) h Q ↔ Runs 177 3 ls (.long i.toInt64 :: st) h Q := R_i2l rfl
theorem s177_3 (ht : tg a = 10) (hs : zsumc st ≤ 8) : Runs 177 3 ls (.long u0 :: .ref a :: st) (n, tg, ln, I, J, O) Q ↔ Runs 151 0 [some (.ref a), some (.long u0), none] [] (n, tg, ln, I, J, O) (fun v h2 => Runs 177 6 ls (v.toList ++ st) h2 Q) := R_callv (a := a) (rest := st) rfl rfl rfl rfl rfl rfl rfl ht hs
theorem s177_6 : Runs 177 6 ls (.int i :: st) h Q ↔ if ¬ i = 0 then Runs 177 12 ls st h Q else Runs 177 9 ls st h Q := R_ifne rfl rfl
theorem s177_9 : Runs 177 9 ls st h Q ↔ Runs 177 11 ls (.int (-2) :: st) h Q := R_bipush rfl (by decide)
theorem s177_11 : Runs 177 11 ls [.int i] h Q ↔ Q (some (.int i)) h := R_iret rfl rfl
theorem s177_12 : Runs 177 12 [some (.ref a), x1] st h Q ↔ Runs 177 13 [some (.ref a), x1] (.ref a :: st) h Q := R_aldn rfl rfl
theorem s177_12q : Runs 177 12 [some (zrf r), x1] st h Q ↔ Runs 177 13 [some (zrf r), x1] (zrf r :: st) h Q := R_aldnq rfl rfl
theorem s177_13 : Runs 177 13 ls st h Q ↔ Runs 177 14 ls (.int 0 :: st) h Q := R_iconst rfl rfl
theorem s177_14 : Runs 177 14 [x0, some (.int i)] st h Q ↔ Runs 177 15 [x0, some (.int i)] (.int i :: st) h Q := R_ildn rfl rfl
theorem s177_15 (ht : tg a = 10) (hs : zsumc st ≤ 8) : Runs 177 15 ls (.int i1 :: .int i0 :: .ref a :: st) (n, tg, ln, I, J, O) Q ↔ Runs 153 0 [some (.ref a), some (.int i0), some (.int i1), none, none] [] (n, tg, ln, I, J, O) (fun v h2 => Runs 177 18 ls (v.toList ++ st) h2 Q) := R_callv (a := a) (rest := st) rfl rfl rfl rfl rfl rfl rfl ht hs
theorem s177_18 : Runs 177 18 ls st h Q ↔ Runs 177 19 ls (.int (-1) :: st) h Q := R_iconst rfl rfl
theorem s177_19 : Runs 177 19 ls (.int j :: .int i :: st) h Q ↔ if ¬ i = j then Runs 177 25 ls st h Q else Runs 177 22 ls st h Q := R_icne rfl rfl
theorem s177_22 : Runs 177 22 ls st h Q ↔ Runs 177 24 ls (.int (-4) :: st) h Q := R_bipush rfl (by decide)
theorem s177_24 : Runs 177 24 ls [.int i] h Q ↔ Q (some (.int i)) h := R_iret rfl rfl
theorem s177_25 : Runs 177 25 [some (.ref a), x1] st h Q ↔ Runs 177 26 [some (.ref a), x1] (.ref a :: st) h Q := R_aldn rfl rfl
theorem s177_25q : Runs 177 25 [some (zrf r), x1] st h Q ↔ Runs 177 26 [some (zrf r), x1] (zrf r :: st) h Q := R_aldnq rfl rfl
theorem s177_26 (ht : tg a = 10) (hs : zsumc st ≤ 8) : Runs 177 26 ls (.ref a :: st) (n, tg, ln, I, J, O) Q ↔ Runs 175 0 [some (.ref a)] [] (n, tg, ln, I, J, O) (fun v h2 => Runs 177 29 ls (v.toList ++ st) h2 Q) := R_callv (a := a) (rest := st) rfl rfl rfl rfl rfl rfl rfl ht hs
theorem s177_29 : Runs 177 29 [some (.ref a), x1] st h Q ↔ Runs 177 30 [some (.ref a), x1] (.ref a :: st) h Q := R_aldn rfl rfl
theorem s177_29q : Runs 177 29 [some (zrf r), x1] st h Q ↔ Runs 177 30 [some (zrf r), x1] (zrf r :: st) h Q := R_aldnq rfl rfl
theorem s177_30 : Runs 177 30 [x0, some (.int i)] st h Q ↔ Runs 177 31 [x0, some (.int i)] (.int i :: st) h Q := R_ildn rfl rfl
theorem s177_31 : Runs 177 31 ls st h Q ↔ Runs 177 33 ls (.int 60 :: st) h Q := R_bipush rfl (by decide)
theorem s177_33 (ht : tg a = 10) (hs : zsumc st ≤ 8) : Runs 177 33 ls (.int i1 :: .int i0 :: .ref a :: st) (n, tg, ln, I, J, O) Q ↔ Runs 176 0 [some (.ref a), some (.int i0), some (.int i1), none] [] (n, tg, ln, I, J, O) (fun v h2 => Runs 177 36 ls (v.toList ++ st) h2 Q) := R_callv (a := a) (rest := st) rfl rfl rfl rfl rfl rfl rfl ht hs
theorem s177_36 : Runs 177 36 ls [.int i] h Q ↔ Q (some (.int i)) h := R_iret rfl rfl
theorem s178_0 : Runs 178 0 [some (.ref a), x1, x2, x3] st h Q ↔ Runs 178 1 [some (.ref a), x1, x2, x3] (.ref a :: st) h Q := R_aldn rfl rfl
theorem s178_0q : Runs 178 0 [some (zrf r), x1, x2, x3] st h Q ↔ Runs 178 1 [some (zrf r), x1, x2, x3] (zrf r :: st) h Q := R_aldnq rfl rfl
theorem s178_1 : Runs 178 1 [x0, some (.int i), x2, x3] st h Q ↔ Runs 178 2 [x0, some (.int i), x2, x3] (.int i :: st) h Q := R_ildn rfl rfl
theorem s178_2 : Runs 178 2 ls (.int i :: st) h Q ↔ Runs 178 3 ls (.long i.toInt64 :: st) h Q := R_i2l rfl
theorem s178_3 (ht : tg a = 10) (hs : zsumc st ≤ 8) : Runs 178 3 ls (.long u0 :: .ref a :: st) (n, tg, ln, I, J, O) Q ↔ Runs 151 0 [some (.ref a), some (.long u0), none] [] (n, tg, ln, I, J, O) (fun v h2 => Runs 178 6 ls (v.toList ++ st) h2 Q) := R_callv (a := a) (rest := st) rfl rfl rfl rfl rfl rfl rfl ht hs
theorem s178_6 : Runs 178 6 ls (.int i :: st) h Q ↔ if ¬ i = 0 then Runs 178 12 ls st h Q else Runs 178 9 ls st h Q := R_ifne rfl rfl
theorem s178_9 : Runs 178 9 ls st h Q ↔ Runs 178 11 ls (.int (-2) :: st) h Q := R_bipush rfl (by decide)
theorem s178_11 : Runs 178 11 ls [.int i] h Q ↔ Q (some (.int i)) h := R_iret rfl rfl
theorem s178_12 : Runs 178 12 [x0, x1, some (.int i), x3] st h Q ↔ Runs 178 13 [x0, x1, some (.int i), x3] (.int i :: st) h Q := R_ildn rfl rfl
theorem s178_13 : Runs 178 13 ls (.int i :: st) h Q ↔ Runs 178 14 ls (.long i.toInt64 :: st) h Q := R_i2l rfl
theorem s178_14 : Runs 178 14 ls st h Q ↔ Runs 178 15 ls (.long 0 :: st) h Q := R_lconst rfl rfl
theorem s178_15 : Runs 178 15 ls st h Q ↔ Runs 178 18 ls (.long 60 :: st) h Q := R_ldc2 rfl rfl
theorem s178_18 (hs : zsumc st ≤ 8) : Runs 178 18 ls (.long u2 :: .long u1 :: .long u0 :: st) h Q ↔ Runs 127 0 [some (.long u0), none, some (.long u1), none, some (.long u2), none] [] h (fun v h2 => Runs 178 21 ls (v.toList ++ st) h2 Q) := R_calls (rest := st) rfl rfl rfl (by simp) rfl rfl rfl rfl hs
theorem s178_21 : Runs 178 21 ls (.int i :: st) h Q ↔ if ¬ i = 0 then Runs 178 27 ls st h Q else Runs 178 24 ls st h Q := R_ifne rfl rfl
theorem s178_24 : Runs 178 24 ls st h Q ↔ Runs 178 26 ls (.int (-3) :: st) h Q := R_bipush rfl (by decide)
theorem s178_26 : Runs 178 26 ls [.int i] h Q ↔ Q (some (.int i)) h := R_iret rfl rfl
theorem s178_27 : Runs 178 27 [some (.ref a), x1, x2, x3] st h Q ↔ Runs 178 28 [some (.ref a), x1, x2, x3] (.ref a :: st) h Q := R_aldn rfl rfl
theorem s178_27q : Runs 178 27 [some (zrf r), x1, x2, x3] st h Q ↔ Runs 178 28 [some (zrf r), x1, x2, x3] (zrf r :: st) h Q := R_aldnq rfl rfl
theorem s178_28 (ht : tg a = 10) (hs : zsumc st ≤ 8) : Runs 178 28 ls (.ref a :: st) (n, tg, ln, I, J, O) Q ↔ Runs 175 0 [some (.ref a)] [] (n, tg, ln, I, J, O) (fun v h2 => Runs 178 31 ls (v.toList ++ st) h2 Q) := R_callv (a := a) (rest := st) rfl rfl rfl rfl rfl rfl rfl ht hs
theorem s178_31 : Runs 178 31 ls st h Q ↔ Runs 178 32 ls (.int 0 :: st) h Q := R_iconst rfl rfl
theorem s178_32 : Runs 178 32 [x0, x1, x2, x3] (.int i :: st) h Q ↔ Runs 178 33 [x0, x1, zdrop x2, some (.int i)] st h Q := R_istn rfl rfl rfl
theorem s178_33 : Runs 178 33 [x0, x1, x2, some (.int i)] st h Q ↔ Runs 178 34 [x0, x1, x2, some (.int i)] (.int i :: st) h Q := R_ildn rfl rfl
theorem s178_34 : Runs 178 34 [x0, x1, some (.int i), x3] st h Q ↔ Runs 178 35 [x0, x1, some (.int i), x3] (.int i :: st) h Q := R_ildn rfl rfl
theorem s178_35 : Runs 178 35 ls (.int j :: .int i :: st) h Q ↔ if j ≤ i then Runs 178 52 ls st h Q else Runs 178 38 ls st h Q := R_icge rfl rfl
theorem s178_38 : Runs 178 38 [some (.ref a), x1, x2, x3] st h Q ↔ Runs 178 39 [some (.ref a), x1, x2, x3] (.ref a :: st) h Q := R_aldn rfl rfl
theorem s178_38q : Runs 178 38 [some (zrf r), x1, x2, x3] st h Q ↔ Runs 178 39 [some (zrf r), x1, x2, x3] (zrf r :: st) h Q := R_aldnq rfl rfl
theorem s178_39 : Runs 178 39 ls st h Q ↔ Runs 178 42 ls (.int 1080 :: st) h Q := R_sipush rfl (by decide)
theorem s178_42 (ht : tg a = 10) (hs : zsumc st ≤ 8) : Runs 178 42 ls (.int i0 :: .ref a :: st) (n, tg, ln, I, J, O) Q ↔ Runs 163 0 [some (.ref a), some (.int i0), none, none] [] (n, tg, ln, I, J, O) (fun v h2 => Runs 178 45 ls (v.toList ++ st) h2 Q) := R_callv (a := a) (rest := st) rfl rfl rfl rfl rfl rfl rfl ht hs
theorem s178_45 : Runs 178 45 ls (.int i :: st) h Q ↔ Runs 178 46 ls st h Q := R_pop rfl
theorem s178_46 : Runs 178 46 [x0, x1, x2, some (.int i)] st h Q ↔ Runs 178 49 [x0, x1, zdrop x2, some (.int (i + 1))] st h Q := R_iinc rfl rfl rfl rfl rfl
theorem s178_49 : Runs 178 49 ls st h Q ↔ Runs 178 33 ls st h Q := R_goto rfl rfl
theorem s178_52 : Runs 178 52 [some (.ref a), x1, x2, x3] st h Q ↔ Runs 178 53 [some (.ref a), x1, x2, x3] (.ref a :: st) h Q := R_aldn rfl rfl
theorem s178_52q : Runs 178 52 [some (zrf r), x1, x2, x3] st h Q ↔ Runs 178 53 [some (zrf r), x1, x2, x3] (zrf r :: st) h Q := R_aldnq rfl rfl
theorem s178_53 : Runs 178 53 ls st h Q ↔ Runs 178 56 ls (.int 1080 :: st) h Q := R_sipush rfl (by decide)
theorem s178_56 : Runs 178 56 [x0, some (.int i), x2, x3] st h Q ↔ Runs 178 57 [x0, some (.int i), x2, x3] (.int i :: st) h Q := R_ildn rfl rfl
theorem s178_57 (ht : tg a = 10) (hs : zsumc st ≤ 8) : Runs 178 57 ls (.int i1 :: .int i0 :: .ref a :: st) (n, tg, ln, I, J, O) Q ↔ Runs 153 0 [some (.ref a), some (.int i0), some (.int i1), none, none] [] (n, tg, ln, I, J, O) (fun v h2 => Runs 178 60 ls (v.toList ++ st) h2 Q) := R_callv (a := a) (rest := st) rfl rfl rfl rfl rfl rfl rfl ht hs
theorem s178_60 : Runs 178 60 ls [.int i] h Q ↔ Q (some (.int i)) h := R_iret rfl rfl
theorem s179_0 : Runs 179 0 [x0, some (.int i), x2, x3, x4, x5] st h Q ↔ Runs 179 1 [x0, some (.int i), x2, x3, x4, x5] (.int i :: st) h Q := R_ildn rfl rfl
theorem s179_1 : Runs 179 1 ls (.int i :: st) h Q ↔ Runs 179 2 ls (.long i.toInt64 :: st) h Q := R_i2l rfl
theorem s179_2 : Runs 179 2 ls st h Q ↔ Runs 179 3 ls (.long 0 :: st) h Q := R_lconst rfl rfl
theorem s179_3 : Runs 179 3 ls st h Q ↔ Runs 179 6 ls (.long 11 :: st) h Q := R_ldc2 rfl rfl
theorem s179_6 (hs : zsumc st ≤ 8) : Runs 179 6 ls (.long u2 :: .long u1 :: .long u0 :: st) h Q ↔ Runs 127 0 [some (.long u0), none, some (.long u1), none, some (.long u2), none] [] h (fun v h2 => Runs 179 9 ls (v.toList ++ st) h2 Q) := R_calls (rest := st) rfl rfl rfl (by simp) rfl rfl rfl rfl hs
theorem s179_9 : Runs 179 9 ls (.int i :: st) h Q ↔ if ¬ i = 0 then Runs 179 15 ls st h Q else Runs 179 12 ls st h Q := R_ifne rfl rfl
theorem s179_12 : Runs 179 12 ls st h Q ↔ Runs 179 14 ls (.int (-3) :: st) h Q := R_bipush rfl (by decide)
theorem s179_14 : Runs 179 14 ls [.int i] h Q ↔ Q (some (.int i)) h := R_iret rfl rfl
theorem s179_15 : Runs 179 15 [some (.ref a), x1, x2, x3, x4, x5] st h Q ↔ Runs 179 16 [some (.ref a), x1, x2, x3, x4, x5] (.ref a :: st) h Q := R_aldn rfl rfl
theorem s179_15q : Runs 179 15 [some (zrf r), x1, x2, x3, x4, x5] st h Q ↔ Runs 179 16 [some (zrf r), x1, x2, x3, x4, x5] (zrf r :: st) h Q := R_aldnq rfl rfl
theorem s179_16 (ht : tg a = 10) (hs : zsumc st ≤ 8) : Runs 179 16 ls (.ref a :: st) (n, tg, ln, I, J, O) Q ↔ Runs 175 0 [some (.ref a)] [] (n, tg, ln, I, J, O) (fun v h2 => Runs 179 19 ls (v.toList ++ st) h2 Q) := R_callv (a := a) (rest := st) rfl rfl rfl rfl rfl rfl rfl ht hs
theorem s179_19 : Runs 179 19 ls st h Q ↔ Runs 179 20 ls (.int 0 :: st) h Q := R_iconst rfl rfl
theorem s179_20 : Runs 179 20 [x0, x1, x2, x3, x4, x5] (.int i :: st) h Q ↔ Runs 179 21 [x0, zdrop x1, some (.int i), x3, x4, x5] st h Q := R_istn rfl rfl rfl
theorem s179_21 : Runs 179 21 ls st h Q ↔ Runs 179 22 ls (.int (-1) :: st) h Q := R_iconst rfl rfl
theorem s179_22 : Runs 179 22 [x0, x1, x2, x3, x4, x5] (.int i :: st) h Q ↔ Runs 179 23 [x0, x1, zdrop x2, some (.int i), x4, x5] st h Q := R_istn rfl rfl rfl
theorem s179_23 : Runs 179 23 ls st h Q ↔ Runs 179 24 ls (.int 0 :: st) h Q := R_iconst rfl rfl
theorem s179_24 : Runs 179 24 [x0, x1, x2, x3, x4, x5] (.int i :: st) h Q ↔ Runs 179 26 [x0, x1, x2, zdrop x3, some (.int i), x5] st h Q := R_ist rfl rfl rfl
theorem s179_26 : Runs 179 26 [x0, x1, x2, x3, some (.int i), x5] st h Q ↔ Runs 179 28 [x0, x1, x2, x3, some (.int i), x5] (.int i :: st) h Q := R_ild rfl rfl
theorem s179_28 : Runs 179 28 ls st h Q ↔ Runs 179 30 ls (.int 60 :: st) h Q := R_bipush rfl (by decide)
theorem s179_30 : Runs 179 30 ls (.int j :: .int i :: st) h Q ↔ if j ≤ i then Runs 179 82 ls st h Q else Runs 179 33 ls st h Q := R_icge rfl rfl
theorem s179_33 : Runs 179 33 [some (.ref a), x1, x2, x3, x4, x5] st h Q ↔ Runs 179 34 [some (.ref a), x1, x2, x3, x4, x5] (.ref a :: st) h Q := R_aldn rfl rfl
theorem s179_33q : Runs 179 33 [some (zrf r), x1, x2, x3, x4, x5] st h Q ↔ Runs 179 34 [some (zrf r), x1, x2, x3, x4, x5] (zrf r :: st) h Q := R_aldnq rfl rfl
theorem s179_34 : Runs 179 34 ls st h Q ↔ Runs 179 37 ls (.int 1080 :: st) h Q := R_sipush rfl (by decide)
theorem s179_37 (ht : tg a = 10) (hs : zsumc st ≤ 8) : Runs 179 37 ls (.int i0 :: .ref a :: st) (n, tg, ln, I, J, O) Q ↔ Runs 163 0 [some (.ref a), some (.int i0), none, none] [] (n, tg, ln, I, J, O) (fun v h2 => Runs 179 40 ls (v.toList ++ st) h2 Q) := R_callv (a := a) (rest := st) rfl rfl rfl rfl rfl rfl rfl ht hs
theorem s179_40 : Runs 179 40 [x0, x1, x2, x3, x4, x5] (.int i :: st) h Q ↔ Runs 179 42 [x0, x1, x2, x3, zdrop x4, some (.int i)] st h Q := R_ist rfl rfl rfl
theorem s179_42 : Runs 179 42 [x0, x1, x2, x3, x4, some (.int i)] st h Q ↔ Runs 179 44 [x0, x1, x2, x3, x4, some (.int i)] (.int i :: st) h Q := R_ild rfl rfl
theorem s179_44 : Runs 179 44 ls st h Q ↔ Runs 179 46 ls (.int 99 :: st) h Q := R_bipush rfl (by decide)
theorem s179_46 : Runs 179 46 ls (.int j :: .int i :: st) h Q ↔ if i = j then Runs 179 59 ls st h Q else Runs 179 49 ls st h Q := R_iceq rfl rfl
theorem s179_49 : Runs 179 49 [x0, x1, some (.int i), x3, x4, x5] st h Q ↔ Runs 179 50 [x0, x1, some (.int i), x3, x4, x5] (.int i :: st) h Q := R_ildn rfl rfl
theorem s179_50 : Runs 179 50 [x0, some (.int i), x2, x3, x4, x5] st h Q ↔ Runs 179 51 [x0, some (.int i), x2, x3, x4, x5] (.int i :: st) h Q := R_ildn rfl rfl
theorem s179_51 : Runs 179 51 ls (.int j :: .int i :: st) h Q ↔ if ¬ i = j then Runs 179 59 ls st h Q else Runs 179 54 ls st h Q := R_icne rfl rfl
theorem s179_54 : Runs 179 54 [x0, x1, x2, x3, x4, some (.int i)] st h Q ↔ Runs 179 56 [x0, x1, x2, x3, x4, some (.int i)] (.int i :: st) h Q := R_ild rfl rfl
theorem s179_56 : Runs 179 56 ls st h Q ↔ Runs 179 60 ls st h Q := R_goto rfl rfl
theorem s179_59 : Runs 179 59 [x0, x1, x2, some (.int i), x4, x5] st h Q ↔ Runs 179 60 [x0, x1, x2, some (.int i), x4, x5] (.int i :: st) h Q := R_ildn rfl rfl
theorem s179_60 : Runs 179 60 [x0, x1, x2, x3, x4, x5] (.int i :: st) h Q ↔ Runs 179 61 [x0, x1, zdrop x2, some (.int i), x4, x5] st h Q := R_istn rfl rfl rfl
theorem s179_61 : Runs 179 61 [x0, x1, some (.int i), x3, x4, x5] st h Q ↔ Runs 179 62 [x0, x1, some (.int i), x3, x4, x5] (.int i :: st) h Q := R_ildn rfl rfl
theorem s179_62 : Runs 179 62 [x0, x1, x2, x3, x4, some (.int i)] st h Q ↔ Runs 179 64 [x0, x1, x2, x3, x4, some (.int i)] (.int i :: st) h Q := R_ild rfl rfl
theorem s179_64 : Runs 179 64 ls st h Q ↔ Runs 179 66 ls (.int 99 :: st) h Q := R_bipush rfl (by decide)
theorem s179_66 : Runs 179 66 ls (.int j :: .int i :: st) h Q ↔ if ¬ i = j then Runs 179 73 ls st h Q else Runs 179 69 ls st h Q := R_icne rfl rfl
theorem s179_69 : Runs 179 69 ls st h Q ↔ Runs 179 70 ls (.int 0 :: st) h Q := R_iconst rfl rfl
theorem s179_70 : Runs 179 70 ls st h Q ↔ Runs 179 74 ls st h Q := R_goto rfl rfl
theorem s179_73 : Runs 179 73 ls st h Q ↔ Runs 179 74 ls (.int 1 :: st) h Q := R_iconst rfl rfl
theorem s179_74 : Runs 179 74 ls (.int j :: .int i :: st) h Q ↔ Runs 179 75 ls (.int (i + j) :: st) h Q := R_iadd rfl
theorem s179_75 : Runs 179 75 [x0, x1, x2, x3, x4, x5] (.int i :: st) h Q ↔ Runs 179 76 [x0, zdrop x1, some (.int i), x3, x4, x5] st h Q := R_istn rfl rfl rfl
theorem s179_76 : Runs 179 76 [x0, x1, x2, x3, some (.int i), x5] st h Q ↔ Runs 179 79 [x0, x1, x2, zdrop x3, some (.int (i + 1)), x5] st h Q := R_iinc rfl rfl rfl rfl rfl
theorem s179_79 : Runs 179 79 ls st h Q ↔ Runs 179 26 ls st h Q := R_goto rfl rfl
theorem s179_82 : Runs 179 82 [x0, x1, x2, some (.int i), x4, x5] st h Q ↔ Runs 179 83 [x0, x1, x2, some (.int i), x4, x5] (.int i :: st) h Q := R_ildn rfl rfl
theorem s179_83 : Runs 179 83 ls [.int i] h Q ↔ Q (some (.int i)) h := R_iret rfl rfl
theorem s181_0 : Runs 181 0 [x0, some (.int i), x2, x3, x4] st h Q ↔ Runs 181 1 [x0, some (.int i), x2, x3, x4] (.int i :: st) h Q := R_ildn rfl rfl
theorem s181_1 : Runs 181 1 ls (.int i :: st) h Q ↔ Runs 181 2 ls (.long i.toInt64 :: st) h Q := R_i2l rfl
theorem s181_2 : Runs 181 2 ls st h Q ↔ Runs 181 3 ls (.long 0 :: st) h Q := R_lconst rfl rfl
theorem s181_3 : Runs 181 3 ls st h Q ↔ Runs 181 6 ls (.long 4 :: st) h Q := R_ldc2 rfl rfl
theorem s181_6 (hs : zsumc st ≤ 8) : Runs 181 6 ls (.long u2 :: .long u1 :: .long u0 :: st) h Q ↔ Runs 127 0 [some (.long u0), none, some (.long u1), none, some (.long u2), none] [] h (fun v h2 => Runs 181 9 ls (v.toList ++ st) h2 Q) := R_calls (rest := st) rfl rfl rfl (by simp) rfl rfl rfl rfl hs
theorem s181_9 : Runs 181 9 ls (.int i :: st) h Q ↔ if i = 0 then Runs 181 24 ls st h Q else Runs 181 12 ls st h Q := R_ifeq rfl rfl
theorem s181_12 : Runs 181 12 [x0, x1, some (.int i), x3, x4] st h Q ↔ Runs 181 13 [x0, x1, some (.int i), x3, x4] (.int i :: st) h Q := R_ildn rfl rfl
theorem s181_13 : Runs 181 13 ls (.int i :: st) h Q ↔ Runs 181 14 ls (.long i.toInt64 :: st) h Q := R_i2l rfl
theorem s181_14 : Runs 181 14 ls st h Q ↔ Runs 181 15 ls (.long 0 :: st) h Q := R_lconst rfl rfl
theorem s181_15 : Runs 181 15 ls st h Q ↔ Runs 181 18 ls (.long 99 :: st) h Q := R_ldc2 rfl rfl
theorem s181_18 (hs : zsumc st ≤ 8) : Runs 181 18 ls (.long u2 :: .long u1 :: .long u0 :: st) h Q ↔ Runs 127 0 [some (.long u0), none, some (.long u1), none, some (.long u2), none] [] h (fun v h2 => Runs 181 21 ls (v.toList ++ st) h2 Q) := R_calls (rest := st) rfl rfl rfl (by simp) rfl rfl rfl rfl hs
theorem s181_21 : Runs 181 21 ls (.int i :: st) h Q ↔ if ¬ i = 0 then Runs 181 27 ls st h Q else Runs 181 24 ls st h Q := R_ifne rfl rfl
theorem s181_24 : Runs 181 24 ls st h Q ↔ Runs 181 26 ls (.int (-3) :: st) h Q := R_bipush rfl (by decide)
theorem s181_26 : Runs 181 26 ls [.int i] h Q ↔ Q (some (.int i)) h := R_iret rfl rfl
theorem s181_27 : Runs 181 27 [some (.ref a), x1, x2, x3, x4] st h Q ↔ Runs 181 28 [some (.ref a), x1, x2, x3, x4] (.ref a :: st) h Q := R_aldn rfl rfl
theorem s181_27q : Runs 181 27 [some (zrf r), x1, x2, x3, x4] st h Q ↔ Runs 181 28 [some (zrf r), x1, x2, x3, x4] (zrf r :: st) h Q := R_aldnq rfl rfl
theorem s181_28 (ht : tg a = 10) : Runs 181 28 ls (.ref a :: st) (n, tg, ln, I, J, O) Q ↔ Runs 181 31 ls (zrf (O a 0) :: st) (n, tg, ln, I, J, O) Q := R_getr rfl rfl rfl rfl ht
theorem s181_31 : Runs 181 31 ls st h Q ↔ Runs 181 32 ls (.int 0 :: st) h Q := R_iconst rfl rfl
theorem s181_32 (ht : tg a = 20) : Runs 181 32 ls (.int i :: .ref a :: st) (n, tg, ln, I, J, O) Q ↔ ((0 ≤ i ∧ i < Int32.ofNat (ln a)) ∧ Runs 181 33 ls (.int (I a i) :: st) (n, tg, ln, I, J, O) Q) := R_iald rfl ht
theorem s181_33 : Runs 181 33 ls st h Q ↔ Runs 181 35 ls (.int 12 :: st) h Q := R_bipush rfl (by decide)
theorem s181_35 : Runs 181 35 ls (.int j :: .int i :: st) h Q ↔ if ¬ i = j then Runs 181 41 ls st h Q else Runs 181 38 ls st h Q := R_icne rfl rfl
theorem s181_38 : Runs 181 38 ls st h Q ↔ Runs 181 40 ls (.int (-5) :: st) h Q := R_bipush rfl (by decide)
theorem s181_40 : Runs 181 40 ls [.int i] h Q ↔ Q (some (.int i)) h := R_iret rfl rfl
theorem s181_41 : Runs 181 41 [some (.ref a), x1, x2, x3, x4] st h Q ↔ Runs 181 42 [some (.ref a), x1, x2, x3, x4] (.ref a :: st) h Q := R_aldn rfl rfl
theorem s181_41q : Runs 181 41 [some (zrf r), x1, x2, x3, x4] st h Q ↔ Runs 181 42 [some (zrf r), x1, x2, x3, x4] (zrf r :: st) h Q := R_aldnq rfl rfl
theorem s181_42 : Runs 181 42 ls st h Q ↔ Runs 181 43 ls (.int 0 :: st) h Q := R_iconst rfl rfl
theorem s181_43 : Runs 181 43 [x0, some (.int i), x2, x3, x4] st h Q ↔ Runs 181 44 [x0, some (.int i), x2, x3, x4] (.int i :: st) h Q := R_ildn rfl rfl
theorem s181_44 : Runs 181 44 [x0, x1, some (.int i), x3, x4] st h Q ↔ Runs 181 45 [x0, x1, some (.int i), x3, x4] (.int i :: st) h Q := R_ildn rfl rfl
theorem s181_45 (ht : tg a = 10) (hs : zsumc st ≤ 8) : Runs 181 45 ls (.int i2 :: .int i1 :: .int i0 :: .ref a :: st) (n, tg, ln, I, J, O) Q ↔ Runs 180 0 [some (.ref a), some (.int i0), some (.int i1), some (.int i2)] [] (n, tg, ln, I, J, O) (fun v h2 => Runs 181 48 ls (v.toList ++ st) h2 Q) := R_callv (a := a) (rest := st) rfl rfl rfl rfl rfl rfl rfl ht hs
theorem s181_48 : Runs 181 48 [x0, x1, x2, x3, x4] (.int i :: st) h Q ↔ Runs 181 49 [x0, x1, zdrop x2, some (.int i), x4] st h Q := R_istn rfl rfl rfl
theorem s181_49 : Runs 181 49 [some (.ref a), x1, x2, x3, x4] st h Q ↔ Runs 181 50 [some (.ref a), x1, x2, x3, x4] (.ref a :: st) h Q := R_aldn rfl rfl
theorem s181_49q : Runs 181 49 [some (zrf r), x1, x2, x3, x4] st h Q ↔ Runs 181 50 [some (zrf r), x1, x2, x3, x4] (zrf r :: st) h Q := R_aldnq rfl rfl
theorem s181_50 : Runs 181 50 ls st h Q ↔ Runs 181 51 ls (.int 1 :: st) h Q := R_iconst rfl rfl
theorem s181_51 : Runs 181 51 [x0, some (.int i), x2, x3, x4] st h Q ↔ Runs 181 52 [x0, some (.int i), x2, x3, x4] (.int i :: st) h Q := R_ildn rfl rfl
theorem s181_52 : Runs 181 52 [x0, x1, some (.int i), x3, x4] st h Q ↔ Runs 181 53 [x0, x1, some (.int i), x3, x4] (.int i :: st) h Q := R_ildn rfl rfl
theorem s181_53 (ht : tg a = 10) (hs : zsumc st ≤ 8) : Runs 181 53 ls (.int i2 :: .int i1 :: .int i0 :: .ref a :: st) (n, tg, ln, I, J, O) Q ↔ Runs 180 0 [some (.ref a), some (.int i0), some (.int i1), some (.int i2)] [] (n, tg, ln, I, J, O) (fun v h2 => Runs 181 56 ls (v.toList ++ st) h2 Q) := R_callv (a := a) (rest := st) rfl rfl rfl rfl rfl rfl rfl ht hs
theorem s181_56 : Runs 181 56 [x0, x1, x2, x3, x4] (.int i :: st) h Q ↔ Runs 181 58 [x0, x1, x2, zdrop x3, some (.int i)] st h Q := R_ist rfl rfl rfl
theorem s181_58 : Runs 181 58 [x0, x1, x2, some (.int i), x4] st h Q ↔ Runs 181 59 [x0, x1, x2, some (.int i), x4] (.int i :: st) h Q := R_ildn rfl rfl
theorem s181_59 : Runs 181 59 ls st h Q ↔ Runs 181 60 ls (.int (-1) :: st) h Q := R_iconst rfl rfl
theorem s181_60 : Runs 181 60 ls (.int j :: .int i :: st) h Q ↔ if ¬ i = j then Runs 181 75 ls st h Q else Runs 181 63 ls st h Q := R_icne rfl rfl
theorem s181_63 : Runs 181 63 [x0, x1, x2, x3, some (.int i)] st h Q ↔ Runs 181 65 [x0, x1, x2, x3, some (.int i)] (.int i :: st) h Q := R_ild rfl rfl
theorem s181_65 : Runs 181 65 ls st h Q ↔ Runs 181 66 ls (.int (-1) :: st) h Q := R_iconst rfl rfl
theorem s181_66 : Runs 181 66 ls (.int j :: .int i :: st) h Q ↔ if ¬ i = j then Runs 181 73 ls st h Q else Runs 181 69 ls st h Q := R_icne rfl rfl
theorem s181_69 : Runs 181 69 ls st h Q ↔ Runs 181 70 ls (.int (-1) :: st) h Q := R_iconst rfl rfl
theorem s181_70 : Runs 181 70 ls st h Q ↔ Runs 181 74 ls st h Q := R_goto rfl rfl
theorem s181_73 : Runs 181 73 ls st h Q ↔ Runs 181 74 ls (.int 1 :: st) h Q := R_iconst rfl rfl
theorem s181_74 : Runs 181 74 ls [.int i] h Q ↔ Q (some (.int i)) h := R_iret rfl rfl
theorem s181_75 : Runs 181 75 [x0, x1, x2, x3, some (.int i)] st h Q ↔ Runs 181 77 [x0, x1, x2, x3, some (.int i)] (.int i :: st) h Q := R_ild rfl rfl
theorem s181_77 : Runs 181 77 ls st h Q ↔ Runs 181 78 ls (.int (-1) :: st) h Q := R_iconst rfl rfl
theorem s181_78 : Runs 181 78 ls (.int j :: .int i :: st) h Q ↔ if i = j then Runs 181 91 ls st h Q else Runs 181 81 ls st h Q := R_iceq rfl rfl
theorem s181_81 : Runs 181 81 [x0, x1, x2, x3, some (.int i)] st h Q ↔ Runs 181 83 [x0, x1, x2, x3, some (.int i)] (.int i :: st) h Q := R_ild rfl rfl
theorem s181_83 : Runs 181 83 [x0, x1, x2, some (.int i), x4] st h Q ↔ Runs 181 84 [x0, x1, x2, some (.int i), x4] (.int i :: st) h Q := R_ildn rfl rfl
theorem s181_84 : Runs 181 84 ls (.int j :: .int i :: st) h Q ↔ if j ≤ i then Runs 181 91 ls st h Q else Runs 181 87 ls st h Q := R_icge rfl rfl
theorem s181_87 : Runs 181 87 ls st h Q ↔ Runs 181 88 ls (.int 1 :: st) h Q := R_iconst rfl rfl
theorem s181_88 : Runs 181 88 ls st h Q ↔ Runs 181 92 ls st h Q := R_goto rfl rfl
theorem s181_91 : Runs 181 91 ls st h Q ↔ Runs 181 92 ls (.int 0 :: st) h Q := R_iconst rfl rfl
theorem s181_92 : Runs 181 92 ls [.int i] h Q ↔ Q (some (.int i)) h := R_iret rfl rfl
theorem s183_0 : Runs 183 0 [some (.ref a), x1, x2, x3, x4, x5] st h Q ↔ Runs 183 1 [some (.ref a), x1, x2, x3, x4, x5] (.ref a :: st) h Q := R_aldn rfl rfl
theorem s183_0q : Runs 183 0 [some (zrf r), x1, x2, x3, x4, x5] st h Q ↔ Runs 183 1 [some (zrf r), x1, x2, x3, x4, x5] (zrf r :: st) h Q := R_aldnq rfl rfl
theorem s183_1 : Runs 183 1 [x0, some (.int i), x2, x3, x4, x5] st h Q ↔ Runs 183 2 [x0, some (.int i), x2, x3, x4, x5] (.int i :: st) h Q := R_ildn rfl rfl
theorem s183_2 : Runs 183 2 ls (.int i :: st) h Q ↔ Runs 183 3 ls (.long i.toInt64 :: st) h Q := R_i2l rfl
theorem s183_3 (ht : tg a = 10) (hs : zsumc st ≤ 8) : Runs 183 3 ls (.long u0 :: .ref a :: st) (n, tg, ln, I, J, O) Q ↔ Runs 151 0 [some (.ref a), some (.long u0), none] [] (n, tg, ln, I, J, O) (fun v h2 => Runs 183 6 ls (v.toList ++ st) h2 Q) := R_callv (a := a) (rest := st) rfl rfl rfl rfl rfl rfl rfl ht hs
theorem s183_6 : Runs 183 6 ls (.int i :: st) h Q ↔ if ¬ i = 0 then Runs 183 12 ls st h Q else Runs 183 9 ls st h Q := R_ifne rfl rfl
theorem s183_9 : Runs 183 9 ls st h Q ↔ Runs 183 11 ls (.int (-2) :: st) h Q := R_bipush rfl (by decide)
theorem s183_11 : Runs 183 11 ls [.int i] h Q ↔ Q (some (.int i)) h := R_iret rfl rfl
theorem s183_12 : Runs 183 12 [x0, x1, some (.int i), x3, x4, x5] st h Q ↔ Runs 183 13 [x0, x1, some (.int i), x3, x4, x5] (.int i :: st) h Q := R_ildn rfl rfl
theorem s183_13 : Runs 183 13 ls (.int i :: st) h Q ↔ Runs 183 14 ls (.long i.toInt64 :: st) h Q := R_i2l rfl
theorem s183_14 : Runs 183 14 ls st h Q ↔ Runs 183 15 ls (.long 1 :: st) h Q := R_lconst rfl rfl
theorem s183_15 : Runs 183 15 ls st h Q ↔ Runs 183 18 ls (.long 60 :: st) h Q := R_ldc2 rfl rfl
theorem s183_18 (hs : zsumc st ≤ 8) : Runs 183 18 ls (.long u2 :: .long u1 :: .long u0 :: st) h Q ↔ Runs 127 0 [some (.long u0), none, some (.long u1), none, some (.long u2), none] [] h (fun v h2 => Runs 183 21 ls (v.toList ++ st) h2 Q) := R_calls (rest := st) rfl rfl rfl (by simp) rfl rfl rfl rfl hs
theorem s183_21 : Runs 183 21 ls (.int i :: st) h Q ↔ if ¬ i = 0 then Runs 183 27 ls st h Q else Runs 183 24 ls st h Q := R_ifne rfl rfl
theorem s183_24 : Runs 183 24 ls st h Q ↔ Runs 183 26 ls (.int (-3) :: st) h Q := R_bipush rfl (by decide)
theorem s183_26 : Runs 183 26 ls [.int i] h Q ↔ Q (some (.int i)) h := R_iret rfl rfl
theorem s183_27 : Runs 183 27 [some (.ref a), x1, x2, x3, x4, x5] st h Q ↔ Runs 183 28 [some (.ref a), x1, x2, x3, x4, x5] (.ref a :: st) h Q := R_aldn rfl rfl
theorem s183_27q : Runs 183 27 [some (zrf r), x1, x2, x3, x4, x5] st h Q ↔ Runs 183 28 [some (zrf r), x1, x2, x3, x4, x5] (zrf r :: st) h Q := R_aldnq rfl rfl
theorem s183_28 : Runs 183 28 ls st h Q ↔ Runs 183 29 ls (.int 0 :: st) h Q := R_iconst rfl rfl
theorem s183_29 : Runs 183 29 [x0, some (.int i), x2, x3, x4, x5] st h Q ↔ Runs 183 30 [x0, some (.int i), x2, x3, x4, x5] (.int i :: st) h Q := R_ildn rfl rfl
theorem s183_30 (ht : tg a = 10) (hs : zsumc st ≤ 8) : Runs 183 30 ls (.int i1 :: .int i0 :: .ref a :: st) (n, tg, ln, I, J, O) Q ↔ Runs 153 0 [some (.ref a), some (.int i0), some (.int i1), none, none] [] (n, tg, ln, I, J, O) (fun v h2 => Runs 183 33 ls (v.toList ++ st) h2 Q) := R_callv (a := a) (rest := st) rfl rfl rfl rfl rfl rfl rfl ht hs
theorem s183_33 : Runs 183 33 ls st h Q ↔ Runs 183 34 ls (.int (-1) :: st) h Q := R_iconst rfl rfl
theorem s183_34 : Runs 183 34 ls (.int j :: .int i :: st) h Q ↔ if ¬ i = j then Runs 183 40 ls st h Q else Runs 183 37 ls st h Q := R_icne rfl rfl
theorem s183_37 : Runs 183 37 ls st h Q ↔ Runs 183 39 ls (.int (-4) :: st) h Q := R_bipush rfl (by decide)
theorem s183_39 : Runs 183 39 ls [.int i] h Q ↔ Q (some (.int i)) h := R_iret rfl rfl
theorem s183_40 : Runs 183 40 ls st h Q ↔ Runs 183 41 ls (.int 0 :: st) h Q := R_iconst rfl rfl
theorem s183_41 : Runs 183 41 [x0, x1, x2, x3, x4, x5] (.int i :: st) h Q ↔ Runs 183 42 [x0, x1, zdrop x2, some (.int i), x4, x5] st h Q := R_istn rfl rfl rfl
theorem s183_42 : Runs 183 42 ls st h Q ↔ Runs 183 43 ls (.int 0 :: st) h Q := R_iconst rfl rfl
theorem s183_43 : Runs 183 43 [x0, x1, x2, x3, x4, x5] (.int i :: st) h Q ↔ Runs 183 45 [x0, x1, x2, zdrop x3, some (.int i), x5] st h Q := R_ist rfl rfl rfl
theorem s183_45 : Runs 183 45 [x0, x1, x2, x3, some (.int i), x5] st h Q ↔ Runs 183 47 [x0, x1, x2, x3, some (.int i), x5] (.int i :: st) h Q := R_ild rfl rfl
theorem s183_47 : Runs 183 47 [some (.ref a), x1, x2, x3, x4, x5] st h Q ↔ Runs 183 48 [some (.ref a), x1, x2, x3, x4, x5] (.ref a :: st) h Q := R_aldn rfl rfl
theorem s183_47q : Runs 183 47 [some (zrf r), x1, x2, x3, x4, x5] st h Q ↔ Runs 183 48 [some (zrf r), x1, x2, x3, x4, x5] (zrf r :: st) h Q := R_aldnq rfl rfl
theorem s183_48 (ht : tg a = 10) : Runs 183 48 ls (.ref a :: st) (n, tg, ln, I, J, O) Q ↔ Runs 183 51 ls (zrf (O a 0) :: st) (n, tg, ln, I, J, O) Q := R_getr rfl rfl rfl rfl ht
theorem s183_51 : Runs 183 51 ls st h Q ↔ Runs 183 52 ls (.int 0 :: st) h Q := R_iconst rfl rfl
theorem s183_52 (ht : tg a = 20) : Runs 183 52 ls (.int i :: .ref a :: st) (n, tg, ln, I, J, O) Q ↔ ((0 ≤ i ∧ i < Int32.ofNat (ln a)) ∧ Runs 183 53 ls (.int (I a i) :: st) (n, tg, ln, I, J, O) Q) := R_iald rfl ht
theorem s183_53 : Runs 183 53 ls (.int j :: .int i :: st) h Q ↔ if j ≤ i then Runs 183 90 ls st h Q else Runs 183 56 ls st h Q := R_icge rfl rfl
theorem s183_56 : Runs 183 56 [x0, x1, x2, some (.int i), x4, x5] st h Q ↔ Runs 183 57 [x0, x1, x2, some (.int i), x4, x5] (.int i :: st) h Q := R_ildn rfl rfl
theorem s183_57 : Runs 183 57 [x0, x1, x2, x3, some (.int i), x5] st h Q ↔ Runs 183 59 [x0, x1, x2, x3, some (.int i), x5] (.int i :: st) h Q := R_ild rfl rfl
theorem s183_59 : Runs 183 59 [x0, some (.int i), x2, x3, x4, x5] st h Q ↔ Runs 183 60 [x0, some (.int i), x2, x3, x4, x5] (.int i :: st) h Q := R_ildn rfl rfl
theorem s183_60 : Runs 183 60 ls (.int j :: .int i :: st) h Q ↔ if i = j then Runs 183 81 ls st h Q else Runs 183 63 ls st h Q := R_iceq rfl rfl
theorem s183_63 : Runs 183 63 [some (.ref a), x1, x2, x3, x4, x5] st h Q ↔ Runs 183 64 [some (.ref a), x1, x2, x3, x4, x5] (.ref a :: st) h Q := R_aldn rfl rfl
theorem s183_63q : Runs 183 63 [some (zrf r), x1, x2, x3, x4, x5] st h Q ↔ Runs 183 64 [some (zrf r), x1, x2, x3, x4, x5] (zrf r :: st) h Q := R_aldnq rfl rfl
theorem s183_64 : Runs 183 64 ls st h Q ↔ Runs 183 65 ls (.int 0 :: st) h Q := R_iconst rfl rfl
theorem s183_65 : Runs 183 65 [x0, x1, x2, x3, some (.int i), x5] st h Q ↔ Runs 183 67 [x0, x1, x2, x3, some (.int i), x5] (.int i :: st) h Q := R_ild rfl rfl
theorem s183_67 (ht : tg a = 10) (hs : zsumc st ≤ 8) : Runs 183 67 ls (.int i1 :: .int i0 :: .ref a :: st) (n, tg, ln, I, J, O) Q ↔ Runs 153 0 [some (.ref a), some (.int i0), some (.int i1), none, none] [] (n, tg, ln, I, J, O) (fun v h2 => Runs 183 70 ls (v.toList ++ st) h2 Q) := R_callv (a := a) (rest := st) rfl rfl rfl rfl rfl rfl rfl ht hs
theorem s183_70 : Runs 183 70 ls st h Q ↔ Runs 183 71 ls (.int (-1) :: st) h Q := R_iconst rfl rfl
theorem s183_71 : Runs 183 71 ls (.int j :: .int i :: st) h Q ↔ if i = j then Runs 183 81 ls st h Q else Runs 183 74 ls st h Q := R_iceq rfl rfl
theorem s183_74 : Runs 183 74 ls st h Q ↔ Runs 183 75 ls (.int 1 :: st) h Q := R_iconst rfl rfl
theorem s183_75 : Runs 183 75 [x0, x1, x2, x3, some (.int i), x5] st h Q ↔ Runs 183 77 [x0, x1, x2, x3, some (.int i), x5] (.int i :: st) h Q := R_ild rfl rfl
theorem s183_77 : Runs 183 77 ls (.int j :: .int i :: st) h Q ↔ Runs 183 78 ls (.int (i <<< (j &&& 31)) :: st) h Q := R_ishl rfl
theorem s183_78 : Runs 183 78 ls st h Q ↔ Runs 183 82 ls st h Q := R_goto rfl rfl
theorem s183_81 : Runs 183 81 ls st h Q ↔ Runs 183 82 ls (.int 0 :: st) h Q := R_iconst rfl rfl
theorem s183_82 : Runs 183 82 ls (.int j :: .int i :: st) h Q ↔ Runs 183 83 ls (.int (i ||| j) :: st) h Q := R_ior rfl
theorem s183_83 : Runs 183 83 [x0, x1, x2, x3, x4, x5] (.int i :: st) h Q ↔ Runs 183 84 [x0, x1, zdrop x2, some (.int i), x4, x5] st h Q := R_istn rfl rfl rfl
theorem s183_84 : Runs 183 84 [x0, x1, x2, x3, some (.int i), x5] st h Q ↔ Runs 183 87 [x0, x1, x2, zdrop x3, some (.int (i + 1)), x5] st h Q := R_iinc rfl rfl rfl rfl rfl
theorem s183_87 : Runs 183 87 ls st h Q ↔ Runs 183 45 ls st h Q := R_goto rfl rfl
theorem s183_90 : Runs 183 90 ls st h Q ↔ Runs 183 91 ls (.int 0 :: st) h Q := R_iconst rfl rfl
theorem s183_91 : Runs 183 91 [x0, x1, x2, x3, x4, x5] (.int i :: st) h Q ↔ Runs 183 93 [x0, x1, x2, zdrop x3, some (.int i), x5] st h Q := R_ist rfl rfl rfl
theorem s183_93 : Runs 183 93 [x0, x1, x2, x3, some (.int i), x5] st h Q ↔ Runs 183 95 [x0, x1, x2, x3, some (.int i), x5] (.int i :: st) h Q := R_ild rfl rfl
theorem s183_95 : Runs 183 95 ls st h Q ↔ Runs 183 96 ls (.int 3 :: st) h Q := R_iconst rfl rfl
theorem s183_96 : Runs 183 96 ls (.int j :: .int i :: st) h Q ↔ if j ≤ i then Runs 183 153 ls st h Q else Runs 183 99 ls st h Q := R_icge rfl rfl
theorem s183_99 : Runs 183 99 ls st h Q ↔ Runs 183 100 ls (.int 0 :: st) h Q := R_iconst rfl rfl
theorem s183_100 : Runs 183 100 [x0, x1, x2, x3, x4, x5] (.int i :: st) h Q ↔ Runs 183 102 [x0, x1, x2, x3, zdrop x4, some (.int i)] st h Q := R_ist rfl rfl rfl
theorem s183_102 : Runs 183 102 [x0, x1, x2, x3, x4, some (.int i)] st h Q ↔ Runs 183 104 [x0, x1, x2, x3, x4, some (.int i)] (.int i :: st) h Q := R_ild rfl rfl
theorem s183_104 : Runs 183 104 [x0, x1, x2, some (.int i), x4, x5] st h Q ↔ Runs 183 105 [x0, x1, x2, some (.int i), x4, x5] (.int i :: st) h Q := R_ildn rfl rfl
theorem s183_105 : Runs 183 105 ls (.int j :: .int i :: st) h Q ↔ if j < i then Runs 183 147 ls st h Q else Runs 183 108 ls st h Q := R_icgt rfl rfl
theorem s183_108 : Runs 183 108 [x0, x1, x2, x3, x4, some (.int i)] st h Q ↔ Runs 183 110 [x0, x1, x2, x3, x4, some (.int i)] (.int i :: st) h Q := R_ild rfl rfl
theorem s183_110 : Runs 183 110 [x0, x1, x2, some (.int i), x4, x5] st h Q ↔ Runs 183 111 [x0, x1, x2, some (.int i), x4, x5] (.int i :: st) h Q := R_ildn rfl rfl
theorem s183_111 : Runs 183 111 ls st h Q ↔ Runs 183 112 ls (.int (-1) :: st) h Q := R_iconst rfl rfl
theorem s183_112 : Runs 183 112 ls (.int j :: .int i :: st) h Q ↔ Runs 183 113 ls (.int (i ^^^ j) :: st) h Q := R_ixor rfl
theorem s183_113 : Runs 183 113 ls (.int j :: .int i :: st) h Q ↔ Runs 183 114 ls (.int (i &&& j) :: st) h Q := R_iand rfl
theorem s183_114 : Runs 183 114 ls (.int i :: st) h Q ↔ if ¬ i = 0 then Runs 183 141 ls st h Q else Runs 183 117 ls st h Q := R_ifne rfl rfl
theorem s183_117 : Runs 183 117 [x0, x1, x2, x3, x4, some (.int i)] st h Q ↔ Runs 183 119 [x0, x1, x2, x3, x4, some (.int i)] (.int i :: st) h Q := R_ild rfl rfl
theorem s183_119 (hs : zsumc st ≤ 8) : Runs 183 119 ls (.int i0 :: st) h Q ↔ Runs 129 0 [some (.int i0), none, none] [] h (fun v h2 => Runs 183 122 ls (v.toList ++ st) h2 Q) := R_calls (rest := st) rfl rfl rfl (by simp) rfl rfl rfl rfl hs
theorem s183_122 : Runs 183 122 [x0, x1, x2, x3, some (.int i), x5] st h Q ↔ Runs 183 124 [x0, x1, x2, x3, some (.int i), x5] (.int i :: st) h Q := R_ild rfl rfl
theorem s183_124 : Runs 183 124 ls (.int j :: .int i :: st) h Q ↔ if ¬ i = j then Runs 183 141 ls st h Q else Runs 183 127 ls st h Q := R_icne rfl rfl
theorem s183_127 : Runs 183 127 [some (.ref a), x1, x2, x3, x4, x5] st h Q ↔ Runs 183 128 [some (.ref a), x1, x2, x3, x4, x5] (.ref a :: st) h Q := R_aldn rfl rfl
theorem s183_127q : Runs 183 127 [some (zrf r), x1, x2, x3, x4, x5] st h Q ↔ Runs 183 128 [some (zrf r), x1, x2, x3, x4, x5] (zrf r :: st) h Q := R_aldnq rfl rfl
theorem s183_128 : Runs 183 128 [x0, some (.int i), x2, x3, x4, x5] st h Q ↔ Runs 183 129 [x0, some (.int i), x2, x3, x4, x5] (.int i :: st) h Q := R_ildn rfl rfl
theorem s183_129 : Runs 183 129 [x0, x1, some (.int i), x3, x4, x5] st h Q ↔ Runs 183 130 [x0, x1, some (.int i), x3, x4, x5] (.int i :: st) h Q := R_ildn rfl rfl
theorem s183_130 : Runs 183 130 [x0, x1, x2, x3, x4, some (.int i)] st h Q ↔ Runs 183 132 [x0, x1, x2, x3, x4, some (.int i)] (.int i :: st) h Q := R_ild rfl rfl
theorem s183_132 (ht : tg a = 10) (hs : zsumc st ≤ 8) : Runs 183 132 ls (.int i2 :: .int i1 :: .int i0 :: .ref a :: st) (n, tg, ln, I, J, O) Q ↔ Runs 182 0 [some (.ref a), some (.int i0), some (.int i1), some (.int i2), none] [] (n, tg, ln, I, J, O) (fun v h2 => Runs 183 135 ls (v.toList ++ st) h2 Q) := R_callv (a := a) (rest := st) rfl rfl rfl rfl rfl rfl rfl ht hs
theorem s183_135 : Runs 183 135 ls (.int i :: st) h Q ↔ if i = 0 then Runs 183 141 ls st h Q else Runs 183 138 ls st h Q := R_ifeq rfl rfl
theorem s183_138 : Runs 183 138 [x0, x1, x2, x3, x4, some (.int i)] st h Q ↔ Runs 183 140 [x0, x1, x2, x3, x4, some (.int i)] (.int i :: st) h Q := R_ild rfl rfl
theorem s183_140 : Runs 183 140 ls [.int i] h Q ↔ Q (some (.int i)) h := R_iret rfl rfl
theorem s183_141 : Runs 183 141 [x0, x1, x2, x3, x4, some (.int i)] st h Q ↔ Runs 183 144 [x0, x1, x2, x3, zdrop x4, some (.int (i + 1))] st h Q := R_iinc rfl rfl rfl rfl rfl
theorem s183_144 : Runs 183 144 ls st h Q ↔ Runs 183 102 ls st h Q := R_goto rfl rfl
theorem s183_147 : Runs 183 147 [x0, x1, x2, x3, some (.int i), x5] st h Q ↔ Runs 183 150 [x0, x1, x2, zdrop x3, some (.int (i + 1)), x5] st h Q := R_iinc rfl rfl rfl rfl rfl
theorem s183_150 : Runs 183 150 ls st h Q ↔ Runs 183 93 ls st h Q := R_goto rfl rfl
theorem s183_153 : Runs 183 153 ls st h Q ↔ Runs 183 154 ls (.int (-1) :: st) h Q := R_iconst rfl rfl
theorem s183_154 : Runs 183 154 ls [.int i] h Q ↔ Q (some (.int i)) h := R_iret rfl rfl
theorem s184_0 : Runs 184 0 [x0, some (.int i), x2, x3, x4, x5] st h Q ↔ Runs 184 1 [x0, some (.int i), x2, x3, x4, x5] (.int i :: st) h Q := R_ildn rfl rfl
theorem s184_1 : Runs 184 1 ls (.int i :: st) h Q ↔ Runs 184 2 ls (.long i.toInt64 :: st) h Q := R_i2l rfl
theorem s184_2 : Runs 184 2 ls st h Q ↔ Runs 184 3 ls (.long 0 :: st) h Q := R_lconst rfl rfl
theorem s184_3 : Runs 184 3 ls st h Q ↔ Runs 184 6 ls (.long 2 :: st) h Q := R_ldc2 rfl rfl
theorem s184_6 (hs : zsumc st ≤ 8) : Runs 184 6 ls (.long u2 :: .long u1 :: .long u0 :: st) h Q ↔ Runs 127 0 [some (.long u0), none, some (.long u1), none, some (.long u2), none] [] h (fun v h2 => Runs 184 9 ls (v.toList ++ st) h2 Q) := R_calls (rest := st) rfl rfl rfl (by simp) rfl rfl rfl rfl hs
theorem s184_9 : Runs 184 9 ls (.int i :: st) h Q ↔ if ¬ i = 0 then Runs 184 15 ls st h Q else Runs 184 12 ls st h Q := R_ifne rfl rfl
theorem s184_12 : Runs 184 12 ls st h Q ↔ Runs 184 14 ls (.int (-3) :: st) h Q := R_bipush rfl (by decide)
theorem s184_14 : Runs 184 14 ls [.int i] h Q ↔ Q (some (.int i)) h := R_iret rfl rfl
theorem s184_15 : Runs 184 15 ls st h Q ↔ Runs 184 16 ls (.int 0 :: st) h Q := R_iconst rfl rfl
theorem s184_16 : Runs 184 16 [x0, x1, x2, x3, x4, x5] (.int i :: st) h Q ↔ Runs 184 17 [x0, zdrop x1, some (.int i), x3, x4, x5] st h Q := R_istn rfl rfl rfl
theorem s184_17 : Runs 184 17 ls st h Q ↔ Runs 184 18 ls (.int 0 :: st) h Q := R_iconst rfl rfl
theorem s184_18 : Runs 184 18 [x0, x1, x2, x3, x4, x5] (.int i :: st) h Q ↔ Runs 184 19 [x0, x1, zdrop x2, some (.int i), x4, x5] st h Q := R_istn rfl rfl rfl
theorem s184_19 : Runs 184 19 [x0, x1, x2, some (.int i), x4, x5] st h Q ↔ Runs 184 20 [x0, x1, x2, some (.int i), x4, x5] (.int i :: st) h Q := R_ildn rfl rfl
theorem s184_20 : Runs 184 20 [some (.ref a), x1, x2, x3, x4, x5] st h Q ↔ Runs 184 21 [some (.ref a), x1, x2, x3, x4, x5] (.ref a :: st) h Q := R_aldn rfl rfl
theorem s184_20q : Runs 184 20 [some (zrf r), x1, x2, x3, x4, x5] st h Q ↔ Runs 184 21 [some (zrf r), x1, x2, x3, x4, x5] (zrf r :: st) h Q := R_aldnq rfl rfl
theorem s184_21 (ht : tg a = 10) : Runs 184 21 ls (.ref a :: st) (n, tg, ln, I, J, O) Q ↔ Runs 184 24 ls (zrf (O a 0) :: st) (n, tg, ln, I, J, O) Q := R_getr rfl rfl rfl rfl ht
theorem s184_24 : Runs 184 24 ls st h Q ↔ Runs 184 25 ls (.int 0 :: st) h Q := R_iconst rfl rfl
theorem s184_25 (ht : tg a = 20) : Runs 184 25 ls (.int i :: .ref a :: st) (n, tg, ln, I, J, O) Q ↔ ((0 ≤ i ∧ i < Int32.ofNat (ln a)) ∧ Runs 184 26 ls (.int (I a i) :: st) (n, tg, ln, I, J, O) Q) := R_iald rfl ht
theorem s184_26 : Runs 184 26 ls (.int j :: .int i :: st) h Q ↔ if j ≤ i then Runs 184 53 ls st h Q else Runs 184 29 ls st h Q := R_icge rfl rfl
theorem s184_29 : Runs 184 29 [x0, x1, some (.int i), x3, x4, x5] st h Q ↔ Runs 184 30 [x0, x1, some (.int i), x3, x4, x5] (.int i :: st) h Q := R_ildn rfl rfl
theorem s184_30 : Runs 184 30 [some (.ref a), x1, x2, x3, x4, x5] st h Q ↔ Runs 184 31 [some (.ref a), x1, x2, x3, x4, x5] (.ref a :: st) h Q := R_aldn rfl rfl
theorem s184_30q : Runs 184 30 [some (zrf r), x1, x2, x3, x4, x5] st h Q ↔ Runs 184 31 [some (zrf r), x1, x2, x3, x4, x5] (zrf r :: st) h Q := R_aldnq rfl rfl
theorem s184_31 : Runs 184 31 ls st h Q ↔ Runs 184 32 ls (.int 0 :: st) h Q := R_iconst rfl rfl
theorem s184_32 : Runs 184 32 [x0, x1, x2, some (.int i), x4, x5] st h Q ↔ Runs 184 33 [x0, x1, x2, some (.int i), x4, x5] (.int i :: st) h Q := R_ildn rfl rfl
theorem s184_33 (ht : tg a = 10) (hs : zsumc st ≤ 8) : Runs 184 33 ls (.int i1 :: .int i0 :: .ref a :: st) (n, tg, ln, I, J, O) Q ↔ Runs 153 0 [some (.ref a), some (.int i0), some (.int i1), none, none] [] (n, tg, ln, I, J, O) (fun v h2 => Runs 184 36 ls (v.toList ++ st) h2 Q) := R_callv (a := a) (rest := st) rfl rfl rfl rfl rfl rfl rfl ht hs
theorem s184_36 : Runs 184 36 ls st h Q ↔ Runs 184 37 ls (.int (-1) :: st) h Q := R_iconst rfl rfl
theorem s184_37 : Runs 184 37 ls (.int j :: .int i :: st) h Q ↔ if ¬ i = j then Runs 184 44 ls st h Q else Runs 184 40 ls st h Q := R_icne rfl rfl
theorem s184_40 : Runs 184 40 ls st h Q ↔ Runs 184 41 ls (.int 0 :: st) h Q := R_iconst rfl rfl
theorem s184_41 : Runs 184 41 ls st h Q ↔ Runs 184 45 ls st h Q := R_goto rfl rfl
theorem s184_44 : Runs 184 44 ls st h Q ↔ Runs 184 45 ls (.int 1 :: st) h Q := R_iconst rfl rfl
theorem s184_45 : Runs 184 45 ls (.int j :: .int i :: st) h Q ↔ Runs 184 46 ls (.int (i + j) :: st) h Q := R_iadd rfl
theorem s184_46 : Runs 184 46 [x0, x1, x2, x3, x4, x5] (.int i :: st) h Q ↔ Runs 184 47 [x0, zdrop x1, some (.int i), x3, x4, x5] st h Q := R_istn rfl rfl rfl
theorem s184_47 : Runs 184 47 [x0, x1, x2, some (.int i), x4, x5] st h Q ↔ Runs 184 50 [x0, x1, zdrop x2, some (.int (i + 1)), x4, x5] st h Q := R_iinc rfl rfl rfl rfl rfl
theorem s184_50 : Runs 184 50 ls st h Q ↔ Runs 184 19 ls st h Q := R_goto rfl rfl
theorem s184_53 : Runs 184 53 [some (.ref a), x1, x2, x3, x4, x5] st h Q ↔ Runs 184 54 [some (.ref a), x1, x2, x3, x4, x5] (.ref a :: st) h Q := R_aldn rfl rfl
theorem s184_53q : Runs 184 53 [some (zrf r), x1, x2, x3, x4, x5] st h Q ↔ Runs 184 54 [some (zrf r), x1, x2, x3, x4, x5] (zrf r :: st) h Q := R_aldnq rfl rfl
theorem s184_54 (ht : tg a = 10) (hs : zsumc st ≤ 8) : Runs 184 54 ls (.ref a :: st) (n, tg, ln, I, J, O) Q ↔ Runs 175 0 [some (.ref a)] [] (n, tg, ln, I, J, O) (fun v h2 => Runs 184 57 ls (v.toList ++ st) h2 Q) := R_callv (a := a) (rest := st) rfl rfl rfl rfl rfl rfl rfl ht hs
theorem s184_57 : Runs 184 57 [some (.ref a), x1, x2, x3, x4, x5] st h Q ↔ Runs 184 58 [some (.ref a), x1, x2, x3, x4, x5] (.ref a :: st) h Q := R_aldn rfl rfl
theorem s184_57q : Runs 184 57 [some (zrf r), x1, x2, x3, x4, x5] st h Q ↔ Runs 184 58 [some (zrf r), x1, x2, x3, x4, x5] (zrf r :: st) h Q := R_aldnq rfl rfl
theorem s184_58 (ht : tg a = 10) : Runs 184 58 ls (.ref a :: st) (n, tg, ln, I, J, O) Q ↔ Runs 184 61 ls (zrf (O a 0) :: st) (n, tg, ln, I, J, O) Q := R_getr rfl rfl rfl rfl ht
theorem s184_61 : Runs 184 61 ls st h Q ↔ Runs 184 64 ls (.int 1081 :: st) h Q := R_sipush rfl (by decide)
theorem s184_64 : Runs 184 64 [x0, some (.int i), x2, x3, x4, x5] st h Q ↔ Runs 184 65 [x0, some (.int i), x2, x3, x4, x5] (.int i :: st) h Q := R_ildn rfl rfl
theorem s184_65 (ht : tg a = 20) : Runs 184 65 ls (.int j :: .int i :: .ref a :: st) (n, tg, ln, I, J, O) Q ↔ ((0 ≤ i ∧ i < Int32.ofNat (ln a)) ∧ Runs 184 66 ls st (n, tg, ln, zu I a i j, J, O) Q) := R_iast rfl ht
theorem s184_66 : Runs 184 66 ls st h Q ↔ Runs 184 67 ls (.int 0 :: st) h Q := R_iconst rfl rfl
theorem s184_67 : Runs 184 67 [x0, x1, x2, x3, x4, x5] (.int i :: st) h Q ↔ Runs 184 68 [x0, x1, zdrop x2, some (.int i), x4, x5] st h Q := R_istn rfl rfl rfl
theorem s184_68 : Runs 184 68 ls st h Q ↔ Runs 184 69 ls (.int 1 :: st) h Q := R_iconst rfl rfl
theorem s184_69 : Runs 184 69 [x0, x1, x2, x3, x4, x5] (.int i :: st) h Q ↔ Runs 184 71 [x0, x1, x2, zdrop x3, some (.int i), x5] st h Q := R_ist rfl rfl rfl
theorem s184_71 : Runs 184 71 [x0, x1, x2, x3, some (.int i), x5] st h Q ↔ Runs 184 73 [x0, x1, x2, x3, some (.int i), x5] (.int i :: st) h Q := R_ild rfl rfl
theorem s184_73 : Runs 184 73 ls st h Q ↔ Runs 184 75 ls (.int 61 :: st) h Q := R_bipush rfl (by decide)
theorem s184_75 : Runs 184 75 ls (.int j :: .int i :: st) h Q ↔ if j ≤ i then Runs 184 130 ls st h Q else Runs 184 78 ls st h Q := R_icge rfl rfl
theorem s184_78 : Runs 184 78 [some (.ref a), x1, x2, x3, x4, x5] st h Q ↔ Runs 184 79 [some (.ref a), x1, x2, x3, x4, x5] (.ref a :: st) h Q := R_aldn rfl rfl
theorem s184_78q : Runs 184 78 [some (zrf r), x1, x2, x3, x4, x5] st h Q ↔ Runs 184 79 [some (zrf r), x1, x2, x3, x4, x5] (zrf r :: st) h Q := R_aldnq rfl rfl
theorem s184_79 : Runs 184 79 ls st h Q ↔ Runs 184 82 ls (.int 1080 :: st) h Q := R_sipush rfl (by decide)
theorem s184_82 (ht : tg a = 10) (hs : zsumc st ≤ 8) : Runs 184 82 ls (.int i0 :: .ref a :: st) (n, tg, ln, I, J, O) Q ↔ Runs 163 0 [some (.ref a), some (.int i0), none, none] [] (n, tg, ln, I, J, O) (fun v h2 => Runs 184 85 ls (v.toList ++ st) h2 Q) := R_callv (a := a) (rest := st) rfl rfl rfl rfl rfl rfl rfl ht hs
theorem s184_85 : Runs 184 85 ls st h Q ↔ Runs 184 87 ls (.int 99 :: st) h Q := R_bipush rfl (by decide)
theorem s184_87 : Runs 184 87 ls (.int j :: .int i :: st) h Q ↔ if i = j then Runs 184 94 ls st h Q else Runs 184 90 ls st h Q := R_iceq rfl rfl
theorem s184_90 : Runs 184 90 ls st h Q ↔ Runs 184 91 ls (.int 1 :: st) h Q := R_iconst rfl rfl
theorem s184_91 : Runs 184 91 ls st h Q ↔ Runs 184 95 ls st h Q := R_goto rfl rfl
theorem s184_94 : Runs 184 94 ls st h Q ↔ Runs 184 95 ls (.int 0 :: st) h Q := R_iconst rfl rfl
theorem s184_95 : Runs 184 95 [x0, x1, x2, x3, x4, x5] (.int i :: st) h Q ↔ Runs 184 97 [x0, x1, x2, x3, zdrop x4, some (.int i)] st h Q := R_ist rfl rfl rfl
theorem s184_97 : Runs 184 97 [x0, x1, x2, some (.int i), x4, x5] st h Q ↔ Runs 184 98 [x0, x1, x2, some (.int i), x4, x5] (.int i :: st) h Q := R_ildn rfl rfl
theorem s184_98 : Runs 184 98 [x0, x1, x2, x3, x4, some (.int i)] st h Q ↔ Runs 184 100 [x0, x1, x2, x3, x4, some (.int i)] (.int i :: st) h Q := R_ild rfl rfl
theorem s184_100 : Runs 184 100 ls (.int i :: st) h Q ↔ if i = 0 then Runs 184 108 ls st h Q else Runs 184 103 ls st h Q := R_ifeq rfl rfl
theorem s184_103 : Runs 184 103 [x0, x1, x2, x3, some (.int i), x5] st h Q ↔ Runs 184 105 [x0, x1, x2, x3, some (.int i), x5] (.int i :: st) h Q := R_ild rfl rfl
theorem s184_105 : Runs 184 105 ls st h Q ↔ Runs 184 109 ls st h Q := R_goto rfl rfl
theorem s184_108 : Runs 184 108 ls st h Q ↔ Runs 184 109 ls (.int 0 :: st) h Q := R_iconst rfl rfl
theorem s184_109 : Runs 184 109 ls (.int j :: .int i :: st) h Q ↔ Runs 184 110 ls (.int (i + j) :: st) h Q := R_iadd rfl
theorem s184_110 : Runs 184 110 [x0, x1, x2, x3, x4, x5] (.int i :: st) h Q ↔ Runs 184 111 [x0, x1, zdrop x2, some (.int i), x4, x5] st h Q := R_istn rfl rfl rfl
theorem s184_111 : Runs 184 111 [x0, x1, some (.int i), x3, x4, x5] st h Q ↔ Runs 184 112 [x0, x1, some (.int i), x3, x4, x5] (.int i :: st) h Q := R_ildn rfl rfl
theorem s184_112 : Runs 184 112 [x0, x1, x2, x3, x4, some (.int i)] st h Q ↔ Runs 184 114 [x0, x1, x2, x3, x4, some (.int i)] (.int i :: st) h Q := R_ild rfl rfl
theorem s184_114 : Runs 184 114 ls (.int i :: st) h Q ↔ if i = 0 then Runs 184 121 ls st h Q else Runs 184 117 ls st h Q := R_ifeq rfl rfl
theorem s184_117 : Runs 184 117 ls st h Q ↔ Runs 184 118 ls (.int 1 :: st) h Q := R_iconst rfl rfl
theorem s184_118 : Runs 184 118 ls st h Q ↔ Runs 184 122 ls st h Q := R_goto rfl rfl
theorem s184_121 : Runs 184 121 ls st h Q ↔ Runs 184 122 ls (.int 0 :: st) h Q := R_iconst rfl rfl
theorem s184_122 : Runs 184 122 ls (.int j :: .int i :: st) h Q ↔ Runs 184 123 ls (.int (i - j) :: st) h Q := R_isub rfl
theorem s184_123 : Runs 184 123 [x0, x1, x2, x3, x4, x5] (.int i :: st) h Q ↔ Runs 184 124 [x0, zdrop x1, some (.int i), x3, x4, x5] st h Q := R_istn rfl rfl rfl
theorem s184_124 : Runs 184 124 [x0, x1, x2, x3, some (.int i), x5] st h Q ↔ Runs 184 127 [x0, x1, x2, zdrop x3, some (.int (i + 1)), x5] st h Q := R_iinc rfl rfl rfl rfl rfl
theorem s184_127 : Runs 184 127 ls st h Q ↔ Runs 184 71 ls st h Q := R_goto rfl rfl
theorem s184_130 : Runs 184 130 [x0, x1, x2, some (.int i), x4, x5] st h Q ↔ Runs 184 131 [x0, x1, x2, some (.int i), x4, x5] (.int i :: st) h Q := R_ildn rfl rfl
theorem s184_131 : Runs 184 131 ls st h Q ↔ Runs 184 133 ls (.int 60 :: st) h Q := R_bipush rfl (by decide)
theorem s184_133 : Runs 184 133 [x0, x1, some (.int i), x3, x4, x5] st h Q ↔ Runs 184 134 [x0, x1, some (.int i), x3, x4, x5] (.int i :: st) h Q := R_ildn rfl rfl
theorem s184_134 : Runs 184 134 ls (.int j :: .int i :: st) h Q ↔ Runs 184 135 ls (.int (i * j) :: st) h Q := R_imul rfl
theorem s184_135 : Runs 184 135 ls (.int j :: .int i :: st) h Q ↔ Runs 184 136 ls (.int (i + j) :: st) h Q := R_iadd rfl
theorem s184_136 : Runs 184 136 ls [.int i] h Q ↔ Q (some (.int i)) h := R_iret rfl rfl
theorem s185_0 : Runs 185 0 [x0, some (.int i), x2] st h Q ↔ Runs 185 1 [x0, some (.int i), x2] (.int i :: st) h Q := R_ildn rfl rfl
theorem s185_1 : Runs 185 1 ls (.int i :: st) h Q ↔ Runs 185 2 ls (.long i.toInt64 :: st) h Q := R_i2l rfl
theorem s185_2 : Runs 185 2 ls st h Q ↔ Runs 185 3 ls (.long 1 :: st) h Q := R_lconst rfl rfl
theorem s185_3 : Runs 185 3 ls st h Q ↔ Runs 185 6 ls (.long 20 :: st) h Q := R_ldc2 rfl rfl
theorem s185_6 (hs : zsumc st ≤ 8) : Runs 185 6 ls (.long u2 :: .long u1 :: .long u0 :: st) h Q ↔ Runs 127 0 [some (.long u0), none, some (.long u1), none, some (.long u2), none] [] h (fun v h2 => Runs 185 9 ls (v.toList ++ st) h2 Q) := R_calls (rest := st) rfl rfl rfl (by simp) rfl rfl rfl rfl hs
theorem s185_9 : Runs 185 9 ls (.int i :: st) h Q ↔ if i = 0 then Runs 185 24 ls st h Q else Runs 185 12 ls st h Q := R_ifeq rfl rfl
theorem s185_12 : Runs 185 12 [x0, x1, some (.int i)] st h Q ↔ Runs 185 13 [x0, x1, some (.int i)] (.int i :: st) h Q := R_ildn rfl rfl
theorem s185_13 : Runs 185 13 ls (.int i :: st) h Q ↔ Runs 185 14 ls (.long i.toInt64 :: st) h Q := R_i2l rfl
theorem s185_14 : Runs 185 14 ls st h Q ↔ Runs 185 15 ls (.long 0 :: st) h Q := R_lconst rfl rfl
theorem s185_15 : Runs 185 15 ls st h Q ↔ Runs 185 18 ls (.long 20 :: st) h Q := R_ldc2 rfl rfl
theorem s185_18 (hs : zsumc st ≤ 8) : Runs 185 18 ls (.long u2 :: .long u1 :: .long u0 :: st) h Q ↔ Runs 127 0 [some (.long u0), none, some (.long u1), none, some (.long u2), none] [] h (fun v h2 => Runs 185 21 ls (v.toList ++ st) h2 Q) := R_calls (rest := st) rfl rfl rfl (by simp) rfl rfl rfl rfl hs
theorem s185_21 : Runs 185 21 ls (.int i :: st) h Q ↔ if ¬ i = 0 then Runs 185 27 ls st h Q else Runs 185 24 ls st h Q := R_ifne rfl rfl
theorem s185_24 : Runs 185 24 ls st h Q ↔ Runs 185 26 ls (.int (-3) :: st) h Q := R_bipush rfl (by decide)
theorem s185_26 : Runs 185 26 ls [.int i] h Q ↔ Q (some (.int i)) h := R_iret rfl rfl
theorem s185_27 : Runs 185 27 [some (.ref a), x1, x2] st h Q ↔ Runs 185 28 [some (.ref a), x1, x2] (.ref a :: st) h Q := R_aldn rfl rfl
theorem s185_27q : Runs 185 27 [some (zrf r), x1, x2] st h Q ↔ Runs 185 28 [some (zrf r), x1, x2] (zrf r :: st) h Q := R_aldnq rfl rfl
theorem s185_28 (ht : tg a = 10) : Runs 185 28 ls (.ref a :: st) (n, tg, ln, I, J, O) Q ↔ Runs 185 31 ls (.int (I a 5) :: st) (n, tg, ln, I, J, O) Q := R_geti rfl rfl rfl rfl ht
theorem s185_31 : Runs 185 31 ls st h Q ↔ Runs 185 33 ls (.int 6 :: st) h Q := R_bipush rfl (by decide)
theorem s185_33 : Runs 185 33 ls (.int j :: .int i :: st) h Q ↔ if ¬ i = j then Runs 185 39 ls st h Q else Runs 185 36 ls st h Q := R_icne rfl rfl
theorem s185_36 : Runs 185 36 ls st h Q ↔ Runs 185 38 ls (.int (-5) :: st) h Q := R_bipush rfl (by decide)
theorem s185_38 : Runs 185 38 ls [.int i] h Q ↔ Q (some (.int i)) h := R_iret rfl rfl
theorem s185_39 : Runs 185 39 [some (.ref a), x1, x2] st h Q ↔ Runs 185 40 [some (.ref a), x1, x2] (.ref a :: st) h Q := R_aldn rfl rfl
theorem s185_39q : Runs 185 39 [some (zrf r), x1, x2] st h Q ↔ Runs 185 40 [some (zrf r), x1, x2] (zrf r :: st) h Q := R_aldnq rfl rfl
theorem s185_40 (ht : tg a = 10) : Runs 185 40 ls (.ref a :: st) (n, tg, ln, I, J, O) Q ↔ Runs 185 43 ls (zrf (O a 6) :: st) (n, tg, ln, I, J, O) Q := R_getr rfl rfl rfl rfl ht
theorem s185_43 : Runs 185 43 [some (.ref a), x1, x2] st h Q ↔ Runs 185 44 [some (.ref a), x1, x2] (.ref a :: st) h Q := R_aldn rfl rfl
theorem s185_43q : Runs 185 43 [some (zrf r), x1, x2] st h Q ↔ Runs 185 44 [some (zrf r), x1, x2] (zrf r :: st) h Q := R_aldnq rfl rfl
theorem s185_44 (ht : tg a = 10) : Runs 185 44 ls (.ref a :: st) (n, tg, ln, I, J, O) Q ↔ Runs 185 47 ls (.int (I a 5) :: st) (n, tg, ln, I, J, O) Q := R_geti rfl rfl rfl rfl ht
theorem s185_47 : Runs 185 47 [x0, some (.int i), x2] st h Q ↔ Runs 185 48 [x0, some (.int i), x2] (.int i :: st) h Q := R_ildn rfl rfl
theorem s185_48 (ht : tg a = 20) : Runs 185 48 ls (.int j :: .int i :: .ref a :: st) (n, tg, ln, I, J, O) Q ↔ ((0 ≤ i ∧ i < Int32.ofNat (ln a)) ∧ Runs 185 49 ls st (n, tg, ln, zu I a i j, J, O) Q) := R_iast rfl ht
theorem s185_49 : Runs 185 49 [some (.ref a), x1, x2] st h Q ↔ Runs 185 50 [some (.ref a), x1, x2] (.ref a :: st) h Q := R_aldn rfl rfl
theorem s185_49q : Runs 185 49 [some (zrf r), x1, x2] st h Q ↔ Runs 185 50 [some (zrf r), x1, x2] (zrf r :: st) h Q := R_aldnq rfl rfl
theorem s185_50 (ht : tg a = 10) : Runs 185 50 ls (.ref a :: st) (n, tg, ln, I, J, O) Q ↔ Runs 185 53 ls (zrf (O a 7) :: st) (n, tg, ln, I, J, O) Q := R_getr rfl rfl rfl rfl ht
theorem s185_53 : Runs 185 53 [some (.ref a), x1, x2] st h Q ↔ Runs 185 54 [some (.ref a), x1, x2] (.ref a :: st) h Q := R_aldn rfl rfl
theorem s185_53q : Runs 185 53 [some (zrf r), x1, x2] st h Q ↔ Runs 185 54 [some (zrf r), x1, x2] (zrf r :: st) h Q := R_aldnq rfl rfl
theorem s185_54 (ht : tg a = 10) : Runs 185 54 ls (.ref a :: st) (n, tg, ln, I, J, O) Q ↔ Runs 185 57 ls (.int (I a 5) :: st) (n, tg, ln, I, J, O) Q := R_geti rfl rfl rfl rfl ht
theorem s185_57 : Runs 185 57 [x0, x1, some (.int i)] st h Q ↔ Runs 185 58 [x0, x1, some (.int i)] (.int i :: st) h Q := R_ildn rfl rfl
theorem s185_58 (ht : tg a = 20) : Runs 185 58 ls (.int j :: .int i :: .ref a :: st) (n, tg, ln, I, J, O) Q ↔ ((0 ≤ i ∧ i < Int32.ofNat (ln a)) ∧ Runs 185 59 ls st (n, tg, ln, zu I a i j, J, O) Q) := R_iast rfl ht
theorem s185_59 : Runs 185 59 [some (.ref a), x1, x2] st h Q ↔ Runs 185 60 [some (.ref a), x1, x2] (.ref a :: st) h Q := R_aldn rfl rfl
theorem s185_59q : Runs 185 59 [some (zrf r), x1, x2] st h Q ↔ Runs 185 60 [some (zrf r), x1, x2] (zrf r :: st) h Q := R_aldnq rfl rfl
theorem s185_60 : Runs 185 60 ls (.int i :: st) h Q ↔ Runs 185 61 ls (.int i :: .int i :: st) h Q := R_dupi rfl
theorem s185_60q : Runs 185 60 ls (.ref a :: st) h Q ↔ Runs 185 61 ls (.ref a :: .ref a :: st) h Q := R_dupr rfl
theorem s185_61 (ht : tg a = 10) : Runs 185 61 ls (.ref a :: st) (n, tg, ln, I, J, O) Q ↔ Runs 185 64 ls (.int (I a 5) :: st) (n, tg, ln, I, J, O) Q := R_geti rfl rfl rfl rfl ht
theorem s185_64 : Runs 185 64 ls st h Q ↔ Runs 185 65 ls (.int 1 :: st) h Q := R_iconst rfl rfl
theorem s185_65 : Runs 185 65 ls (.int j :: .int i :: st) h Q ↔ Runs 185 66 ls (.int (i + j) :: st) h Q := R_iadd rfl
theorem s185_66 (ht : tg a = 10) : Runs 185 66 ls (.int i :: .ref a :: st) (n, tg, ln, I, J, O) Q ↔ Runs 185 69 ls st (n, tg, ln, zu I a 5 i, J, O) Q := R_puti rfl rfl rfl rfl rfl rfl ht
theorem s185_69 : Runs 185 69 [some (.ref a), x1, x2] st h Q ↔ Runs 185 70 [some (.ref a), x1, x2] (.ref a :: st) h Q := R_aldn rfl rfl
theorem s185_69q : Runs 185 69 [some (zrf r), x1, x2] st h Q ↔ Runs 185 70 [some (zrf r), x1, x2] (zrf r :: st) h Q := R_aldnq rfl rfl
theorem s185_70 (ht : tg a = 10) : Runs 185 70 ls (.ref a :: st) (n, tg, ln, I, J, O) Q ↔ Runs 185 73 ls (.int (I a 5) :: st) (n, tg, ln, I, J, O) Q := R_geti rfl rfl rfl rfl ht
theorem s185_73 : Runs 185 73 ls [.int i] h Q ↔ Q (some (.int i)) h := R_iret rfl rfl
theorem s186_0 : Runs 186 0 [some (.ref a), x1] st h Q ↔ Runs 186 1 [some (.ref a), x1] (.ref a :: st) h Q := R_aldn rfl rfl
theorem s186_0q : Runs 186 0 [some (zrf r), x1] st h Q ↔ Runs 186 1 [some (zrf r), x1] (zrf r :: st) h Q := R_aldnq rfl rfl
theorem s186_1 (ht : tg a = 10) : Runs 186 1 ls (.ref a :: st) (n, tg, ln, I, J, O) Q ↔ Runs 186 4 ls (.int (I a 5) :: st) (n, tg, ln, I, J, O) Q := R_geti rfl rfl rfl rfl ht
theorem s186_4 : Runs 186 4 [x0, x1] (.int i :: st) h Q ↔ Runs 186 5 [zdrop x0, some (.int i)] st h Q := R_istn rfl rfl rfl
theorem s186_5 : Runs 186 5 [some (.ref a), x1] st h Q ↔ Runs 186 6 [some (.ref a), x1] (.ref a :: st) h Q := R_aldn rfl rfl
theorem s186_5q : Runs 186 5 [some (zrf r), x1] st h Q ↔ Runs 186 6 [some (zrf r), x1] (zrf r :: st) h Q := R_aldnq rfl rfl
theorem s186_6 : Runs 186 6 ls st h Q ↔ Runs 186 7 ls (.int 0 :: st) h Q := R_iconst rfl rfl
theorem s186_7 (ht : tg a = 10) : Runs 186 7 ls (.int i :: .ref a :: st) (n, tg, ln, I, J, O) Q ↔ Runs 186 10 ls st (n, tg, ln, zu I a 5 i, J, O) Q := R_puti rfl rfl rfl rfl rfl rfl ht
theorem s186_10 : Runs 186 10 [x0, some (.int i)] st h Q ↔ Runs 186 11 [x0, some (.int i)] (.int i :: st) h Q := R_ildn rfl rfl
theorem s186_11 : Runs 186 11 ls [.int i] h Q ↔ Q (some (.int i)) h := R_iret rfl rfl
theorem s188_0 : Runs 188 0 ls st h Q ↔ Runs 188 1 ls (.int 0 :: st) h Q := R_iconst rfl rfl
theorem s188_1 : Runs 188 1 [x0, x1, x2] (.int i :: st) h Q ↔ Runs 188 2 [zdrop x0, some (.int i), x2] st h Q := R_istn rfl rfl rfl
theorem s188_2 : Runs 188 2 ls st h Q ↔ Runs 188 3 ls (.int 0 :: st) h Q := R_iconst rfl rfl
theorem s188_3 : Runs 188 3 [x0, x1, x2] (.int i :: st) h Q ↔ Runs 188 4 [x0, zdrop x1, some (.int i)] st h Q := R_istn rfl rfl rfl
theorem s188_4 : Runs 188 4 [x0, x1, some (.int i)] st h Q ↔ Runs 188 5 [x0, x1, some (.int i)] (.int i :: st) h Q := R_ildn rfl rfl
theorem s188_5 : Runs 188 5 ls st h Q ↔ Runs 188 6 ls (.int 3 :: st) h Q := R_iconst rfl rfl
theorem s188_6 : Runs 188 6 ls (.int j :: .int i :: st) h Q ↔ if j ≤ i then Runs 188 45 ls st h Q else Runs 188 9 ls st h Q := R_icge rfl rfl
theorem s188_9 : Runs 188 9 [some (.ref a), x1, x2] st h Q ↔ Runs 188 10 [some (.ref a), x1, x2] (.ref a :: st) h Q := R_aldn rfl rfl
theorem s188_9q : Runs 188 9 [some (zrf r), x1, x2] st h Q ↔ Runs 188 10 [some (zrf r), x1, x2] (zrf r :: st) h Q := R_aldnq rfl rfl
theorem s188_10 (ht : tg a = 10) (hs : zsumc st ≤ 8) : Runs 188 10 ls (.ref a :: st) (n, tg, ln, I, J, O) Q ↔ Runs 175 0 [some (.ref a)] [] (n, tg, ln, I, J, O) (fun v h2 => Runs 188 13 ls (v.toList ++ st) h2 Q) := R_callv (a := a) (rest := st) rfl rfl rfl rfl rfl rfl rfl ht hs
theorem s188_13 : Runs 188 13 [some (.ref a), x1, x2] st h Q ↔ Runs 188 14 [some (.ref a), x1, x2] (.ref a :: st) h Q := R_aldn rfl rfl
theorem s188_13q : Runs 188 13 [some (zrf r), x1, x2] st h Q ↔ Runs 188 14 [some (zrf r), x1, x2] (zrf r :: st) h Q := R_aldnq rfl rfl
theorem s188_14 (ht : tg a = 10) : Runs 188 14 ls (.ref a :: st) (n, tg, ln, I, J, O) Q ↔ Runs 188 17 ls (zrf (O a 0) :: st) (n, tg, ln, I, J, O) Q := R_getr rfl rfl rfl rfl ht
theorem s188_17 : Runs 188 17 ls st h Q ↔ Runs 188 20 ls (.int 1081 :: st) h Q := R_sipush rfl (by decide)
theorem s188_20 : Runs 188 20 [x0, x1, some (.int i)] st h Q ↔ Runs 188 21 [x0, x1, some (.int i)] (.int i :: st) h Q := R_ildn rfl rfl
theorem s188_21 (ht : tg a = 20) : Runs 188 21 ls (.int j :: .int i :: .ref a :: st) (n, tg, ln, I, J, O) Q ↔ ((0 ≤ i ∧ i < Int32.ofNat (ln a)) ∧ Runs 188 22 ls st (n, tg, ln, zu I a i j, J, O) Q) := R_iast rfl ht
theorem s188_22 : Runs 188 22 [x0, some (.int i), x2] st h Q ↔ Runs 188 23 [x0, some (.int i), x2] (.int i :: st) h Q := R_ildn rfl rfl
theorem s188_23 : Runs 188 23 [some (.ref a), x1, x2] st h Q ↔ Runs 188 24 [some (.ref a), x1, x2] (.ref a :: st) h Q := R_aldn rfl rfl
theorem s188_23q : Runs 188 23 [some (zrf r), x1, x2] st h Q ↔ Runs 188 24 [some (zrf r), x1, x2] (zrf r :: st) h Q := R_aldnq rfl rfl
theorem s188_24 (ht : tg a = 10) (hs : zsumc st ≤ 8) : Runs 188 24 ls (.ref a :: st) (n, tg, ln, I, J, O) Q ↔ Runs 187 0 [some (.ref a), none, none, none, none] [] (n, tg, ln, I, J, O) (fun v h2 => Runs 188 27 ls (v.toList ++ st) h2 Q) := R_callv (a := a) (rest := st) rfl rfl rfl rfl rfl rfl rfl ht hs
theorem s188_27 : Runs 188 27 ls (.int i :: st) h Q ↔ if i = 0 then Runs 188 36 ls st h Q else Runs 188 30 ls st h Q := R_ifeq rfl rfl
theorem s188_30 : Runs 188 30 ls st h Q ↔ Runs 188 31 ls (.int 1 :: st) h Q := R_iconst rfl rfl
theorem s188_31 : Runs 188 31 [x0, x1, some (.int i)] st h Q ↔ Runs 188 32 [x0, x1, some (.int i)] (.int i :: st) h Q := R_ildn rfl rfl
theorem s188_32 : Runs 188 32 ls (.int j :: .int i :: st) h Q ↔ Runs 188 33 ls (.int (i <<< (j &&& 31)) :: st) h Q := R_ishl rfl
theorem s188_33 : Runs 188 33 ls st h Q ↔ Runs 188 37 ls st h Q := R_goto rfl rfl
theorem s188_36 : Runs 188 36 ls st h Q ↔ Runs 188 37 ls (.int 0 :: st) h Q := R_iconst rfl rfl
theorem s188_37 : Runs 188 37 ls (.int j :: .int i :: st) h Q ↔ Runs 188 38 ls (.int (i ||| j) :: st) h Q := R_ior rfl
theorem s188_38 : Runs 188 38 [x0, x1, x2] (.int i :: st) h Q ↔ Runs 188 39 [zdrop x0, some (.int i), x2] st h Q := R_istn rfl rfl rfl
theorem s188_39 : Runs 188 39 [x0, x1, some (.int i)] st h Q ↔ Runs 188 42 [x0, zdrop x1, some (.int (i + 1))] st h Q := R_iinc rfl rfl rfl rfl rfl
theorem s188_42 : Runs 188 42 ls st h Q ↔ Runs 188 4 ls st h Q := R_goto rfl rfl
theorem s188_45 : Runs 188 45 [x0, some (.int i), x2] st h Q ↔ Runs 188 46 [x0, some (.int i), x2] (.int i :: st) h Q := R_ildn rfl rfl
theorem s188_46 : Runs 188 46 ls [.int i] h Q ↔ Q (some (.int i)) h := R_iret rfl rfl
theorem s189_0 : Runs 189 0 [some (.ref a), x1, x2, x3] st h Q ↔ Runs 189 1 [some (.ref a), x1, x2, x3] (.ref a :: st) h Q := R_aldn rfl rfl
theorem s189_0q : Runs 189 0 [some (zrf r), x1, x2, x3] st h Q ↔ Runs 189 1 [some (zrf r), x1, x2, x3] (zrf r :: st) h Q := R_aldnq rfl rfl
theorem s189_1 : Runs 189 1 [x0, some (.int i), x2, x3] st h Q ↔ Runs 189 2 [x0, some (.int i), x2, x3] (.int i :: st) h Q := R_ildn rfl rfl
theorem s189_2 : Runs 189 2 ls (.int i :: st) h Q ↔ Runs 189 3 ls (.long i.toInt64 :: st) h Q := R_i2l rfl
theorem s189_3 (ht : tg a = 10) (hs : zsumc st ≤ 8) : Runs 189 3 ls (.long u0 :: .ref a :: st) (n, tg, ln, I, J, O) Q ↔ Runs 151 0 [some (.ref a), some (.long u0), none] [] (n, tg, ln, I, J, O) (fun v h2 => Runs 189 6 ls (v.toList ++ st) h2 Q) := R_callv (a := a) (rest := st) rfl rfl rfl rfl rfl rfl rfl ht hs
theorem s189_6 : Runs 189 6 ls (.int i :: st) h Q ↔ if ¬ i = 0 then Runs 189 12 ls st h Q else Runs 189 9 ls st h Q := R_ifne rfl rfl
theorem s189_9 : Runs 189 9 ls st h Q ↔ Runs 189 11 ls (.int (-2) :: st) h Q := R_bipush rfl (by decide)
theorem s189_11 : Runs 189 11 ls [.int i] h Q ↔ Q (some (.int i)) h := R_iret rfl rfl
theorem s189_12 : Runs 189 12 [some (.ref a), x1, x2, x3] st h Q ↔ Runs 189 13 [some (.ref a), x1, x2, x3] (.ref a :: st) h Q := R_aldn rfl rfl
theorem s189_12q : Runs 189 12 [some (zrf r), x1, x2, x3] st h Q ↔ Runs 189 13 [some (zrf r), x1, x2, x3] (zrf r :: st) h Q := R_aldnq rfl rfl
theorem s189_13 : Runs 189 13 ls st h Q ↔ Runs 189 14 ls (.int 0 :: st) h Q := R_iconst rfl rfl
theorem s189_14 : Runs 189 14 [x0, some (.int i), x2, x3] st h Q ↔ Runs 189 15 [x0, some (.int i), x2, x3] (.int i :: st) h Q := R_ildn rfl rfl
theorem s189_15 (ht : tg a = 10) (hs : zsumc st ≤ 8) : Runs 189 15 ls (.int i1 :: .int i0 :: .ref a :: st) (n, tg, ln, I, J, O) Q ↔ Runs 153 0 [some (.ref a), some (.int i0), some (.int i1), none, none] [] (n, tg, ln, I, J, O) (fun v h2 => Runs 189 18 ls (v.toList ++ st) h2 Q) := R_callv (a := a) (rest := st) rfl rfl rfl rfl rfl rfl rfl ht hs
theorem s189_18 : Runs 189 18 ls st h Q ↔ Runs 189 19 ls (.int (-1) :: st) h Q := R_iconst rfl rfl
theorem s189_19 : Runs 189 19 ls (.int j :: .int i :: st) h Q ↔ if ¬ i = j then Runs 189 25 ls st h Q else Runs 189 22 ls st h Q := R_icne rfl rfl
theorem s189_22 : Runs 189 22 ls st h Q ↔ Runs 189 24 ls (.int (-4) :: st) h Q := R_bipush rfl (by decide)
theorem s189_24 : Runs 189 24 ls [.int i] h Q ↔ Q (some (.int i)) h := R_iret rfl rfl
theorem s189_25 : Runs 189 25 ls st h Q ↔ Runs 189 26 ls (.int 0 :: st) h Q := R_iconst rfl rfl
theorem s189_26 : Runs 189 26 [x0, x1, x2, x3] (.int i :: st) h Q ↔ Runs 189 27 [x0, zdrop x1, some (.int i), x3] st h Q := R_istn rfl rfl rfl
theorem s189_27 : Runs 189 27 ls st h Q ↔ Runs 189 28 ls (.int 0 :: st) h Q := R_iconst rfl rfl
theorem s189_28 : Runs 189 28 [x0, x1, x2, x3] (.int i :: st) h Q ↔ Runs 189 29 [x0, x1, zdrop x2, some (.int i)] st h Q := R_istn rfl rfl rfl
theorem s189_29 : Runs 189 29 [x0, x1, x2, some (.int i)] st h Q ↔ Runs 189 30 [x0, x1, x2, some (.int i)] (.int i :: st) h Q := R_ildn rfl rfl
theorem s189_30 : Runs 189 30 ls st h Q ↔ Runs 189 31 ls (.int 5 :: st) h Q := R_iconst rfl rfl
theorem s189_31 : Runs 189 31 ls (.int j :: .int i :: st) h Q ↔ if j ≤ i then Runs 189 72 ls st h Q else Runs 189 34 ls st h Q := R_icge rfl rfl
theorem s189_34 : Runs 189 34 [some (.ref a), x1, x2, x3] st h Q ↔ Runs 189 35 [some (.ref a), x1, x2, x3] (.ref a :: st) h Q := R_aldn rfl rfl
theorem s189_34q : Runs 189 34 [some (zrf r), x1, x2, x3] st h Q ↔ Runs 189 35 [some (zrf r), x1, x2, x3] (zrf r :: st) h Q := R_aldnq rfl rfl
theorem s189_35 (ht : tg a = 10) (hs : zsumc st ≤ 8) : Runs 189 35 ls (.ref a :: st) (n, tg, ln, I, J, O) Q ↔ Runs 175 0 [some (.ref a)] [] (n, tg, ln, I, J, O) (fun v h2 => Runs 189 38 ls (v.toList ++ st) h2 Q) := R_callv (a := a) (rest := st) rfl rfl rfl rfl rfl rfl rfl ht hs
theorem s189_38 : Runs 189 38 [some (.ref a), x1, x2, x3] st h Q ↔ Runs 189 39 [some (.ref a), x1, x2, x3] (.ref a :: st) h Q := R_aldn rfl rfl
theorem s189_38q : Runs 189 38 [some (zrf r), x1, x2, x3] st h Q ↔ Runs 189 39 [some (zrf r), x1, x2, x3] (zrf r :: st) h Q := R_aldnq rfl rfl
theorem s189_39 (ht : tg a = 10) : Runs 189 39 ls (.ref a :: st) (n, tg, ln, I, J, O) Q ↔ Runs 189 42 ls (zrf (O a 0) :: st) (n, tg, ln, I, J, O) Q := R_getr rfl rfl rfl rfl ht
theorem s189_42 : Runs 189 42 ls st h Q ↔ Runs 189 45 ls (.int 1110 :: st) h Q := R_sipush rfl (by decide)
theorem s189_45 : Runs 189 45 [x0, some (.int i), x2, x3] st h Q ↔ Runs 189 46 [x0, some (.int i), x2, x3] (.int i :: st) h Q := R_ildn rfl rfl
theorem s189_46 : Runs 189 46 ls (.int j :: .int i :: st) h Q ↔ Runs 189 47 ls (.int (i + j) :: st) h Q := R_iadd rfl
theorem s189_47 : Runs 189 47 [x0, x1, x2, some (.int i)] st h Q ↔ Runs 189 48 [x0, x1, x2, some (.int i)] (.int i :: st) h Q := R_ildn rfl rfl
theorem s189_48 (ht : tg a = 20) : Runs 189 48 ls (.int j :: .int i :: .ref a :: st) (n, tg, ln, I, J, O) Q ↔ ((0 ≤ i ∧ i < Int32.ofNat (ln a)) ∧ Runs 189 49 ls st (n, tg, ln, zu I a i j, J, O) Q) := R_iast rfl ht
theorem s189_49 : Runs 189 49 [x0, x1, some (.int i), x3] st h Q ↔ Runs 189 50 [x0, x1, some (.int i), x3] (.int i :: st) h Q := R_ildn rfl rfl
theorem s189_50 : Runs 189 50 [some (.ref a), x1, x2, x3] st h Q ↔ Runs 189 51 [some (.ref a), x1, x2, x3] (.ref a :: st) h Q := R_aldn rfl rfl
theorem s189_50q : Runs 189 50 [some (zrf r), x1, x2, x3] st h Q ↔ Runs 189 51 [some (zrf r), x1, x2, x3] (zrf r :: st) h Q := R_aldnq rfl rfl
theorem s189_51 (ht : tg a = 10) (hs : zsumc st ≤ 8) : Runs 189 51 ls (.ref a :: st) (n, tg, ln, I, J, O) Q ↔ Runs 187 0 [some (.ref a), none, none, none, none] [] (n, tg, ln, I, J, O) (fun v h2 => Runs 189 54 ls (v.toList ++ st) h2 Q) := R_callv (a := a) (rest := st) rfl rfl rfl rfl rfl rfl rfl ht hs
theorem s189_54 : Runs 189 54 ls (.int i :: st) h Q ↔ if i = 0 then Runs 189 63 ls st h Q else Runs 189 57 ls st h Q := R_ifeq rfl rfl
theorem s189_57 : Runs 189 57 ls st h Q ↔ Runs 189 58 ls (.int 1 :: st) h Q := R_iconst rfl rfl
theorem s189_58 : Runs 189 58 [x0, x1, x2, some (.int i)] st h Q ↔ Runs 189 59 [x0, x1, x2, some (.int i)] (.int i :: st) h Q := R_ildn rfl rfl
theorem s189_59 : Runs 189 59 ls (.int j :: .int i :: st) h Q ↔ Runs 189 60 ls (.int (i <<< (j &&& 31)) :: st) h Q := R_ishl rfl
theorem s189_60 : Runs 189 60 ls st h Q ↔ Runs 189 64 ls st h Q := R_goto rfl rfl
theorem s189_63 : Runs 189 63 ls st h Q ↔ Runs 189 64 ls (.int 0 :: st) h Q := R_iconst rfl rfl
theorem s189_64 : Runs 189 64 ls (.int j :: .int i :: st) h Q ↔ Runs 189 65 ls (.int (i ||| j) :: st) h Q := R_ior rfl
theorem s189_65 : Runs 189 65 [x0, x1, x2, x3] (.int i :: st) h Q ↔ Runs 189 66 [x0, zdrop x1, some (.int i), x3] st h Q := R_istn rfl rfl rfl
theorem s189_66 : Runs 189 66 [x0, x1, x2, some (.int i)] st h Q ↔ Runs 189 69 [x0, x1, zdrop x2, some (.int (i + 1))] st h Q := R_iinc rfl rfl rfl rfl rfl
theorem s189_69 : Runs 189 69 ls st h Q ↔ Runs 189 29 ls st h Q := R_goto rfl rfl
theorem s189_72 : Runs 189 72 [x0, x1, some (.int i), x3] st h Q ↔ Runs 189 73 [x0, x1, some (.int i), x3] (.int i :: st) h Q := R_ildn rfl rfl
theorem s189_73 : Runs 189 73 ls [.int i] h Q ↔ Q (some (.int i)) h := R_iret rfl rfl
theorem s190_0 : Runs 190 0 [x0, some (.int i), x2, x3, x4, x5, x6, x7, x8, x9, x10, x11, x12, x13, x14, x15, x16] st h Q ↔ Runs 190 1 [x0, some (.int i), x2, x3, x4, x5, x6, x7, x8, x9, x10, x11, x12, x13, x14, x15, x16] (.int i :: st) h Q := R_ildn rfl rfl
theorem s190_1 : Runs 190 1 ls (.int i :: st) h Q ↔ Runs 190 2 ls (.long i.toInt64 :: st) h Q := R_i2l rfl
theorem s190_2 : Runs 190 2 ls st h Q ↔ Runs 190 3 ls (.long 0 :: st) h Q := R_lconst rfl rfl
theorem s190_3 : Runs 190 3 ls st h Q ↔ Runs 190 6 ls (.long 9 :: st) h Q := R_ldc2 rfl rfl
theorem s190_6 (hs : zsumc st ≤ 8) : Runs 190 6 ls (.long u2 :: .long u1 :: .long u0 :: st) h Q ↔ Runs 127 0 [some (.long u0), none, some (.long u1), none, some (.long u2), none] [] h (fun v h2 => Runs 190 9 ls (v.toList ++ st) h2 Q) := R_calls (rest := st) rfl rfl rfl (by simp) rfl rfl rfl rfl hs
theorem s190_9 : Runs 190 9 ls (.int i :: st) h Q ↔ if i = 0 then Runs 190 47 ls st h Q else Runs 190 12 ls st h Q := R_ifeq rfl rfl
theorem s190_12 : Runs 190 12 [x0, x1, some (.int i), x3, x4, x5, x6, x7, x8, x9, x10, x11, x12, x13, x14, x15, x16] st h Q ↔ Runs 190 13 [x0, x1, some (.int i), x3, x4, x5, x6, x7, x8, x9, x10, x11, x12, x13, x14, x15, x16] (.int i :: st) h Q := R_ildn rfl rfl
theorem s190_13 : Runs 190 13 ls (.int i :: st) h Q ↔ Runs 190 14 ls (.long i.toInt64 :: st) h Q := R_i2l rfl
theorem s190_14 : Runs 190 14 ls st h Q ↔ Runs 190 15 ls (.long 0 :: st) h Q := R_lconst rfl rfl
theorem s190_15 : Runs 190 15 ls st h Q ↔ Runs 190 18 ls (.long 10 :: st) h Q := R_ldc2 rfl rfl
theorem s190_18 (hs : zsumc st ≤ 8) : Runs 190 18 ls (.long u2 :: .long u1 :: .long u0 :: st) h Q ↔ Runs 127 0 [some (.long u0), none, some (.long u1), none, some (.long u2), none] [] h (fun v h2 => Runs 190 21 ls (v.toList ++ st) h2 Q) := R_calls (rest := st) rfl rfl rfl (by simp) rfl rfl rfl rfl hs
theorem s190_21 : Runs 190 21 ls (.int i :: st) h Q ↔ if i = 0 then Runs 190 47 ls st h Q else Runs 190 24 ls st h Q := R_ifeq rfl rfl
theorem s190_24 : Runs 190 24 [x0, x1, x2, some (.int i), x4, x5, x6, x7, x8, x9, x10, x11, x12, x13, x14, x15, x16] st h Q ↔ Runs 190 25 [x0, x1, x2, some (.int i), x4, x5, x6, x7, x8, x9, x10, x11, x12, x13, x14, x15, x16] (.int i :: st) h Q := R_ildn rfl rfl
theorem s190_25 : Runs 190 25 ls (.int i :: st) h Q ↔ Runs 190 26 ls (.long i.toInt64 :: st) h Q := R_i2l rfl
theorem s190_26 : Runs 190 26 ls st h Q ↔ Runs 190 27 ls (.long 0 :: st) h Q := R_lconst rfl rfl
theorem s190_27 : Runs 190 27 ls st h Q ↔ Runs 190 30 ls (.long 9 :: st) h Q := R_ldc2 rfl rfl
theorem s190_30 (hs : zsumc st ≤ 8) : Runs 190 30 ls (.long u2 :: .long u1 :: .long u0 :: st) h Q ↔ Runs 127 0 [some (.long u0), none, some (.long u1), none, some (.long u2), none] [] h (fun v h2 => Runs 190 33 ls (v.toList ++ st) h2 Q) := R_calls (rest := st) rfl rfl rfl (by simp) rfl rfl rfl rfl hs
theorem s190_33 : Runs 190 33 ls (.int i :: st) h Q ↔ if i = 0 then Runs 190 47 ls st h Q else Runs 190 36 ls st h Q := R_ifeq rfl rfl
theorem s190_36 : Runs 190 36 [x0, x1, x2, x3, some (.int i), x5, x6, x7, x8, x9, x10, x11, x12, x13, x14, x15, x16] st h Q ↔ Runs 190 38 [x0, x1, x2, x3, some (.int i), x5, x6, x7, x8, x9, x10, x11, x12, x13, x14, x15, x16] (.int i :: st) h Q := R_ild rfl rfl
theorem s190_38 : Runs 190 38 ls (.int i :: st) h Q ↔ Runs 190 39 ls (.long i.toInt64 :: st) h Q := R_i2l rfl
theorem s190_39 : Runs 190 39 ls st h Q ↔ Runs 190 40 ls (.long 0 :: st) h Q := R_lconst rfl rfl
theorem s190_40 : Runs 190 40 ls st h Q ↔ Runs 190 41 ls (.long 1 :: st) h Q := R_lconst rfl rfl
theorem s190_41 (hs : zsumc st ≤ 8) : Runs 190 41 ls (.long u2 :: .long u1 :: .long u0 :: st) h Q ↔ Runs 127 0 [some (.long u0), none, some (.long u1), none, some (.long u2), none] [] h (fun v h2 => Runs 190 44 ls (v.toList ++ st) h2 Q) := R_calls (rest := st) rfl rfl rfl (by simp) rfl rfl rfl rfl hs
theorem s190_44 : Runs 190 44 ls (.int i :: st) h Q ↔ if ¬ i = 0 then Runs 190 50 ls st h Q else Runs 190 47 ls st h Q := R_ifne rfl rfl
theorem s190_47 : Runs 190 47 ls st h Q ↔ Runs 190 49 ls (.int (-3) :: st) h Q := R_bipush rfl (by decide)
theorem s190_49 : Runs 190 49 ls [.int i] h Q ↔ Q (some (.int i)) h := R_iret rfl rfl
theorem s190_50 : Runs 190 50 ls st h Q ↔ Runs 190 51 ls (.long 0 :: st) h Q := R_lconst rfl rfl
theorem s190_51 : Runs 190 51 [x0, x1, x2, x3, x4, x5, x6, x7, x8, x9, x10, x11, x12, x13, x14, x15, x16] (.long u :: st) h Q ↔ Runs 190 53 [x0, x1, x2, x3, zdrop x4, some (.long u), none, x7, x8, x9, x10, x11, x12, x13, x14, x15, x16] st h Q := R_lst rfl rfl rfl
theorem s190_53 : Runs 190 53 ls st h Q ↔ Runs 190 54 ls (.long 0 :: st) h Q := R_lconst rfl rfl
theorem s190_54 : Runs 190 54 [x0, x1, x2, x3, x4, x5, x6, x7, x8, x9, x10, x11, x12, x13, x14, x15, x16] (.long u :: st) h Q ↔ Runs 190 56 [x0, x1, x2, x3, x4, x5, zdrop x6, some (.long u), none, x9, x10, x11, x12, x13, x14, x15, x16] st h Q := R_lst rfl rfl rfl
theorem s190_56 : Runs 190 56 ls st h Q ↔ Runs 190 57 ls (.long 1 :: st) h Q := R_lconst rfl rfl
theorem s190_57 : Runs 190 57 [x0, x1, x2, x3, x4, x5, x6, x7, x8, x9, x10, x11, x12, x13, x14, x15, x16] (.long u :: st) h Q ↔ Runs 190 59 [x0, x1, x2, x3, x4, x5, x6, x7, zdrop x8, some (.long u), none, x11, x12, x13, x14, x15, x16] st h Q := R_lst rfl rfl rfl
theorem s190_59 : Runs 190 59 ls st h Q ↔ Runs 190 60 ls (.int 0 :: st) h Q := R_iconst rfl rfl
theorem s190_60 : Runs 190 60 [x0, x1, x2, x3, x4, x5, x6, x7, x8, x9, x10, x11, x12, x13, x14, x15, x16] (.int i :: st) h Q ↔ Runs 190 62 [x0, x1, x2, x3, x4, x5, x6, x7, x8, x9, zdrop x10, some (.int i), x12, x13, x14, x15, x16] st h Q := R_ist rfl rfl rfl
theorem s190_62 : Runs 190 62 [x0, x1, x2, x3, x4, x5, x6, x7, x8, x9, x10, some (.int i), x12, x13, x14, x15, x16] st h Q ↔ Runs 190 64 [x0, x1, x2, x3, x4, x5, x6, x7, x8, x9, x10, some (.int i), x12, x13, x14, x15, x16] (.int i :: st) h Q := R_ild rfl rfl
theorem s190_64 : Runs 190 64 [x0, some (.int i), x2, x3, x4, x5, x6, x7, x8, x9, x10, x11, x12, x13, x14, x15, x16] st h Q ↔ Runs 190 65 [x0, some (.int i), x2, x3, x4, x5, x6, x7, x8, x9, x10, x11, x12, x13, x14, x15, x16] (.int i :: st) h Q := R_ildn rfl rfl
theorem s190_65 : Runs 190 65 ls (.int j :: .int i :: st) h Q ↔ if j < i then Runs 190 155 ls st h Q else Runs 190 68 ls st h Q := R_icgt rfl rfl
theorem s190_68 : Runs 190 68 [x0, x1, x2, x3, x4, x5, x6, x7, x8, some (.long u), x10, x11, x12, x13, x14, x15, x16] st h Q ↔ Runs 190 70 [x0, x1, x2, x3, x4, x5, x6, x7, x8, some (.long u), x10, x11, x12, x13, x14, x15, x16] (.long u :: st) h Q := R_lld rfl rfl
theorem s190_70 : Runs 190 70 [x0, x1, x2, x3, x4, x5, x6, x7, x8, x9, x10, x11, x12, x13, x14, x15, x16] (.long u :: st) h Q ↔ Runs 190 72 [x0, x1, x2, x3, x4, x5, x6, x7, x8, x9, x10, zdrop x11, some (.long u), none, x14, x15, x16] st h Q := R_lst rfl rfl rfl
theorem s190_72 : Runs 190 72 ls st h Q ↔ Runs 190 73 ls (.int 0 :: st) h Q := R_iconst rfl rfl
theorem s190_73 : Runs 190 73 [x0, x1, x2, x3, x4, x5, x6, x7, x8, x9, x10, x11, x12, x13, x14, x15, x16] (.int i :: st) h Q ↔ Runs 190 75 [x0, x1, x2, x3, x4, x5, x6, x7, x8, x9, x10, x11, x12, zdrop x13, some (.int i), x15, x16] st h Q := R_ist rfl rfl rfl
theorem s190_75 : Runs 190 75 [x0, x1, x2, x3, x4, x5, x6, x7, x8, x9, x10, x11, x12, x13, some (.int i), x15, x16] st h Q ↔ Runs 190 77 [x0, x1, x2, x3, x4, x5, x6, x7, x8, x9, x10, x11, x12, x13, some (.int i), x15, x16] (.int i :: st) h Q := R_ild rfl rfl
theorem s190_77 : Runs 190 77 [x0, some (.int i), x2, x3, x4, x5, x6, x7, x8, x9, x10, x11, x12, x13, x14, x15, x16] st h Q ↔ Runs 190 78 [x0, some (.int i), x2, x3, x4, x5, x6, x7, x8, x9, x10, x11, x12, x13, x14, x15, x16] (.int i :: st) h Q := R_ildn rfl rfl
theorem s190_78 : Runs 190 78 ls (.int j :: .int i :: st) h Q ↔ if j ≤ i then Runs 190 109 ls st h Q else Runs 190 81 ls st h Q := R_icge rfl rfl
theorem s190_81 : Runs 190 81 [x0, x1, x2, x3, x4, x5, x6, x7, x8, x9, x10, x11, some (.long u), x13, x14, x15, x16] st h Q ↔ Runs 190 83 [x0, x1, x2, x3, x4, x5, x6, x7, x8, x9, x10, x11, some (.long u), x13, x14, x15, x16] (.long u :: st) h Q := R_lld rfl rfl
theorem s190_83 : Runs 190 83 [x0, x1, x2, x3, x4, x5, x6, x7, x8, x9, x10, x11, x12, x13, some (.int i), x15, x16] st h Q ↔ Runs 190 85 [x0, x1, x2, x3, x4, x5, x6, x7, x8, x9, x10, x11, x12, x13, some (.int i), x15, x16] (.int i :: st) h Q := R_ild rfl rfl
theorem s190_85 : Runs 190 85 [x0, x1, x2, x3, x4, x5, x6, x7, x8, x9, x10, some (.int i), x12, x13, x14, x15, x16] st h Q ↔ Runs 190 87 [x0, x1, x2, x3, x4, x5, x6, x7, x8, x9, x10, some (.int i), x12, x13, x14, x15, x16] (.int i :: st) h Q := R_ild rfl rfl
theorem s190_87 : Runs 190 87 ls (.int j :: .int i :: st) h Q ↔ if j ≤ i then Runs 190 95 ls st h Q else Runs 190 90 ls st h Q := R_icge rfl rfl
theorem s190_90 : Runs 190 90 [x0, x1, some (.int i), x3, x4, x5, x6, x7, x8, x9, x10, x11, x12, x13, x14, x15, x16] st h Q ↔ Runs 190 91 [x0, x1, some (.int i), x3, x4, x5, x6, x7, x8, x9, x10, x11, x12, x13, x14, x15, x16] (.int i :: st) h Q := R_ildn rfl rfl
theorem s190_91 : Runs 190 91 ls (.int i :: st) h Q ↔ Runs 190 92 ls (.long i.toInt64 :: st) h Q := R_i2l rfl
theorem s190_92 : Runs 190 92 ls st h Q ↔ Runs 190 100 ls st h Q := R_goto rfl rfl
theorem s190_95 : Runs 190 95 ls st h Q ↔ Runs 190 97 ls (.int 10 :: st) h Q := R_bipush rfl (by decide)
theorem s190_97 : Runs 190 97 [x0, x1, some (.int i), x3, x4, x5, x6, x7, x8, x9, x10, x11, x12, x13, x14, x15, x16] st h Q ↔ Runs 190 98 [x0, x1, some (.int i), x3, x4, x5, x6, x7, x8, x9, x10, x11, x12, x13, x14, x15, x16] (.int i :: st) h Q := R_ildn rfl rfl
theorem s190_98 : Runs 190 98 ls (.int j :: .int i :: st) h Q ↔ Runs 190 99 ls (.int (i - j) :: st) h Q := R_isub rfl
theorem s190_99 : Runs 190 99 ls (.int i :: st) h Q ↔ Runs 190 100 ls (.long i.toInt64 :: st) h Q := R_i2l rfl
theorem s190_100 : Runs 190 100 ls (.long w :: .long u :: st) h Q ↔ Runs 190 101 ls (.long (u * w) :: st) h Q := R_lmul rfl
theorem s190_101 : Runs 190 101 [x0, x1, x2, x3, x4, x5, x6, x7, x8, x9, x10, x11, x12, x13, x14, x15, x16] (.long u :: st) h Q ↔ Runs 190 103 [x0, x1, x2, x3, x4, x5, x6, x7, x8, x9, x10, zdrop x11, some (.long u), none, x14, x15, x16] st h Q := R_lst rfl rfl rfl
theorem s190_103 : Runs 190 103 [x0, x1, x2, x3, x4, x5, x6, x7, x8, x9, x10, x11, x12, x13, some (.int i), x15, x16] st h Q ↔ Runs 190 106 [x0, x1, x2, x3, x4, x5, x6, x7, x8, x9, x10, x11, x12, zdrop x13, some (.int (i + 1)), x15, x16] st h Q := R_iinc rfl rfl rfl rfl rfl
theorem s190_106 : Runs 190 106 ls st h Q ↔ Runs 190 75 ls st h Q := R_goto rfl rfl
theorem s190_109 : Runs 190 109 [x0, x1, x2, x3, x4, some (.long u), x6, x7, x8, x9, x10, x11, x12, x13, x14, x15, x16] st h Q ↔ Runs 190 111 [x0, x1, x2, x3, x4, some (.long u), x6, x7, x8, x9, x10, x11, x12, x13, x14, x15, x16] (.long u :: st) h Q := R_lld rfl rfl
theorem s190_111 : Runs 190 111 [x0, x1, x2, x3, x4, x5, x6, x7, x8, x9, x10, some (.int i), x12, x13, x14, x15, x16] st h Q ↔ Runs 190 113 [x0, x1, x2, x3, x4, x5, x6, x7, x8, x9, x10, some (.int i), x12, x13, x14, x15, x16] (.int i :: st) h Q := R_ild rfl rfl
theorem s190_113 : Runs 190 113 [x0, x1, x2, some (.int i), x4, x5, x6, x7, x8, x9, x10, x11, x12, x13, x14, x15, x16] st h Q ↔ Runs 190 114 [x0, x1, x2, some (.int i), x4, x5, x6, x7, x8, x9, x10, x11, x12, x13, x14, x15, x16] (.int i :: st) h Q := R_ildn rfl rfl
theorem s190_114 : Runs 190 114 ls (.int j :: .int i :: st) h Q ↔ if j ≤ i then Runs 190 121 ls st h Q else Runs 190 117 ls st h Q := R_icge rfl rfl
theorem s190_117 : Runs 190 117 ls st h Q ↔ Runs 190 118 ls (.long 0 :: st) h Q := R_lconst rfl rfl
theorem s190_118 : Runs 190 118 ls st h Q ↔ Runs 190 123 ls st h Q := R_goto rfl rfl
theorem s190_121 : Runs 190 121 [x0, x1, x2, x3, x4, x5, x6, x7, x8, x9, x10, x11, some (.long u), x13, x14, x15, x16] st h Q ↔ Runs 190 123 [x0, x1, x2, x3, x4, x5, x6, x7, x8, x9, x10, x11, some (.long u), x13, x14, x15, x16] (.long u :: st) h Q := R_lld rfl rfl
theorem s190_123 : Runs 190 123 ls (.long w :: .long u :: st) h Q ↔ Runs 190 124 ls (.long (u + w) :: st) h Q := R_ladd rfl
theorem s190_124 : Runs 190 124 [x0, x1, x2, x3, x4, x5, x6, x7, x8, x9, x10, x11, x12, x13, x14, x15, x16] (.long u :: st) h Q ↔ Runs 190 126 [x0, x1, x2, x3, zdrop x4, some (.long u), none, x7, x8, x9, x10, x11, x12, x13, x14, x15, x16] st h Q := R_lst rfl rfl rfl
theorem s190_126 : Runs 190 126 [x0, x1, x2, x3, x4, x5, x6, some (.long u), x8, x9, x10, x11, x12, x13, x14, x15, x16] st h Q ↔ Runs 190 128 [x0, x1, x2, x3, x4, x5, x6, some (.long u), x8, x9, x10, x11, x12, x13, x14, x15, x16] (.long u :: st) h Q := R_lld rfl rfl
theorem s190_128 : Runs 190 128 [x0, x1, x2, x3, x4, x5, x6, x7, x8, x9, x10, x11, some (.long u), x13, x14, x15, x16] st h Q ↔ Runs 190 130 [x0, x1, x2, x3, x4, x5, x6, x7, x8, x9, x10, x11, some (.long u), x13, x14, x15, x16] (.long u :: st) h Q := R_lld rfl rfl
theorem s190_130 : Runs 190 130 ls (.long w :: .long u :: st) h Q ↔ Runs 190 131 ls (.long (u + w) :: st) h Q := R_ladd rfl
theorem s190_131 : Runs 190 131 [x0, x1, x2, x3, x4, x5, x6, x7, x8, x9, x10, x11, x12, x13, x14, x15, x16] (.long u :: st) h Q ↔ Runs 190 133 [x0, x1, x2, x3, x4, x5, zdrop x6, some (.long u), none, x9, x10, x11, x12, x13, x14, x15, x16] st h Q := R_lst rfl rfl rfl
theorem s190_133 : Runs 190 133 [x0, x1, x2, x3, x4, x5, x6, x7, x8, some (.long u), x10, x11, x12, x13, x14, x15, x16] st h Q ↔ Runs 190 135 [x0, x1, x2, x3, x4, x5, x6, x7, x8, some (.long u), x10, x11, x12, x13, x14, x15, x16] (.long u :: st) h Q := R_lld rfl rfl
theorem s190_135 : Runs 190 135 [x0, some (.int i), x2, x3, x4, x5, x6, x7, x8, x9, x10, x11, x12, x13, x14, x15, x16] st h Q ↔ Runs 190 136 [x0, some (.int i), x2, x3, x4, x5, x6, x7, x8, x9, x10, x11, x12, x13, x14, x15, x16] (.int i :: st) h Q := R_ildn rfl rfl
theorem s190_136 : Runs 190 136 [x0, x1, x2, x3, x4, x5, x6, x7, x8, x9, x10, some (.int i), x12, x13, x14, x15, x16] st h Q ↔ Runs 190 138 [x0, x1, x2, x3, x4, x5, x6, x7, x8, x9, x10, some (.int i), x12, x13, x14, x15, x16] (.int i :: st) h Q := R_ild rfl rfl
theorem s190_138 : Runs 190 138 ls (.int j :: .int i :: st) h Q ↔ Runs 190 139 ls (.int (i - j) :: st) h Q := R_isub rfl
theorem s190_139 : Runs 190 139 ls (.int i :: st) h Q ↔ Runs 190 140 ls (.long i.toInt64 :: st) h Q := R_i2l rfl
theorem s190_140 : Runs 190 140 ls (.long w :: .long u :: st) h Q ↔ Runs 190 141 ls (.long (u * w) :: st) h Q := R_lmul rfl
theorem s190_141 : Runs 190 141 [x0, x1, x2, x3, x4, x5, x6, x7, x8, x9, x10, some (.int i), x12, x13, x14, x15, x16] st h Q ↔ Runs 190 143 [x0, x1, x2, x3, x4, x5, x6, x7, x8, x9, x10, some (.int i), x12, x13, x14, x15, x16] (.int i :: st) h Q := R_ild rfl rfl
theorem s190_143 : Runs 190 143 ls st h Q ↔ Runs 190 144 ls (.int 1 :: st) h Q := R_iconst rfl rfl
theorem s190_144 : Runs 190 144 ls (.int j :: .int i :: st) h Q ↔ Runs 190 145 ls (.int (i + j) :: st) h Q := R_iadd rfl
theorem s190_145 : Runs 190 145 ls (.int i :: st) h Q ↔ Runs 190 146 ls (.long i.toInt64 :: st) h Q := R_i2l rfl
theorem s190_146 : Runs 190 146 ls (.long w :: .long u :: st) h Q ↔ (¬ w = 0 ∧ Runs 190 147 ls (.long (u / w) :: st) h Q) := R_ldiv rfl
theorem s190_147 : Runs 190 147 [x0, x1, x2, x3, x4, x5, x6, x7, x8, x9, x10, x11, x12, x13, x14, x15, x16] (.long u :: st) h Q ↔ Runs 190 149 [x0, x1, x2, x3, x4, x5, x6, x7, zdrop x8, some (.long u), none, x11, x12, x13, x14, x15, x16] st h Q := R_lst rfl rfl rfl
theorem s190_149 : Runs 190 149 [x0, x1, x2, x3, x4, x5, x6, x7, x8, x9, x10, some (.int i), x12, x13, x14, x15, x16] st h Q ↔ Runs 190 152 [x0, x1, x2, x3, x4, x5, x6, x7, x8, x9, zdrop x10, some (.int (i + 1)), x12, x13, x14, x15, x16] st h Q := R_iinc rfl rfl rfl rfl rfl
theorem s190_152 : Runs 190 152 ls st h Q ↔ Runs 190 62 ls st h Q := R_goto rfl rfl
theorem s190_155 : Runs 190 155 [x0, x1, x2, x3, x4, some (.long u), x6, x7, x8, x9, x10, x11, x12, x13, x14, x15, x16] st h Q ↔ Runs 190 157 [x0, x1, x2, x3, x4, some (.long u), x6, x7, x8, x9, x10, x11, x12, x13, x14, x15, x16] (.long u :: st) h Q := R_lld rfl rfl
theorem s190_157 : Runs 190 157 [x0, x1, x2, x3, x4, x5, x6, x7, x8, x9, x10, x11, x12, x13, x14, x15, x16] (.long u :: st) h Q ↔ Runs 190 159 [x0, x1, x2, x3, x4, x5, x6, x7, x8, x9, zdrop x10, some (.long u), none, x13, x14, x15, x16] st h Q := R_lst rfl rfl rfl
theorem s190_159 : Runs 190 159 [x0, x1, x2, x3, x4, x5, x6, some (.long u), x8, x9, x10, x11, x12, x13, x14, x15, x16] st h Q ↔ Runs 190 161 [x0, x1, x2, x3, x4, x5, x6, some (.long u), x8, x9, x10, x11, x12, x13, x14, x15, x16] (.long u :: st) h Q := R_lld rfl rfl
theorem s190_161 : Runs 190 161 [x0, x1, x2, x3, x4, x5, x6, x7, x8, x9, x10, x11, x12, x13, x14, x15, x16] (.long u :: st) h Q ↔ Runs 190 163 [x0, x1, x2, x3, x4, x5, x6, x7, x8, x9, x10, x11, zdrop x12, some (.long u), none, x15, x16] st h Q := R_lst rfl rfl rfl
theorem s190_163 : Runs 190 163 [x0, x1, x2, x3, x4, x5, x6, x7, x8, x9, x10, x11, x12, some (.long u), x14, x15, x16] st h Q ↔ Runs 190 165 [x0, x1, x2, x3, x4, x5, x6, x7, x8, x9, x10, x11, x12, some (.long u), x14, x15, x16] (.long u :: st) h Q := R_lld rfl rfl
theorem s190_165 : Runs 190 165 ls st h Q ↔ Runs 190 166 ls (.long 0 :: st) h Q := R_lconst rfl rfl
theorem s190_166 : Runs 190 166 ls (.long w :: .long u :: st) h Q ↔ Runs 190 167 ls (.int (lg_cmp u w) :: st) h Q := R_lcmp rfl
theorem s190_167 : Runs 190 167 ls (.int i :: st) h Q ↔ if i = 0 then Runs 190 188 ls st h Q else Runs 190 170 ls st h Q := R_ifeq rfl rfl
theorem s190_170 : Runs 190 170 [x0, x1, x2, x3, x4, x5, x6, x7, x8, x9, x10, some (.long u), x12, x13, x14, x15, x16] st h Q ↔ Runs 190 172 [x0, x1, x2, x3, x4, x5, x6, x7, x8, x9, x10, some (.long u), x12, x13, x14, x15, x16] (.long u :: st) h Q := R_lld rfl rfl
theorem s190_172 : Runs 190 172 [x0, x1, x2, x3, x4, x5, x6, x7, x8, x9, x10, x11, x12, some (.long u), x14, x15, x16] st h Q ↔ Runs 190 174 [x0, x1, x2, x3, x4, x5, x6, x7, x8, x9, x10, x11, x12, some (.long u), x14, x15, x16] (.long u :: st) h Q := R_lld rfl rfl
theorem s190_174 : Runs 190 174 ls (.long w :: .long u :: st) h Q ↔ (¬ w = 0 ∧ Runs 190 175 ls (.long (u - u / w * w) :: st) h Q) := R_lrem rfl
theorem s190_175 : Runs 190 175 [x0, x1, x2, x3, x4, x5, x6, x7, x8, x9, x10, x11, x12, x13, x14, x15, x16] (.long u :: st) h Q ↔ Runs 190 177 [x0, x1, x2, x3, x4, x5, x6, x7, x8, x9, x10, x11, x12, x13, zdrop x14, some (.long u), none] st h Q := R_lst rfl rfl rfl
theorem s190_177 : Runs 190 177 [x0, x1, x2, x3, x4, x5, x6, x7, x8, x9, x10, x11, x12, some (.long u), x14, x15, x16] st h Q ↔ Runs 190 179 [x0, x1, x2, x3, x4, x5, x6, x7, x8, x9, x10, x11, x12, some (.long u), x14, x15, x16] (.long u :: st) h Q := R_lld rfl rfl
theorem s190_179 : Runs 190 179 [x0, x1, x2, x3, x4, x5, x6, x7, x8, x9, x10, x11, x12, x13, x14, x15, x16] (.long u :: st) h Q ↔ Runs 190 181 [x0, x1, x2, x3, x4, x5, x6, x7, x8, x9, zdrop x10, some (.long u), none, x13, x14, x15, x16] st h Q := R_lst rfl rfl rfl
theorem s190_181 : Runs 190 181 [x0, x1, x2, x3, x4, x5, x6, x7, x8, x9, x10, x11, x12, x13, x14, some (.long u), x16] st h Q ↔ Runs 190 183 [x0, x1, x2, x3, x4, x5, x6, x7, x8, x9, x10, x11, x12, x13, x14, some (.long u), x16] (.long u :: st) h Q := R_lld rfl rfl
theorem s190_183 : Runs 190 183 [x0, x1, x2, x3, x4, x5, x6, x7, x8, x9, x10, x11, x12, x13, x14, x15, x16] (.long u :: st) h Q ↔ Runs 190 185 [x0, x1, x2, x3, x4, x5, x6, x7, x8, x9, x10, x11, zdrop x12, some (.long u), none, x15, x16] st h Q := R_lst rfl rfl rfl
theorem s190_185 : Runs 190 185 ls st h Q ↔ Runs 190 163 ls st h Q := R_goto rfl rfl
theorem s190_188 : Runs 190 188 [x0, x1, x2, x3, some (.int i), x5, x6, x7, x8, x9, x10, x11, x12, x13, x14, x15, x16] st h Q ↔ Runs 190 190 [x0, x1, x2, x3, some (.int i), x5, x6, x7, x8, x9, x10, x11, x12, x13, x14, x15, x16] (.int i :: st) h Q := R_ild rfl rfl
theorem s190_190 : Runs 190 190 ls (.int i :: st) h Q ↔ if ¬ i = 0 then Runs 190 201 ls st h Q else Runs 190 193 ls st h Q := R_ifne rfl rfl
theorem s190_193 : Runs 190 193 [x0, x1, x2, x3, x4, some (.long u), x6, x7, x8, x9, x10, x11, x12, x13, x14, x15, x16] st h Q ↔ Runs 190 195 [x0, x1, x2, x3, x4, some (.long u), x6, x7, x8, x9, x10, x11, x12, x13, x14, x15, x16] (.long u :: st) h Q := R_lld rfl rfl
theorem s190_195 : Runs 190 195 [x0, x1, x2, x3, x4, x5, x6, x7, x8, x9, x10, some (.long u), x12, x13, x14, x15, x16] st h Q ↔ Runs 190 197 [x0, x1, x2, x3, x4, x5, x6, x7, x8, x9, x10, some (.long u), x12, x13, x14, x15, x16] (.long u :: st) h Q := R_lld rfl rfl
theorem s190_197 : Runs 190 197 ls (.long w :: .long u :: st) h Q ↔ (¬ w = 0 ∧ Runs 190 198 ls (.long (u / w) :: st) h Q) := R_ldiv rfl
theorem s190_198 : Runs 190 198 ls st h Q ↔ Runs 190 206 ls st h Q := R_goto rfl rfl
theorem s190_201 : Runs 190 201 [x0, x1, x2, x3, x4, x5, x6, some (.long u), x8, x9, x10, x11, x12, x13, x14, x15, x16] st h Q ↔ Runs 190 203 [x0, x1, x2, x3, x4, x5, x6, some (.long u), x8, x9, x10, x11, x12, x13, x14, x15, x16] (.long u :: st) h Q := R_lld rfl rfl
theorem s190_203 : Runs 190 203 [x0, x1, x2, x3, x4, x5, x6, x7, x8, x9, x10, some (.long u), x12, x13, x14, x15, x16] st h Q ↔ Runs 190 205 [x0, x1, x2, x3, x4, x5, x6, x7, x8, x9, x10, some (.long u), x12, x13, x14, x15, x16] (.long u :: st) h Q := R_lld rfl rfl
theorem s190_205 : Runs 190 205 ls (.long w :: .long u :: st) h Q ↔ (¬ w = 0 ∧ Runs 190 206 ls (.long (u / w) :: st) h Q) := R_ldiv rfl
theorem s190_206 : Runs 190 206 ls (.long u :: st) h Q ↔ Runs 190 207 ls (.int u.toInt32 :: st) h Q := R_l2i rfl
theorem s190_207 : Runs 190 207 ls [.int i] h Q ↔ Q (some (.int i)) h := R_iret rfl rfl
theorem s191_0 : Runs 191 0 [some (.int i)] st h Q ↔ Runs 191 1 [some (.int i)] (.int i :: st) h Q := R_ildn rfl rfl
theorem s191_1 : Runs 191 1 ls (.int i :: st) h Q ↔ Runs 191 2 ls (.long i.toInt64 :: st) h Q := R_i2l rfl
theorem s191_2 : Runs 191 2 ls st h Q ↔ Runs 191 3 ls (.long 0 :: st) h Q := R_lconst rfl rfl
theorem s191_3 : Runs 191 3 ls st h Q ↔ Runs 191 6 ls (.long 2 :: st) h Q := R_ldc2 rfl rfl
theorem s191_6 (hs : zsumc st ≤ 8) : Runs 191 6 ls (.long u2 :: .long u1 :: .long u0 :: st) h Q ↔ Runs 127 0 [some (.long u0), none, some (.long u1), none, some (.long u2), none] [] h (fun v h2 => Runs 191 9 ls (v.toList ++ st) h2 Q) := R_calls (rest := st) rfl rfl rfl (by simp) rfl rfl rfl rfl hs
theorem s191_9 (hx : i = 0 ∨ i = 1) : Runs 191 9 ls [.int i] h Q ↔ Q (some (.int i)) h := R_zret rfl rfl hx
theorem s192_0 : Runs 192 0 [x0, some (.int i), x2, x3] st h Q ↔ Runs 192 1 [x0, some (.int i), x2, x3] (.int i :: st) h Q := R_ildn rfl rfl
theorem s192_1 (hs : zsumc st ≤ 8) : Runs 192 1 ls (.int i0 :: st) h Q ↔ Runs 191 0 [some (.int i0)] [] h (fun v h2 => Runs 192 4 ls (v.toList ++ st) h2 Q) := R_calls (rest := st) rfl rfl rfl (by simp) rfl rfl rfl rfl hs
theorem s192_4 : Runs 192 4 ls (.int i :: st) h Q ↔ if ¬ i = 0 then Runs 192 10 ls st h Q else Runs 192 7 ls st h Q := R_ifne rfl rfl
theorem s192_7 : Runs 192 7 ls st h Q ↔ Runs 192 9 ls (.int (-2) :: st) h Q := R_bipush rfl (by decide)
theorem s192_9 : Runs 192 9 ls [.int i] h Q ↔ Q (some (.int i)) h := R_iret rfl rfl
theorem s192_10 : Runs 192 10 [x0, x1, some (.int i), x3] st h Q ↔ Runs 192 11 [x0, x1, some (.int i), x3] (.int i :: st) h Q := R_ildn rfl rfl
theorem s192_11 : Runs 192 11 ls st h Q ↔ Runs 192 13 ls (.int 12 :: st) h Q := R_bipush rfl (by decide)
theorem s192_13 : Runs 192 13 ls (.int j :: .int i :: st) h Q ↔ if i ≤ j then Runs 192 19 ls st h Q else Runs 192 16 ls st h Q := R_icle rfl rfl
theorem s192_16 : Runs 192 16 ls st h Q ↔ Runs 192 18 ls (.int (-3) :: st) h Q := R_bipush rfl (by decide)
theorem s192_18 : Runs 192 18 ls [.int i] h Q ↔ Q (some (.int i)) h := R_iret rfl rfl
theorem s192_19 : Runs 192 19 [x0, x1, some (.int i), x3] st h Q ↔ Runs 192 20 [x0, x1, some (.int i), x3] (.int i :: st) h Q := R_ildn rfl rfl
theorem s192_20 : Runs 192 20 ls (.int i :: st) h Q ↔ if 0 ≤ i then Runs 192 26 ls st h Q else Runs 192 23 ls st h Q := R_ifge rfl rfl
theorem s192_23 : Runs 192 23 ls st h Q ↔ Runs 192 25 ls (.int (-15) :: st) h Q := R_bipush rfl (by decide)
theorem s192_25 : Runs 192 25 ls [.int i] h Q ↔ Q (some (.int i)) h := R_iret rfl rfl
theorem s192_26 : Runs 192 26 [some (.ref a), x1, x2, x3] st h Q ↔ Runs 192 27 [some (.ref a), x1, x2, x3] (.ref a :: st) h Q := R_aldn rfl rfl
theorem s192_26q : Runs 192 26 [some (zrf r), x1, x2, x3] st h Q ↔ Runs 192 27 [some (zrf r), x1, x2, x3] (zrf r :: st) h Q := R_aldnq rfl rfl
theorem s192_27 (ht : tg a = 10) : Runs 192 27 ls (.ref a :: st) (n, tg, ln, I, J, O) Q ↔ Runs 192 30 ls (zrf (O a 8) :: st) (n, tg, ln, I, J, O) Q := R_getr rfl rfl rfl rfl ht
theorem s192_30 : Runs 192 30 [x0, some (.int i), x2, x3] st h Q ↔ Runs 192 31 [x0, some (.int i), x2, x3] (.int i :: st) h Q := R_ildn rfl rfl
theorem s192_31 : Runs 192 31 [x0, x1, some (.int i), x3] st h Q ↔ Runs 192 32 [x0, x1, some (.int i), x3] (.int i :: st) h Q := R_ildn rfl rfl
theorem s192_32 (ht : tg a = 20) : Runs 192 32 ls (.int j :: .int i :: .ref a :: st) (n, tg, ln, I, J, O) Q ↔ ((0 ≤ i ∧ i < Int32.ofNat (ln a)) ∧ Runs 192 33 ls st (n, tg, ln, zu I a i j, J, O) Q) := R_iast rfl ht
theorem s192_33 : Runs 192 33 ls st h Q ↔ Runs 192 34 ls (.int 0 :: st) h Q := R_iconst rfl rfl
theorem s192_34 : Runs 192 34 [x0, x1, x2, x3] (.int i :: st) h Q ↔ Runs 192 35 [x0, x1, zdrop x2, some (.int i)] st h Q := R_istn rfl rfl rfl
theorem s192_35 : Runs 192 35 [x0, x1, x2, some (.int i)] st h Q ↔ Runs 192 36 [x0, x1, x2, some (.int i)] (.int i :: st) h Q := R_ildn rfl rfl
theorem s192_36 : Runs 192 36 ls st h Q ↔ Runs 192 38 ls (.int 12 :: st) h Q := R_bipush rfl (by decide)
theorem s192_38 : Runs 192 38 ls (.int j :: .int i :: st) h Q ↔ if j ≤ i then Runs 192 59 ls st h Q else Runs 192 41 ls st h Q := R_icge rfl rfl
theorem s192_41 : Runs 192 41 [some (.ref a), x1, x2, x3] st h Q ↔ Runs 192 42 [some (.ref a), x1, x2, x3] (.ref a :: st) h Q := R_aldn rfl rfl
theorem s192_41q : Runs 192 41 [some (zrf r), x1, x2, x3] st h Q ↔ Runs 192 42 [some (zrf r), x1, x2, x3] (zrf r :: st) h Q := R_aldnq rfl rfl
theorem s192_42 (ht : tg a = 10) : Runs 192 42 ls (.ref a :: st) (n, tg, ln, I, J, O) Q ↔ Runs 192 45 ls (zrf (O a 9) :: st) (n, tg, ln, I, J, O) Q := R_getr rfl rfl rfl rfl ht
theorem s192_45 : Runs 192 45 ls st h Q ↔ Runs 192 47 ls (.int 12 :: st) h Q := R_bipush rfl (by decide)
theorem s192_47 : Runs 192 47 [x0, some (.int i), x2, x3] st h Q ↔ Runs 192 48 [x0, some (.int i), x2, x3] (.int i :: st) h Q := R_ildn rfl rfl
theorem s192_48 : Runs 192 48 ls (.int j :: .int i :: st) h Q ↔ Runs 192 49 ls (.int (i * j) :: st) h Q := R_imul rfl
theorem s192_49 : Runs 192 49 [x0, x1, x2, some (.int i)] st h Q ↔ Runs 192 50 [x0, x1, x2, some (.int i)] (.int i :: st) h Q := R_ildn rfl rfl
theorem s192_50 : Runs 192 50 ls (.int j :: .int i :: st) h Q ↔ Runs 192 51 ls (.int (i + j) :: st) h Q := R_iadd rfl
theorem s192_51 : Runs 192 51 ls st h Q ↔ Runs 192 52 ls (.int 0 :: st) h Q := R_iconst rfl rfl
theorem s192_52 (ht : tg a = 20) : Runs 192 52 ls (.int j :: .int i :: .ref a :: st) (n, tg, ln, I, J, O) Q ↔ ((0 ≤ i ∧ i < Int32.ofNat (ln a)) ∧ Runs 192 53 ls st (n, tg, ln, zu I a i j, J, O) Q) := R_iast rfl ht
theorem s192_53 : Runs 192 53 [x0, x1, x2, some (.int i)] st h Q ↔ Runs 192 56 [x0, x1, zdrop x2, some (.int (i + 1))] st h Q := R_iinc rfl rfl rfl rfl rfl
theorem s192_56 : Runs 192 56 ls st h Q ↔ Runs 192 35 ls st h Q := R_goto rfl rfl
theorem s192_59 : Runs 192 59 [x0, x1, some (.int i), x3] st h Q ↔ Runs 192 60 [x0, x1, some (.int i), x3] (.int i :: st) h Q := R_ildn rfl rfl
theorem s192_60 : Runs 192 60 ls [.int i] h Q ↔ Q (some (.int i)) h := R_iret rfl rfl
theorem s193_0 : Runs 193 0 [some (.ref a), x1, x2] st h Q ↔ Runs 193 1 [some (.ref a), x1, x2] (.ref a :: st) h Q := R_aldn rfl rfl
theorem s193_0q : Runs 193 0 [some (zrf r), x1, x2] st h Q ↔ Runs 193 1 [some (zrf r), x1, x2] (zrf r :: st) h Q := R_aldnq rfl rfl
theorem s193_1 (ht : tg a = 10) : Runs 193 1 ls (.ref a :: st) (n, tg, ln, I, J, O) Q ↔ Runs 193 4 ls (zrf (O a 8) :: st) (n, tg, ln, I, J, O) Q := R_getr rfl rfl rfl rfl ht
theorem s193_4 : Runs 193 4 [x0, some (.int i), x2] st h Q ↔ Runs 193 5 [x0, some (.int i), x2] (.int i :: st) h Q := R_ildn rfl rfl
theorem s193_5 (ht : tg a = 20) : Runs 193 5 ls (.int i :: .ref a :: st) (n, tg, ln, I, J, O) Q ↔ ((0 ≤ i ∧ i < Int32.ofNat (ln a)) ∧ Runs 193 6 ls (.int (I a i) :: st) (n, tg, ln, I, J, O) Q) := R_iald rfl ht
theorem s193_6 : Runs 193 6 ls (.int i :: st) h Q ↔ if 0 ≤ i then Runs 193 14 ls st h Q else Runs 193 9 ls st h Q := R_ifge rfl rfl
theorem s193_9 : Runs 193 9 ls st h Q ↔ Runs 193 11 ls (.int (-11) :: st) h Q := R_bipush rfl (by decide)
theorem s193_11 : Runs 193 11 ls st h Q ↔ Runs 193 38 ls st h Q := R_goto rfl rfl
theorem s193_14 : Runs 193 14 [x0, x1, some (.int i)] st h Q ↔ Runs 193 15 [x0, x1, some (.int i)] (.int i :: st) h Q := R_ildn rfl rfl
theorem s193_15 : Runs 193 15 ls (.int i :: st) h Q ↔ Runs 193 16 ls (.long i.toInt64 :: st) h Q := R_i2l rfl
theorem s193_16 : Runs 193 16 ls st h Q ↔ Runs 193 17 ls (.long 0 :: st) h Q := R_lconst rfl rfl
theorem s193_17 : Runs 193 17 [some (.ref a), x1, x2] st h Q ↔ Runs 193 18 [some (.ref a), x1, x2] (.ref a :: st) h Q := R_aldn rfl rfl
theorem s193_17q : Runs 193 17 [some (zrf r), x1, x2] st h Q ↔ Runs 193 18 [some (zrf r), x1, x2] (zrf r :: st) h Q := R_aldnq rfl rfl
theorem s193_18 (ht : tg a = 10) : Runs 193 18 ls (.ref a :: st) (n, tg, ln, I, J, O) Q ↔ Runs 193 21 ls (zrf (O a 8) :: st) (n, tg, ln, I, J, O) Q := R_getr rfl rfl rfl rfl ht
theorem s193_21 : Runs 193 21 [x0, some (.int i), x2] st h Q ↔ Runs 193 22 [x0, some (.int i), x2] (.int i :: st) h Q := R_ildn rfl rfl
theorem s193_22 (ht : tg a = 20) : Runs 193 22 ls (.int i :: .ref a :: st) (n, tg, ln, I, J, O) Q ↔ ((0 ≤ i ∧ i < Int32.ofNat (ln a)) ∧ Runs 193 23 ls (.int (I a i) :: st) (n, tg, ln, I, J, O) Q) := R_iald rfl ht
theorem s193_23 : Runs 193 23 ls st h Q ↔ Runs 193 24 ls (.int 1 :: st) h Q := R_iconst rfl rfl
theorem s193_24 : Runs 193 24 ls (.int j :: .int i :: st) h Q ↔ Runs 193 25 ls (.int (i - j) :: st) h Q := R_isub rfl
theorem s193_25 : Runs 193 25 ls (.int i :: st) h Q ↔ Runs 193 26 ls (.long i.toInt64 :: st) h Q := R_i2l rfl
theorem s193_26 (hs : zsumc st ≤ 8) : Runs 193 26 ls (.long u2 :: .long u1 :: .long u0 :: st) h Q ↔ Runs 127 0 [some (.long u0), none, some (.long u1), none, some (.long u2), none] [] h (fun v h2 => Runs 193 29 ls (v.toList ++ st) h2 Q) := R_calls (rest := st) rfl rfl rfl (by simp) rfl rfl rfl rfl hs
theorem s193_29 : Runs 193 29 ls (.int i :: st) h Q ↔ if i = 0 then Runs 193 36 ls st h Q else Runs 193 32 ls st h Q := R_ifeq rfl rfl
theorem s193_32 : Runs 193 32 ls st h Q ↔ Runs 193 33 ls (.int 0 :: st) h Q := R_iconst rfl rfl
theorem s193_33 : Runs 193 33 ls st h Q ↔ Runs 193 38 ls st h Q := R_goto rfl rfl
theorem s193_36 : Runs 193 36 ls st h Q ↔ Runs 193 38 ls (.int (-12) :: st) h Q := R_bipush rfl (by decide)
theorem s193_38 : Runs 193 38 ls [.int i] h Q ↔ Q (some (.int i)) h := R_iret rfl rfl
theorem s194_0 : Runs 194 0 [x0, some (.int i), x2, x3, x4, x5, x6] st h Q ↔ Runs 194 1 [x0, some (.int i), x2, x3, x4, x5, x6] (.int i :: st) h Q := R_ildn rfl rfl
theorem s194_1 (hs : zsumc st ≤ 8) : Runs 194 1 ls (.int i0 :: st) h Q ↔ Runs 191 0 [some (.int i0)] [] h (fun v h2 => Runs 194 4 ls (v.toList ++ st) h2 Q) := R_calls (rest := st) rfl rfl rfl (by simp) rfl rfl rfl rfl hs
theorem s194_4 : Runs 194 4 ls (.int i :: st) h Q ↔ if i = 0 then Runs 194 21 ls st h Q else Runs 194 7 ls st h Q := R_ifeq rfl rfl
theorem s194_7 : Runs 194 7 [x0, x1, x2, some (.int i), x4, x5, x6] st h Q ↔ Runs 194 8 [x0, x1, x2, some (.int i), x4, x5, x6] (.int i :: st) h Q := R_ildn rfl rfl
theorem s194_8 : Runs 194 8 ls st h Q ↔ Runs 194 9 ls (.int 1 :: st) h Q := R_iconst rfl rfl
theorem s194_9 : Runs 194 9 ls (.int j :: .int i :: st) h Q ↔ if ¬ i = j then Runs 194 24 ls st h Q else Runs 194 12 ls st h Q := R_icne rfl rfl
theorem s194_12 : Runs 194 12 [some (.ref a), x1, x2, x3, x4, x5, x6] st h Q ↔ Runs 194 13 [some (.ref a), x1, x2, x3, x4, x5, x6] (.ref a :: st) h Q := R_aldn rfl rfl
theorem s194_12q : Runs 194 12 [some (zrf r), x1, x2, x3, x4, x5, x6] st h Q ↔ Runs 194 13 [some (zrf r), x1, x2, x3, x4, x5, x6] (zrf r :: st) h Q := R_aldnq rfl rfl
theorem s194_13 : Runs 194 13 [x0, x1, x2, x3, some (.long u), x5, x6] st h Q ↔ Runs 194 15 [x0, x1, x2, x3, some (.long u), x5, x6] (.long u :: st) h Q := R_lld rfl rfl
theorem s194_15 (ht : tg a = 10) (hs : zsumc st ≤ 8) : Runs 194 15 ls (.long u0 :: .ref a :: st) (n, tg, ln, I, J, O) Q ↔ Runs 151 0 [some (.ref a), some (.long u0), none] [] (n, tg, ln, I, J, O) (fun v h2 => Runs 194 18 ls (v.toList ++ st) h2 Q) := R_callv (a := a) (rest := st) rfl rfl rfl rfl rfl rfl rfl ht hs
theorem s194_18 : Runs 194 18 ls (.int i :: st) h Q ↔ if ¬ i = 0 then Runs 194 24 ls st h Q else Runs 194 21 ls st h Q := R_ifne rfl rfl
theorem s194_21 : Runs 194 21 ls st h Q ↔ Runs 194 23 ls (.int (-2) :: st) h Q := R_bipush rfl (by decide)
theorem s194_23 : Runs 194 23 ls [.int i] h Q ↔ Q (some (.int i)) h := R_iret rfl rfl
theorem s194_24 : Runs 194 24 [x0, x1, x2, some (.int i), x4, x5, x6] st h Q ↔ Runs 194 25 [x0, x1, x2, some (.int i), x4, x5, x6] (.int i :: st) h Q := R_ildn rfl rfl
theorem s194_25 : Runs 194 25 ls (.int i :: st) h Q ↔ Runs 194 26 ls (.long i.toInt64 :: st) h Q := R_i2l rfl
theorem s194_26 : Runs 194 26 ls st h Q ↔ Runs 194 27 ls (.long 0 :: st) h Q := R_lconst rfl rfl
theorem s194_27 : Runs 194 27 ls st h Q ↔ Runs 194 30 ls (.long 2 :: st) h Q := R_ldc2 rfl rfl
theorem s194_30 (hs : zsumc st ≤ 8) : Runs 194 30 ls (.long u2 :: .long u1 :: .long u0 :: st) h Q ↔ Runs 127 0 [some (.long u0), none, some (.long u1), none, some (.long u2), none] [] h (fun v h2 => Runs 194 33 ls (v.toList ++ st) h2 Q) := R_calls (rest := st) rfl rfl rfl (by simp) rfl rfl rfl rfl hs
theorem s194_33 : Runs 194 33 ls (.int i :: st) h Q ↔ if ¬ i = 0 then Runs 194 39 ls st h Q else Runs 194 36 ls st h Q := R_ifne rfl rfl
theorem s194_36 : Runs 194 36 ls st h Q ↔ Runs 194 38 ls (.int (-3) :: st) h Q := R_bipush rfl (by decide)
theorem s194_38 : Runs 194 38 ls [.int i] h Q ↔ Q (some (.int i)) h := R_iret rfl rfl
theorem s194_39 : Runs 194 39 [some (.ref a), x1, x2, x3, x4, x5, x6] st h Q ↔ Runs 194 40 [some (.ref a), x1, x2, x3, x4, x5, x6] (.ref a :: st) h Q := R_aldn rfl rfl
theorem s194_39q : Runs 194 39 [some (zrf r), x1, x2, x3, x4, x5, x6] st h Q ↔ Runs 194 40 [some (zrf r), x1, x2, x3, x4, x5, x6] (zrf r :: st) h Q := R_aldnq rfl rfl
theorem s194_40 : Runs 194 40 [x0, some (.int i), x2, x3, x4, x5, x6] st h Q ↔ Runs 194 41 [x0, some (.int i), x2, x3, x4, x5, x6] (.int i :: st) h Q := R_ildn rfl rfl
theorem s194_41 : Runs 194 41 [x0, x1, some (.int i), x3, x4, x5, x6] st h Q ↔ Runs 194 42 [x0, x1, some (.int i), x3, x4, x5, x6] (.int i :: st) h Q := R_ildn rfl rfl
theorem s194_42 (ht : tg a = 10) (hs : zsumc st ≤ 8) : Runs 194 42 ls (.int i1 :: .int i0 :: .ref a :: st) (n, tg, ln, I, J, O) Q ↔ Runs 193 0 [some (.ref a), some (.int i0), some (.int i1)] [] (n, tg, ln, I, J, O) (fun v h2 => Runs 194 45 ls (v.toList ++ st) h2 Q) := R_callv (a := a) (rest := st) rfl rfl rfl rfl rfl rfl rfl ht hs
theorem s194_45 : Runs 194 45 [x0, x1, x2, x3, x4, x5, x6] (.int i :: st) h Q ↔ Runs 194 47 [x0, x1, x2, x3, x4, zdrop x5, some (.int i)] st h Q := R_ist rfl rfl rfl
theorem s194_47 : Runs 194 47 [x0, x1, x2, x3, x4, x5, some (.int i)] st h Q ↔ Runs 194 49 [x0, x1, x2, x3, x4, x5, some (.int i)] (.int i :: st) h Q := R_ild rfl rfl
theorem s194_49 : Runs 194 49 ls (.int i :: st) h Q ↔ if i = 0 then Runs 194 55 ls st h Q else Runs 194 52 ls st h Q := R_ifeq rfl rfl
theorem s194_52 : Runs 194 52 [x0, x1, x2, x3, x4, x5, some (.int i)] st h Q ↔ Runs 194 54 [x0, x1, x2, x3, x4, x5, some (.int i)] (.int i :: st) h Q := R_ild rfl rfl
theorem s194_54 : Runs 194 54 ls [.int i] h Q ↔ Q (some (.int i)) h := R_iret rfl rfl
theorem s194_55 : Runs 194 55 [some (.ref a), x1, x2, x3, x4, x5, x6] st h Q ↔ Runs 194 56 [some (.ref a), x1, x2, x3, x4, x5, x6] (.ref a :: st) h Q := R_aldn rfl rfl
theorem s194_55q : Runs 194 55 [some (zrf r), x1, x2, x3, x4, x5, x6] st h Q ↔ Runs 194 56 [some (zrf r), x1, x2, x3, x4, x5, x6] (zrf r :: st) h Q := R_aldnq rfl rfl
theorem s194_56 (ht : tg a = 10) : Runs 194 56 ls (.ref a :: st) (n, tg, ln, I, J, O) Q ↔ Runs 194 59 ls (zrf (O a 9) :: st) (n, tg, ln, I, J, O) Q := R_getr rfl rfl rfl rfl ht
theorem s194_59 : Runs 194 59 ls st h Q ↔ Runs 194 61 ls (.int 12 :: st) h Q := R_bipush rfl (by decide)
theorem s194_61 : Runs 194 61 [x0, some (.int i), x2, x3, x4, x5, x6] st h Q ↔ Runs 194 62 [x0, some (.int i), x2, x3, x4, x5, x6] (.int i :: st) h Q := R_ildn rfl rfl
theorem s194_62 : Runs 194 62 ls (.int j :: .int i :: st) h Q ↔ Runs 194 63 ls (.int (i * j) :: st) h Q := R_imul rfl
theorem s194_63 : Runs 194 63 [x0, x1, some (.int i), x3, x4, x5, x6] st h Q ↔ Runs 194 64 [x0, x1, some (.int i), x3, x4, x5, x6] (.int i :: st) h Q := R_ildn rfl rfl
theorem s194_64 : Runs 194 64 ls (.int j :: .int i :: st) h Q ↔ Runs 194 65 ls (.int (i + j) :: st) h Q := R_iadd rfl
theorem s194_65 : Runs 194 65 [x0, x1, x2, some (.int i), x4, x5, x6] st h Q ↔ Runs 194 66 [x0, x1, x2, some (.int i), x4, x5, x6] (.int i :: st) h Q := R_ildn rfl rfl
theorem s194_66 : Runs 194 66 ls st h Q ↔ Runs 194 67 ls (.int 2 :: st) h Q := R_iconst rfl rfl
theorem s194_67 : Runs 194 67 ls (.int j :: .int i :: st) h Q ↔ if ¬ i = j then Runs 194 74 ls st h Q else Runs 194 70 ls st h Q := R_icne rfl rfl
theorem s194_70 : Runs 194 70 ls st h Q ↔ Runs 194 71 ls (.int 0 :: st) h Q := R_iconst rfl rfl
theorem s194_71 : Runs 194 71 ls st h Q ↔ Runs 194 75 ls st h Q := R_goto rfl rfl
theorem s194_74 : Runs 194 74 ls st h Q ↔ Runs 194 75 ls (.int 1 :: st) h Q := R_iconst rfl rfl
theorem s194_75 (ht : tg a = 20) : Runs 194 75 ls (.int j :: .int i :: .ref a :: st) (n, tg, ln, I, J, O) Q ↔ ((0 ≤ i ∧ i < Int32.ofNat (ln a)) ∧ Runs 194 76 ls st (n, tg, ln, zu I a i j, J, O) Q) := R_iast rfl ht
theorem s194_76 : Runs 194 76 [some (.ref a), x1, x2, x3, x4, x5, x6] st h Q ↔ Runs 194 77 [some (.ref a), x1, x2, x3, x4, x5, x6] (.ref a :: st) h Q := R_aldn rfl rfl
theorem s194_76q : Runs 194 76 [some (zrf r), x1, x2, x3, x4, x5, x6] st h Q ↔ Runs 194 77 [some (zrf r), x1, x2, x3, x4, x5, x6] (zrf r :: st) h Q := R_aldnq rfl rfl
theorem s194_77 (ht : tg a = 10) : Runs 194 77 ls (.ref a :: st) (n, tg, ln, I, J, O) Q ↔ Runs 194 80 ls (zrf (O a 10) :: st) (n, tg, ln, I, J, O) Q := R_getr rfl rfl rfl rfl ht
theorem s194_80 : Runs 194 80 ls st h Q ↔ Runs 194 82 ls (.int 12 :: st) h Q := R_bipush rfl (by decide)
theorem s194_82 : Runs 194 82 [x0, some (.int i), x2, x3, x4, x5, x6] st h Q ↔ Runs 194 83 [x0, some (.int i), x2, x3, x4, x5, x6] (.int i :: st) h Q := R_ildn rfl rfl
theorem s194_83 : Runs 194 83 ls (.int j :: .int i :: st) h Q ↔ Runs 194 84 ls (.int (i * j) :: st) h Q := R_imul rfl
theorem s194_84 : Runs 194 84 [x0, x1, some (.int i), x3, x4, x5, x6] st h Q ↔ Runs 194 85 [x0, x1, some (.int i), x3, x4, x5, x6] (.int i :: st) h Q := R_ildn rfl rfl
theorem s194_85 : Runs 194 85 ls (.int j :: .int i :: st) h Q ↔ Runs 194 86 ls (.int (i + j) :: st) h Q := R_iadd rfl
theorem s194_86 : Runs 194 86 [x0, x1, x2, some (.int i), x4, x5, x6] st h Q ↔ Runs 194 87 [x0, x1, x2, some (.int i), x4, x5, x6] (.int i :: st) h Q := R_ildn rfl rfl
theorem s194_87 (ht : tg a = 20) : Runs 194 87 ls (.int j :: .int i :: .ref a :: st) (n, tg, ln, I, J, O) Q ↔ ((0 ≤ i ∧ i < Int32.ofNat (ln a)) ∧ Runs 194 88 ls st (n, tg, ln, zu I a i j, J, O) Q) := R_iast rfl ht
theorem s194_88 : Runs 194 88 [some (.ref a), x1, x2, x3, x4, x5, x6] st h Q ↔ Runs 194 89 [some (.ref a), x1, x2, x3, x4, x5, x6] (.ref a :: st) h Q := R_aldn rfl rfl
theorem s194_88q : Runs 194 88 [some (zrf r), x1, x2, x3, x4, x5, x6] st h Q ↔ Runs 194 89 [some (zrf r), x1, x2, x3, x4, x5, x6] (zrf r :: st) h Q := R_aldnq rfl rfl
theorem s194_89 (ht : tg a = 10) : Runs 194 89 ls (.ref a :: st) (n, tg, ln, I, J, O) Q ↔ Runs 194 92 ls (zrf (O a 11) :: st) (n, tg, ln, I, J, O) Q := R_getr rfl rfl rfl rfl ht
theorem s194_92 : Runs 194 92 ls st h Q ↔ Runs 194 94 ls (.int 12 :: st) h Q := R_bipush rfl (by decide)
theorem s194_94 : Runs 194 94 [x0, some (.int i), x2, x3, x4, x5, x6] st h Q ↔ Runs 194 95 [x0, some (.int i), x2, x3, x4, x5, x6] (.int i :: st) h Q := R_ildn rfl rfl
theorem s194_95 : Runs 194 95 ls (.int j :: .int i :: st) h Q ↔ Runs 194 96 ls (.int (i * j) :: st) h Q := R_imul rfl
theorem s194_96 : Runs 194 96 [x0, x1, some (.int i), x3, x4, x5, x6] st h Q ↔ Runs 194 97 [x0, x1, some (.int i), x3, x4, x5, x6] (.int i :: st) h Q := R_ildn rfl rfl
theorem s194_97 : Runs 194 97 ls (.int j :: .int i :: st) h Q ↔ Runs 194 98 ls (.int (i + j) :: st) h Q := R_iadd rfl
theorem s194_98 : Runs 194 98 [x0, x1, x2, x3, some (.long u), x5, x6] st h Q ↔ Runs 194 100 [x0, x1, x2, x3, some (.long u), x5, x6] (.long u :: st) h Q := R_lld rfl rfl
theorem s194_100 (ht : tg a = 21) : Runs 194 100 ls (.long u :: .int i :: .ref a :: st) (n, tg, ln, I, J, O) Q ↔ ((0 ≤ i ∧ i < Int32.ofNat (ln a)) ∧ Runs 194 101 ls st (n, tg, ln, I, zu J a i u, O) Q) := R_last rfl ht
theorem s194_101 : Runs 194 101 ls st h Q ↔ Runs 194 102 ls (.int 1 :: st) h Q := R_iconst rfl rfl
theorem s194_102 : Runs 194 102 ls [.int i] h Q ↔ Q (some (.int i)) h := R_iret rfl rfl
theorem s195_0 : Runs 195 0 [x0, some (.int i), x2, x3, x4] st h Q ↔ Runs 195 1 [x0, some (.int i), x2, x3, x4] (.int i :: st) h Q := R_ildn rfl rfl
theorem s195_1 (hs : zsumc st ≤ 8) : Runs 195 1 ls (.int i0 :: st) h Q ↔ Runs 191 0 [some (.int i0)] [] h (fun v h2 => Runs 195 4 ls (v.toList ++ st) h2 Q) := R_calls (rest := st) rfl rfl rfl (by simp) rfl rfl rfl rfl hs
theorem s195_4 : Runs 195 4 ls (.int i :: st) h Q ↔ if ¬ i = 0 then Runs 195 10 ls st h Q else Runs 195 7 ls st h Q := R_ifne rfl rfl
theorem s195_7 : Runs 195 7 ls st h Q ↔ Runs 195 9 ls (.int (-2) :: st) h Q := R_bipush rfl (by decide)
theorem s195_9 : Runs 195 9 ls [.int i] h Q ↔ Q (some (.int i)) h := R_iret rfl rfl
theorem s195_10 : Runs 195 10 [some (.ref a), x1, x2, x3, x4] st h Q ↔ Runs 195 11 [some (.ref a), x1, x2, x3, x4] (.ref a :: st) h Q := R_aldn rfl rfl
theorem s195_10q : Runs 195 10 [some (zrf r), x1, x2, x3, x4] st h Q ↔ Runs 195 11 [some (zrf r), x1, x2, x3, x4] (zrf r :: st) h Q := R_aldnq rfl rfl
theorem s195_11 : Runs 195 11 [x0, some (.int i), x2, x3, x4] st h Q ↔ Runs 195 12 [x0, some (.int i), x2, x3, x4] (.int i :: st) h Q := R_ildn rfl rfl
theorem s195_12 : Runs 195 12 [x0, x1, some (.int i), x3, x4] st h Q ↔ Runs 195 13 [x0, x1, some (.int i), x3, x4] (.int i :: st) h Q := R_ildn rfl rfl
theorem s195_13 (ht : tg a = 10) (hs : zsumc st ≤ 8) : Runs 195 13 ls (.int i1 :: .int i0 :: .ref a :: st) (n, tg, ln, I, J, O) Q ↔ Runs 193 0 [some (.ref a), some (.int i0), some (.int i1)] [] (n, tg, ln, I, J, O) (fun v h2 => Runs 195 16 ls (v.toList ++ st) h2 Q) := R_callv (a := a) (rest := st) rfl rfl rfl rfl rfl rfl rfl ht hs
theorem s195_16 : Runs 195 16 [x0, x1, x2, x3, x4] (.int i :: st) h Q ↔ Runs 195 17 [x0, x1, zdrop x2, some (.int i), x4] st h Q := R_istn rfl rfl rfl
theorem s195_17 : Runs 195 17 [x0, x1, x2, some (.int i), x4] st h Q ↔ Runs 195 18 [x0, x1, x2, some (.int i), x4] (.int i :: st) h Q := R_ildn rfl rfl
theorem s195_18 : Runs 195 18 ls (.int i :: st) h Q ↔ if i = 0 then Runs 195 23 ls st h Q else Runs 195 21 ls st h Q := R_ifeq rfl rfl
theorem s195_21 : Runs 195 21 [x0, x1, x2, some (.int i), x4] st h Q ↔ Runs 195 22 [x0, x1, x2, some (.int i), x4] (.int i :: st) h Q := R_ildn rfl rfl
theorem s195_22 : Runs 195 22 ls [.int i] h Q ↔ Q (some (.int i)) h := R_iret rfl rfl
theorem s195_23 : Runs 195 23 ls st h Q ↔ Runs 195 25 ls (.int 12 :: st) h Q := R_bipush rfl (by decide)
theorem s195_25 : Runs 195 25 [x0, some (.int i), x2, x3, x4] st h Q ↔ Runs 195 26 [x0, some (.int i), x2, x3, x4] (.int i :: st) h Q := R_ildn rfl rfl
theorem s195_26 : Runs 195 26 ls (.int j :: .int i :: st) h Q ↔ Runs 195 27 ls (.int (i * j) :: st) h Q := R_imul rfl
theorem s195_27 : Runs 195 27 [x0, x1, some (.int i), x3, x4] st h Q ↔ Runs 195 28 [x0, x1, some (.int i), x3, x4] (.int i :: st) h Q := R_ildn rfl rfl
theorem s195_28 : Runs 195 28 ls (.int j :: .int i :: st) h Q ↔ Runs 195 29 ls (.int (i + j) :: st) h Q := R_iadd rfl
theorem s195_29 : Runs 195 29 [x0, x1, x2, x3, x4] (.int i :: st) h Q ↔ Runs 195 31 [x0, x1, x2, zdrop x3, some (.int i)] st h Q := R_ist rfl rfl rfl
theorem s195_31 : Runs 195 31 [some (.ref a), x1, x2, x3, x4] st h Q ↔ Runs 195 32 [some (.ref a), x1, x2, x3, x4] (.ref a :: st) h Q := R_aldn rfl rfl
theorem s195_31q : Runs 195 31 [some (zrf r), x1, x2, x3, x4] st h Q ↔ Runs 195 32 [some (zrf r), x1, x2, x3, x4] (zrf r :: st) h Q := R_aldnq rfl rfl
theorem s195_32 (ht : tg a = 10) : Runs 195 32 ls (.ref a :: st) (n, tg, ln, I, J, O) Q ↔ Runs 195 35 ls (zrf (O a 9) :: st) (n, tg, ln, I, J, O) Q := R_getr rfl rfl rfl rfl ht
theorem s195_35 : Runs 195 35 [x0, x1, x2, x3, some (.int i)] st h Q ↔ Runs 195 37 [x0, x1, x2, x3, some (.int i)] (.int i :: st) h Q := R_ild rfl rfl
theorem s195_37 (ht : tg a = 20) : Runs 195 37 ls (.int i :: .ref a :: st) (n, tg, ln, I, J, O) Q ↔ ((0 ≤ i ∧ i < Int32.ofNat (ln a)) ∧ Runs 195 38 ls (.int (I a i) :: st) (n, tg, ln, I, J, O) Q) := R_iald rfl ht
theorem s195_38 : Runs 195 38 ls (.int i :: st) h Q ↔ if i = 0 then Runs 195 52 ls st h Q else Runs 195 41 ls st h Q := R_ifeq rfl rfl
theorem s195_41 : Runs 195 41 [some (.ref a), x1, x2, x3, x4] st h Q ↔ Runs 195 42 [some (.ref a), x1, x2, x3, x4] (.ref a :: st) h Q := R_aldn rfl rfl
theorem s195_41q : Runs 195 41 [some (zrf r), x1, x2, x3, x4] st h Q ↔ Runs 195 42 [some (zrf r), x1, x2, x3, x4] (zrf r :: st) h Q := R_aldnq rfl rfl
theorem s195_42 (ht : tg a = 10) : Runs 195 42 ls (.ref a :: st) (n, tg, ln, I, J, O) Q ↔ Runs 195 45 ls (zrf (O a 9) :: st) (n, tg, ln, I, J, O) Q := R_getr rfl rfl rfl rfl ht
theorem s195_45 : Runs 195 45 [x0, x1, x2, x3, some (.int i)] st h Q ↔ Runs 195 47 [x0, x1, x2, x3, some (.int i)] (.int i :: st) h Q := R_ild rfl rfl
theorem s195_47 (ht : tg a = 20) : Runs 195 47 ls (.int i :: .ref a :: st) (n, tg, ln, I, J, O) Q ↔ ((0 ≤ i ∧ i < Int32.ofNat (ln a)) ∧ Runs 195 48 ls (.int (I a i) :: st) (n, tg, ln, I, J, O) Q) := R_iald rfl ht
theorem s195_48 : Runs 195 48 ls st h Q ↔ Runs 195 49 ls (.int 4 :: st) h Q := R_iconst rfl rfl
theorem s195_49 : Runs 195 49 ls (.int j :: .int i :: st) h Q ↔ if ¬ i = j then Runs 195 70 ls st h Q else Runs 195 52 ls st h Q := R_icne rfl rfl
theorem s195_52 : Runs 195 52 [some (.ref a), x1, x2, x3, x4] st h Q ↔ Runs 195 53 [some (.ref a), x1, x2, x3, x4] (.ref a :: st) h Q := R_aldn rfl rfl
theorem s195_52q : Runs 195 52 [some (zrf r), x1, x2, x3, x4] st h Q ↔ Runs 195 53 [some (zrf r), x1, x2, x3, x4] (zrf r :: st) h Q := R_aldnq rfl rfl
theorem s195_53 (ht : tg a = 10) : Runs 195 53 ls (.ref a :: st) (n, tg, ln, I, J, O) Q ↔ Runs 195 56 ls (zrf (O a 9) :: st) (n, tg, ln, I, J, O) Q := R_getr rfl rfl rfl rfl ht
theorem s195_56 : Runs 195 56 [x0, x1, x2, x3, some (.int i)] st h Q ↔ Runs 195 58 [x0, x1, x2, x3, some (.int i)] (.int i :: st) h Q := R_ild rfl rfl
theorem s195_58 (ht : tg a = 20) : Runs 195 58 ls (.int i :: .ref a :: st) (n, tg, ln, I, J, O) Q ↔ ((0 ≤ i ∧ i < Int32.ofNat (ln a)) ∧ Runs 195 59 ls (.int (I a i) :: st) (n, tg, ln, I, J, O) Q) := R_iald rfl ht
theorem s195_59 : Runs 195 59 ls (.int i :: st) h Q ↔ if ¬ i = 0 then Runs 195 67 ls st h Q else Runs 195 62 ls st h Q := R_ifne rfl rfl
theorem s195_62 : Runs 195 62 ls st h Q ↔ Runs 195 64 ls (.int (-13) :: st) h Q := R_bipush rfl (by decide)
theorem s195_64 : Runs 195 64 ls st h Q ↔ Runs 195 69 ls st h Q := R_goto rfl rfl
theorem s195_67 : Runs 195 67 ls st h Q ↔ Runs 195 69 ls (.int (-5) :: st) h Q := R_bipush rfl (by decide)
theorem s195_69 : Runs 195 69 ls [.int i] h Q ↔ Q (some (.int i)) h := R_iret rfl rfl
theorem s195_70 : Runs 195 70 [some (.ref a), x1, x2, x3, x4] st h Q ↔ Runs 195 71 [some (.ref a), x1, x2, x3, x4] (.ref a :: st) h Q := R_aldn rfl rfl
theorem s195_70q : Runs 195 70 [some (zrf r), x1, x2, x3, x4] st h Q ↔ Runs 195 71 [some (zrf r), x1, x2, x3, x4] (zrf r :: st) h Q := R_aldnq rfl rfl
theorem s195_71 (ht : tg a = 10) : Runs 195 71 ls (.ref a :: st) (n, tg, ln, I, J, O) Q ↔ Runs 195 74 ls (zrf (O a 9) :: st) (n, tg, ln, I, J, O) Q := R_getr rfl rfl rfl rfl ht
theorem s195_74 : Runs 195 74 [x0, x1, x2, x3, some (.int i)] st h Q ↔ Runs 195 76 [x0, x1, x2, x3, some (.int i)] (.int i :: st) h Q := R_ild rfl rfl
theorem s195_76 : Runs 195 76 ls (.int i :: .ref a :: st) h Q ↔ Runs 195 77 ls (.int i :: .ref a :: .int i :: .ref a :: st) h Q := R_dup2 rfl
theorem s195_77 (ht : tg a = 20) : Runs 195 77 ls (.int i :: .ref a :: st) (n, tg, ln, I, J, O) Q ↔ ((0 ≤ i ∧ i < Int32.ofNat (ln a)) ∧ Runs 195 78 ls (.int (I a i) :: st) (n, tg, ln, I, J, O) Q) := R_iald rfl ht
theorem s195_78 : Runs 195 78 ls st h Q ↔ Runs 195 79 ls (.int 1 :: st) h Q := R_iconst rfl rfl
theorem s195_79 : Runs 195 79 ls (.int j :: .int i :: st) h Q ↔ Runs 195 80 ls (.int (i + j) :: st) h Q := R_iadd rfl
theorem s195_80 (ht : tg a = 20) : Runs 195 80 ls (.int j :: .int i :: .ref a :: st) (n, tg, ln, I, J, O) Q ↔ ((0 ≤ i ∧ i < Int32.ofNat (ln a)) ∧ Runs 195 81 ls st (n, tg, ln, zu I a i j, J, O) Q) := R_iast rfl ht
theorem s195_81 : Runs 195 81 [some (.ref a), x1, x2, x3, x4] st h Q ↔ Runs 195 82 [some (.ref a), x1, x2, x3, x4] (.ref a :: st) h Q := R_aldn rfl rfl
theorem s195_81q : Runs 195 81 [some (zrf r), x1, x2, x3, x4] st h Q ↔ Runs 195 82 [some (zrf r), x1, x2, x3, x4] (zrf r :: st) h Q := R_aldnq rfl rfl
theorem s195_82 (ht : tg a = 10) : Runs 195 82 ls (.ref a :: st) (n, tg, ln, I, J, O) Q ↔ Runs 195 85 ls (zrf (O a 9) :: st) (n, tg, ln, I, J, O) Q := R_getr rfl rfl rfl rfl ht
theorem s195_85 : Runs 195 85 [x0, x1, x2, x3, some (.int i)] st h Q ↔ Runs 195 87 [x0, x1, x2, x3, some (.int i)] (.int i :: st) h Q := R_ild rfl rfl
theorem s195_87 (ht : tg a = 20) : Runs 195 87 ls (.int i :: .ref a :: st) (n, tg, ln, I, J, O) Q ↔ ((0 ≤ i ∧ i < Int32.ofNat (ln a)) ∧ Runs 195 88 ls (.int (I a i) :: st) (n, tg, ln, I, J, O) Q) := R_iald rfl ht
theorem s195_88 : Runs 195 88 ls [.int i] h Q ↔ Q (some (.int i)) h := R_iret rfl rfl
theorem s196_0 : Runs 196 0 [some (.ref a), x1, x2, x3] st h Q ↔ Runs 196 1 [some (.ref a), x1, x2, x3] (.ref a :: st) h Q := R_aldn rfl rfl
theorem s196_0q : Runs 196 0 [some (zrf r), x1, x2, x3] st h Q ↔ Runs 196 1 [some (zrf r), x1, x2, x3] (zrf r :: st) h Q := R_aldnq rfl rfl
theorem s196_1 : Runs 196 1 [x0, some (.int i), x2, x3] st h Q ↔ Runs 196 2 [x0, some (.int i), x2, x3] (.int i :: st) h Q := R_ildn rfl rfl
theorem s196_2 : Runs 196 2 [x0, x1, some (.int i), x3] st h Q ↔ Runs 196 3 [x0, x1, some (.int i), x3] (.int i :: st) h Q := R_ildn rfl rfl
theorem s196_3 (ht : tg a = 10) (hs : zsumc st ≤ 8) : Runs 196 3 ls (.int i1 :: .int i0 :: .ref a :: st) (n, tg, ln, I, J, O) Q ↔ Runs 193 0 [some (.ref a), some (.int i0), some (.int i1)] [] (n, tg, ln, I, J, O) (fun v h2 => Runs 196 6 ls (v.toList ++ st) h2 Q) := R_callv (a := a) (rest := st) rfl rfl rfl rfl rfl rfl rfl ht hs
theorem s196_6 : Runs 196 6 [x0, x1, x2, x3] (.int i :: st) h Q ↔ Runs 196 7 [x0, x1, zdrop x2, some (.int i)] st h Q := R_istn rfl rfl rfl
theorem s196_7 : Runs 196 7 [x0, x1, x2, some (.int i)] st h Q ↔ Runs 196 8 [x0, x1, x2, some (.int i)] (.int i :: st) h Q := R_ildn rfl rfl
theorem s196_8 : Runs 196 8 ls (.int i :: st) h Q ↔ if i = 0 then Runs 196 13 ls st h Q else Runs 196 11 ls st h Q := R_ifeq rfl rfl
theorem s196_11 : Runs 196 11 [x0, x1, x2, some (.int i)] st h Q ↔ Runs 196 12 [x0, x1, x2, some (.int i)] (.int i :: st) h Q := R_ildn rfl rfl
theorem s196_12 : Runs 196 12 ls [.int i] h Q ↔ Q (some (.int i)) h := R_iret rfl rfl
theorem s196_13 : Runs 196 13 [some (.ref a), x1, x2, x3] st h Q ↔ Runs 196 14 [some (.ref a), x1, x2, x3] (.ref a :: st) h Q := R_aldn rfl rfl
theorem s196_13q : Runs 196 13 [some (zrf r), x1, x2, x3] st h Q ↔ Runs 196 14 [some (zrf r), x1, x2, x3] (zrf r :: st) h Q := R_aldnq rfl rfl
theorem s196_14 (ht : tg a = 10) : Runs 196 14 ls (.ref a :: st) (n, tg, ln, I, J, O) Q ↔ Runs 196 17 ls (zrf (O a 9) :: st) (n, tg, ln, I, J, O) Q := R_getr rfl rfl rfl rfl ht
theorem s196_17 : Runs 196 17 ls st h Q ↔ Runs 196 19 ls (.int 12 :: st) h Q := R_bipush rfl (by decide)
theorem s196_19 : Runs 196 19 [x0, some (.int i), x2, x3] st h Q ↔ Runs 196 20 [x0, some (.int i), x2, x3] (.int i :: st) h Q := R_ildn rfl rfl
theorem s196_20 : Runs 196 20 ls (.int j :: .int i :: st) h Q ↔ Runs 196 21 ls (.int (i * j) :: st) h Q := R_imul rfl
theorem s196_21 : Runs 196 21 [x0, x1, some (.int i), x3] st h Q ↔ Runs 196 22 [x0, x1, some (.int i), x3] (.int i :: st) h Q := R_ildn rfl rfl
theorem s196_22 : Runs 196 22 ls (.int j :: .int i :: st) h Q ↔ Runs 196 23 ls (.int (i + j) :: st) h Q := R_iadd rfl
theorem s196_23 (ht : tg a = 20) : Runs 196 23 ls (.int i :: .ref a :: st) (n, tg, ln, I, J, O) Q ↔ ((0 ≤ i ∧ i < Int32.ofNat (ln a)) ∧ Runs 196 24 ls (.int (I a i) :: st) (n, tg, ln, I, J, O) Q) := R_iald rfl ht
theorem s196_24 : Runs 196 24 ls (.int i :: st) h Q ↔ if ¬ i = 0 then Runs 196 32 ls st h Q else Runs 196 27 ls st h Q := R_ifne rfl rfl
theorem s196_27 : Runs 196 27 ls st h Q ↔ Runs 196 29 ls (.int (-13) :: st) h Q := R_bipush rfl (by decide)
theorem s196_29 : Runs 196 29 ls st h Q ↔ Runs 196 33 ls st h Q := R_goto rfl rfl
theorem s196_32 : Runs 196 32 ls st h Q ↔ Runs 196 33 ls (.int 0 :: st) h Q := R_iconst rfl rfl
theorem s196_33 : Runs 196 33 ls [.int i] h Q ↔ Q (some (.int i)) h := R_iret rfl rfl
theorem s197_0 : Runs 197 0 [x0, some (.int i), x2, x3, x4] st h Q ↔ Runs 197 1 [x0, some (.int i), x2, x3, x4] (.int i :: st) h Q := R_ildn rfl rfl
theorem s197_1 (hs : zsumc st ≤ 8) : Runs 197 1 ls (.int i0 :: st) h Q ↔ Runs 191 0 [some (.int i0)] [] h (fun v h2 => Runs 197 4 ls (v.toList ++ st) h2 Q) := R_calls (rest := st) rfl rfl rfl (by simp) rfl rfl rfl rfl hs
theorem s197_4 : Runs 197 4 ls (.int i :: st) h Q ↔ if ¬ i = 0 then Runs 197 10 ls st h Q else Runs 197 7 ls st h Q := R_ifne rfl rfl
theorem s197_7 : Runs 197 7 ls st h Q ↔ Runs 197 9 ls (.int (-2) :: st) h Q := R_bipush rfl (by decide)
theorem s197_9 : Runs 197 9 ls [.int i] h Q ↔ Q (some (.int i)) h := R_iret rfl rfl
theorem s197_10 : Runs 197 10 [some (.ref a), x1, x2, x3, x4] st h Q ↔ Runs 197 11 [some (.ref a), x1, x2, x3, x4] (.ref a :: st) h Q := R_aldn rfl rfl
theorem s197_10q : Runs 197 10 [some (zrf r), x1, x2, x3, x4] st h Q ↔ Runs 197 11 [some (zrf r), x1, x2, x3, x4] (zrf r :: st) h Q := R_aldnq rfl rfl
theorem s197_11 : Runs 197 11 [x0, some (.int i), x2, x3, x4] st h Q ↔ Runs 197 12 [x0, some (.int i), x2, x3, x4] (.int i :: st) h Q := R_ildn rfl rfl
theorem s197_12 : Runs 197 12 [x0, x1, some (.int i), x3, x4] st h Q ↔ Runs 197 13 [x0, x1, some (.int i), x3, x4] (.int i :: st) h Q := R_ildn rfl rfl
theorem s197_13 (ht : tg a = 10) (hs : zsumc st ≤ 8) : Runs 197 13 ls (.int i1 :: .int i0 :: .ref a :: st) (n, tg, ln, I, J, O) Q ↔ Runs 196 0 [some (.ref a), some (.int i0), some (.int i1), none] [] (n, tg, ln, I, J, O) (fun v h2 => Runs 197 16 ls (v.toList ++ st) h2 Q) := R_callv (a := a) (rest := st) rfl rfl rfl rfl rfl rfl rfl ht hs
theorem s197_16 : Runs 197 16 [x0, x1, x2, x3, x4] (.int i :: st) h Q ↔ Runs 197 17 [x0, x1, zdrop x2, some (.int i), x4] st h Q := R_istn rfl rfl rfl
theorem s197_17 : Runs 197 17 [x0, x1, x2, some (.int i), x4] st h Q ↔ Runs 197 18 [x0, x1, x2, some (.int i), x4] (.int i :: st) h Q := R_ildn rfl rfl
theorem s197_18 : Runs 197 18 ls (.int i :: st) h Q ↔ if i = 0 then Runs 197 23 ls st h Q else Runs 197 21 ls st h Q := R_ifeq rfl rfl
theorem s197_21 : Runs 197 21 [x0, x1, x2, some (.int i), x4] st h Q ↔ Runs 197 22 [x0, x1, x2, some (.int i), x4] (.int i :: st) h Q := R_ildn rfl rfl
theorem s197_22 : Runs 197 22 ls [.int i] h Q ↔ Q (some (.int i)) h := R_iret rfl rfl
theorem s197_23 : Runs 197 23 ls st h Q ↔ Runs 197 25 ls (.int 12 :: st) h Q := R_bipush rfl (by decide)
theorem s197_25 : Runs 197 25 [x0, some (.int i), x2, x3, x4] st h Q ↔ Runs 197 26 [x0, some (.int i), x2, x3, x4] (.int i :: st) h Q := R_ildn rfl rfl
theorem s197_26 : Runs 197 26 ls (.int j :: .int i :: st) h Q ↔ Runs 197 27 ls (.int (i * j) :: st) h Q := R_imul rfl
theorem s197_27 : Runs 197 27 [x0, x1, some (.int i), x3, x4] st h Q ↔ Runs 197 28 [x0, x1, some (.int i), x3, x4] (.int i :: st) h Q := R_ildn rfl rfl
theorem s197_28 : Runs 197 28 ls (.int j :: .int i :: st) h Q ↔ Runs 197 29 ls (.int (i + j) :: st) h Q := R_iadd rfl
theorem s197_29 : Runs 197 29 [x0, x1, x2, x3, x4] (.int i :: st) h Q ↔ Runs 197 31 [x0, x1, x2, zdrop x3, some (.int i)] st h Q := R_ist rfl rfl rfl
theorem s197_31 : Runs 197 31 [some (.ref a), x1, x2, x3, x4] st h Q ↔ Runs 197 32 [some (.ref a), x1, x2, x3, x4] (.ref a :: st) h Q := R_aldn rfl rfl
theorem s197_31q : Runs 197 31 [some (zrf r), x1, x2, x3, x4] st h Q ↔ Runs 197 32 [some (zrf r), x1, x2, x3, x4] (zrf r :: st) h Q := R_aldnq rfl rfl
theorem s197_32 (ht : tg a = 10) : Runs 197 32 ls (.ref a :: st) (n, tg, ln, I, J, O) Q ↔ Runs 197 35 ls (zrf (O a 9) :: st) (n, tg, ln, I, J, O) Q := R_getr rfl rfl rfl rfl ht
theorem s197_35 : Runs 197 35 [x0, x1, x2, x3, some (.int i)] st h Q ↔ Runs 197 37 [x0, x1, x2, x3, some (.int i)] (.int i :: st) h Q := R_ild rfl rfl
theorem s197_37 (ht : tg a = 20) : Runs 197 37 ls (.int i :: .ref a :: st) (n, tg, ln, I, J, O) Q ↔ ((0 ≤ i ∧ i < Int32.ofNat (ln a)) ∧ Runs 197 38 ls (.int (I a i) :: st) (n, tg, ln, I, J, O) Q) := R_iald rfl ht
theorem s197_38 : Runs 197 38 ls st h Q ↔ Runs 197 39 ls (.int 1 :: st) h Q := R_iconst rfl rfl
theorem s197_39 : Runs 197 39 ls (.int j :: .int i :: st) h Q ↔ if ¬ i = j then Runs 197 45 ls st h Q else Runs 197 42 ls st h Q := R_icne rfl rfl
theorem s197_42 : Runs 197 42 ls st h Q ↔ Runs 197 44 ls (.int (-14) :: st) h Q := R_bipush rfl (by decide)
theorem s197_44 : Runs 197 44 ls [.int i] h Q ↔ Q (some (.int i)) h := R_iret rfl rfl
theorem s197_45 : Runs 197 45 [some (.ref a), x1, x2, x3, x4] st h Q ↔ Runs 197 46 [some (.ref a), x1, x2, x3, x4] (.ref a :: st) h Q := R_aldn rfl rfl
theorem s197_45q : Runs 197 45 [some (zrf r), x1, x2, x3, x4] st h Q ↔ Runs 197 46 [some (zrf r), x1, x2, x3, x4] (zrf r :: st) h Q := R_aldnq rfl rfl
theorem s197_46 (ht : tg a = 10) : Runs 197 46 ls (.ref a :: st) (n, tg, ln, I, J, O) Q ↔ Runs 197 49 ls (zrf (O a 9) :: st) (n, tg, ln, I, J, O) Q := R_getr rfl rfl rfl rfl ht
theorem s197_49 : Runs 197 49 [x0, x1, x2, x3, some (.int i)] st h Q ↔ Runs 197 51 [x0, x1, x2, x3, some (.int i)] (.int i :: st) h Q := R_ild rfl rfl
theorem s197_51 : Runs 197 51 ls (.int i :: .ref a :: st) h Q ↔ Runs 197 52 ls (.int i :: .ref a :: .int i :: .ref a :: st) h Q := R_dup2 rfl
theorem s197_52 (ht : tg a = 20) : Runs 197 52 ls (.int i :: .ref a :: st) (n, tg, ln, I, J, O) Q ↔ ((0 ≤ i ∧ i < Int32.ofNat (ln a)) ∧ Runs 197 53 ls (.int (I a i) :: st) (n, tg, ln, I, J, O) Q) := R_iald rfl ht
theorem s197_53 : Runs 197 53 ls st h Q ↔ Runs 197 54 ls (.int 1 :: st) h Q := R_iconst rfl rfl
theorem s197_54 : Runs 197 54 ls (.int j :: .int i :: st) h Q ↔ Runs 197 55 ls (.int (i - j) :: st) h Q := R_isub rfl
theorem s197_55 (ht : tg a = 20) : Runs 197 55 ls (.int j :: .int i :: .ref a :: st) (n, tg, ln, I, J, O) Q ↔ ((0 ≤ i ∧ i < Int32.ofNat (ln a)) ∧ Runs 197 56 ls st (n, tg, ln, zu I a i j, J, O) Q) := R_iast rfl ht
theorem s197_56 : Runs 197 56 [some (.ref a), x1, x2, x3, x4] st h Q ↔ Runs 197 57 [some (.ref a), x1, x2, x3, x4] (.ref a :: st) h Q := R_aldn rfl rfl
theorem s197_56q : Runs 197 56 [some (zrf r), x1, x2, x3, x4] st h Q ↔ Runs 197 57 [some (zrf r), x1, x2, x3, x4] (zrf r :: st) h Q := R_aldnq rfl rfl
theorem s197_57 (ht : tg a = 10) : Runs 197 57 ls (.ref a :: st) (n, tg, ln, I, J, O) Q ↔ Runs 197 60 ls (zrf (O a 9) :: st) (n, tg, ln, I, J, O) Q := R_getr rfl rfl rfl rfl ht
theorem s197_60 : Runs 197 60 [x0, x1, x2, x3, some (.int i)] st h Q ↔ Runs 197 62 [x0, x1, x2, x3, some (.int i)] (.int i :: st) h Q := R_ild rfl rfl
theorem s197_62 (ht : tg a = 20) : Runs 197 62 ls (.int i :: .ref a :: st) (n, tg, ln, I, J, O) Q ↔ ((0 ≤ i ∧ i < Int32.ofNat (ln a)) ∧ Runs 197 63 ls (.int (I a i) :: st) (n, tg, ln, I, J, O) Q) := R_iald rfl ht
theorem s197_63 : Runs 197 63 ls [.int i] h Q ↔ Q (some (.int i)) h := R_iret rfl rfl
theorem s198_0 : Runs 198 0 [x0, some (.int i), x2, x3, x4, x5, x6, x7] st h Q ↔ Runs 198 1 [x0, some (.int i), x2, x3, x4, x5, x6, x7] (.int i :: st) h Q := R_ildn rfl rfl
theorem s198_1 (hs : zsumc st ≤ 8) : Runs 198 1 ls (.int i0 :: st) h Q ↔ Runs 191 0 [some (.int i0)] [] h (fun v h2 => Runs 198 4 ls (v.toList ++ st) h2 Q) := R_calls (rest := st) rfl rfl rfl (by simp) rfl rfl rfl rfl hs
theorem s198_4 : Runs 198 4 ls (.int i :: st) h Q ↔ if ¬ i = 0 then Runs 198 10 ls st h Q else Runs 198 7 ls st h Q := R_ifne rfl rfl
theorem s198_7 : Runs 198 7 ls st h Q ↔ Runs 198 9 ls (.int (-2) :: st) h Q := R_bipush rfl (by decide)
theorem s198_9 : Runs 198 9 ls [.int i] h Q ↔ Q (some (.int i)) h := R_iret rfl rfl
theorem s198_10 : Runs 198 10 [x0, x1, x2, some (.int i), x4, x5, x6, x7] st h Q ↔ Runs 198 11 [x0, x1, x2, some (.int i), x4, x5, x6, x7] (.int i :: st) h Q := R_ildn rfl rfl
theorem s198_11 : Runs 198 11 ls (.int i :: st) h Q ↔ Runs 198 12 ls (.long i.toInt64 :: st) h Q := R_i2l rfl
theorem s198_12 : Runs 198 12 ls st h Q ↔ Runs 198 13 ls (.long 0 :: st) h Q := R_lconst rfl rfl
theorem s198_13 : Runs 198 13 ls st h Q ↔ Runs 198 16 ls (.long 2 :: st) h Q := R_ldc2 rfl rfl
theorem s198_16 (hs : zsumc st ≤ 8) : Runs 198 16 ls (.long u2 :: .long u1 :: .long u0 :: st) h Q ↔ Runs 127 0 [some (.long u0), none, some (.long u1), none, some (.long u2), none] [] h (fun v h2 => Runs 198 19 ls (v.toList ++ st) h2 Q) := R_calls (rest := st) rfl rfl rfl (by simp) rfl rfl rfl rfl hs
theorem s198_19 : Runs 198 19 ls (.int i :: st) h Q ↔ if ¬ i = 0 then Runs 198 25 ls st h Q else Runs 198 22 ls st h Q := R_ifne rfl rfl
theorem s198_22 : Runs 198 22 ls st h Q ↔ Runs 198 24 ls (.int (-3) :: st) h Q := R_bipush rfl (by decide)
theorem s198_24 : Runs 198 24 ls [.int i] h Q ↔ Q (some (.int i)) h := R_iret rfl rfl
theorem s198_25 : Runs 198 25 [some (.ref a), x1, x2, x3, x4, x5, x6, x7] st h Q ↔ Runs 198 26 [some (.ref a), x1, x2, x3, x4, x5, x6, x7] (.ref a :: st) h Q := R_aldn rfl rfl
theorem s198_25q : Runs 198 25 [some (zrf r), x1, x2, x3, x4, x5, x6, x7] st h Q ↔ Runs 198 26 [some (zrf r), x1, x2, x3, x4, x5, x6, x7] (zrf r :: st) h Q := R_aldnq rfl rfl
theorem s198_26 : Runs 198 26 [x0, some (.int i), x2, x3, x4, x5, x6, x7] st h Q ↔ Runs 198 27 [x0, some (.int i), x2, x3, x4, x5, x6, x7] (.int i :: st) h Q := R_ildn rfl rfl
theorem s198_27 : Runs 198 27 [x0, x1, some (.int i), x3, x4, x5, x6, x7] st h Q ↔ Runs 198 28 [x0, x1, some (.int i), x3, x4, x5, x6, x7] (.int i :: st) h Q := R_ildn rfl rfl
theorem s198_28 (ht : tg a = 10) (hs : zsumc st ≤ 8) : Runs 198 28 ls (.int i1 :: .int i0 :: .ref a :: st) (n, tg, ln, I, J, O) Q ↔ Runs 196 0 [some (.ref a), some (.int i0), some (.int i1), none] [] (n, tg, ln, I, J, O) (fun v h2 => Runs 198 31 ls (v.toList ++ st) h2 Q) := R_callv (a := a) (rest := st) rfl rfl rfl rfl rfl rfl rfl ht hs
theorem s198_31 : Runs 198 31 [x0, x1, x2, x3, x4, x5, x6, x7] (.int i :: st) h Q ↔ Runs 198 33 [x0, x1, x2, zdrop x3, some (.int i), x5, x6, x7] st h Q := R_ist rfl rfl rfl
theorem s198_33 : Runs 198 33 [x0, x1, x2, x3, some (.int i), x5, x6, x7] st h Q ↔ Runs 198 35 [x0, x1, x2, x3, some (.int i), x5, x6, x7] (.int i :: st) h Q := R_ild rfl rfl
theorem s198_35 : Runs 198 35 ls (.int i :: st) h Q ↔ if i = 0 then Runs 198 41 ls st h Q else Runs 198 38 ls st h Q := R_ifeq rfl rfl
theorem s198_38 : Runs 198 38 [x0, x1, x2, x3, some (.int i), x5, x6, x7] st h Q ↔ Runs 198 40 [x0, x1, x2, x3, some (.int i), x5, x6, x7] (.int i :: st) h Q := R_ild rfl rfl
theorem s198_40 : Runs 198 40 ls [.int i] h Q ↔ Q (some (.int i)) h := R_iret rfl rfl
theorem s198_41 : Runs 198 41 ls st h Q ↔ Runs 198 43 ls (.int 12 :: st) h Q := R_bipush rfl (by decide)
theorem s198_43 : Runs 198 43 [x0, some (.int i), x2, x3, x4, x5, x6, x7] st h Q ↔ Runs 198 44 [x0, some (.int i), x2, x3, x4, x5, x6, x7] (.int i :: st) h Q := R_ildn rfl rfl
theorem s198_44 : Runs 198 44 ls (.int j :: .int i :: st) h Q ↔ Runs 198 45 ls (.int (i * j) :: st) h Q := R_imul rfl
theorem s198_45 : Runs 198 45 [x0, x1, some (.int i), x3, x4, x5, x6, x7] st h Q ↔ Runs 198 46 [x0, x1, some (.int i), x3, x4, x5, x6, x7] (.int i :: st) h Q := R_ildn rfl rfl
theorem s198_46 : Runs 198 46 ls (.int j :: .int i :: st) h Q ↔ Runs 198 47 ls (.int (i + j) :: st) h Q := R_iadd rfl
theorem s198_47 : Runs 198 47 [x0, x1, x2, x3, x4, x5, x6, x7] (.int i :: st) h Q ↔ Runs 198 49 [x0, x1, x2, x3, zdrop x4, some (.int i), x6, x7] st h Q := R_ist rfl rfl rfl
theorem s198_49 : Runs 198 49 [some (.ref a), x1, x2, x3, x4, x5, x6, x7] st h Q ↔ Runs 198 50 [some (.ref a), x1, x2, x3, x4, x5, x6, x7] (.ref a :: st) h Q := R_aldn rfl rfl
theorem s198_49q : Runs 198 49 [some (zrf r), x1, x2, x3, x4, x5, x6, x7] st h Q ↔ Runs 198 50 [some (zrf r), x1, x2, x3, x4, x5, x6, x7] (zrf r :: st) h Q := R_aldnq rfl rfl
theorem s198_50 (ht : tg a = 10) : Runs 198 50 ls (.ref a :: st) (n, tg, ln, I, J, O) Q ↔ Runs 198 53 ls (zrf (O a 9) :: st) (n, tg, ln, I, J, O) Q := R_getr rfl rfl rfl rfl ht
theorem s198_53 : Runs 198 53 [x0, x1, x2, x3, x4, some (.int i), x6, x7] st h Q ↔ Runs 198 55 [x0, x1, x2, x3, x4, some (.int i), x6, x7] (.int i :: st) h Q := R_ild rfl rfl
theorem s198_55 (ht : tg a = 20) : Runs 198 55 ls (.int i :: .ref a :: st) (n, tg, ln, I, J, O) Q ↔ ((0 ≤ i ∧ i < Int32.ofNat (ln a)) ∧ Runs 198 56 ls (.int (I a i) :: st) (n, tg, ln, I, J, O) Q) := R_iald rfl ht
theorem s198_56 : Runs 198 56 ls st h Q ↔ Runs 198 57 ls (.int 1 :: st) h Q := R_iconst rfl rfl
theorem s198_57 : Runs 198 57 ls (.int j :: .int i :: st) h Q ↔ if i ≤ j then Runs 198 80 ls st h Q else Runs 198 60 ls st h Q := R_icle rfl rfl
theorem s198_60 : Runs 198 60 [x0, x1, x2, some (.int i), x4, x5, x6, x7] st h Q ↔ Runs 198 61 [x0, x1, x2, some (.int i), x4, x5, x6, x7] (.int i :: st) h Q := R_ildn rfl rfl
theorem s198_61 : Runs 198 61 ls st h Q ↔ Runs 198 62 ls (.int 2 :: st) h Q := R_iconst rfl rfl
theorem s198_62 : Runs 198 62 ls (.int j :: .int i :: st) h Q ↔ if ¬ i = j then Runs 198 77 ls st h Q else Runs 198 65 ls st h Q := R_icne rfl rfl
theorem s198_65 : Runs 198 65 [some (.ref a), x1, x2, x3, x4, x5, x6, x7] st h Q ↔ Runs 198 66 [some (.ref a), x1, x2, x3, x4, x5, x6, x7] (.ref a :: st) h Q := R_aldn rfl rfl
theorem s198_65q : Runs 198 65 [some (zrf r), x1, x2, x3, x4, x5, x6, x7] st h Q ↔ Runs 198 66 [some (zrf r), x1, x2, x3, x4, x5, x6, x7] (zrf r :: st) h Q := R_aldnq rfl rfl
theorem s198_66 (ht : tg a = 10) : Runs 198 66 ls (.ref a :: st) (n, tg, ln, I, J, O) Q ↔ Runs 198 69 ls (zrf (O a 9) :: st) (n, tg, ln, I, J, O) Q := R_getr rfl rfl rfl rfl ht
theorem s198_69 : Runs 198 69 [x0, x1, x2, x3, x4, some (.int i), x6, x7] st h Q ↔ Runs 198 71 [x0, x1, x2, x3, x4, some (.int i), x6, x7] (.int i :: st) h Q := R_ild rfl rfl
theorem s198_71 (ht : tg a = 20) : Runs 198 71 ls (.int i :: .ref a :: st) (n, tg, ln, I, J, O) Q ↔ ((0 ≤ i ∧ i < Int32.ofNat (ln a)) ∧ Runs 198 72 ls (.int (I a i) :: st) (n, tg, ln, I, J, O) Q) := R_iald rfl ht
theorem s198_72 : Runs 198 72 ls st h Q ↔ Runs 198 73 ls (.int 1 :: st) h Q := R_iconst rfl rfl
theorem s198_73 : Runs 198 73 ls (.int j :: .int i :: st) h Q ↔ Runs 198 74 ls (.int (i - j) :: st) h Q := R_isub rfl
theorem s198_74 : Runs 198 74 ls st h Q ↔ Runs 198 79 ls st h Q := R_goto rfl rfl
theorem s198_77 : Runs 198 77 ls st h Q ↔ Runs 198 79 ls (.int (-14) :: st) h Q := R_bipush rfl (by decide)
theorem s198_79 : Runs 198 79 ls [.int i] h Q ↔ Q (some (.int i)) h := R_iret rfl rfl
theorem s198_80 : Runs 198 80 [some (.ref a), x1, x2, x3, x4, x5, x6, x7] st h Q ↔ Runs 198 81 [some (.ref a), x1, x2, x3, x4, x5, x6, x7] (.ref a :: st) h Q := R_aldn rfl rfl
theorem s198_80q : Runs 198 80 [some (zrf r), x1, x2, x3, x4, x5, x6, x7] st h Q ↔ Runs 198 81 [some (zrf r), x1, x2, x3, x4, x5, x6, x7] (zrf r :: st) h Q := R_aldnq rfl rfl
theorem s198_81 (ht : tg a = 10) : Runs 198 81 ls (.ref a :: st) (n, tg, ln, I, J, O) Q ↔ Runs 198 84 ls (zrf (O a 10) :: st) (n, tg, ln, I, J, O) Q := R_getr rfl rfl rfl rfl ht
theorem s198_84 : Runs 198 84 [x0, x1, x2, x3, x4, some (.int i), x6, x7] st h Q ↔ Runs 198 86 [x0, x1, x2, x3, x4, some (.int i), x6, x7] (.int i :: st) h Q := R_ild rfl rfl
theorem s198_86 (ht : tg a = 20) : Runs 198 86 ls (.int i :: .ref a :: st) (n, tg, ln, I, J, O) Q ↔ ((0 ≤ i ∧ i < Int32.ofNat (ln a)) ∧ Runs 198 87 ls (.int (I a i) :: st) (n, tg, ln, I, J, O) Q) := R_iald rfl ht
theorem s198_87 : Runs 198 87 [x0, x1, x2, some (.int i), x4, x5, x6, x7] st h Q ↔ Runs 198 88 [x0, x1, x2, some (.int i), x4, x5, x6, x7] (.int i :: st) h Q := R_ildn rfl rfl
theorem s198_88 : Runs 198 88 ls (.int j :: .int i :: st) h Q ↔ if i = j then Runs 198 94 ls st h Q else Runs 198 91 ls st h Q := R_iceq rfl rfl
theorem s198_91 : Runs 198 91 ls st h Q ↔ Runs 198 93 ls (.int (-14) :: st) h Q := R_bipush rfl (by decide)
theorem s198_93 : Runs 198 93 ls [.int i] h Q ↔ Q (some (.int i)) h := R_iret rfl rfl
theorem s198_94 : Runs 198 94 [some (.ref a), x1, x2, x3, x4, x5, x6, x7] st h Q ↔ Runs 198 95 [some (.ref a), x1, x2, x3, x4, x5, x6, x7] (.ref a :: st) h Q := R_aldn rfl rfl
theorem s198_94q : Runs 198 94 [some (zrf r), x1, x2, x3, x4, x5, x6, x7] st h Q ↔ Runs 198 95 [some (zrf r), x1, x2, x3, x4, x5, x6, x7] (zrf r :: st) h Q := R_aldnq rfl rfl
theorem s198_95 (ht : tg a = 10) : Runs 198 95 ls (.ref a :: st) (n, tg, ln, I, J, O) Q ↔ Runs 198 98 ls (zrf (O a 11) :: st) (n, tg, ln, I, J, O) Q := R_getr rfl rfl rfl rfl ht
theorem s198_98 : Runs 198 98 [x0, x1, x2, x3, x4, some (.int i), x6, x7] st h Q ↔ Runs 198 100 [x0, x1, x2, x3, x4, some (.int i), x6, x7] (.int i :: st) h Q := R_ild rfl rfl
theorem s198_100 (ht : tg a = 21) : Runs 198 100 ls (.int i :: .ref a :: st) (n, tg, ln, I, J, O) Q ↔ ((0 ≤ i ∧ i < Int32.ofNat (ln a)) ∧ Runs 198 101 ls (.long (J a i) :: st) (n, tg, ln, I, J, O) Q) := R_lald rfl ht
theorem s198_101 : Runs 198 101 [x0, x1, x2, x3, x4, x5, x6, x7] (.long u :: st) h Q ↔ Runs 198 103 [x0, x1, x2, x3, x4, zdrop x5, some (.long u), none] st h Q := R_lst rfl rfl rfl
theorem s198_103 : Runs 198 103 [x0, x1, x2, some (.int i), x4, x5, x6, x7] st h Q ↔ Runs 198 104 [x0, x1, x2, some (.int i), x4, x5, x6, x7] (.int i :: st) h Q := R_ildn rfl rfl
theorem s198_104 : Runs 198 104 ls st h Q ↔ Runs 198 105 ls (.int 1 :: st) h Q := R_iconst rfl rfl
theorem s198_105 : Runs 198 105 ls (.int j :: .int i :: st) h Q ↔ if ¬ i = j then Runs 198 114 ls st h Q else Runs 198 108 ls st h Q := R_icne rfl rfl
theorem s198_108 : Runs 198 108 [x0, x1, x2, x3, x4, x5, some (.long u), x7] st h Q ↔ Runs 198 110 [x0, x1, x2, x3, x4, x5, some (.long u), x7] (.long u :: st) h Q := R_lld rfl rfl
theorem s198_110 : Runs 198 110 ls (.long u :: st) h Q ↔ Runs 198 111 ls (.int u.toInt32 :: st) h Q := R_l2i rfl
theorem s198_111 : Runs 198 111 ls st h Q ↔ Runs 198 145 ls st h Q := R_goto rfl rfl
theorem s198_114 : Runs 198 114 [x0, x1, x2, x3, x4, x5, some (.long u), x7] st h Q ↔ Runs 198 116 [x0, x1, x2, x3, x4, x5, some (.long u), x7] (.long u :: st) h Q := R_lld rfl rfl
theorem s198_116 : Runs 198 116 ls st h Q ↔ Runs 198 117 ls (.long 0 :: st) h Q := R_lconst rfl rfl
theorem s198_117 : Runs 198 117 ls (.long w :: .long u :: st) h Q ↔ Runs 198 118 ls (.int (lg_cmp u w) :: st) h Q := R_lcmp rfl
theorem s198_118 : Runs 198 118 ls (.int i :: st) h Q ↔ if 0 ≤ i then Runs 198 138 ls st h Q else Runs 198 121 ls st h Q := R_ifge rfl rfl
theorem s198_121 : Runs 198 121 [x0, x1, x2, x3, x4, x5, some (.long u), x7] st h Q ↔ Runs 198 123 [x0, x1, x2, x3, x4, x5, some (.long u), x7] (.long u :: st) h Q := R_lld rfl rfl
theorem s198_123 : Runs 198 123 ls st h Q ↔ Runs 198 124 ls (.long 1 :: st) h Q := R_lconst rfl rfl
theorem s198_124 : Runs 198 124 ls (.long w :: .long u :: st) h Q ↔ Runs 198 125 ls (.long (u + w) :: st) h Q := R_ladd rfl
theorem s198_125 : Runs 198 125 ls (.long u :: st) h Q ↔ Runs 198 126 ls (.long (-u) :: st) h Q := R_lneg rfl
theorem s198_126 : Runs 198 126 ls st h Q ↔ Runs 198 129 ls (.long 1000003 :: st) h Q := R_ldc2 rfl rfl
theorem s198_129 : Runs 198 129 ls (.long w :: .long u :: st) h Q ↔ (¬ w = 0 ∧ Runs 198 130 ls (.long (u - u / w * w) :: st) h Q) := R_lrem rfl
theorem s198_130 : Runs 198 130 ls (.long u :: st) h Q ↔ Runs 198 131 ls (.int u.toInt32 :: st) h Q := R_l2i rfl
theorem s198_131 : Runs 198 131 ls st h Q ↔ Runs 198 134 ls (.int 2000000 :: st) h Q := R_ldcw rfl rfl
theorem s198_134 : Runs 198 134 ls (.int j :: .int i :: st) h Q ↔ Runs 198 135 ls (.int (i + j) :: st) h Q := R_iadd rfl
theorem s198_135 : Runs 198 135 ls st h Q ↔ Runs 198 145 ls st h Q := R_goto rfl rfl
theorem s198_138 : Runs 198 138 [x0, x1, x2, x3, x4, x5, some (.long u), x7] st h Q ↔ Runs 198 140 [x0, x1, x2, x3, x4, x5, some (.long u), x7] (.long u :: st) h Q := R_lld rfl rfl
theorem s198_140 : Runs 198 140 ls st h Q ↔ Runs 198 143 ls (.long 1000003 :: st) h Q := R_ldc2 rfl rfl
theorem s198_143 : Runs 198 143 ls (.long w :: .long u :: st) h Q ↔ (¬ w = 0 ∧ Runs 198 144 ls (.long (u - u / w * w) :: st) h Q) := R_lrem rfl
theorem s198_144 : Runs 198 144 ls (.long u :: st) h Q ↔ Runs 198 145 ls (.int u.toInt32 :: st) h Q := R_l2i rfl
theorem s198_145 : Runs 198 145 ls [.int i] h Q ↔ Q (some (.int i)) h := R_iret rfl rfl
theorem s199_0 : Runs 199 0 [x0, x1, some (.int i), x3] st h Q ↔ Runs 199 1 [x0, x1, some (.int i), x3] (.int i :: st) h Q := R_ildn rfl rfl
theorem s199_1 : Runs 199 1 ls (.int i :: st) h Q ↔ if i < 0 then Runs 199 28 ls st h Q else Runs 199 4 ls st h Q := R_iflt rfl rfl
theorem s199_4 : Runs 199 4 [x0, x1, x2, some (.int i)] st h Q ↔ Runs 199 5 [x0, x1, x2, some (.int i)] (.int i :: st) h Q := R_ildn rfl rfl
theorem s199_5 : Runs 199 5 ls (.int i :: st) h Q ↔ if i < 0 then Runs 199 28 ls st h Q else Runs 199 8 ls st h Q := R_iflt rfl rfl
theorem s199_8 : Runs 199 8 [x0, x1, some (.int i), x3] st h Q ↔ Runs 199 9 [x0, x1, some (.int i), x3] (.int i :: st) h Q := R_ildn rfl rfl
theorem s199_9 : Runs 199 9 ls (.int i :: st) h Q ↔ Runs 199 10 ls (.long i.toInt64 :: st) h Q := R_i2l rfl
theorem s199_10 : Runs 199 10 [x0, x1, x2, some (.int i)] st h Q ↔ Runs 199 11 [x0, x1, x2, some (.int i)] (.int i :: st) h Q := R_ildn rfl rfl
theorem s199_11 : Runs 199 11 ls (.int i :: st) h Q ↔ Runs 199 12 ls (.long i.toInt64 :: st) h Q := R_i2l rfl
theorem s199_12 : Runs 199 12 ls (.long w :: .long u :: st) h Q ↔ Runs 199 13 ls (.long (u + w) :: st) h Q := R_ladd rfl
theorem s199_13 : Runs 199 13 [some (.ref a), x1, x2, x3] st h Q ↔ Runs 199 14 [some (.ref a), x1, x2, x3] (.ref a :: st) h Q := R_aldn rfl rfl
theorem s199_13q : Runs 199 13 [some (zrf r), x1, x2, x3] st h Q ↔ Runs 199 14 [some (zrf r), x1, x2, x3] (zrf r :: st) h Q := R_aldnq rfl rfl
theorem s199_14 (ht : tg a = 10) : Runs 199 14 ls (.ref a :: st) (n, tg, ln, I, J, O) Q ↔ Runs 199 17 ls (zrf (O a 8) :: st) (n, tg, ln, I, J, O) Q := R_getr rfl rfl rfl rfl ht
theorem s199_17 : Runs 199 17 [x0, some (.int i), x2, x3] st h Q ↔ Runs 199 18 [x0, some (.int i), x2, x3] (.int i :: st) h Q := R_ildn rfl rfl
theorem s199_18 (ht : tg a = 20) : Runs 199 18 ls (.int i :: .ref a :: st) (n, tg, ln, I, J, O) Q ↔ ((0 ≤ i ∧ i < Int32.ofNat (ln a)) ∧ Runs 199 19 ls (.int (I a i) :: st) (n, tg, ln, I, J, O) Q) := R_iald rfl ht
theorem s199_19 : Runs 199 19 ls (.int i :: st) h Q ↔ Runs 199 20 ls (.long i.toInt64 :: st) h Q := R_i2l rfl
theorem s199_20 : Runs 199 20 ls (.long w :: .long u :: st) h Q ↔ Runs 199 21 ls (.int (lg_cmp u w) :: st) h Q := R_lcmp rfl
theorem s199_21 : Runs 199 21 ls (.int i :: st) h Q ↔ if 0 < i then Runs 199 28 ls st h Q else Runs 199 24 ls st h Q := R_ifgt rfl rfl
theorem s199_24 : Runs 199 24 ls st h Q ↔ Runs 199 25 ls (.int 1 :: st) h Q := R_iconst rfl rfl
theorem s199_25 : Runs 199 25 ls st h Q ↔ Runs 199 29 ls st h Q := R_goto rfl rfl
theorem s199_28 : Runs 199 28 ls st h Q ↔ Runs 199 29 ls (.int 0 :: st) h Q := R_iconst rfl rfl
theorem s199_29 (hx : i = 0 ∨ i = 1) : Runs 199 29 ls [.int i] h Q ↔ Q (some (.int i)) h := R_zret rfl rfl hx
theorem s200_0 : Runs 200 0 [x0, some (.int i), x2, x3, x4, x5, x6] st h Q ↔ Runs 200 1 [x0, some (.int i), x2, x3, x4, x5, x6] (.int i :: st) h Q := R_ildn rfl rfl
theorem s200_1 (hs : zsumc st ≤ 8) : Runs 200 1 ls (.int i0 :: st) h Q ↔ Runs 191 0 [some (.int i0)] [] h (fun v h2 => Runs 200 4 ls (v.toList ++ st) h2 Q) := R_calls (rest := st) rfl rfl rfl (by simp) rfl rfl rfl rfl hs
theorem s200_4 : Runs 200 4 ls (.int i :: st) h Q ↔ if i = 0 then Runs 200 14 ls st h Q else Runs 200 7 ls st h Q := R_ifeq rfl rfl
theorem s200_7 : Runs 200 7 [x0, x1, x2, some (.int i), x4, x5, x6] st h Q ↔ Runs 200 8 [x0, x1, x2, some (.int i), x4, x5, x6] (.int i :: st) h Q := R_ildn rfl rfl
theorem s200_8 (hs : zsumc st ≤ 8) : Runs 200 8 ls (.int i0 :: st) h Q ↔ Runs 191 0 [some (.int i0)] [] h (fun v h2 => Runs 200 11 ls (v.toList ++ st) h2 Q) := R_calls (rest := st) rfl rfl rfl (by simp) rfl rfl rfl rfl hs
theorem s200_11 : Runs 200 11 ls (.int i :: st) h Q ↔ if ¬ i = 0 then Runs 200 17 ls st h Q else Runs 200 14 ls st h Q := R_ifne rfl rfl
theorem s200_14 : Runs 200 14 ls st h Q ↔ Runs 200 16 ls (.int (-2) :: st) h Q := R_bipush rfl (by decide)
theorem s200_16 : Runs 200 16 ls [.int i] h Q ↔ Q (some (.int i)) h := R_iret rfl rfl
theorem s200_17 : Runs 200 17 [some (.ref a), x1, x2, x3, x4, x5, x6] st h Q ↔ Runs 200 18 [some (.ref a), x1, x2, x3, x4, x5, x6] (.ref a :: st) h Q := R_aldn rfl rfl
theorem s200_17q : Runs 200 17 [some (zrf r), x1, x2, x3, x4, x5, x6] st h Q ↔ Runs 200 18 [some (zrf r), x1, x2, x3, x4, x5, x6] (zrf r :: st) h Q := R_aldnq rfl rfl
theorem s200_18 (ht : tg a = 10) : Runs 200 18 ls (.ref a :: st) (n, tg, ln, I, J, O) Q ↔ Runs 200 21 ls (zrf (O a 8) :: st) (n, tg, ln, I, J, O) Q := R_getr rfl rfl rfl rfl ht
theorem s200_21 : Runs 200 21 [x0, some (.int i), x2, x3, x4, x5, x6] st h Q ↔ Runs 200 22 [x0, some (.int i), x2, x3, x4, x5, x6] (.int i :: st) h Q := R_ildn rfl rfl
theorem s200_22 (ht : tg a = 20) : Runs 200 22 ls (.int i :: .ref a :: st) (n, tg, ln, I, J, O) Q ↔ ((0 ≤ i ∧ i < Int32.ofNat (ln a)) ∧ Runs 200 23 ls (.int (I a i) :: st) (n, tg, ln, I, J, O) Q) := R_iald rfl ht
theorem s200_23 : Runs 200 23 ls (.int i :: st) h Q ↔ if i < 0 then Runs 200 35 ls st h Q else Runs 200 26 ls st h Q := R_iflt rfl rfl
theorem s200_26 : Runs 200 26 [some (.ref a), x1, x2, x3, x4, x5, x6] st h Q ↔ Runs 200 27 [some (.ref a), x1, x2, x3, x4, x5, x6] (.ref a :: st) h Q := R_aldn rfl rfl
theorem s200_26q : Runs 200 26 [some (zrf r), x1, x2, x3, x4, x5, x6] st h Q ↔ Runs 200 27 [some (zrf r), x1, x2, x3, x4, x5, x6] (zrf r :: st) h Q := R_aldnq rfl rfl
theorem s200_27 (ht : tg a = 10) : Runs 200 27 ls (.ref a :: st) (n, tg, ln, I, J, O) Q ↔ Runs 200 30 ls (zrf (O a 8) :: st) (n, tg, ln, I, J, O) Q := R_getr rfl rfl rfl rfl ht
theorem s200_30 : Runs 200 30 [x0, x1, x2, some (.int i), x4, x5, x6] st h Q ↔ Runs 200 31 [x0, x1, x2, some (.int i), x4, x5, x6] (.int i :: st) h Q := R_ildn rfl rfl
theorem s200_31 (ht : tg a = 20) : Runs 200 31 ls (.int i :: .ref a :: st) (n, tg, ln, I, J, O) Q ↔ ((0 ≤ i ∧ i < Int32.ofNat (ln a)) ∧ Runs 200 32 ls (.int (I a i) :: st) (n, tg, ln, I, J, O) Q) := R_iald rfl ht
theorem s200_32 : Runs 200 32 ls (.int i :: st) h Q ↔ if 0 ≤ i then Runs 200 38 ls st h Q else Runs 200 35 ls st h Q := R_ifge rfl rfl
theorem s200_35 : Runs 200 35 ls st h Q ↔ Runs 200 37 ls (.int (-11) :: st) h Q := R_bipush rfl (by decide)
theorem s200_37 : Runs 200 37 ls [.int i] h Q ↔ Q (some (.int i)) h := R_iret rfl rfl
theorem s200_38 : Runs 200 38 [some (.ref a), x1, x2, x3, x4, x5, x6] st h Q ↔ Runs 200 39 [some (.ref a), x1, x2, x3, x4, x5, x6] (.ref a :: st) h Q := R_aldn rfl rfl
theorem s200_38q : Runs 200 38 [some (zrf r), x1, x2, x3, x4, x5, x6] st h Q ↔ Runs 200 39 [some (zrf r), x1, x2, x3, x4, x5, x6] (zrf r :: st) h Q := R_aldnq rfl rfl
theorem s200_39 : Runs 200 39 [x0, some (.int i), x2, x3, x4, x5, x6] st h Q ↔ Runs 200 40 [x0, some (.int i), x2, x3, x4, x5, x6] (.int i :: st) h Q := R_ildn rfl rfl
theorem s200_40 : Runs 200 40 [x0, x1, some (.int i), x3, x4, x5, x6] st h Q ↔ Runs 200 41 [x0, x1, some (.int i), x3, x4, x5, x6] (.int i :: st) h Q := R_ildn rfl rfl
theorem s200_41 : Runs 200 41 [x0, x1, x2, x3, x4, some (.int i), x6] st h Q ↔ Runs 200 43 [x0, x1, x2, x3, x4, some (.int i), x6] (.int i :: st) h Q := R_ild rfl rfl
theorem s200_43 (ht : tg a = 10) (hs : zsumc st ≤ 8) : Runs 200 43 ls (.int i2 :: .int i1 :: .int i0 :: .ref a :: st) (n, tg, ln, I, J, O) Q ↔ Runs 199 0 [some (.ref a), some (.int i0), some (.int i1), some (.int i2)] [] (n, tg, ln, I, J, O) (fun v h2 => Runs 200 46 ls (v.toList ++ st) h2 Q) := R_callv (a := a) (rest := st) rfl rfl rfl rfl rfl rfl rfl ht hs
theorem s200_46 : Runs 200 46 ls (.int i :: st) h Q ↔ if i = 0 then Runs 200 61 ls st h Q else Runs 200 49 ls st h Q := R_ifeq rfl rfl
theorem s200_49 : Runs 200 49 [some (.ref a), x1, x2, x3, x4, x5, x6] st h Q ↔ Runs 200 50 [some (.ref a), x1, x2, x3, x4, x5, x6] (.ref a :: st) h Q := R_aldn rfl rfl
theorem s200_49q : Runs 200 49 [some (zrf r), x1, x2, x3, x4, x5, x6] st h Q ↔ Runs 200 50 [some (zrf r), x1, x2, x3, x4, x5, x6] (zrf r :: st) h Q := R_aldnq rfl rfl
theorem s200_50 : Runs 200 50 [x0, x1, x2, some (.int i), x4, x5, x6] st h Q ↔ Runs 200 51 [x0, x1, x2, some (.int i), x4, x5, x6] (.int i :: st) h Q := R_ildn rfl rfl
theorem s200_51 : Runs 200 51 [x0, x1, x2, x3, some (.int i), x5, x6] st h Q ↔ Runs 200 53 [x0, x1, x2, x3, some (.int i), x5, x6] (.int i :: st) h Q := R_ild rfl rfl
theorem s200_53 : Runs 200 53 [x0, x1, x2, x3, x4, some (.int i), x6] st h Q ↔ Runs 200 55 [x0, x1, x2, x3, x4, some (.int i), x6] (.int i :: st) h Q := R_ild rfl rfl
theorem s200_55 (ht : tg a = 10) (hs : zsumc st ≤ 8) : Runs 200 55 ls (.int i2 :: .int i1 :: .int i0 :: .ref a :: st) (n, tg, ln, I, J, O) Q ↔ Runs 199 0 [some (.ref a), some (.int i0), some (.int i1), some (.int i2)] [] (n, tg, ln, I, J, O) (fun v h2 => Runs 200 58 ls (v.toList ++ st) h2 Q) := R_callv (a := a) (rest := st) rfl rfl rfl rfl rfl rfl rfl ht hs
theorem s200_58 : Runs 200 58 ls (.int i :: st) h Q ↔ if ¬ i = 0 then Runs 200 64 ls st h Q else Runs 200 61 ls st h Q := R_ifne rfl rfl
theorem s200_61 : Runs 200 61 ls st h Q ↔ Runs 200 63 ls (.int (-12) :: st) h Q := R_bipush rfl (by decide)
theorem s200_63 : Runs 200 63 ls [.int i] h Q ↔ Q (some (.int i)) h := R_iret rfl rfl
theorem s200_64 : Runs 200 64 ls st h Q ↔ Runs 200 65 ls (.int 0 :: st) h Q := R_iconst rfl rfl
theorem s200_65 : Runs 200 65 [x0, x1, x2, x3, x4, x5, x6] (.int i :: st) h Q ↔ Runs 200 67 [x0, x1, x2, x3, x4, zdrop x5, some (.int i)] st h Q := R_ist rfl rfl rfl
theorem s200_67 : Runs 200 67 [x0, x1, x2, x3, x4, x5, some (.int i)] st h Q ↔ Runs 200 69 [x0, x1, x2, x3, x4, x5, some (.int i)] (.int i :: st) h Q := R_ild rfl rfl
theorem s200_69 : Runs 200 69 [x0, x1, x2, x3, x4, some (.int i), x6] st h Q ↔ Runs 200 71 [x0, x1, x2, x3, x4, some (.int i), x6] (.int i :: st) h Q := R_ild rfl rfl
theorem s200_71 : Runs 200 71 ls (.int j :: .int i :: st) h Q ↔ if j ≤ i then Runs 200 143 ls st h Q else Runs 200 74 ls st h Q := R_icge rfl rfl
theorem s200_74 : Runs 200 74 [some (.ref a), x1, x2, x3, x4, x5, x6] st h Q ↔ Runs 200 75 [some (.ref a), x1, x2, x3, x4, x5, x6] (.ref a :: st) h Q := R_aldn rfl rfl
theorem s200_74q : Runs 200 74 [some (zrf r), x1, x2, x3, x4, x5, x6] st h Q ↔ Runs 200 75 [some (zrf r), x1, x2, x3, x4, x5, x6] (zrf r :: st) h Q := R_aldnq rfl rfl
theorem s200_75 (ht : tg a = 10) : Runs 200 75 ls (.ref a :: st) (n, tg, ln, I, J, O) Q ↔ Runs 200 78 ls (zrf (O a 26) :: st) (n, tg, ln, I, J, O) Q := R_getr rfl rfl rfl rfl ht
theorem s200_78 : Runs 200 78 [x0, x1, x2, x3, x4, x5, some (.int i)] st h Q ↔ Runs 200 80 [x0, x1, x2, x3, x4, x5, some (.int i)] (.int i :: st) h Q := R_ild rfl rfl
theorem s200_80 : Runs 200 80 [some (.ref a), x1, x2, x3, x4, x5, x6] st h Q ↔ Runs 200 81 [some (.ref a), x1, x2, x3, x4, x5, x6] (.ref a :: st) h Q := R_aldn rfl rfl
theorem s200_80q : Runs 200 80 [some (zrf r), x1, x2, x3, x4, x5, x6] st h Q ↔ Runs 200 81 [some (zrf r), x1, x2, x3, x4, x5, x6] (zrf r :: st) h Q := R_aldnq rfl rfl
theorem s200_81 (ht : tg a = 10) : Runs 200 81 ls (.ref a :: st) (n, tg, ln, I, J, O) Q ↔ Runs 200 84 ls (zrf (O a 9) :: st) (n, tg, ln, I, J, O) Q := R_getr rfl rfl rfl rfl ht
theorem s200_84 : Runs 200 84 ls st h Q ↔ Runs 200 86 ls (.int 12 :: st) h Q := R_bipush rfl (by decide)
theorem s200_86 : Runs 200 86 [x0, some (.int i), x2, x3, x4, x5, x6] st h Q ↔ Runs 200 87 [x0, some (.int i), x2, x3, x4, x5, x6] (.int i :: st) h Q := R_ildn rfl rfl
theorem s200_87 : Runs 200 87 ls (.int j :: .int i :: st) h Q ↔ Runs 200 88 ls (.int (i * j) :: st) h Q := R_imul rfl
theorem s200_88 : Runs 200 88 [x0, x1, some (.int i), x3, x4, x5, x6] st h Q ↔ Runs 200 89 [x0, x1, some (.int i), x3, x4, x5, x6] (.int i :: st) h Q := R_ildn rfl rfl
theorem s200_89 : Runs 200 89 ls (.int j :: .int i :: st) h Q ↔ Runs 200 90 ls (.int (i + j) :: st) h Q := R_iadd rfl
theorem s200_90 : Runs 200 90 [x0, x1, x2, x3, x4, x5, some (.int i)] st h Q ↔ Runs 200 92 [x0, x1, x2, x3, x4, x5, some (.int i)] (.int i :: st) h Q := R_ild rfl rfl
theorem s200_92 : Runs 200 92 ls (.int j :: .int i :: st) h Q ↔ Runs 200 93 ls (.int (i + j) :: st) h Q := R_iadd rfl
theorem s200_93 (ht : tg a = 20) : Runs 200 93 ls (.int i :: .ref a :: st) (n, tg, ln, I, J, O) Q ↔ ((0 ≤ i ∧ i < Int32.ofNat (ln a)) ∧ Runs 200 94 ls (.int (I a i) :: st) (n, tg, ln, I, J, O) Q) := R_iald rfl ht
theorem s200_94 (ht : tg a = 20) : Runs 200 94 ls (.int j :: .int i :: .ref a :: st) (n, tg, ln, I, J, O) Q ↔ ((0 ≤ i ∧ i < Int32.ofNat (ln a)) ∧ Runs 200 95 ls st (n, tg, ln, zu I a i j, J, O) Q) := R_iast rfl ht
theorem s200_95 : Runs 200 95 [some (.ref a), x1, x2, x3, x4, x5, x6] st h Q ↔ Runs 200 96 [some (.ref a), x1, x2, x3, x4, x5, x6] (.ref a :: st) h Q := R_aldn rfl rfl
theorem s200_95q : Runs 200 95 [some (zrf r), x1, x2, x3, x4, x5, x6] st h Q ↔ Runs 200 96 [some (zrf r), x1, x2, x3, x4, x5, x6] (zrf r :: st) h Q := R_aldnq rfl rfl
theorem s200_96 (ht : tg a = 10) : Runs 200 96 ls (.ref a :: st) (n, tg, ln, I, J, O) Q ↔ Runs 200 99 ls (zrf (O a 27) :: st) (n, tg, ln, I, J, O) Q := R_getr rfl rfl rfl rfl ht
theorem s200_99 : Runs 200 99 [x0, x1, x2, x3, x4, x5, some (.int i)] st h Q ↔ Runs 200 101 [x0, x1, x2, x3, x4, x5, some (.int i)] (.int i :: st) h Q := R_ild rfl rfl
theorem s200_101 : Runs 200 101 [some (.ref a), x1, x2, x3, x4, x5, x6] st h Q ↔ Runs 200 102 [some (.ref a), x1, x2, x3, x4, x5, x6] (.ref a :: st) h Q := R_aldn rfl rfl
theorem s200_101q : Runs 200 101 [some (zrf r), x1, x2, x3, x4, x5, x6] st h Q ↔ Runs 200 102 [some (zrf r), x1, x2, x3, x4, x5, x6] (zrf r :: st) h Q := R_aldnq rfl rfl
theorem s200_102 (ht : tg a = 10) : Runs 200 102 ls (.ref a :: st) (n, tg, ln, I, J, O) Q ↔ Runs 200 105 ls (zrf (O a 10) :: st) (n, tg, ln, I, J, O) Q := R_getr rfl rfl rfl rfl ht
theorem s200_105 : Runs 200 105 ls st h Q ↔ Runs 200 107 ls (.int 12 :: st) h Q := R_bipush rfl (by decide)
theorem s200_107 : Runs 200 107 [x0, some (.int i), x2, x3, x4, x5, x6] st h Q ↔ Runs 200 108 [x0, some (.int i), x2, x3, x4, x5, x6] (.int i :: st) h Q := R_ildn rfl rfl
theorem s200_108 : Runs 200 108 ls (.int j :: .int i :: st) h Q ↔ Runs 200 109 ls (.int (i * j) :: st) h Q := R_imul rfl
theorem s200_109 : Runs 200 109 [x0, x1, some (.int i), x3, x4, x5, x6] st h Q ↔ Runs 200 110 [x0, x1, some (.int i), x3, x4, x5, x6] (.int i :: st) h Q := R_ildn rfl rfl
theorem s200_110 : Runs 200 110 ls (.int j :: .int i :: st) h Q ↔ Runs 200 111 ls (.int (i + j) :: st) h Q := R_iadd rfl
theorem s200_111 : Runs 200 111 [x0, x1, x2, x3, x4, x5, some (.int i)] st h Q ↔ Runs 200 113 [x0, x1, x2, x3, x4, x5, some (.int i)] (.int i :: st) h Q := R_ild rfl rfl
theorem s200_113 : Runs 200 113 ls (.int j :: .int i :: st) h Q ↔ Runs 200 114 ls (.int (i + j) :: st) h Q := R_iadd rfl
theorem s200_114 (ht : tg a = 20) : Runs 200 114 ls (.int i :: .ref a :: st) (n, tg, ln, I, J, O) Q ↔ ((0 ≤ i ∧ i < Int32.ofNat (ln a)) ∧ Runs 200 115 ls (.int (I a i) :: st) (n, tg, ln, I, J, O) Q) := R_iald rfl ht
theorem s200_115 (ht : tg a = 20) : Runs 200 115 ls (.int j :: .int i :: .ref a :: st) (n, tg, ln, I, J, O) Q ↔ ((0 ≤ i ∧ i < Int32.ofNat (ln a)) ∧ Runs 200 116 ls st (n, tg, ln, zu I a i j, J, O) Q) := R_iast rfl ht
theorem s200_116 : Runs 200 116 [some (.ref a), x1, x2, x3, x4, x5, x6] st h Q ↔ Runs 200 117 [some (.ref a), x1, x2, x3, x4, x5, x6] (.ref a :: st) h Q := R_aldn rfl rfl
theorem s200_116q : Runs 200 116 [some (zrf r), x1, x2, x3, x4, x5, x6] st h Q ↔ Runs 200 117 [some (zrf r), x1, x2, x3, x4, x5, x6] (zrf r :: st) h Q := R_aldnq rfl rfl
theorem s200_117 (ht : tg a = 10) : Runs 200 117 ls (.ref a :: st) (n, tg, ln, I, J, O) Q ↔ Runs 200 120 ls (zrf (O a 28) :: st) (n, tg, ln, I, J, O) Q := R_getr rfl rfl rfl rfl ht
theorem s200_120 : Runs 200 120 [x0, x1, x2, x3, x4, x5, some (.int i)] st h Q ↔ Runs 200 122 [x0, x1, x2, x3, x4, x5, some (.int i)] (.int i :: st) h Q := R_ild rfl rfl
theorem s200_122 : Runs 200 122 [some (.ref a), x1, x2, x3, x4, x5, x6] st h Q ↔ Runs 200 123 [some (.ref a), x1, x2, x3, x4, x5, x6] (.ref a :: st) h Q := R_aldn rfl rfl
theorem s200_122q : Runs 200 122 [some (zrf r), x1, x2, x3, x4, x5, x6] st h Q ↔ Runs 200 123 [some (zrf r), x1, x2, x3, x4, x5, x6] (zrf r :: st) h Q := R_aldnq rfl rfl
theorem s200_123 (ht : tg a = 10) : Runs 200 123 ls (.ref a :: st) (n, tg, ln, I, J, O) Q ↔ Runs 200 126 ls (zrf (O a 11) :: st) (n, tg, ln, I, J, O) Q := R_getr rfl rfl rfl rfl ht
theorem s200_126 : Runs 200 126 ls st h Q ↔ Runs 200 128 ls (.int 12 :: st) h Q := R_bipush rfl (by decide)
theorem s200_128 : Runs 200 128 [x0, some (.int i), x2, x3, x4, x5, x6] st h Q ↔ Runs 200 129 [x0, some (.int i), x2, x3, x4, x5, x6] (.int i :: st) h Q := R_ildn rfl rfl
theorem s200_129 : Runs 200 129 ls (.int j :: .int i :: st) h Q ↔ Runs 200 130 ls (.int (i * j) :: st) h Q := R_imul rfl
theorem s200_130 : Runs 200 130 [x0, x1, some (.int i), x3, x4, x5, x6] st h Q ↔ Runs 200 131 [x0, x1, some (.int i), x3, x4, x5, x6] (.int i :: st) h Q := R_ildn rfl rfl
theorem s200_131 : Runs 200 131 ls (.int j :: .int i :: st) h Q ↔ Runs 200 132 ls (.int (i + j) :: st) h Q := R_iadd rfl
theorem s200_132 : Runs 200 132 [x0, x1, x2, x3, x4, x5, some (.int i)] st h Q ↔ Runs 200 134 [x0, x1, x2, x3, x4, x5, some (.int i)] (.int i :: st) h Q := R_ild rfl rfl
theorem s200_134 : Runs 200 134 ls (.int j :: .int i :: st) h Q ↔ Runs 200 135 ls (.int (i + j) :: st) h Q := R_iadd rfl
theorem s200_135 (ht : tg a = 21) : Runs 200 135 ls (.int i :: .ref a :: st) (n, tg, ln, I, J, O) Q ↔ ((0 ≤ i ∧ i < Int32.ofNat (ln a)) ∧ Runs 200 136 ls (.long (J a i) :: st) (n, tg, ln, I, J, O) Q) := R_lald rfl ht
theorem s200_136 (ht : tg a = 21) : Runs 200 136 ls (.long u :: .int i :: .ref a :: st) (n, tg, ln, I, J, O) Q ↔ ((0 ≤ i ∧ i < Int32.ofNat (ln a)) ∧ Runs 200 137 ls st (n, tg, ln, I, zu J a i u, O) Q) := R_last rfl ht
theorem s200_137 : Runs 200 137 [x0, x1, x2, x3, x4, x5, some (.int i)] st h Q ↔ Runs 200 140 [x0, x1, x2, x3, x4, zdrop x5, some (.int (i + 1))] st h Q := R_iinc rfl rfl rfl rfl rfl
theorem s200_140 : Runs 200 140 ls st h Q ↔ Runs 200 67 ls st h Q := R_goto rfl rfl
theorem s200_143 : Runs 200 143 ls st h Q ↔ Runs 200 144 ls (.int 0 :: st) h Q := R_iconst rfl rfl
theorem s200_144 : Runs 200 144 [x0, x1, x2, x3, x4, x5, x6] (.int i :: st) h Q ↔ Runs 200 146 [x0, x1, x2, x3, x4, zdrop x5, some (.int i)] st h Q := R_ist rfl rfl rfl
theorem s200_146 : Runs 200 146 [x0, x1, x2, x3, x4, x5, some (.int i)] st h Q ↔ Runs 200 148 [x0, x1, x2, x3, x4, x5, some (.int i)] (.int i :: st) h Q := R_ild rfl rfl
theorem s200_148 : Runs 200 148 [x0, x1, x2, x3, x4, some (.int i), x6] st h Q ↔ Runs 200 150 [x0, x1, x2, x3, x4, some (.int i), x6] (.int i :: st) h Q := R_ild rfl rfl
theorem s200_150 : Runs 200 150 ls (.int j :: .int i :: st) h Q ↔ if j ≤ i then Runs 200 225 ls st h Q else Runs 200 153 ls st h Q := R_icge rfl rfl
theorem s200_153 : Runs 200 153 [some (.ref a), x1, x2, x3, x4, x5, x6] st h Q ↔ Runs 200 154 [some (.ref a), x1, x2, x3, x4, x5, x6] (.ref a :: st) h Q := R_aldn rfl rfl
theorem s200_153q : Runs 200 153 [some (zrf r), x1, x2, x3, x4, x5, x6] st h Q ↔ Runs 200 154 [some (zrf r), x1, x2, x3, x4, x5, x6] (zrf r :: st) h Q := R_aldnq rfl rfl
theorem s200_154 (ht : tg a = 10) : Runs 200 154 ls (.ref a :: st) (n, tg, ln, I, J, O) Q ↔ Runs 200 157 ls (zrf (O a 9) :: st) (n, tg, ln, I, J, O) Q := R_getr rfl rfl rfl rfl ht
theorem s200_157 : Runs 200 157 ls st h Q ↔ Runs 200 159 ls (.int 12 :: st) h Q := R_bipush rfl (by decide)
theorem s200_159 : Runs 200 159 [x0, x1, x2, some (.int i), x4, x5, x6] st h Q ↔ Runs 200 160 [x0, x1, x2, some (.int i), x4, x5, x6] (.int i :: st) h Q := R_ildn rfl rfl
theorem s200_160 : Runs 200 160 ls (.int j :: .int i :: st) h Q ↔ Runs 200 161 ls (.int (i * j) :: st) h Q := R_imul rfl
theorem s200_161 : Runs 200 161 [x0, x1, x2, x3, some (.int i), x5, x6] st h Q ↔ Runs 200 163 [x0, x1, x2, x3, some (.int i), x5, x6] (.int i :: st) h Q := R_ild rfl rfl
theorem s200_163 : Runs 200 163 ls (.int j :: .int i :: st) h Q ↔ Runs 200 164 ls (.int (i + j) :: st) h Q := R_iadd rfl
theorem s200_164 : Runs 200 164 [x0, x1, x2, x3, x4, x5, some (.int i)] st h Q ↔ Runs 200 166 [x0, x1, x2, x3, x4, x5, some (.int i)] (.int i :: st) h Q := R_ild rfl rfl
theorem s200_166 : Runs 200 166 ls (.int j :: .int i :: st) h Q ↔ Runs 200 167 ls (.int (i + j) :: st) h Q := R_iadd rfl
theorem s200_167 : Runs 200 167 [some (.ref a), x1, x2, x3, x4, x5, x6] st h Q ↔ Runs 200 168 [some (.ref a), x1, x2, x3, x4, x5, x6] (.ref a :: st) h Q := R_aldn rfl rfl
theorem s200_167q : Runs 200 167 [some (zrf r), x1, x2, x3, x4, x5, x6] st h Q ↔ Runs 200 168 [some (zrf r), x1, x2, x3, x4, x5, x6] (zrf r :: st) h Q := R_aldnq rfl rfl
theorem s200_168 (ht : tg a = 10) : Runs 200 168 ls (.ref a :: st) (n, tg, ln, I, J, O) Q ↔ Runs 200 171 ls (zrf (O a 26) :: st) (n, tg, ln, I, J, O) Q := R_getr rfl rfl rfl rfl ht
theorem s200_171 : Runs 200 171 [x0, x1, x2, x3, x4, x5, some (.int i)] st h Q ↔ Runs 200 173 [x0, x1, x2, x3, x4, x5, some (.int i)] (.int i :: st) h Q := R_ild rfl rfl
theorem s200_173 (ht : tg a = 20) : Runs 200 173 ls (.int i :: .ref a :: st) (n, tg, ln, I, J, O) Q ↔ ((0 ≤ i ∧ i < Int32.ofNat (ln a)) ∧ Runs 200 174 ls (.int (I a i) :: st) (n, tg, ln, I, J, O) Q) := R_iald rfl ht
theorem s200_174 (ht : tg a = 20) : Runs 200 174 ls (.int j :: .int i :: .ref a :: st) (n, tg, ln, I, J, O) Q ↔ ((0 ≤ i ∧ i < Int32.ofNat (ln a)) ∧ Runs 200 175 ls st (n, tg, ln, zu I a i j, J, O) Q) := R_iast rfl ht
theorem s200_175 : Runs 200 175 [some (.ref a), x1, x2, x3, x4, x5, x6] st h Q ↔ Runs 200 176 [some (.ref a), x1, x2, x3, x4, x5, x6] (.ref a :: st) h Q := R_aldn rfl rfl
theorem s200_175q : Runs 200 175 [some (zrf r), x1, x2, x3, x4, x5, x6] st h Q ↔ Runs 200 176 [some (zrf r), x1, x2, x3, x4, x5, x6] (zrf r :: st) h Q := R_aldnq rfl rfl
theorem s200_176 (ht : tg a = 10) : Runs 200 176 ls (.ref a :: st) (n, tg, ln, I, J, O) Q ↔ Runs 200 179 ls (zrf (O a 10) :: st) (n, tg, ln, I, J, O) Q := R_getr rfl rfl rfl rfl ht
theorem s200_179 : Runs 200 179 ls st h Q ↔ Runs 200 181 ls (.int 12 :: st) h Q := R_bipush rfl (by decide)
theorem s200_181 : Runs 200 181 [x0, x1, x2, some (.int i), x4, x5, x6] st h Q ↔ Runs 200 182 [x0, x1, x2, some (.int i), x4, x5, x6] (.int i :: st) h Q := R_ildn rfl rfl
theorem s200_182 : Runs 200 182 ls (.int j :: .int i :: st) h Q ↔ Runs 200 183 ls (.int (i * j) :: st) h Q := R_imul rfl
theorem s200_183 : Runs 200 183 [x0, x1, x2, x3, some (.int i), x5, x6] st h Q ↔ Runs 200 185 [x0, x1, x2, x3, some (.int i), x5, x6] (.int i :: st) h Q := R_ild rfl rfl
theorem s200_185 : Runs 200 185 ls (.int j :: .int i :: st) h Q ↔ Runs 200 186 ls (.int (i + j) :: st) h Q := R_iadd rfl
theorem s200_186 : Runs 200 186 [x0, x1, x2, x3, x4, x5, some (.int i)] st h Q ↔ Runs 200 188 [x0, x1, x2, x3, x4, x5, some (.int i)] (.int i :: st) h Q := R_ild rfl rfl
theorem s200_188 : Runs 200 188 ls (.int j :: .int i :: st) h Q ↔ Runs 200 189 ls (.int (i + j) :: st) h Q := R_iadd rfl
theorem s200_189 : Runs 200 189 [some (.ref a), x1, x2, x3, x4, x5, x6] st h Q ↔ Runs 200 190 [some (.ref a), x1, x2, x3, x4, x5, x6] (.ref a :: st) h Q := R_aldn rfl rfl
theorem s200_189q : Runs 200 189 [some (zrf r), x1, x2, x3, x4, x5, x6] st h Q ↔ Runs 200 190 [some (zrf r), x1, x2, x3, x4, x5, x6] (zrf r :: st) h Q := R_aldnq rfl rfl
theorem s200_190 (ht : tg a = 10) : Runs 200 190 ls (.ref a :: st) (n, tg, ln, I, J, O) Q ↔ Runs 200 193 ls (zrf (O a 27) :: st) (n, tg, ln, I, J, O) Q := R_getr rfl rfl rfl rfl ht
theorem s200_193 : Runs 200 193 [x0, x1, x2, x3, x4, x5, some (.int i)] st h Q ↔ Runs 200 195 [x0, x1, x2, x3, x4, x5, some (.int i)] (.int i :: st) h Q := R_ild rfl rfl
theorem s200_195 (ht : tg a = 20) : Runs 200 195 ls (.int i :: .ref a :: st) (n, tg, ln, I, J, O) Q ↔ ((0 ≤ i ∧ i < Int32.ofNat (ln a)) ∧ Runs 200 196 ls (.int (I a i) :: st) (n, tg, ln, I, J, O) Q) := R_iald rfl ht
theorem s200_196 (ht : tg a = 20) : Runs 200 196 ls (.int j :: .int i :: .ref a :: st) (n, tg, ln, I, J, O) Q ↔ ((0 ≤ i ∧ i < Int32.ofNat (ln a)) ∧ Runs 200 197 ls st (n, tg, ln, zu I a i j, J, O) Q) := R_iast rfl ht
theorem s200_197 : Runs 200 197 [some (.ref a), x1, x2, x3, x4, x5, x6] st h Q ↔ Runs 200 198 [some (.ref a), x1, x2, x3, x4, x5, x6] (.ref a :: st) h Q := R_aldn rfl rfl
theorem s200_197q : Runs 200 197 [some (zrf r), x1, x2, x3, x4, x5, x6] st h Q ↔ Runs 200 198 [some (zrf r), x1, x2, x3, x4, x5, x6] (zrf r :: st) h Q := R_aldnq rfl rfl
theorem s200_198 (ht : tg a = 10) : Runs 200 198 ls (.ref a :: st) (n, tg, ln, I, J, O) Q ↔ Runs 200 201 ls (zrf (O a 11) :: st) (n, tg, ln, I, J, O) Q := R_getr rfl rfl rfl rfl ht
theorem s200_201 : Runs 200 201 ls st h Q ↔ Runs 200 203 ls (.int 12 :: st) h Q := R_bipush rfl (by decide)
theorem s200_203 : Runs 200 203 [x0, x1, x2, some (.int i), x4, x5, x6] st h Q ↔ Runs 200 204 [x0, x1, x2, some (.int i), x4, x5, x6] (.int i :: st) h Q := R_ildn rfl rfl
theorem s200_204 : Runs 200 204 ls (.int j :: .int i :: st) h Q ↔ Runs 200 205 ls (.int (i * j) :: st) h Q := R_imul rfl
theorem s200_205 : Runs 200 205 [x0, x1, x2, x3, some (.int i), x5, x6] st h Q ↔ Runs 200 207 [x0, x1, x2, x3, some (.int i), x5, x6] (.int i :: st) h Q := R_ild rfl rfl
theorem s200_207 : Runs 200 207 ls (.int j :: .int i :: st) h Q ↔ Runs 200 208 ls (.int (i + j) :: st) h Q := R_iadd rfl
theorem s200_208 : Runs 200 208 [x0, x1, x2, x3, x4, x5, some (.int i)] st h Q ↔ Runs 200 210 [x0, x1, x2, x3, x4, x5, some (.int i)] (.int i :: st) h Q := R_ild rfl rfl
theorem s200_210 : Runs 200 210 ls (.int j :: .int i :: st) h Q ↔ Runs 200 211 ls (.int (i + j) :: st) h Q := R_iadd rfl
theorem s200_211 : Runs 200 211 [some (.ref a), x1, x2, x3, x4, x5, x6] st h Q ↔ Runs 200 212 [some (.ref a), x1, x2, x3, x4, x5, x6] (.ref a :: st) h Q := R_aldn rfl rfl
theorem s200_211q : Runs 200 211 [some (zrf r), x1, x2, x3, x4, x5, x6] st h Q ↔ Runs 200 212 [some (zrf r), x1, x2, x3, x4, x5, x6] (zrf r :: st) h Q := R_aldnq rfl rfl
theorem s200_212 (ht : tg a = 10) : Runs 200 212 ls (.ref a :: st) (n, tg, ln, I, J, O) Q ↔ Runs 200 215 ls (zrf (O a 28) :: st) (n, tg, ln, I, J, O) Q := R_getr rfl rfl rfl rfl ht
theorem s200_215 : Runs 200 215 [x0, x1, x2, x3, x4, x5, some (.int i)] st h Q ↔ Runs 200 217 [x0, x1, x2, x3, x4, x5, some (.int i)] (.int i :: st) h Q := R_ild rfl rfl
theorem s200_217 (ht : tg a = 21) : Runs 200 217 ls (.int i :: .ref a :: st) (n, tg, ln, I, J, O) Q ↔ ((0 ≤ i ∧ i < Int32.ofNat (ln a)) ∧ Runs 200 218 ls (.long (J a i) :: st) (n, tg, ln, I, J, O) Q) := R_lald rfl ht
theorem s200_218 (ht : tg a = 21) : Runs 200 218 ls (.long u :: .int i :: .ref a :: st) (n, tg, ln, I, J, O) Q ↔ ((0 ≤ i ∧ i < Int32.ofNat (ln a)) ∧ Runs 200 219 ls st (n, tg, ln, I, zu J a i u, O) Q) := R_last rfl ht
theorem s200_219 : Runs 200 219 [x0, x1, x2, x3, x4, x5, some (.int i)] st h Q ↔ Runs 200 222 [x0, x1, x2, x3, x4, zdrop x5, some (.int (i + 1))] st h Q := R_iinc rfl rfl rfl rfl rfl
theorem s200_222 : Runs 200 222 ls st h Q ↔ Runs 200 146 ls st h Q := R_goto rfl rfl
theorem s200_225 : Runs 200 225 [x0, x1, x2, x3, x4, some (.int i), x6] st h Q ↔ Runs 200 227 [x0, x1, x2, x3, x4, some (.int i), x6] (.int i :: st) h Q := R_ild rfl rfl
theorem s200_227 : Runs 200 227 ls [.int i] h Q ↔ Q (some (.int i)) h := R_iret rfl rfl
theorem s201_0 : Runs 201 0 [x0, some (.int i), x2, x3] st h Q ↔ Runs 201 1 [x0, some (.int i), x2, x3] (.int i :: st) h Q := R_ildn rfl rfl
theorem s201_1 (hs : zsumc st ≤ 8) : Runs 201 1 ls (.int i0 :: st) h Q ↔ Runs 191 0 [some (.int i0)] [] h (fun v h2 => Runs 201 4 ls (v.toList ++ st) h2 Q) := R_calls (rest := st) rfl rfl rfl (by simp) rfl rfl rfl rfl hs
theorem s201_4 : Runs 201 4 ls (.int i :: st) h Q ↔ if ¬ i = 0 then Runs 201 10 ls st h Q else Runs 201 7 ls st h Q := R_ifne rfl rfl
theorem s201_7 : Runs 201 7 ls st h Q ↔ Runs 201 9 ls (.int (-2) :: st) h Q := R_bipush rfl (by decide)
theorem s201_9 : Runs 201 9 ls [.int i] h Q ↔ Q (some (.int i)) h := R_iret rfl rfl
theorem s201_10 : Runs 201 10 [some (.ref a), x1, x2, x3] st h Q ↔ Runs 201 11 [some (.ref a), x1, x2, x3] (.ref a :: st) h Q := R_aldn rfl rfl
theorem s201_10q : Runs 201 10 [some (zrf r), x1, x2, x3] st h Q ↔ Runs 201 11 [some (zrf r), x1, x2, x3] (zrf r :: st) h Q := R_aldnq rfl rfl
theorem s201_11 (ht : tg a = 10) : Runs 201 11 ls (.ref a :: st) (n, tg, ln, I, J, O) Q ↔ Runs 201 14 ls (zrf (O a 8) :: st) (n, tg, ln, I, J, O) Q := R_getr rfl rfl rfl rfl ht
theorem s201_14 : Runs 201 14 [x0, some (.int i), x2, x3] st h Q ↔ Runs 201 15 [x0, some (.int i), x2, x3] (.int i :: st) h Q := R_ildn rfl rfl
theorem s201_15 (ht : tg a = 20) : Runs 201 15 ls (.int i :: .ref a :: st) (n, tg, ln, I, J, O) Q ↔ ((0 ≤ i ∧ i < Int32.ofNat (ln a)) ∧ Runs 201 16 ls (.int (I a i) :: st) (n, tg, ln, I, J, O) Q) := R_iald rfl ht
theorem s201_16 : Runs 201 16 ls (.int i :: st) h Q ↔ if 0 ≤ i then Runs 201 22 ls st h Q else Runs 201 19 ls st h Q := R_ifge rfl rfl
theorem s201_19 : Runs 201 19 ls st h Q ↔ Runs 201 21 ls (.int (-11) :: st) h Q := R_bipush rfl (by decide)
theorem s201_21 : Runs 201 21 ls [.int i] h Q ↔ Q (some (.int i)) h := R_iret rfl rfl
theorem s201_22 : Runs 201 22 ls st h Q ↔ Runs 201 23 ls (.int 0 :: st) h Q := R_iconst rfl rfl
theorem s201_23 : Runs 201 23 [x0, x1, x2, x3] (.int i :: st) h Q ↔ Runs 201 24 [x0, zdrop x1, some (.int i), x3] st h Q := R_istn rfl rfl rfl
theorem s201_24 : Runs 201 24 ls st h Q ↔ Runs 201 25 ls (.int 0 :: st) h Q := R_iconst rfl rfl
theorem s201_25 : Runs 201 25 [x0, x1, x2, x3] (.int i :: st) h Q ↔ Runs 201 26 [x0, x1, zdrop x2, some (.int i)] st h Q := R_istn rfl rfl rfl
theorem s201_26 : Runs 201 26 [x0, x1, x2, some (.int i)] st h Q ↔ Runs 201 27 [x0, x1, x2, some (.int i)] (.int i :: st) h Q := R_ildn rfl rfl
theorem s201_27 : Runs 201 27 [some (.ref a), x1, x2, x3] st h Q ↔ Runs 201 28 [some (.ref a), x1, x2, x3] (.ref a :: st) h Q := R_aldn rfl rfl
theorem s201_27q : Runs 201 27 [some (zrf r), x1, x2, x3] st h Q ↔ Runs 201 28 [some (zrf r), x1, x2, x3] (zrf r :: st) h Q := R_aldnq rfl rfl
theorem s201_28 (ht : tg a = 10) : Runs 201 28 ls (.ref a :: st) (n, tg, ln, I, J, O) Q ↔ Runs 201 31 ls (zrf (O a 8) :: st) (n, tg, ln, I, J, O) Q := R_getr rfl rfl rfl rfl ht
theorem s201_31 : Runs 201 31 [x0, some (.int i), x2, x3] st h Q ↔ Runs 201 32 [x0, some (.int i), x2, x3] (.int i :: st) h Q := R_ildn rfl rfl
theorem s201_32 (ht : tg a = 20) : Runs 201 32 ls (.int i :: .ref a :: st) (n, tg, ln, I, J, O) Q ↔ ((0 ≤ i ∧ i < Int32.ofNat (ln a)) ∧ Runs 201 33 ls (.int (I a i) :: st) (n, tg, ln, I, J, O) Q) := R_iald rfl ht
theorem s201_33 : Runs 201 33 ls (.int j :: .int i :: st) h Q ↔ if j ≤ i then Runs 201 64 ls st h Q else Runs 201 36 ls st h Q := R_icge rfl rfl
theorem s201_36 : Runs 201 36 [x0, x1, some (.int i), x3] st h Q ↔ Runs 201 37 [x0, x1, some (.int i), x3] (.int i :: st) h Q := R_ildn rfl rfl
theorem s201_37 : Runs 201 37 [some (.ref a), x1, x2, x3] st h Q ↔ Runs 201 38 [some (.ref a), x1, x2, x3] (.ref a :: st) h Q := R_aldn rfl rfl
theorem s201_37q : Runs 201 37 [some (zrf r), x1, x2, x3] st h Q ↔ Runs 201 38 [some (zrf r), x1, x2, x3] (zrf r :: st) h Q := R_aldnq rfl rfl
theorem s201_38 (ht : tg a = 10) : Runs 201 38 ls (.ref a :: st) (n, tg, ln, I, J, O) Q ↔ Runs 201 41 ls (zrf (O a 9) :: st) (n, tg, ln, I, J, O) Q := R_getr rfl rfl rfl rfl ht
theorem s201_41 : Runs 201 41 ls st h Q ↔ Runs 201 43 ls (.int 12 :: st) h Q := R_bipush rfl (by decide)
theorem s201_43 : Runs 201 43 [x0, some (.int i), x2, x3] st h Q ↔ Runs 201 44 [x0, some (.int i), x2, x3] (.int i :: st) h Q := R_ildn rfl rfl
theorem s201_44 : Runs 201 44 ls (.int j :: .int i :: st) h Q ↔ Runs 201 45 ls (.int (i * j) :: st) h Q := R_imul rfl
theorem s201_45 : Runs 201 45 [x0, x1, x2, some (.int i)] st h Q ↔ Runs 201 46 [x0, x1, x2, some (.int i)] (.int i :: st) h Q := R_ildn rfl rfl
theorem s201_46 : Runs 201 46 ls (.int j :: .int i :: st) h Q ↔ Runs 201 47 ls (.int (i + j) :: st) h Q := R_iadd rfl
theorem s201_47 (ht : tg a = 20) : Runs 201 47 ls (.int i :: .ref a :: st) (n, tg, ln, I, J, O) Q ↔ ((0 ≤ i ∧ i < Int32.ofNat (ln a)) ∧ Runs 201 48 ls (.int (I a i) :: st) (n, tg, ln, I, J, O) Q) := R_iald rfl ht
theorem s201_48 : Runs 201 48 ls (.int i :: st) h Q ↔ if i ≤ 0 then Runs 201 55 ls st h Q else Runs 201 51 ls st h Q := R_ifle rfl rfl
theorem s201_51 : Runs 201 51 ls st h Q ↔ Runs 201 52 ls (.int 1 :: st) h Q := R_iconst rfl rfl
theorem s201_52 : Runs 201 52 ls st h Q ↔ Runs 201 56 ls st h Q := R_goto rfl rfl
theorem s201_55 : Runs 201 55 ls st h Q ↔ Runs 201 56 ls (.int 0 :: st) h Q := R_iconst rfl rfl
theorem s201_56 : Runs 201 56 ls (.int j :: .int i :: st) h Q ↔ Runs 201 57 ls (.int (i + j) :: st) h Q := R_iadd rfl
theorem s201_57 : Runs 201 57 [x0, x1, x2, x3] (.int i :: st) h Q ↔ Runs 201 58 [x0, zdrop x1, some (.int i), x3] st h Q := R_istn rfl rfl rfl
theorem s201_58 : Runs 201 58 [x0, x1, x2, some (.int i)] st h Q ↔ Runs 201 61 [x0, x1, zdrop x2, some (.int (i + 1))] st h Q := R_iinc rfl rfl rfl rfl rfl
theorem s201_61 : Runs 201 61 ls st h Q ↔ Runs 201 26 ls st h Q := R_goto rfl rfl
theorem s201_64 : Runs 201 64 [some (.ref a), x1, x2, x3] st h Q ↔ Runs 201 65 [some (.ref a), x1, x2, x3] (.ref a :: st) h Q := R_aldn rfl rfl
theorem s201_64q : Runs 201 64 [some (zrf r), x1, x2, x3] st h Q ↔ Runs 201 65 [some (zrf r), x1, x2, x3] (zrf r :: st) h Q := R_aldnq rfl rfl
theorem s201_65 (ht : tg a = 10) : Runs 201 65 ls (.ref a :: st) (n, tg, ln, I, J, O) Q ↔ Runs 201 68 ls (zrf (O a 8) :: st) (n, tg, ln, I, J, O) Q := R_getr rfl rfl rfl rfl ht
theorem s201_68 : Runs 201 68 [x0, some (.int i), x2, x3] st h Q ↔ Runs 201 69 [x0, some (.int i), x2, x3] (.int i :: st) h Q := R_ildn rfl rfl
theorem s201_69 : Runs 201 69 ls st h Q ↔ Runs 201 70 ls (.int (-1) :: st) h Q := R_iconst rfl rfl
theorem s201_70 (ht : tg a = 20) : Runs 201 70 ls (.int j :: .int i :: .ref a :: st) (n, tg, ln, I, J, O) Q ↔ ((0 ≤ i ∧ i < Int32.ofNat (ln a)) ∧ Runs 201 71 ls st (n, tg, ln, zu I a i j, J, O) Q) := R_iast rfl ht
theorem s201_71 : Runs 201 71 [x0, x1, some (.int i), x3] st h Q ↔ Runs 201 72 [x0, x1, some (.int i), x3] (.int i :: st) h Q := R_ildn rfl rfl
theorem s201_72 : Runs 201 72 ls [.int i] h Q ↔ Q (some (.int i)) h := R_iret rfl rfl
theorem s204_0 : Runs 204 0 [x0, some (.int i)] st h Q ↔ Runs 204 1 [x0, some (.int i)] (.int i :: st) h Q := R_ildn rfl rfl
theorem s204_1 : Runs 204 1 ls (.int i :: st) h Q ↔ if i = 0 then Runs 204 64 ls st h Q else if i = 1 then Runs 204 71 ls st h Q else if i = 2 then Runs 204 78 ls st h Q else if i = 3 then Runs 204 85 ls st h Q else if i = 4 then Runs 204 92 ls st h Q else if i = 5 then Runs 204 99 ls st h Q else if i = 6 then Runs 204 106 ls st h Q else if i = 7 then Runs 204 112 ls st h Q else if i = 8 then Runs 204 118 ls st h Q else if i = 9 then Runs 204 123 ls st h Q else if i = 10 then Runs 204 128 ls st h Q else if i = 11 then Runs 204 133 ls st h Q else Runs 204 138 ls st h Q := by
  by_cases h0 : i = 0
  · rw [if_pos h0]; subst h0; exact R_tabI rfl (by decide) rfl rfl
  rw [if_neg h0]
  by_cases h1 : i = 1
  · rw [if_pos h1]; subst h1; exact R_tabI rfl (by decide) rfl rfl
  rw [if_neg h1]
  by_cases h2 : i = 2
  · rw [if_pos h2]; subst h2; exact R_tabI rfl (by decide) rfl rfl
  rw [if_neg h2]
  by_cases h3 : i = 3
  · rw [if_pos h3]; subst h3; exact R_tabI rfl (by decide) rfl rfl
  rw [if_neg h3]
  by_cases h4 : i = 4
  · rw [if_pos h4]; subst h4; exact R_tabI rfl (by decide) rfl rfl
  rw [if_neg h4]
  by_cases h5 : i = 5
  · rw [if_pos h5]; subst h5; exact R_tabI rfl (by decide) rfl rfl
  rw [if_neg h5]
  by_cases h6 : i = 6
  · rw [if_pos h6]; subst h6; exact R_tabI rfl (by decide) rfl rfl
  rw [if_neg h6]
  by_cases h7 : i = 7
  · rw [if_pos h7]; subst h7; exact R_tabI rfl (by decide) rfl rfl
  rw [if_neg h7]
  by_cases h8 : i = 8
  · rw [if_pos h8]; subst h8; exact R_tabI rfl (by decide) rfl rfl
  rw [if_neg h8]
  by_cases h9 : i = 9
  · rw [if_pos h9]; subst h9; exact R_tabI rfl (by decide) rfl rfl
  rw [if_neg h9]
  by_cases h10 : i = 10
  · rw [if_pos h10]; subst h10; exact R_tabI rfl (by decide) rfl rfl
  rw [if_neg h10]
  by_cases h11 : i = 11
  · rw [if_pos h11]; subst h11; exact R_tabI rfl (by decide) rfl rfl
  rw [if_neg h11]
  exact R_tabO rfl (zout 11 i (by decide) (fun v hv => match v, hv with
    | 0, _ => h0
    | 1, _ => h1
    | 2, _ => h2
    | 3, _ => h3
    | 4, _ => h4
    | 5, _ => h5
    | 6, _ => h6
    | 7, _ => h7
    | 8, _ => h8
    | 9, _ => h9
    | 10, _ => h10
    | 11, _ => h11
    | z + 12, hv => absurd hv (by omega))) rfl
theorem s204_64 : Runs 204 64 [some (.ref a), x1] st h Q ↔ Runs 204 65 [some (.ref a), x1] (.ref a :: st) h Q := R_aldn rfl rfl
theorem s204_64q : Runs 204 64 [some (zrf r), x1] st h Q ↔ Runs 204 65 [some (zrf r), x1] (zrf r :: st) h Q := R_aldnq rfl rfl
theorem s204_65 (ht : tg a = 10) : Runs 204 65 ls (.ref a :: st) (n, tg, ln, I, J, O) Q ↔ Runs 204 68 ls (zrf (O a 0) :: st) (n, tg, ln, I, J, O) Q := R_getr rfl rfl rfl rfl ht
theorem s204_68 : Runs 204 68 ls st h Q ↔ Runs 204 69 ls (.int 0 :: st) h Q := R_iconst rfl rfl
theorem s204_69 (ht : tg a = 20) : Runs 204 69 ls (.int i :: .ref a :: st) (n, tg, ln, I, J, O) Q ↔ ((0 ≤ i ∧ i < Int32.ofNat (ln a)) ∧ Runs 204 70 ls (.int (I a i) :: st) (n, tg, ln, I, J, O) Q) := R_iald rfl ht
theorem s204_70 : Runs 204 70 ls [.int i] h Q ↔ Q (some (.int i)) h := R_iret rfl rfl
theorem s204_71 : Runs 204 71 [some (.ref a), x1] st h Q ↔ Runs 204 72 [some (.ref a), x1] (.ref a :: st) h Q := R_aldn rfl rfl
theorem s204_71q : Runs 204 71 [some (zrf r), x1] st h Q ↔ Runs 204 72 [some (zrf r), x1] (zrf r :: st) h Q := R_aldnq rfl rfl
theorem s204_72 (ht : tg a = 10) : Runs 204 72 ls (.ref a :: st) (n, tg, ln, I, J, O) Q ↔ Runs 204 75 ls (zrf (O a 0) :: st) (n, tg, ln, I, J, O) Q := R_getr rfl rfl rfl rfl ht
theorem s204_75 : Runs 204 75 ls st h Q ↔ Runs 204 76 ls (.int 4 :: st) h Q := R_iconst rfl rfl
theorem s204_76 (ht : tg a = 20) : Runs 204 76 ls (.int i :: .ref a :: st) (n, tg, ln, I, J, O) Q ↔ ((0 ≤ i ∧ i < Int32.ofNat (ln a)) ∧ Runs 204 77 ls (.int (I a i) :: st) (n, tg, ln, I, J, O) Q) := R_iald rfl ht
theorem s204_77 : Runs 204 77 ls [.int i] h Q ↔ Q (some (.int i)) h := R_iret rfl rfl
theorem s204_78 : Runs 204 78 [some (.ref a), x1] st h Q ↔ Runs 204 79 [some (.ref a), x1] (.ref a :: st) h Q := R_aldn rfl rfl
theorem s204_78q : Runs 204 78 [some (zrf r), x1] st h Q ↔ Runs 204 79 [some (zrf r), x1] (zrf r :: st) h Q := R_aldnq rfl rfl
theorem s204_79 (ht : tg a = 10) : Runs 204 79 ls (.ref a :: st) (n, tg, ln, I, J, O) Q ↔ Runs 204 82 ls (zrf (O a 0) :: st) (n, tg, ln, I, J, O) Q := R_getr rfl rfl rfl rfl ht
theorem s204_82 : Runs 204 82 ls st h Q ↔ Runs 204 83 ls (.int 5 :: st) h Q := R_iconst rfl rfl
theorem s204_83 (ht : tg a = 20) : Runs 204 83 ls (.int i :: .ref a :: st) (n, tg, ln, I, J, O) Q ↔ ((0 ≤ i ∧ i < Int32.ofNat (ln a)) ∧ Runs 204 84 ls (.int (I a i) :: st) (n, tg, ln, I, J, O) Q) := R_iald rfl ht
theorem s204_84 : Runs 204 84 ls [.int i] h Q ↔ Q (some (.int i)) h := R_iret rfl rfl
theorem s204_85 : Runs 204 85 [some (.ref a), x1] st h Q ↔ Runs 204 86 [some (.ref a), x1] (.ref a :: st) h Q := R_aldn rfl rfl
theorem s204_85q : Runs 204 85 [some (zrf r), x1] st h Q ↔ Runs 204 86 [some (zrf r), x1] (zrf r :: st) h Q := R_aldnq rfl rfl
theorem s204_86 (ht : tg a = 10) : Runs 204 86 ls (.ref a :: st) (n, tg, ln, I, J, O) Q ↔ Runs 204 89 ls (zrf (O a 0) :: st) (n, tg, ln, I, J, O) Q := R_getr rfl rfl rfl rfl ht
theorem s204_89 : Runs 204 89 ls st h Q ↔ Runs 204 90 ls (.int 1 :: st) h Q := R_iconst rfl rfl
theorem s204_90 (ht : tg a = 20) : Runs 204 90 ls (.int i :: .ref a :: st) (n, tg, ln, I, J, O) Q ↔ ((0 ≤ i ∧ i < Int32.ofNat (ln a)) ∧ Runs 204 91 ls (.int (I a i) :: st) (n, tg, ln, I, J, O) Q) := R_iald rfl ht
theorem s204_91 : Runs 204 91 ls [.int i] h Q ↔ Q (some (.int i)) h := R_iret rfl rfl
theorem s204_92 : Runs 204 92 [some (.ref a), x1] st h Q ↔ Runs 204 93 [some (.ref a), x1] (.ref a :: st) h Q := R_aldn rfl rfl
theorem s204_92q : Runs 204 92 [some (zrf r), x1] st h Q ↔ Runs 204 93 [some (zrf r), x1] (zrf r :: st) h Q := R_aldnq rfl rfl
theorem s204_93 (ht : tg a = 10) : Runs 204 93 ls (.ref a :: st) (n, tg, ln, I, J, O) Q ↔ Runs 204 96 ls (zrf (O a 0) :: st) (n, tg, ln, I, J, O) Q := R_getr rfl rfl rfl rfl ht
theorem s204_96 : Runs 204 96 ls st h Q ↔ Runs 204 97 ls (.int 2 :: st) h Q := R_iconst rfl rfl
theorem s204_97 (ht : tg a = 20) : Runs 204 97 ls (.int i :: .ref a :: st) (n, tg, ln, I, J, O) Q ↔ ((0 ≤ i ∧ i < Int32.ofNat (ln a)) ∧ Runs 204 98 ls (.int (I a i) :: st) (n, tg, ln, I, J, O) Q) := R_iald rfl ht
theorem s204_98 : Runs 204 98 ls [.int i] h Q ↔ Q (some (.int i)) h := R_iret rfl rfl
theorem s204_99 : Runs 204 99 [some (.ref a), x1] st h Q ↔ Runs 204 100 [some (.ref a), x1] (.ref a :: st) h Q := R_aldn rfl rfl
theorem s204_99q : Runs 204 99 [some (zrf r), x1] st h Q ↔ Runs 204 100 [some (zrf r), x1] (zrf r :: st) h Q := R_aldnq rfl rfl
theorem s204_100 (ht : tg a = 10) : Runs 204 100 ls (.ref a :: st) (n, tg, ln, I, J, O) Q ↔ Runs 204 103 ls (zrf (O a 0) :: st) (n, tg, ln, I, J, O) Q := R_getr rfl rfl rfl rfl ht
theorem s204_103 : Runs 204 103 ls st h Q ↔ Runs 204 104 ls (.int 3 :: st) h Q := R_iconst rfl rfl
theorem s204_104 (ht : tg a = 20) : Runs 204 104 ls (.int i :: .ref a :: st) (n, tg, ln, I, J, O) Q ↔ ((0 ≤ i ∧ i < Int32.ofNat (ln a)) ∧ Runs 204 105 ls (.int (I a i) :: st) (n, tg, ln, I, J, O) Q) := R_iald rfl ht
theorem s204_105 : Runs 204 105 ls [.int i] h Q ↔ Q (some (.int i)) h := R_iret rfl rfl
theorem s204_106 : Runs 204 106 [some (.ref a), x1] st h Q ↔ Runs 204 107 [some (.ref a), x1] (.ref a :: st) h Q := R_aldn rfl rfl
theorem s204_106q : Runs 204 106 [some (zrf r), x1] st h Q ↔ Runs 204 107 [some (zrf r), x1] (zrf r :: st) h Q := R_aldnq rfl rfl
theorem s204_107 : Runs 204 107 ls st h Q ↔ Runs 204 108 ls (.int 1 :: st) h Q := R_iconst rfl rfl
theorem s204_108 (ht : tg a = 10) (hs : zsumc st ≤ 8) : Runs 204 108 ls (.int i0 :: .ref a :: st) (n, tg, ln, I, J, O) Q ↔ Runs 202 0 [some (.ref a), some (.int i0), none, none] [] (n, tg, ln, I, J, O) (fun v h2 => Runs 204 111 ls (v.toList ++ st) h2 Q) := R_callv (a := a) (rest := st) rfl rfl rfl rfl rfl rfl rfl ht hs
theorem s204_111 : Runs 204 111 ls [.int i] h Q ↔ Q (some (.int i)) h := R_iret rfl rfl
theorem s204_112 : Runs 204 112 [some (.ref a), x1] st h Q ↔ Runs 204 113 [some (.ref a), x1] (.ref a :: st) h Q := R_aldn rfl rfl
theorem s204_112q : Runs 204 112 [some (zrf r), x1] st h Q ↔ Runs 204 113 [some (zrf r), x1] (zrf r :: st) h Q := R_aldnq rfl rfl
theorem s204_113 : Runs 204 113 ls st h Q ↔ Runs 204 114 ls (.int 2 :: st) h Q := R_iconst rfl rfl
theorem s204_114 (ht : tg a = 10) (hs : zsumc st ≤ 8) : Runs 204 114 ls (.int i0 :: .ref a :: st) (n, tg, ln, I, J, O) Q ↔ Runs 202 0 [some (.ref a), some (.int i0), none, none] [] (n, tg, ln, I, J, O) (fun v h2 => Runs 204 117 ls (v.toList ++ st) h2 Q) := R_callv (a := a) (rest := st) rfl rfl rfl rfl rfl rfl rfl ht hs
theorem s204_117 : Runs 204 117 ls [.int i] h Q ↔ Q (some (.int i)) h := R_iret rfl rfl
theorem s204_118 : Runs 204 118 [some (.ref a), x1] st h Q ↔ Runs 204 119 [some (.ref a), x1] (.ref a :: st) h Q := R_aldn rfl rfl
theorem s204_118q : Runs 204 118 [some (zrf r), x1] st h Q ↔ Runs 204 119 [some (zrf r), x1] (zrf r :: st) h Q := R_aldnq rfl rfl
theorem s204_119 (ht : tg a = 10) : Runs 204 119 ls (.ref a :: st) (n, tg, ln, I, J, O) Q ↔ Runs 204 122 ls (.int (I a 5) :: st) (n, tg, ln, I, J, O) Q := R_geti rfl rfl rfl rfl ht
theorem s204_122 : Runs 204 122 ls [.int i] h Q ↔ Q (some (.int i)) h := R_iret rfl rfl
theorem s204_123 : Runs 204 123 [some (.ref a), x1] st h Q ↔ Runs 204 124 [some (.ref a), x1] (.ref a :: st) h Q := R_aldn rfl rfl
theorem s204_123q : Runs 204 123 [some (zrf r), x1] st h Q ↔ Runs 204 124 [some (zrf r), x1] (zrf r :: st) h Q := R_aldnq rfl rfl
theorem s204_124 (ht : tg a = 10) (hs : zsumc st ≤ 8) : Runs 204 124 ls (.ref a :: st) (n, tg, ln, I, J, O) Q ↔ Runs 203 0 [some (.ref a), none, none] [] (n, tg, ln, I, J, O) (fun v h2 => Runs 204 127 ls (v.toList ++ st) h2 Q) := R_callv (a := a) (rest := st) rfl rfl rfl rfl rfl rfl rfl ht hs
theorem s204_127 : Runs 204 127 ls [.int i] h Q ↔ Q (some (.int i)) h := R_iret rfl rfl
theorem s204_128 : Runs 204 128 [some (.ref a), x1] st h Q ↔ Runs 204 129 [some (.ref a), x1] (.ref a :: st) h Q := R_aldn rfl rfl
theorem s204_128q : Runs 204 128 [some (zrf r), x1] st h Q ↔ Runs 204 129 [some (zrf r), x1] (zrf r :: st) h Q := R_aldnq rfl rfl
theorem s204_129 (ht : tg a = 10) : Runs 204 129 ls (.ref a :: st) (n, tg, ln, I, J, O) Q ↔ Runs 204 132 ls (.int (I a 1) :: st) (n, tg, ln, I, J, O) Q := R_geti rfl rfl rfl rfl ht
theorem s204_132 : Runs 204 132 ls [.int i] h Q ↔ Q (some (.int i)) h := R_iret rfl rfl
theorem s204_133 : Runs 204 133 [some (.ref a), x1] st h Q ↔ Runs 204 134 [some (.ref a), x1] (.ref a :: st) h Q := R_aldn rfl rfl
theorem s204_133q : Runs 204 133 [some (zrf r), x1] st h Q ↔ Runs 204 134 [some (zrf r), x1] (zrf r :: st) h Q := R_aldnq rfl rfl
theorem s204_134 (ht : tg a = 10) : Runs 204 134 ls (.ref a :: st) (n, tg, ln, I, J, O) Q ↔ Runs 204 137 ls (.int (I a 4) :: st) (n, tg, ln, I, J, O) Q := R_geti rfl rfl rfl rfl ht
theorem s204_137 : Runs 204 137 ls [.int i] h Q ↔ Q (some (.int i)) h := R_iret rfl rfl
theorem s204_138 : Runs 204 138 ls st h Q ↔ Runs 204 140 ls (.int (-3) :: st) h Q := R_bipush rfl (by decide)
theorem s204_140 : Runs 204 140 ls [.int i] h Q ↔ Q (some (.int i)) h := R_iret rfl rfl
end ZROWS
