section ZROWS
variable {ls : List (Option Value)} {st : List Value} {h : ZH} {Q : Option Value → ZH → Prop} {n : Nat} {tg ln : Nat → Nat} {I : Nat → Int32 → Int32} {J : Nat → Int32 → Int64} {O : Nat → Int32 → Option Nat} {i j i0 i1 i2 i3 i4 : Int32} {u w u0 u1 u2 u3 : Int64} {a b b0 b1 b2 : Nat} {r r0 r1 r2 : Option Nat}
variable {x0 x1 x2 x3 x4 x5 x6 x7 x8 x9 x10 x11 x12 x13 x14 x15 x16 x17 x18 x19 : Option Value}
theorem s127_0 : Runs 127 0 [some (.long u), x1, x2, x3, x4, x5] st h Q ↔ Runs 127 1 [some (.long u), x1, x2, x3, x4, x5] (.long u :: st) h Q := R_lldn rfl rfl
theorem s127_1 : Runs 127 1 [x0, x1, some (.long u), x3, x4, x5] st h Q ↔ Runs 127 2 [x0, x1, some (.long u), x3, x4, x5] (.long u :: st) h Q := R_lldn rfl rfl
theorem s127_2 : Runs 127 2 ls (.long w :: .long u :: st) h Q ↔ Runs 127 3 ls (.int (lg_cmp u w) :: st) h Q := R_lcmp rfl
theorem s127_3 : Runs 127 3 ls (.int i :: st) h Q ↔ if i < 0 then Runs 127 17 ls st h Q else Runs 127 6 ls st h Q := R_iflt rfl rfl
theorem s127_6 : Runs 127 6 [some (.long u), x1, x2, x3, x4, x5] st h Q ↔ Runs 127 7 [some (.long u), x1, x2, x3, x4, x5] (.long u :: st) h Q := R_lldn rfl rfl
theorem s127_7 : Runs 127 7 [x0, x1, x2, x3, some (.long u), x5] st h Q ↔ Runs 127 9 [x0, x1, x2, x3, some (.long u), x5] (.long u :: st) h Q := R_lld rfl rfl
theorem s127_9 : Runs 127 9 ls (.long w :: .long u :: st) h Q ↔ Runs 127 10 ls (.int (lg_cmp u w) :: st) h Q := R_lcmp rfl
theorem s127_10 : Runs 127 10 ls (.int i :: st) h Q ↔ if 0 < i then Runs 127 17 ls st h Q else Runs 127 13 ls st h Q := R_ifgt rfl rfl
theorem s127_13 : Runs 127 13 ls st h Q ↔ Runs 127 14 ls (.int 1 :: st) h Q := R_iconst rfl rfl
theorem s127_14 : Runs 127 14 ls st h Q ↔ Runs 127 18 ls st h Q := R_goto rfl rfl
theorem s127_17 : Runs 127 17 ls st h Q ↔ Runs 127 18 ls (.int 0 :: st) h Q := R_iconst rfl rfl
theorem s127_18 (hx : i = 0 ∨ i = 1) : Runs 127 18 ls [.int i] h Q ↔ Q (some (.int i)) h := R_zret rfl rfl hx
theorem s128_0 : Runs 128 0 [some (.int i), x1] st h Q ↔ Runs 128 1 [some (.int i), x1] (.int i :: st) h Q := R_ildn rfl rfl
theorem s128_1 : Runs 128 1 [x0, some (.int i)] st h Q ↔ Runs 128 2 [x0, some (.int i)] (.int i :: st) h Q := R_ildn rfl rfl
theorem s128_2 : Runs 128 2 ls (.int j :: .int i :: st) h Q ↔ Runs 128 3 ls (.int (i >>> (j &&& 31)) :: st) h Q := R_ishr rfl
theorem s128_3 : Runs 128 3 ls st h Q ↔ Runs 128 4 ls (.int 1 :: st) h Q := R_iconst rfl rfl
theorem s128_4 : Runs 128 4 ls (.int j :: .int i :: st) h Q ↔ Runs 128 5 ls (.int (i &&& j) :: st) h Q := R_iand rfl
theorem s128_5 : Runs 128 5 ls st h Q ↔ Runs 128 6 ls (.int 1 :: st) h Q := R_iconst rfl rfl
theorem s128_6 : Runs 128 6 ls (.int j :: .int i :: st) h Q ↔ if ¬ i = j then Runs 128 13 ls st h Q else Runs 128 9 ls st h Q := R_icne rfl rfl
theorem s128_9 : Runs 128 9 ls st h Q ↔ Runs 128 10 ls (.int 1 :: st) h Q := R_iconst rfl rfl
theorem s128_10 : Runs 128 10 ls st h Q ↔ Runs 128 14 ls st h Q := R_goto rfl rfl
theorem s128_13 : Runs 128 13 ls st h Q ↔ Runs 128 14 ls (.int 0 :: st) h Q := R_iconst rfl rfl
theorem s128_14 (hx : i = 0 ∨ i = 1) : Runs 128 14 ls [.int i] h Q ↔ Q (some (.int i)) h := R_zret rfl rfl hx
theorem s129_0 : Runs 129 0 ls st h Q ↔ Runs 129 1 ls (.int 0 :: st) h Q := R_iconst rfl rfl
theorem s129_1 : Runs 129 1 [x0, x1, x2] (.int i :: st) h Q ↔ Runs 129 2 [zdrop x0, some (.int i), x2] st h Q := R_istn rfl rfl rfl
theorem s129_2 : Runs 129 2 ls st h Q ↔ Runs 129 3 ls (.int 0 :: st) h Q := R_iconst rfl rfl
theorem s129_3 : Runs 129 3 [x0, x1, x2] (.int i :: st) h Q ↔ Runs 129 4 [x0, zdrop x1, some (.int i)] st h Q := R_istn rfl rfl rfl
theorem s129_4 : Runs 129 4 [x0, x1, some (.int i)] st h Q ↔ Runs 129 5 [x0, x1, some (.int i)] (.int i :: st) h Q := R_ildn rfl rfl
theorem s129_5 : Runs 129 5 ls st h Q ↔ Runs 129 7 ls (.int 12 :: st) h Q := R_bipush rfl (by decide)
theorem s129_7 : Runs 129 7 ls (.int j :: .int i :: st) h Q ↔ if j ≤ i then Runs 129 24 ls st h Q else Runs 129 10 ls st h Q := R_icge rfl rfl
theorem s129_10 : Runs 129 10 [x0, some (.int i), x2] st h Q ↔ Runs 129 11 [x0, some (.int i), x2] (.int i :: st) h Q := R_ildn rfl rfl
theorem s129_11 : Runs 129 11 [some (.int i), x1, x2] st h Q ↔ Runs 129 12 [some (.int i), x1, x2] (.int i :: st) h Q := R_ildn rfl rfl
theorem s129_12 : Runs 129 12 [x0, x1, some (.int i)] st h Q ↔ Runs 129 13 [x0, x1, some (.int i)] (.int i :: st) h Q := R_ildn rfl rfl
theorem s129_13 : Runs 129 13 ls (.int j :: .int i :: st) h Q ↔ Runs 129 14 ls (.int (i >>> (j &&& 31)) :: st) h Q := R_ishr rfl
theorem s129_14 : Runs 129 14 ls st h Q ↔ Runs 129 15 ls (.int 1 :: st) h Q := R_iconst rfl rfl
theorem s129_15 : Runs 129 15 ls (.int j :: .int i :: st) h Q ↔ Runs 129 16 ls (.int (i &&& j) :: st) h Q := R_iand rfl
theorem s129_16 : Runs 129 16 ls (.int j :: .int i :: st) h Q ↔ Runs 129 17 ls (.int (i + j) :: st) h Q := R_iadd rfl
theorem s129_17 : Runs 129 17 [x0, x1, x2] (.int i :: st) h Q ↔ Runs 129 18 [zdrop x0, some (.int i), x2] st h Q := R_istn rfl rfl rfl
theorem s129_18 : Runs 129 18 [x0, x1, some (.int i)] st h Q ↔ Runs 129 21 [x0, zdrop x1, some (.int (i + 1))] st h Q := R_iinc rfl rfl rfl rfl rfl
theorem s129_21 : Runs 129 21 ls st h Q ↔ Runs 129 4 ls st h Q := R_goto rfl rfl
theorem s129_24 : Runs 129 24 [x0, some (.int i), x2] st h Q ↔ Runs 129 25 [x0, some (.int i), x2] (.int i :: st) h Q := R_ildn rfl rfl
theorem s129_25 : Runs 129 25 ls [.int i] h Q ↔ Q (some (.int i)) h := R_iret rfl rfl
theorem s140_0 : Runs 140 0 [some (.ref a), x1, x2, x3] st h Q ↔ Runs 140 1 [some (.ref a), x1, x2, x3] (.ref a :: st) h Q := R_aldn rfl rfl
theorem s140_0q : Runs 140 0 [some (zrf r), x1, x2, x3] st h Q ↔ Runs 140 1 [some (zrf r), x1, x2, x3] (zrf r :: st) h Q := R_aldnq rfl rfl
theorem s140_1 (ht : tg a = 10) : Runs 140 1 ls (.ref a :: st) (n, tg, ln, I, J, O) Q ↔ Runs 140 4 ls (zrf (O a 0) :: st) (n, tg, ln, I, J, O) Q := R_getr rfl rfl rfl rfl ht
theorem s140_4 : Runs 140 4 [x0, some (.int i), x2, x3] st h Q ↔ Runs 140 5 [x0, some (.int i), x2, x3] (.int i :: st) h Q := R_ildn rfl rfl
theorem s140_5 : Runs 140 5 ls st h Q ↔ Runs 140 7 ls (.int 6 :: st) h Q := R_bipush rfl (by decide)
theorem s140_7 : Runs 140 7 ls (.int j :: .int i :: st) h Q ↔ Runs 140 8 ls (.int (i + j) :: st) h Q := R_iadd rfl
theorem s140_8 : Runs 140 8 ls st h Q ↔ Runs 140 10 ls (.int 12 :: st) h Q := R_bipush rfl (by decide)
theorem s140_10 : Runs 140 10 [x0, x1, some (.int i), x3] st h Q ↔ Runs 140 11 [x0, x1, some (.int i), x3] (.int i :: st) h Q := R_ildn rfl rfl
theorem s140_11 : Runs 140 11 ls (.int j :: .int i :: st) h Q ↔ Runs 140 12 ls (.int (i * j) :: st) h Q := R_imul rfl
theorem s140_12 : Runs 140 12 ls (.int j :: .int i :: st) h Q ↔ Runs 140 13 ls (.int (i + j) :: st) h Q := R_iadd rfl
theorem s140_13 : Runs 140 13 [some (.ref a), x1, x2, x3] st h Q ↔ Runs 140 14 [some (.ref a), x1, x2, x3] (.ref a :: st) h Q := R_aldn rfl rfl
theorem s140_13q : Runs 140 13 [some (zrf r), x1, x2, x3] st h Q ↔ Runs 140 14 [some (zrf r), x1, x2, x3] (zrf r :: st) h Q := R_aldnq rfl rfl
theorem s140_14 (ht : tg a = 10) : Runs 140 14 ls (.ref a :: st) (n, tg, ln, I, J, O) Q ↔ Runs 140 17 ls (zrf (O a 0) :: st) (n, tg, ln, I, J, O) Q := R_getr rfl rfl rfl rfl ht
theorem s140_17 : Runs 140 17 [x0, some (.int i), x2, x3] st h Q ↔ Runs 140 18 [x0, some (.int i), x2, x3] (.int i :: st) h Q := R_ildn rfl rfl
theorem s140_18 : Runs 140 18 ls st h Q ↔ Runs 140 19 ls (.int 4 :: st) h Q := R_iconst rfl rfl
theorem s140_19 : Runs 140 19 ls (.int j :: .int i :: st) h Q ↔ Runs 140 20 ls (.int (i + j) :: st) h Q := R_iadd rfl
theorem s140_20 : Runs 140 20 [x0, x1, some (.int i), x3] st h Q ↔ Runs 140 21 [x0, x1, some (.int i), x3] (.int i :: st) h Q := R_ildn rfl rfl
theorem s140_21 : Runs 140 21 ls (.int j :: .int i :: st) h Q ↔ Runs 140 22 ls (.int (i + j) :: st) h Q := R_iadd rfl
theorem s140_22 (ht : tg a = 20) : Runs 140 22 ls (.int i :: .ref a :: st) (n, tg, ln, I, J, O) Q ↔ ((0 ≤ i ∧ i < Int32.ofNat (ln a)) ∧ Runs 140 23 ls (.int (I a i) :: st) (n, tg, ln, I, J, O) Q) := R_iald rfl ht
theorem s140_23 : Runs 140 23 ls (.int j :: .int i :: st) h Q ↔ Runs 140 24 ls (.int (i + j) :: st) h Q := R_iadd rfl
theorem s140_24 : Runs 140 24 [x0, x1, x2, some (.int i)] st h Q ↔ Runs 140 25 [x0, x1, x2, some (.int i)] (.int i :: st) h Q := R_ildn rfl rfl
theorem s140_25 (ht : tg a = 20) : Runs 140 25 ls (.int j :: .int i :: .ref a :: st) (n, tg, ln, I, J, O) Q ↔ ((0 ≤ i ∧ i < Int32.ofNat (ln a)) ∧ Runs 140 26 ls st (n, tg, ln, zu I a i j, J, O) Q) := R_iast rfl ht
theorem s140_26 : Runs 140 26 [some (.ref a), x1, x2, x3] st h Q ↔ Runs 140 27 [some (.ref a), x1, x2, x3] (.ref a :: st) h Q := R_aldn rfl rfl
theorem s140_26q : Runs 140 26 [some (zrf r), x1, x2, x3] st h Q ↔ Runs 140 27 [some (zrf r), x1, x2, x3] (zrf r :: st) h Q := R_aldnq rfl rfl
theorem s140_27 (ht : tg a = 10) : Runs 140 27 ls (.ref a :: st) (n, tg, ln, I, J, O) Q ↔ Runs 140 30 ls (zrf (O a 0) :: st) (n, tg, ln, I, J, O) Q := R_getr rfl rfl rfl rfl ht
theorem s140_30 : Runs 140 30 [x0, some (.int i), x2, x3] st h Q ↔ Runs 140 31 [x0, some (.int i), x2, x3] (.int i :: st) h Q := R_ildn rfl rfl
theorem s140_31 : Runs 140 31 ls st h Q ↔ Runs 140 32 ls (.int 4 :: st) h Q := R_iconst rfl rfl
theorem s140_32 : Runs 140 32 ls (.int j :: .int i :: st) h Q ↔ Runs 140 33 ls (.int (i + j) :: st) h Q := R_iadd rfl
theorem s140_33 : Runs 140 33 [x0, x1, some (.int i), x3] st h Q ↔ Runs 140 34 [x0, x1, some (.int i), x3] (.int i :: st) h Q := R_ildn rfl rfl
theorem s140_34 : Runs 140 34 ls (.int j :: .int i :: st) h Q ↔ Runs 140 35 ls (.int (i + j) :: st) h Q := R_iadd rfl
theorem s140_35 : Runs 140 35 ls (.int i :: .ref a :: st) h Q ↔ Runs 140 36 ls (.int i :: .ref a :: .int i :: .ref a :: st) h Q := R_dup2 rfl
theorem s140_36 (ht : tg a = 20) : Runs 140 36 ls (.int i :: .ref a :: st) (n, tg, ln, I, J, O) Q ↔ ((0 ≤ i ∧ i < Int32.ofNat (ln a)) ∧ Runs 140 37 ls (.int (I a i) :: st) (n, tg, ln, I, J, O) Q) := R_iald rfl ht
theorem s140_37 : Runs 140 37 ls st h Q ↔ Runs 140 38 ls (.int 1 :: st) h Q := R_iconst rfl rfl
theorem s140_38 : Runs 140 38 ls (.int j :: .int i :: st) h Q ↔ Runs 140 39 ls (.int (i + j) :: st) h Q := R_iadd rfl
theorem s140_39 (ht : tg a = 20) : Runs 140 39 ls (.int j :: .int i :: .ref a :: st) (n, tg, ln, I, J, O) Q ↔ ((0 ≤ i ∧ i < Int32.ofNat (ln a)) ∧ Runs 140 40 ls st (n, tg, ln, zu I a i j, J, O) Q) := R_iast rfl ht
theorem s140_40 : Runs 140 40 ls [] h Q ↔ Q none h := R_vret rfl rfl
theorem s141_0 : Runs 141 0 [some (.ref a), x1, x2, x3, x4, x5] st h Q ↔ Runs 141 1 [some (.ref a), x1, x2, x3, x4, x5] (.ref a :: st) h Q := R_aldn rfl rfl
theorem s141_0q : Runs 141 0 [some (zrf r), x1, x2, x3, x4, x5] st h Q ↔ Runs 141 1 [some (zrf r), x1, x2, x3, x4, x5] (zrf r :: st) h Q := R_aldnq rfl rfl
theorem s141_1 (ht : tg a = 10) : Runs 141 1 ls (.ref a :: st) (n, tg, ln, I, J, O) Q ↔ Runs 141 4 ls (zrf (O a 0) :: st) (n, tg, ln, I, J, O) Q := R_getr rfl rfl rfl rfl ht
theorem s141_4 : Runs 141 4 [x0, some (.int i), x2, x3, x4, x5] st h Q ↔ Runs 141 5 [x0, some (.int i), x2, x3, x4, x5] (.int i :: st) h Q := R_ildn rfl rfl
theorem s141_5 : Runs 141 5 ls st h Q ↔ Runs 141 6 ls (.int 0 :: st) h Q := R_iconst rfl rfl
theorem s141_6 : Runs 141 6 ls (.int j :: .int i :: st) h Q ↔ Runs 141 7 ls (.int (i + j) :: st) h Q := R_iadd rfl
theorem s141_7 (ht : tg a = 20) : Runs 141 7 ls (.int i :: .ref a :: st) (n, tg, ln, I, J, O) Q ↔ ((0 ≤ i ∧ i < Int32.ofNat (ln a)) ∧ Runs 141 8 ls (.int (I a i) :: st) (n, tg, ln, I, J, O) Q) := R_iald rfl ht
theorem s141_8 : Runs 141 8 [x0, x1, x2, x3, x4, x5] (.int i :: st) h Q ↔ Runs 141 10 [x0, x1, x2, x3, zdrop x4, some (.int i)] st h Q := R_ist rfl rfl rfl
theorem s141_10 : Runs 141 10 [some (.ref a), x1, x2, x3, x4, x5] st h Q ↔ Runs 141 11 [some (.ref a), x1, x2, x3, x4, x5] (.ref a :: st) h Q := R_aldn rfl rfl
theorem s141_10q : Runs 141 10 [some (zrf r), x1, x2, x3, x4, x5] st h Q ↔ Runs 141 11 [some (zrf r), x1, x2, x3, x4, x5] (zrf r :: st) h Q := R_aldnq rfl rfl
theorem s141_11 (ht : tg a = 10) : Runs 141 11 ls (.ref a :: st) (n, tg, ln, I, J, O) Q ↔ Runs 141 14 ls (zrf (O a 0) :: st) (n, tg, ln, I, J, O) Q := R_getr rfl rfl rfl rfl ht
theorem s141_14 : Runs 141 14 [x0, some (.int i), x2, x3, x4, x5] st h Q ↔ Runs 141 15 [x0, some (.int i), x2, x3, x4, x5] (.int i :: st) h Q := R_ildn rfl rfl
theorem s141_15 : Runs 141 15 ls st h Q ↔ Runs 141 17 ls (.int 30 :: st) h Q := R_bipush rfl (by decide)
theorem s141_17 : Runs 141 17 ls (.int j :: .int i :: st) h Q ↔ Runs 141 18 ls (.int (i + j) :: st) h Q := R_iadd rfl
theorem s141_18 : Runs 141 18 [x0, x1, x2, x3, x4, some (.int i)] st h Q ↔ Runs 141 20 [x0, x1, x2, x3, x4, some (.int i)] (.int i :: st) h Q := R_ild rfl rfl
theorem s141_20 : Runs 141 20 ls (.int j :: .int i :: st) h Q ↔ Runs 141 21 ls (.int (i + j) :: st) h Q := R_iadd rfl
theorem s141_21 : Runs 141 21 [x0, x1, x2, some (.int i), x4, x5] st h Q ↔ Runs 141 22 [x0, x1, x2, some (.int i), x4, x5] (.int i :: st) h Q := R_ildn rfl rfl
theorem s141_22 (ht : tg a = 20) : Runs 141 22 ls (.int j :: .int i :: .ref a :: st) (n, tg, ln, I, J, O) Q ↔ ((0 ≤ i ∧ i < Int32.ofNat (ln a)) ∧ Runs 141 23 ls st (n, tg, ln, zu I a i j, J, O) Q) := R_iast rfl ht
theorem s141_23 : Runs 141 23 [some (.ref a), x1, x2, x3, x4, x5] st h Q ↔ Runs 141 24 [some (.ref a), x1, x2, x3, x4, x5] (.ref a :: st) h Q := R_aldn rfl rfl
theorem s141_23q : Runs 141 23 [some (zrf r), x1, x2, x3, x4, x5] st h Q ↔ Runs 141 24 [some (zrf r), x1, x2, x3, x4, x5] (zrf r :: st) h Q := R_aldnq rfl rfl
theorem s141_24 (ht : tg a = 10) : Runs 141 24 ls (.ref a :: st) (n, tg, ln, I, J, O) Q ↔ Runs 141 27 ls (zrf (O a 0) :: st) (n, tg, ln, I, J, O) Q := R_getr rfl rfl rfl rfl ht
theorem s141_27 : Runs 141 27 [x0, some (.int i), x2, x3, x4, x5] st h Q ↔ Runs 141 28 [x0, some (.int i), x2, x3, x4, x5] (.int i :: st) h Q := R_ildn rfl rfl
theorem s141_28 : Runs 141 28 ls st h Q ↔ Runs 141 30 ls (.int 42 :: st) h Q := R_bipush rfl (by decide)
theorem s141_30 : Runs 141 30 ls (.int j :: .int i :: st) h Q ↔ Runs 141 31 ls (.int (i + j) :: st) h Q := R_iadd rfl
theorem s141_31 : Runs 141 31 [x0, x1, x2, x3, x4, some (.int i)] st h Q ↔ Runs 141 33 [x0, x1, x2, x3, x4, some (.int i)] (.int i :: st) h Q := R_ild rfl rfl
theorem s141_33 : Runs 141 33 ls (.int j :: .int i :: st) h Q ↔ Runs 141 34 ls (.int (i + j) :: st) h Q := R_iadd rfl
theorem s141_34 : Runs 141 34 [x0, x1, x2, x3, some (.int i), x5] st h Q ↔ Runs 141 36 [x0, x1, x2, x3, some (.int i), x5] (.int i :: st) h Q := R_ild rfl rfl
theorem s141_36 (ht : tg a = 20) : Runs 141 36 ls (.int j :: .int i :: .ref a :: st) (n, tg, ln, I, J, O) Q ↔ ((0 ≤ i ∧ i < Int32.ofNat (ln a)) ∧ Runs 141 37 ls st (n, tg, ln, zu I a i j, J, O) Q) := R_iast rfl ht
theorem s141_37 : Runs 141 37 [some (.ref a), x1, x2, x3, x4, x5] st h Q ↔ Runs 141 38 [some (.ref a), x1, x2, x3, x4, x5] (.ref a :: st) h Q := R_aldn rfl rfl
theorem s141_37q : Runs 141 37 [some (zrf r), x1, x2, x3, x4, x5] st h Q ↔ Runs 141 38 [some (zrf r), x1, x2, x3, x4, x5] (zrf r :: st) h Q := R_aldnq rfl rfl
theorem s141_38 (ht : tg a = 10) : Runs 141 38 ls (.ref a :: st) (n, tg, ln, I, J, O) Q ↔ Runs 141 41 ls (zrf (O a 0) :: st) (n, tg, ln, I, J, O) Q := R_getr rfl rfl rfl rfl ht
theorem s141_41 : Runs 141 41 [x0, some (.int i), x2, x3, x4, x5] st h Q ↔ Runs 141 42 [x0, some (.int i), x2, x3, x4, x5] (.int i :: st) h Q := R_ildn rfl rfl
theorem s141_42 : Runs 141 42 ls st h Q ↔ Runs 141 44 ls (.int 54 :: st) h Q := R_bipush rfl (by decide)
theorem s141_44 : Runs 141 44 ls (.int j :: .int i :: st) h Q ↔ Runs 141 45 ls (.int (i + j) :: st) h Q := R_iadd rfl
theorem s141_45 : Runs 141 45 [x0, x1, x2, x3, x4, some (.int i)] st h Q ↔ Runs 141 47 [x0, x1, x2, x3, x4, some (.int i)] (.int i :: st) h Q := R_ild rfl rfl
theorem s141_47 : Runs 141 47 ls (.int j :: .int i :: st) h Q ↔ Runs 141 48 ls (.int (i + j) :: st) h Q := R_iadd rfl
theorem s141_48 : Runs 141 48 ls st h Q ↔ Runs 141 49 ls (.int 0 :: st) h Q := R_iconst rfl rfl
theorem s141_49 (ht : tg a = 20) : Runs 141 49 ls (.int j :: .int i :: .ref a :: st) (n, tg, ln, I, J, O) Q ↔ ((0 ≤ i ∧ i < Int32.ofNat (ln a)) ∧ Runs 141 50 ls st (n, tg, ln, zu I a i j, J, O) Q) := R_iast rfl ht
theorem s141_50 : Runs 141 50 [some (.ref a), x1, x2, x3, x4, x5] st h Q ↔ Runs 141 51 [some (.ref a), x1, x2, x3, x4, x5] (.ref a :: st) h Q := R_aldn rfl rfl
theorem s141_50q : Runs 141 50 [some (zrf r), x1, x2, x3, x4, x5] st h Q ↔ Runs 141 51 [some (zrf r), x1, x2, x3, x4, x5] (zrf r :: st) h Q := R_aldnq rfl rfl
theorem s141_51 (ht : tg a = 10) : Runs 141 51 ls (.ref a :: st) (n, tg, ln, I, J, O) Q ↔ Runs 141 54 ls (zrf (O a 0) :: st) (n, tg, ln, I, J, O) Q := R_getr rfl rfl rfl rfl ht
theorem s141_54 : Runs 141 54 [x0, some (.int i), x2, x3, x4, x5] st h Q ↔ Runs 141 55 [x0, some (.int i), x2, x3, x4, x5] (.int i :: st) h Q := R_ildn rfl rfl
theorem s141_55 : Runs 141 55 ls st h Q ↔ Runs 141 57 ls (.int 66 :: st) h Q := R_bipush rfl (by decide)
theorem s141_57 : Runs 141 57 ls (.int j :: .int i :: st) h Q ↔ Runs 141 58 ls (.int (i + j) :: st) h Q := R_iadd rfl
theorem s141_58 : Runs 141 58 [x0, x1, x2, x3, x4, some (.int i)] st h Q ↔ Runs 141 60 [x0, x1, x2, x3, x4, some (.int i)] (.int i :: st) h Q := R_ild rfl rfl
theorem s141_60 : Runs 141 60 ls (.int j :: .int i :: st) h Q ↔ Runs 141 61 ls (.int (i + j) :: st) h Q := R_iadd rfl
theorem s141_61 : Runs 141 61 ls st h Q ↔ Runs 141 62 ls (.int 0 :: st) h Q := R_iconst rfl rfl
theorem s141_62 (ht : tg a = 20) : Runs 141 62 ls (.int j :: .int i :: .ref a :: st) (n, tg, ln, I, J, O) Q ↔ ((0 ≤ i ∧ i < Int32.ofNat (ln a)) ∧ Runs 141 63 ls st (n, tg, ln, zu I a i j, J, O) Q) := R_iast rfl ht
theorem s141_63 : Runs 141 63 [some (.ref a), x1, x2, x3, x4, x5] st h Q ↔ Runs 141 64 [some (.ref a), x1, x2, x3, x4, x5] (.ref a :: st) h Q := R_aldn rfl rfl
theorem s141_63q : Runs 141 63 [some (zrf r), x1, x2, x3, x4, x5] st h Q ↔ Runs 141 64 [some (zrf r), x1, x2, x3, x4, x5] (zrf r :: st) h Q := R_aldnq rfl rfl
theorem s141_64 (ht : tg a = 10) : Runs 141 64 ls (.ref a :: st) (n, tg, ln, I, J, O) Q ↔ Runs 141 67 ls (zrf (O a 0) :: st) (n, tg, ln, I, J, O) Q := R_getr rfl rfl rfl rfl ht
theorem s141_67 : Runs 141 67 [x0, some (.int i), x2, x3, x4, x5] st h Q ↔ Runs 141 68 [x0, some (.int i), x2, x3, x4, x5] (.int i :: st) h Q := R_ildn rfl rfl
theorem s141_68 : Runs 141 68 ls st h Q ↔ Runs 141 70 ls (.int 78 :: st) h Q := R_bipush rfl (by decide)
theorem s141_70 : Runs 141 70 ls (.int j :: .int i :: st) h Q ↔ Runs 141 71 ls (.int (i + j) :: st) h Q := R_iadd rfl
theorem s141_71 : Runs 141 71 [x0, x1, x2, x3, x4, some (.int i)] st h Q ↔ Runs 141 73 [x0, x1, x2, x3, x4, some (.int i)] (.int i :: st) h Q := R_ild rfl rfl
theorem s141_73 : Runs 141 73 ls (.int j :: .int i :: st) h Q ↔ Runs 141 74 ls (.int (i + j) :: st) h Q := R_iadd rfl
theorem s141_74 : Runs 141 74 [x0, x1, some (.int i), x3, x4, x5] st h Q ↔ Runs 141 75 [x0, x1, some (.int i), x3, x4, x5] (.int i :: st) h Q := R_ildn rfl rfl
theorem s141_75 (ht : tg a = 20) : Runs 141 75 ls (.int j :: .int i :: .ref a :: st) (n, tg, ln, I, J, O) Q ↔ ((0 ≤ i ∧ i < Int32.ofNat (ln a)) ∧ Runs 141 76 ls st (n, tg, ln, zu I a i j, J, O) Q) := R_iast rfl ht
theorem s141_76 : Runs 141 76 [some (.ref a), x1, x2, x3, x4, x5] st h Q ↔ Runs 141 77 [some (.ref a), x1, x2, x3, x4, x5] (.ref a :: st) h Q := R_aldn rfl rfl
theorem s141_76q : Runs 141 76 [some (zrf r), x1, x2, x3, x4, x5] st h Q ↔ Runs 141 77 [some (zrf r), x1, x2, x3, x4, x5] (zrf r :: st) h Q := R_aldnq rfl rfl
theorem s141_77 : Runs 141 77 [x0, some (.int i), x2, x3, x4, x5] st h Q ↔ Runs 141 78 [x0, some (.int i), x2, x3, x4, x5] (.int i :: st) h Q := R_ildn rfl rfl
theorem s141_78 : Runs 141 78 [x0, x1, some (.int i), x3, x4, x5] st h Q ↔ Runs 141 79 [x0, x1, some (.int i), x3, x4, x5] (.int i :: st) h Q := R_ildn rfl rfl
theorem s141_79 : Runs 141 79 [x0, x1, x2, x3, x4, some (.int i)] st h Q ↔ Runs 141 81 [x0, x1, x2, x3, x4, some (.int i)] (.int i :: st) h Q := R_ild rfl rfl
theorem s141_81 (ht : tg a = 10) (hs : zsumc st ≤ 8) : Runs 141 81 ls (.int i2 :: .int i1 :: .int i0 :: .ref a :: st) (n, tg, ln, I, J, O) Q ↔ Runs 140 0 [some (.ref a), some (.int i0), some (.int i1), some (.int i2)] [] (n, tg, ln, I, J, O) (fun v h2 => Runs 141 84 ls (v.toList ++ st) h2 Q) := R_callv (a := a) (rest := st) rfl rfl rfl rfl rfl rfl rfl ht hs
theorem s141_84 : Runs 141 84 [some (.ref a), x1, x2, x3, x4, x5] st h Q ↔ Runs 141 85 [some (.ref a), x1, x2, x3, x4, x5] (.ref a :: st) h Q := R_aldn rfl rfl
theorem s141_84q : Runs 141 84 [some (zrf r), x1, x2, x3, x4, x5] st h Q ↔ Runs 141 85 [some (zrf r), x1, x2, x3, x4, x5] (zrf r :: st) h Q := R_aldnq rfl rfl
theorem s141_85 (ht : tg a = 10) : Runs 141 85 ls (.ref a :: st) (n, tg, ln, I, J, O) Q ↔ Runs 141 88 ls (zrf (O a 0) :: st) (n, tg, ln, I, J, O) Q := R_getr rfl rfl rfl rfl ht
theorem s141_88 : Runs 141 88 [x0, some (.int i), x2, x3, x4, x5] st h Q ↔ Runs 141 89 [x0, some (.int i), x2, x3, x4, x5] (.int i :: st) h Q := R_ildn rfl rfl
theorem s141_89 : Runs 141 89 ls st h Q ↔ Runs 141 90 ls (.int 0 :: st) h Q := R_iconst rfl rfl
theorem s141_90 : Runs 141 90 ls (.int j :: .int i :: st) h Q ↔ Runs 141 91 ls (.int (i + j) :: st) h Q := R_iadd rfl
theorem s141_91 : Runs 141 91 ls (.int i :: .ref a :: st) h Q ↔ Runs 141 92 ls (.int i :: .ref a :: .int i :: .ref a :: st) h Q := R_dup2 rfl
theorem s141_92 (ht : tg a = 20) : Runs 141 92 ls (.int i :: .ref a :: st) (n, tg, ln, I, J, O) Q ↔ ((0 ≤ i ∧ i < Int32.ofNat (ln a)) ∧ Runs 141 93 ls (.int (I a i) :: st) (n, tg, ln, I, J, O) Q) := R_iald rfl ht
theorem s141_93 : Runs 141 93 ls st h Q ↔ Runs 141 94 ls (.int 1 :: st) h Q := R_iconst rfl rfl
theorem s141_94 : Runs 141 94 ls (.int j :: .int i :: st) h Q ↔ Runs 141 95 ls (.int (i + j) :: st) h Q := R_iadd rfl
theorem s141_95 (ht : tg a = 20) : Runs 141 95 ls (.int j :: .int i :: .ref a :: st) (n, tg, ln, I, J, O) Q ↔ ((0 ≤ i ∧ i < Int32.ofNat (ln a)) ∧ Runs 141 96 ls st (n, tg, ln, zu I a i j, J, O) Q) := R_iast rfl ht
theorem s141_96 : Runs 141 96 ls [] h Q ↔ Q none h := R_vret rfl rfl
theorem s149_0 : Runs 149 0 ls st h Q ↔ Runs 149 1 ls (.int 0 :: st) h Q := R_iconst rfl rfl
theorem s149_1 : Runs 149 1 [x0, x1, x2, x3] (.int i :: st) h Q ↔ Runs 149 2 [x0, x1, zdrop x2, some (.int i)] st h Q := R_istn rfl rfl rfl
theorem s149_2 : Runs 149 2 [x0, x1, x2, some (.int i)] st h Q ↔ Runs 149 3 [x0, x1, x2, some (.int i)] (.int i :: st) h Q := R_ildn rfl rfl
theorem s149_3 : Runs 149 3 ls st h Q ↔ Runs 149 5 ls (.int 90 :: st) h Q := R_bipush rfl (by decide)
theorem s149_5 : Runs 149 5 ls (.int j :: .int i :: st) h Q ↔ if j ≤ i then Runs 149 30 ls st h Q else Runs 149 8 ls st h Q := R_icge rfl rfl
theorem s149_8 : Runs 149 8 [some (.ref a), x1, x2, x3] st h Q ↔ Runs 149 9 [some (.ref a), x1, x2, x3] (.ref a :: st) h Q := R_aldn rfl rfl
theorem s149_8q : Runs 149 8 [some (zrf r), x1, x2, x3] st h Q ↔ Runs 149 9 [some (zrf r), x1, x2, x3] (zrf r :: st) h Q := R_aldnq rfl rfl
theorem s149_9 (ht : tg a = 10) : Runs 149 9 ls (.ref a :: st) (n, tg, ln, I, J, O) Q ↔ Runs 149 12 ls (zrf (O a 0) :: st) (n, tg, ln, I, J, O) Q := R_getr rfl rfl rfl rfl ht
theorem s149_12 : Runs 149 12 [x0, x1, some (.int i), x3] st h Q ↔ Runs 149 13 [x0, x1, some (.int i), x3] (.int i :: st) h Q := R_ildn rfl rfl
theorem s149_13 : Runs 149 13 [x0, x1, x2, some (.int i)] st h Q ↔ Runs 149 14 [x0, x1, x2, some (.int i)] (.int i :: st) h Q := R_ildn rfl rfl
theorem s149_14 : Runs 149 14 ls (.int j :: .int i :: st) h Q ↔ Runs 149 15 ls (.int (i + j) :: st) h Q := R_iadd rfl
theorem s149_15 : Runs 149 15 [some (.ref a), x1, x2, x3] st h Q ↔ Runs 149 16 [some (.ref a), x1, x2, x3] (.ref a :: st) h Q := R_aldn rfl rfl
theorem s149_15q : Runs 149 15 [some (zrf r), x1, x2, x3] st h Q ↔ Runs 149 16 [some (zrf r), x1, x2, x3] (zrf r :: st) h Q := R_aldnq rfl rfl
theorem s149_16 (ht : tg a = 10) : Runs 149 16 ls (.ref a :: st) (n, tg, ln, I, J, O) Q ↔ Runs 149 19 ls (zrf (O a 0) :: st) (n, tg, ln, I, J, O) Q := R_getr rfl rfl rfl rfl ht
theorem s149_19 : Runs 149 19 [x0, some (.int i), x2, x3] st h Q ↔ Runs 149 20 [x0, some (.int i), x2, x3] (.int i :: st) h Q := R_ildn rfl rfl
theorem s149_20 : Runs 149 20 [x0, x1, x2, some (.int i)] st h Q ↔ Runs 149 21 [x0, x1, x2, some (.int i)] (.int i :: st) h Q := R_ildn rfl rfl
theorem s149_21 : Runs 149 21 ls (.int j :: .int i :: st) h Q ↔ Runs 149 22 ls (.int (i + j) :: st) h Q := R_iadd rfl
theorem s149_22 (ht : tg a = 20) : Runs 149 22 ls (.int i :: .ref a :: st) (n, tg, ln, I, J, O) Q ↔ ((0 ≤ i ∧ i < Int32.ofNat (ln a)) ∧ Runs 149 23 ls (.int (I a i) :: st) (n, tg, ln, I, J, O) Q) := R_iald rfl ht
theorem s149_23 (ht : tg a = 20) : Runs 149 23 ls (.int j :: .int i :: .ref a :: st) (n, tg, ln, I, J, O) Q ↔ ((0 ≤ i ∧ i < Int32.ofNat (ln a)) ∧ Runs 149 24 ls st (n, tg, ln, zu I a i j, J, O) Q) := R_iast rfl ht
theorem s149_24 : Runs 149 24 [x0, x1, x2, some (.int i)] st h Q ↔ Runs 149 27 [x0, x1, zdrop x2, some (.int (i + 1))] st h Q := R_iinc rfl rfl rfl rfl rfl
theorem s149_27 : Runs 149 27 ls st h Q ↔ Runs 149 2 ls st h Q := R_goto rfl rfl
theorem s149_30 : Runs 149 30 ls [] h Q ↔ Q none h := R_vret rfl rfl
theorem s151_0 : Runs 151 0 [x0, some (.long u), x2] st h Q ↔ Runs 151 1 [x0, some (.long u), x2] (.long u :: st) h Q := R_lldn rfl rfl
theorem s151_1 : Runs 151 1 ls st h Q ↔ Runs 151 2 ls (.long 0 :: st) h Q := R_lconst rfl rfl
theorem s151_2 : Runs 151 2 [some (.ref a), x1, x2] st h Q ↔ Runs 151 3 [some (.ref a), x1, x2] (.ref a :: st) h Q := R_aldn rfl rfl
theorem s151_2q : Runs 151 2 [some (zrf r), x1, x2] st h Q ↔ Runs 151 3 [some (zrf r), x1, x2] (zrf r :: st) h Q := R_aldnq rfl rfl
theorem s151_3 (ht : tg a = 10) : Runs 151 3 ls (.ref a :: st) (n, tg, ln, I, J, O) Q ↔ Runs 151 6 ls (zrf (O a 0) :: st) (n, tg, ln, I, J, O) Q := R_getr rfl rfl rfl rfl ht
theorem s151_6 : Runs 151 6 ls st h Q ↔ Runs 151 7 ls (.int 0 :: st) h Q := R_iconst rfl rfl
theorem s151_7 (ht : tg a = 20) : Runs 151 7 ls (.int i :: .ref a :: st) (n, tg, ln, I, J, O) Q ↔ ((0 ≤ i ∧ i < Int32.ofNat (ln a)) ∧ Runs 151 8 ls (.int (I a i) :: st) (n, tg, ln, I, J, O) Q) := R_iald rfl ht
theorem s151_8 : Runs 151 8 ls st h Q ↔ Runs 151 9 ls (.int 1 :: st) h Q := R_iconst rfl rfl
theorem s151_9 : Runs 151 9 ls (.int j :: .int i :: st) h Q ↔ Runs 151 10 ls (.int (i - j) :: st) h Q := R_isub rfl
theorem s151_10 : Runs 151 10 ls (.int i :: st) h Q ↔ Runs 151 11 ls (.long i.toInt64 :: st) h Q := R_i2l rfl
theorem s151_11 (hs : zsumc st ≤ 8) : Runs 151 11 ls (.long u2 :: .long u1 :: .long u0 :: st) h Q ↔ Runs 127 0 [some (.long u0), none, some (.long u1), none, some (.long u2), none] [] h (fun v h2 => Runs 151 14 ls (v.toList ++ st) h2 Q) := R_calls (rest := st) rfl rfl rfl (by simp) rfl rfl rfl rfl hs
theorem s151_14 (hx : i = 0 ∨ i = 1) : Runs 151 14 ls [.int i] h Q ↔ Q (some (.int i)) h := R_zret rfl rfl hx
theorem s152_0 : Runs 152 0 [some (.ref a), x1, x2, x3] st h Q ↔ Runs 152 1 [some (.ref a), x1, x2, x3] (.ref a :: st) h Q := R_aldn rfl rfl
theorem s152_0q : Runs 152 0 [some (zrf r), x1, x2, x3] st h Q ↔ Runs 152 1 [some (zrf r), x1, x2, x3] (zrf r :: st) h Q := R_aldnq rfl rfl
theorem s152_1 (ht : tg a = 10) : Runs 152 1 ls (.ref a :: st) (n, tg, ln, I, J, O) Q ↔ Runs 152 4 ls (zrf (O a 0) :: st) (n, tg, ln, I, J, O) Q := R_getr rfl rfl rfl rfl ht
theorem s152_4 : Runs 152 4 [x0, some (.int i), x2, x3] st h Q ↔ Runs 152 5 [x0, some (.int i), x2, x3] (.int i :: st) h Q := R_ildn rfl rfl
theorem s152_5 : Runs 152 5 ls st h Q ↔ Runs 152 7 ls (.int 6 :: st) h Q := R_bipush rfl (by decide)
theorem s152_7 : Runs 152 7 ls (.int j :: .int i :: st) h Q ↔ Runs 152 8 ls (.int (i + j) :: st) h Q := R_iadd rfl
theorem s152_8 : Runs 152 8 ls st h Q ↔ Runs 152 10 ls (.int 12 :: st) h Q := R_bipush rfl (by decide)
theorem s152_10 : Runs 152 10 [x0, x1, some (.int i), x3] st h Q ↔ Runs 152 11 [x0, x1, some (.int i), x3] (.int i :: st) h Q := R_ildn rfl rfl
theorem s152_11 : Runs 152 11 ls (.int j :: .int i :: st) h Q ↔ Runs 152 12 ls (.int (i * j) :: st) h Q := R_imul rfl
theorem s152_12 : Runs 152 12 ls (.int j :: .int i :: st) h Q ↔ Runs 152 13 ls (.int (i + j) :: st) h Q := R_iadd rfl
theorem s152_13 : Runs 152 13 [x0, x1, x2, some (.int i)] st h Q ↔ Runs 152 14 [x0, x1, x2, some (.int i)] (.int i :: st) h Q := R_ildn rfl rfl
theorem s152_14 : Runs 152 14 ls (.int j :: .int i :: st) h Q ↔ Runs 152 15 ls (.int (i + j) :: st) h Q := R_iadd rfl
theorem s152_15 (ht : tg a = 20) : Runs 152 15 ls (.int i :: .ref a :: st) (n, tg, ln, I, J, O) Q ↔ ((0 ≤ i ∧ i < Int32.ofNat (ln a)) ∧ Runs 152 16 ls (.int (I a i) :: st) (n, tg, ln, I, J, O) Q) := R_iald rfl ht
theorem s152_16 : Runs 152 16 ls [.int i] h Q ↔ Q (some (.int i)) h := R_iret rfl rfl
theorem s153_0 : Runs 153 0 ls st h Q ↔ Runs 153 1 ls (.int 0 :: st) h Q := R_iconst rfl rfl
theorem s153_1 : Runs 153 1 [x0, x1, x2, x3, x4] (.int i :: st) h Q ↔ Runs 153 2 [x0, x1, zdrop x2, some (.int i), x4] st h Q := R_istn rfl rfl rfl
theorem s153_2 : Runs 153 2 [x0, x1, x2, some (.int i), x4] st h Q ↔ Runs 153 3 [x0, x1, x2, some (.int i), x4] (.int i :: st) h Q := R_ildn rfl rfl
theorem s153_3 : Runs 153 3 ls st h Q ↔ Runs 153 4 ls (.int 2 :: st) h Q := R_iconst rfl rfl
theorem s153_4 : Runs 153 4 ls (.int j :: .int i :: st) h Q ↔ if j ≤ i then Runs 153 57 ls st h Q else Runs 153 7 ls st h Q := R_icge rfl rfl
theorem s153_7 : Runs 153 7 ls st h Q ↔ Runs 153 8 ls (.int 0 :: st) h Q := R_iconst rfl rfl
theorem s153_8 : Runs 153 8 [x0, x1, x2, x3, x4] (.int i :: st) h Q ↔ Runs 153 10 [x0, x1, x2, zdrop x3, some (.int i)] st h Q := R_ist rfl rfl rfl
theorem s153_10 : Runs 153 10 [x0, x1, x2, x3, some (.int i)] st h Q ↔ Runs 153 12 [x0, x1, x2, x3, some (.int i)] (.int i :: st) h Q := R_ild rfl rfl
theorem s153_12 : Runs 153 12 [some (.ref a), x1, x2, x3, x4] st h Q ↔ Runs 153 13 [some (.ref a), x1, x2, x3, x4] (.ref a :: st) h Q := R_aldn rfl rfl
theorem s153_12q : Runs 153 12 [some (zrf r), x1, x2, x3, x4] st h Q ↔ Runs 153 13 [some (zrf r), x1, x2, x3, x4] (zrf r :: st) h Q := R_aldnq rfl rfl
theorem s153_13 (ht : tg a = 10) : Runs 153 13 ls (.ref a :: st) (n, tg, ln, I, J, O) Q ↔ Runs 153 16 ls (zrf (O a 0) :: st) (n, tg, ln, I, J, O) Q := R_getr rfl rfl rfl rfl ht
theorem s153_16 : Runs 153 16 [x0, some (.int i), x2, x3, x4] st h Q ↔ Runs 153 17 [x0, some (.int i), x2, x3, x4] (.int i :: st) h Q := R_ildn rfl rfl
theorem s153_17 : Runs 153 17 ls st h Q ↔ Runs 153 18 ls (.int 4 :: st) h Q := R_iconst rfl rfl
theorem s153_18 : Runs 153 18 ls (.int j :: .int i :: st) h Q ↔ Runs 153 19 ls (.int (i + j) :: st) h Q := R_iadd rfl
theorem s153_19 : Runs 153 19 [x0, x1, x2, some (.int i), x4] st h Q ↔ Runs 153 20 [x0, x1, x2, some (.int i), x4] (.int i :: st) h Q := R_ildn rfl rfl
theorem s153_20 : Runs 153 20 ls (.int j :: .int i :: st) h Q ↔ Runs 153 21 ls (.int (i + j) :: st) h Q := R_iadd rfl
theorem s153_21 (ht : tg a = 20) : Runs 153 21 ls (.int i :: .ref a :: st) (n, tg, ln, I, J, O) Q ↔ ((0 ≤ i ∧ i < Int32.ofNat (ln a)) ∧ Runs 153 22 ls (.int (I a i) :: st) (n, tg, ln, I, J, O) Q) := R_iald rfl ht
theorem s153_22 : Runs 153 22 ls (.int j :: .int i :: st) h Q ↔ if j ≤ i then Runs 153 51 ls st h Q else Runs 153 25 ls st h Q := R_icge rfl rfl
theorem s153_25 : Runs 153 25 [some (.ref a), x1, x2, x3, x4] st h Q ↔ Runs 153 26 [some (.ref a), x1, x2, x3, x4] (.ref a :: st) h Q := R_aldn rfl rfl
theorem s153_25q : Runs 153 25 [some (zrf r), x1, x2, x3, x4] st h Q ↔ Runs 153 26 [some (zrf r), x1, x2, x3, x4] (zrf r :: st) h Q := R_aldnq rfl rfl
theorem s153_26 : Runs 153 26 [x0, some (.int i), x2, x3, x4] st h Q ↔ Runs 153 27 [x0, some (.int i), x2, x3, x4] (.int i :: st) h Q := R_ildn rfl rfl
theorem s153_27 : Runs 153 27 [x0, x1, x2, some (.int i), x4] st h Q ↔ Runs 153 28 [x0, x1, x2, some (.int i), x4] (.int i :: st) h Q := R_ildn rfl rfl
theorem s153_28 : Runs 153 28 [x0, x1, x2, x3, some (.int i)] st h Q ↔ Runs 153 30 [x0, x1, x2, x3, some (.int i)] (.int i :: st) h Q := R_ild rfl rfl
theorem s153_30 (ht : tg a = 10) (hs : zsumc st ≤ 8) : Runs 153 30 ls (.int i2 :: .int i1 :: .int i0 :: .ref a :: st) (n, tg, ln, I, J, O) Q ↔ Runs 152 0 [some (.ref a), some (.int i0), some (.int i1), some (.int i2)] [] (n, tg, ln, I, J, O) (fun v h2 => Runs 153 33 ls (v.toList ++ st) h2 Q) := R_callv (a := a) (rest := st) rfl rfl rfl rfl rfl rfl rfl ht hs
theorem s153_33 : Runs 153 33 [x0, x1, some (.int i), x3, x4] st h Q ↔ Runs 153 34 [x0, x1, some (.int i), x3, x4] (.int i :: st) h Q := R_ildn rfl rfl
theorem s153_34 : Runs 153 34 ls (.int j :: .int i :: st) h Q ↔ if ¬ i = j then Runs 153 45 ls st h Q else Runs 153 37 ls st h Q := R_icne rfl rfl
theorem s153_37 : Runs 153 37 ls st h Q ↔ Runs 153 39 ls (.int 100 :: st) h Q := R_bipush rfl (by decide)
theorem s153_39 : Runs 153 39 [x0, x1, x2, some (.int i), x4] st h Q ↔ Runs 153 40 [x0, x1, x2, some (.int i), x4] (.int i :: st) h Q := R_ildn rfl rfl
theorem s153_40 : Runs 153 40 ls (.int j :: .int i :: st) h Q ↔ Runs 153 41 ls (.int (i * j) :: st) h Q := R_imul rfl
theorem s153_41 : Runs 153 41 [x0, x1, x2, x3, some (.int i)] st h Q ↔ Runs 153 43 [x0, x1, x2, x3, some (.int i)] (.int i :: st) h Q := R_ild rfl rfl
theorem s153_43 : Runs 153 43 ls (.int j :: .int i :: st) h Q ↔ Runs 153 44 ls (.int (i + j) :: st) h Q := R_iadd rfl
theorem s153_44 : Runs 153 44 ls [.int i] h Q ↔ Q (some (.int i)) h := R_iret rfl rfl
theorem s153_45 : Runs 153 45 [x0, x1, x2, x3, some (.int i)] st h Q ↔ Runs 153 48 [x0, x1, x2, zdrop x3, some (.int (i + 1))] st h Q := R_iinc rfl rfl rfl rfl rfl
theorem s153_48 : Runs 153 48 ls st h Q ↔ Runs 153 10 ls st h Q := R_goto rfl rfl
theorem s153_51 : Runs 153 51 [x0, x1, x2, some (.int i), x4] st h Q ↔ Runs 153 54 [x0, x1, zdrop x2, some (.int (i + 1)), x4] st h Q := R_iinc rfl rfl rfl rfl rfl
theorem s153_54 : Runs 153 54 ls st h Q ↔ Runs 153 2 ls st h Q := R_goto rfl rfl
theorem s153_57 : Runs 153 57 ls st h Q ↔ Runs 153 58 ls (.int (-1) :: st) h Q := R_iconst rfl rfl
theorem s153_58 : Runs 153 58 ls [.int i] h Q ↔ Q (some (.int i)) h := R_iret rfl rfl
theorem s154_0 : Runs 154 0 [some (.int i)] st h Q ↔ Runs 154 1 [some (.int i)] (.int i :: st) h Q := R_ildn rfl rfl
theorem s154_1 : Runs 154 1 ls st h Q ↔ Runs 154 2 ls (.int 3 :: st) h Q := R_iconst rfl rfl
theorem s154_2 : Runs 154 2 ls (.int j :: .int i :: st) h Q ↔ if ¬ i = j then Runs 154 9 ls st h Q else Runs 154 5 ls st h Q := R_icne rfl rfl
theorem s154_5 : Runs 154 5 ls st h Q ↔ Runs 154 6 ls (.int 0 :: st) h Q := R_iconst rfl rfl
theorem s154_6 : Runs 154 6 ls st h Q ↔ Runs 154 28 ls st h Q := R_goto rfl rfl
theorem s154_9 : Runs 154 9 [some (.int i)] st h Q ↔ Runs 154 10 [some (.int i)] (.int i :: st) h Q := R_ildn rfl rfl
theorem s154_10 : Runs 154 10 ls st h Q ↔ Runs 154 11 ls (.int 4 :: st) h Q := R_iconst rfl rfl
theorem s154_11 : Runs 154 11 ls (.int j :: .int i :: st) h Q ↔ if ¬ i = j then Runs 154 18 ls st h Q else Runs 154 14 ls st h Q := R_icne rfl rfl
theorem s154_14 : Runs 154 14 ls st h Q ↔ Runs 154 15 ls (.int 3 :: st) h Q := R_iconst rfl rfl
theorem s154_15 : Runs 154 15 ls st h Q ↔ Runs 154 28 ls st h Q := R_goto rfl rfl
theorem s154_18 : Runs 154 18 [some (.int i)] st h Q ↔ Runs 154 19 [some (.int i)] (.int i :: st) h Q := R_ildn rfl rfl
theorem s154_19 : Runs 154 19 ls st h Q ↔ Runs 154 20 ls (.int 2 :: st) h Q := R_iconst rfl rfl
theorem s154_20 : Runs 154 20 ls (.int j :: .int i :: st) h Q ↔ if ¬ i = j then Runs 154 27 ls st h Q else Runs 154 23 ls st h Q := R_icne rfl rfl
theorem s154_23 : Runs 154 23 ls st h Q ↔ Runs 154 24 ls (.int 2 :: st) h Q := R_iconst rfl rfl
theorem s154_24 : Runs 154 24 ls st h Q ↔ Runs 154 28 ls st h Q := R_goto rfl rfl
theorem s154_27 : Runs 154 27 ls st h Q ↔ Runs 154 28 ls (.int 1 :: st) h Q := R_iconst rfl rfl
theorem s154_28 : Runs 154 28 ls [.int i] h Q ↔ Q (some (.int i)) h := R_iret rfl rfl
theorem s158_0 : Runs 158 0 [x0, some (.int i), x2, x3, x4, x5, x6] st h Q ↔ Runs 158 1 [x0, some (.int i), x2, x3, x4, x5, x6] (.int i :: st) h Q := R_ildn rfl rfl
theorem s158_1 : Runs 158 1 ls st h Q ↔ Runs 158 3 ls (.int 6 :: st) h Q := R_bipush rfl (by decide)
theorem s158_3 : Runs 158 3 ls (.int j :: .int i :: st) h Q ↔ Runs 158 4 ls (.int (i + j) :: st) h Q := R_iadd rfl
theorem s158_4 : Runs 158 4 ls st h Q ↔ Runs 158 6 ls (.int 12 :: st) h Q := R_bipush rfl (by decide)
theorem s158_6 : Runs 158 6 [x0, x1, some (.int i), x3, x4, x5, x6] st h Q ↔ Runs 158 7 [x0, x1, some (.int i), x3, x4, x5, x6] (.int i :: st) h Q := R_ildn rfl rfl
theorem s158_7 : Runs 158 7 ls (.int j :: .int i :: st) h Q ↔ Runs 158 8 ls (.int (i * j) :: st) h Q := R_imul rfl
theorem s158_8 : Runs 158 8 ls (.int j :: .int i :: st) h Q ↔ Runs 158 9 ls (.int (i + j) :: st) h Q := R_iadd rfl
theorem s158_9 : Runs 158 9 [x0, x1, x2, x3, x4, x5, x6] (.int i :: st) h Q ↔ Runs 158 10 [x0, x1, zdrop x2, some (.int i), x4, x5, x6] st h Q := R_istn rfl rfl rfl
theorem s158_10 : Runs 158 10 ls st h Q ↔ Runs 158 11 ls (.int 1 :: st) h Q := R_iconst rfl rfl
theorem s158_11 : Runs 158 11 [x0, x1, x2, x3, x4, x5, x6] (.int i :: st) h Q ↔ Runs 158 13 [x0, x1, x2, zdrop x3, some (.int i), x5, x6] st h Q := R_ist rfl rfl rfl
theorem s158_13 : Runs 158 13 [x0, x1, x2, x3, some (.int i), x5, x6] st h Q ↔ Runs 158 15 [x0, x1, x2, x3, some (.int i), x5, x6] (.int i :: st) h Q := R_ild rfl rfl
theorem s158_15 : Runs 158 15 [some (.ref a), x1, x2, x3, x4, x5, x6] st h Q ↔ Runs 158 16 [some (.ref a), x1, x2, x3, x4, x5, x6] (.ref a :: st) h Q := R_aldn rfl rfl
theorem s158_15q : Runs 158 15 [some (zrf r), x1, x2, x3, x4, x5, x6] st h Q ↔ Runs 158 16 [some (zrf r), x1, x2, x3, x4, x5, x6] (zrf r :: st) h Q := R_aldnq rfl rfl
theorem s158_16 (ht : tg a = 10) : Runs 158 16 ls (.ref a :: st) (n, tg, ln, I, J, O) Q ↔ Runs 158 19 ls (zrf (O a 0) :: st) (n, tg, ln, I, J, O) Q := R_getr rfl rfl rfl rfl ht
theorem s158_19 : Runs 158 19 [x0, some (.int i), x2, x3, x4, x5, x6] st h Q ↔ Runs 158 20 [x0, some (.int i), x2, x3, x4, x5, x6] (.int i :: st) h Q := R_ildn rfl rfl
theorem s158_20 : Runs 158 20 ls st h Q ↔ Runs 158 21 ls (.int 4 :: st) h Q := R_iconst rfl rfl
theorem s158_21 : Runs 158 21 ls (.int j :: .int i :: st) h Q ↔ Runs 158 22 ls (.int (i + j) :: st) h Q := R_iadd rfl
theorem s158_22 : Runs 158 22 [x0, x1, some (.int i), x3, x4, x5, x6] st h Q ↔ Runs 158 23 [x0, x1, some (.int i), x3, x4, x5, x6] (.int i :: st) h Q := R_ildn rfl rfl
theorem s158_23 : Runs 158 23 ls (.int j :: .int i :: st) h Q ↔ Runs 158 24 ls (.int (i + j) :: st) h Q := R_iadd rfl
theorem s158_24 (ht : tg a = 20) : Runs 158 24 ls (.int i :: .ref a :: st) (n, tg, ln, I, J, O) Q ↔ ((0 ≤ i ∧ i < Int32.ofNat (ln a)) ∧ Runs 158 25 ls (.int (I a i) :: st) (n, tg, ln, I, J, O) Q) := R_iald rfl ht
theorem s158_25 : Runs 158 25 ls (.int j :: .int i :: st) h Q ↔ if j ≤ i then Runs 158 155 ls st h Q else Runs 158 28 ls st h Q := R_icge rfl rfl
theorem s158_28 : Runs 158 28 [some (.ref a), x1, x2, x3, x4, x5, x6] st h Q ↔ Runs 158 29 [some (.ref a), x1, x2, x3, x4, x5, x6] (.ref a :: st) h Q := R_aldn rfl rfl
theorem s158_28q : Runs 158 28 [some (zrf r), x1, x2, x3, x4, x5, x6] st h Q ↔ Runs 158 29 [some (zrf r), x1, x2, x3, x4, x5, x6] (zrf r :: st) h Q := R_aldnq rfl rfl
theorem s158_29 (ht : tg a = 10) : Runs 158 29 ls (.ref a :: st) (n, tg, ln, I, J, O) Q ↔ Runs 158 32 ls (zrf (O a 0) :: st) (n, tg, ln, I, J, O) Q := R_getr rfl rfl rfl rfl ht
theorem s158_32 : Runs 158 32 [x0, x1, x2, some (.int i), x4, x5, x6] st h Q ↔ Runs 158 33 [x0, x1, x2, some (.int i), x4, x5, x6] (.int i :: st) h Q := R_ildn rfl rfl
theorem s158_33 : Runs 158 33 [x0, x1, x2, x3, some (.int i), x5, x6] st h Q ↔ Runs 158 35 [x0, x1, x2, x3, some (.int i), x5, x6] (.int i :: st) h Q := R_ild rfl rfl
theorem s158_35 : Runs 158 35 ls (.int j :: .int i :: st) h Q ↔ Runs 158 36 ls (.int (i + j) :: st) h Q := R_iadd rfl
theorem s158_36 (ht : tg a = 20) : Runs 158 36 ls (.int i :: .ref a :: st) (n, tg, ln, I, J, O) Q ↔ ((0 ≤ i ∧ i < Int32.ofNat (ln a)) ∧ Runs 158 37 ls (.int (I a i) :: st) (n, tg, ln, I, J, O) Q) := R_iald rfl ht
theorem s158_37 : Runs 158 37 [x0, x1, x2, x3, x4, x5, x6] (.int i :: st) h Q ↔ Runs 158 39 [x0, x1, x2, x3, zdrop x4, some (.int i), x6] st h Q := R_ist rfl rfl rfl
theorem s158_39 : Runs 158 39 [some (.ref a), x1, x2, x3, x4, x5, x6] st h Q ↔ Runs 158 40 [some (.ref a), x1, x2, x3, x4, x5, x6] (.ref a :: st) h Q := R_aldn rfl rfl
theorem s158_39q : Runs 158 39 [some (zrf r), x1, x2, x3, x4, x5, x6] st h Q ↔ Runs 158 40 [some (zrf r), x1, x2, x3, x4, x5, x6] (zrf r :: st) h Q := R_aldnq rfl rfl
theorem s158_40 (ht : tg a = 10) : Runs 158 40 ls (.ref a :: st) (n, tg, ln, I, J, O) Q ↔ Runs 158 43 ls (zrf (O a 0) :: st) (n, tg, ln, I, J, O) Q := R_getr rfl rfl rfl rfl ht
theorem s158_43 : Runs 158 43 [x0, x1, x2, some (.int i), x4, x5, x6] st h Q ↔ Runs 158 44 [x0, x1, x2, some (.int i), x4, x5, x6] (.int i :: st) h Q := R_ildn rfl rfl
theorem s158_44 : Runs 158 44 [x0, x1, x2, x3, some (.int i), x5, x6] st h Q ↔ Runs 158 46 [x0, x1, x2, x3, some (.int i), x5, x6] (.int i :: st) h Q := R_ild rfl rfl
theorem s158_46 : Runs 158 46 ls (.int j :: .int i :: st) h Q ↔ Runs 158 47 ls (.int (i + j) :: st) h Q := R_iadd rfl
theorem s158_47 : Runs 158 47 ls st h Q ↔ Runs 158 48 ls (.int 1 :: st) h Q := R_iconst rfl rfl
theorem s158_48 : Runs 158 48 ls (.int j :: .int i :: st) h Q ↔ Runs 158 49 ls (.int (i - j) :: st) h Q := R_isub rfl
theorem s158_49 (ht : tg a = 20) : Runs 158 49 ls (.int i :: .ref a :: st) (n, tg, ln, I, J, O) Q ↔ ((0 ≤ i ∧ i < Int32.ofNat (ln a)) ∧ Runs 158 50 ls (.int (I a i) :: st) (n, tg, ln, I, J, O) Q) := R_iald rfl ht
theorem s158_50 : Runs 158 50 [x0, x1, x2, x3, x4, x5, x6] (.int i :: st) h Q ↔ Runs 158 52 [x0, x1, x2, x3, x4, zdrop x5, some (.int i)] st h Q := R_ist rfl rfl rfl
theorem s158_52 : Runs 158 52 [x0, x1, x2, x3, x4, some (.int i), x6] st h Q ↔ Runs 158 54 [x0, x1, x2, x3, x4, some (.int i), x6] (.int i :: st) h Q := R_ild rfl rfl
theorem s158_54 : Runs 158 54 ls st h Q ↔ Runs 158 56 ls (.int 12 :: st) h Q := R_bipush rfl (by decide)
theorem s158_56 : Runs 158 56 ls (.int j :: .int i :: st) h Q ↔ if j ≤ i then Runs 158 149 ls st h Q else Runs 158 59 ls st h Q := R_icge rfl rfl
theorem s158_59 : Runs 158 59 [x0, x1, x2, x3, x4, x5, some (.int i)] st h Q ↔ Runs 158 61 [x0, x1, x2, x3, x4, x5, some (.int i)] (.int i :: st) h Q := R_ild rfl rfl
theorem s158_61 : Runs 158 61 ls st h Q ↔ Runs 158 63 ls (.int 12 :: st) h Q := R_bipush rfl (by decide)
theorem s158_63 : Runs 158 63 ls (.int j :: .int i :: st) h Q ↔ if j ≤ i then Runs 158 149 ls st h Q else Runs 158 66 ls st h Q := R_icge rfl rfl
theorem s158_66 : Runs 158 66 [some (.ref a), x1, x2, x3, x4, x5, x6] st h Q ↔ Runs 158 67 [some (.ref a), x1, x2, x3, x4, x5, x6] (.ref a :: st) h Q := R_aldn rfl rfl
theorem s158_66q : Runs 158 66 [some (zrf r), x1, x2, x3, x4, x5, x6] st h Q ↔ Runs 158 67 [some (zrf r), x1, x2, x3, x4, x5, x6] (zrf r :: st) h Q := R_aldnq rfl rfl
theorem s158_67 (ht : tg a = 10) : Runs 158 67 ls (.ref a :: st) (n, tg, ln, I, J, O) Q ↔ Runs 158 70 ls (zrf (O a 0) :: st) (n, tg, ln, I, J, O) Q := R_getr rfl rfl rfl rfl ht
theorem s158_70 : Runs 158 70 [x0, some (.int i), x2, x3, x4, x5, x6] st h Q ↔ Runs 158 71 [x0, some (.int i), x2, x3, x4, x5, x6] (.int i :: st) h Q := R_ildn rfl rfl
theorem s158_71 : Runs 158 71 ls st h Q ↔ Runs 158 73 ls (.int 30 :: st) h Q := R_bipush rfl (by decide)
theorem s158_73 : Runs 158 73 ls (.int j :: .int i :: st) h Q ↔ Runs 158 74 ls (.int (i + j) :: st) h Q := R_iadd rfl
theorem s158_74 : Runs 158 74 [x0, x1, x2, x3, x4, some (.int i), x6] st h Q ↔ Runs 158 76 [x0, x1, x2, x3, x4, some (.int i), x6] (.int i :: st) h Q := R_ild rfl rfl
theorem s158_76 : Runs 158 76 ls (.int j :: .int i :: st) h Q ↔ Runs 158 77 ls (.int (i + j) :: st) h Q := R_iadd rfl
theorem s158_77 (ht : tg a = 20) : Runs 158 77 ls (.int i :: .ref a :: st) (n, tg, ln, I, J, O) Q ↔ ((0 ≤ i ∧ i < Int32.ofNat (ln a)) ∧ Runs 158 78 ls (.int (I a i) :: st) (n, tg, ln, I, J, O) Q) := R_iald rfl ht
theorem s158_78 : Runs 158 78 ls st h Q ↔ Runs 158 79 ls (.int 1 :: st) h Q := R_iconst rfl rfl
theorem s158_79 : Runs 158 79 ls (.int j :: .int i :: st) h Q ↔ if ¬ i = j then Runs 158 149 ls st h Q else Runs 158 82 ls st h Q := R_icne rfl rfl
theorem s158_82 : Runs 158 82 [some (.ref a), x1, x2, x3, x4, x5, x6] st h Q ↔ Runs 158 83 [some (.ref a), x1, x2, x3, x4, x5, x6] (.ref a :: st) h Q := R_aldn rfl rfl
theorem s158_82q : Runs 158 82 [some (zrf r), x1, x2, x3, x4, x5, x6] st h Q ↔ Runs 158 83 [some (zrf r), x1, x2, x3, x4, x5, x6] (zrf r :: st) h Q := R_aldnq rfl rfl
theorem s158_83 (ht : tg a = 10) : Runs 158 83 ls (.ref a :: st) (n, tg, ln, I, J, O) Q ↔ Runs 158 86 ls (zrf (O a 0) :: st) (n, tg, ln, I, J, O) Q := R_getr rfl rfl rfl rfl ht
theorem s158_86 : Runs 158 86 [x0, some (.int i), x2, x3, x4, x5, x6] st h Q ↔ Runs 158 87 [x0, some (.int i), x2, x3, x4, x5, x6] (.int i :: st) h Q := R_ildn rfl rfl
theorem s158_87 : Runs 158 87 ls st h Q ↔ Runs 158 89 ls (.int 30 :: st) h Q := R_bipush rfl (by decide)
theorem s158_89 : Runs 158 89 ls (.int j :: .int i :: st) h Q ↔ Runs 158 90 ls (.int (i + j) :: st) h Q := R_iadd rfl
theorem s158_90 : Runs 158 90 [x0, x1, x2, x3, x4, x5, some (.int i)] st h Q ↔ Runs 158 92 [x0, x1, x2, x3, x4, x5, some (.int i)] (.int i :: st) h Q := R_ild rfl rfl
theorem s158_92 : Runs 158 92 ls (.int j :: .int i :: st) h Q ↔ Runs 158 93 ls (.int (i + j) :: st) h Q := R_iadd rfl
theorem s158_93 (ht : tg a = 20) : Runs 158 93 ls (.int i :: .ref a :: st) (n, tg, ln, I, J, O) Q ↔ ((0 ≤ i ∧ i < Int32.ofNat (ln a)) ∧ Runs 158 94 ls (.int (I a i) :: st) (n, tg, ln, I, J, O) Q) := R_iald rfl ht
theorem s158_94 : Runs 158 94 ls st h Q ↔ Runs 158 95 ls (.int 3 :: st) h Q := R_iconst rfl rfl
theorem s158_95 : Runs 158 95 ls (.int j :: .int i :: st) h Q ↔ if j ≤ i then Runs 158 149 ls st h Q else Runs 158 98 ls st h Q := R_icge rfl rfl
theorem s158_98 : Runs 158 98 [some (.ref a), x1, x2, x3, x4, x5, x6] st h Q ↔ Runs 158 99 [some (.ref a), x1, x2, x3, x4, x5, x6] (.ref a :: st) h Q := R_aldn rfl rfl
theorem s158_98q : Runs 158 98 [some (zrf r), x1, x2, x3, x4, x5, x6] st h Q ↔ Runs 158 99 [some (zrf r), x1, x2, x3, x4, x5, x6] (zrf r :: st) h Q := R_aldnq rfl rfl
theorem s158_99 (ht : tg a = 10) : Runs 158 99 ls (.ref a :: st) (n, tg, ln, I, J, O) Q ↔ Runs 158 102 ls (zrf (O a 0) :: st) (n, tg, ln, I, J, O) Q := R_getr rfl rfl rfl rfl ht
theorem s158_102 : Runs 158 102 [x0, some (.int i), x2, x3, x4, x5, x6] st h Q ↔ Runs 158 103 [x0, some (.int i), x2, x3, x4, x5, x6] (.int i :: st) h Q := R_ildn rfl rfl
theorem s158_103 : Runs 158 103 ls st h Q ↔ Runs 158 105 ls (.int 42 :: st) h Q := R_bipush rfl (by decide)
theorem s158_105 : Runs 158 105 ls (.int j :: .int i :: st) h Q ↔ Runs 158 106 ls (.int (i + j) :: st) h Q := R_iadd rfl
theorem s158_106 : Runs 158 106 [x0, x1, x2, x3, x4, x5, some (.int i)] st h Q ↔ Runs 158 108 [x0, x1, x2, x3, x4, x5, some (.int i)] (.int i :: st) h Q := R_ild rfl rfl
theorem s158_108 : Runs 158 108 ls (.int j :: .int i :: st) h Q ↔ Runs 158 109 ls (.int (i + j) :: st) h Q := R_iadd rfl
theorem s158_109 (ht : tg a = 20) : Runs 158 109 ls (.int i :: .ref a :: st) (n, tg, ln, I, J, O) Q ↔ ((0 ≤ i ∧ i < Int32.ofNat (ln a)) ∧ Runs 158 110 ls (.int (I a i) :: st) (n, tg, ln, I, J, O) Q) := R_iald rfl ht
theorem s158_110 : Runs 158 110 [some (.ref a), x1, x2, x3, x4, x5, x6] st h Q ↔ Runs 158 111 [some (.ref a), x1, x2, x3, x4, x5, x6] (.ref a :: st) h Q := R_aldn rfl rfl
theorem s158_110q : Runs 158 110 [some (zrf r), x1, x2, x3, x4, x5, x6] st h Q ↔ Runs 158 111 [some (zrf r), x1, x2, x3, x4, x5, x6] (zrf r :: st) h Q := R_aldnq rfl rfl
theorem s158_111 (ht : tg a = 10) : Runs 158 111 ls (.ref a :: st) (n, tg, ln, I, J, O) Q ↔ Runs 158 114 ls (zrf (O a 0) :: st) (n, tg, ln, I, J, O) Q := R_getr rfl rfl rfl rfl ht
theorem s158_114 : Runs 158 114 [x0, some (.int i), x2, x3, x4, x5, x6] st h Q ↔ Runs 158 115 [x0, some (.int i), x2, x3, x4, x5, x6] (.int i :: st) h Q := R_ildn rfl rfl
theorem s158_115 : Runs 158 115 ls st h Q ↔ Runs 158 117 ls (.int 42 :: st) h Q := R_bipush rfl (by decide)
theorem s158_117 : Runs 158 117 ls (.int j :: .int i :: st) h Q ↔ Runs 158 118 ls (.int (i + j) :: st) h Q := R_iadd rfl
theorem s158_118 : Runs 158 118 [x0, x1, x2, x3, x4, some (.int i), x6] st h Q ↔ Runs 158 120 [x0, x1, x2, x3, x4, some (.int i), x6] (.int i :: st) h Q := R_ild rfl rfl
theorem s158_120 : Runs 158 120 ls (.int j :: .int i :: st) h Q ↔ Runs 158 121 ls (.int (i + j) :: st) h Q := R_iadd rfl
theorem s158_121 (ht : tg a = 20) : Runs 158 121 ls (.int i :: .ref a :: st) (n, tg, ln, I, J, O) Q ↔ ((0 ≤ i ∧ i < Int32.ofNat (ln a)) ∧ Runs 158 122 ls (.int (I a i) :: st) (n, tg, ln, I, J, O) Q) := R_iald rfl ht
theorem s158_122 : Runs 158 122 ls (.int j :: .int i :: st) h Q ↔ if j ≤ i then Runs 158 149 ls st h Q else Runs 158 125 ls st h Q := R_icge rfl rfl
theorem s158_125 : Runs 158 125 [some (.ref a), x1, x2, x3, x4, x5, x6] st h Q ↔ Runs 158 126 [some (.ref a), x1, x2, x3, x4, x5, x6] (.ref a :: st) h Q := R_aldn rfl rfl
theorem s158_125q : Runs 158 125 [some (zrf r), x1, x2, x3, x4, x5, x6] st h Q ↔ Runs 158 126 [some (zrf r), x1, x2, x3, x4, x5, x6] (zrf r :: st) h Q := R_aldnq rfl rfl
theorem s158_126 (ht : tg a = 10) : Runs 158 126 ls (.ref a :: st) (n, tg, ln, I, J, O) Q ↔ Runs 158 129 ls (zrf (O a 0) :: st) (n, tg, ln, I, J, O) Q := R_getr rfl rfl rfl rfl ht
theorem s158_129 : Runs 158 129 [x0, x1, x2, some (.int i), x4, x5, x6] st h Q ↔ Runs 158 130 [x0, x1, x2, some (.int i), x4, x5, x6] (.int i :: st) h Q := R_ildn rfl rfl
theorem s158_130 : Runs 158 130 [x0, x1, x2, x3, some (.int i), x5, x6] st h Q ↔ Runs 158 132 [x0, x1, x2, x3, some (.int i), x5, x6] (.int i :: st) h Q := R_ild rfl rfl
theorem s158_132 : Runs 158 132 ls (.int j :: .int i :: st) h Q ↔ Runs 158 133 ls (.int (i + j) :: st) h Q := R_iadd rfl
theorem s158_133 : Runs 158 133 [x0, x1, x2, x3, x4, x5, some (.int i)] st h Q ↔ Runs 158 135 [x0, x1, x2, x3, x4, x5, some (.int i)] (.int i :: st) h Q := R_ild rfl rfl
theorem s158_135 (ht : tg a = 20) : Runs 158 135 ls (.int j :: .int i :: .ref a :: st) (n, tg, ln, I, J, O) Q ↔ ((0 ≤ i ∧ i < Int32.ofNat (ln a)) ∧ Runs 158 136 ls st (n, tg, ln, zu I a i j, J, O) Q) := R_iast rfl ht
theorem s158_136 : Runs 158 136 [some (.ref a), x1, x2, x3, x4, x5, x6] st h Q ↔ Runs 158 137 [some (.ref a), x1, x2, x3, x4, x5, x6] (.ref a :: st) h Q := R_aldn rfl rfl
theorem s158_136q : Runs 158 136 [some (zrf r), x1, x2, x3, x4, x5, x6] st h Q ↔ Runs 158 137 [some (zrf r), x1, x2, x3, x4, x5, x6] (zrf r :: st) h Q := R_aldnq rfl rfl
theorem s158_137 (ht : tg a = 10) : Runs 158 137 ls (.ref a :: st) (n, tg, ln, I, J, O) Q ↔ Runs 158 140 ls (zrf (O a 0) :: st) (n, tg, ln, I, J, O) Q := R_getr rfl rfl rfl rfl ht
theorem s158_140 : Runs 158 140 [x0, x1, x2, some (.int i), x4, x5, x6] st h Q ↔ Runs 158 141 [x0, x1, x2, some (.int i), x4, x5, x6] (.int i :: st) h Q := R_ildn rfl rfl
theorem s158_141 : Runs 158 141 [x0, x1, x2, x3, some (.int i), x5, x6] st h Q ↔ Runs 158 143 [x0, x1, x2, x3, some (.int i), x5, x6] (.int i :: st) h Q := R_ild rfl rfl
theorem s158_143 : Runs 158 143 ls (.int j :: .int i :: st) h Q ↔ Runs 158 144 ls (.int (i + j) :: st) h Q := R_iadd rfl
theorem s158_144 : Runs 158 144 ls st h Q ↔ Runs 158 145 ls (.int 1 :: st) h Q := R_iconst rfl rfl
theorem s158_145 : Runs 158 145 ls (.int j :: .int i :: st) h Q ↔ Runs 158 146 ls (.int (i - j) :: st) h Q := R_isub rfl
theorem s158_146 : Runs 158 146 [x0, x1, x2, x3, x4, some (.int i), x6] st h Q ↔ Runs 158 148 [x0, x1, x2, x3, x4, some (.int i), x6] (.int i :: st) h Q := R_ild rfl rfl
theorem s158_148 (ht : tg a = 20) : Runs 158 148 ls (.int j :: .int i :: .ref a :: st) (n, tg, ln, I, J, O) Q ↔ ((0 ≤ i ∧ i < Int32.ofNat (ln a)) ∧ Runs 158 149 ls st (n, tg, ln, zu I a i j, J, O) Q) := R_iast rfl ht
theorem s158_149 : Runs 158 149 [x0, x1, x2, x3, some (.int i), x5, x6] st h Q ↔ Runs 158 152 [x0, x1, x2, zdrop x3, some (.int (i + 1)), x5, x6] st h Q := R_iinc rfl rfl rfl rfl rfl
theorem s158_152 : Runs 158 152 ls st h Q ↔ Runs 158 13 ls st h Q := R_goto rfl rfl
theorem s158_155 : Runs 158 155 ls [] h Q ↔ Q none h := R_vret rfl rfl
theorem s159_0 : Runs 159 0 [some (.ref a), x1, x2] st h Q ↔ Runs 159 1 [some (.ref a), x1, x2] (.ref a :: st) h Q := R_aldn rfl rfl
theorem s159_0q : Runs 159 0 [some (zrf r), x1, x2] st h Q ↔ Runs 159 1 [some (zrf r), x1, x2] (zrf r :: st) h Q := R_aldnq rfl rfl
theorem s159_1 (ht : tg a = 10) : Runs 159 1 ls (.ref a :: st) (n, tg, ln, I, J, O) Q ↔ Runs 159 4 ls (zrf (O a 0) :: st) (n, tg, ln, I, J, O) Q := R_getr rfl rfl rfl rfl ht
theorem s159_4 : Runs 159 4 [x0, some (.int i), x2] st h Q ↔ Runs 159 5 [x0, some (.int i), x2] (.int i :: st) h Q := R_ildn rfl rfl
theorem s159_5 : Runs 159 5 ls st h Q ↔ Runs 159 6 ls (.int 4 :: st) h Q := R_iconst rfl rfl
theorem s159_6 : Runs 159 6 ls (.int j :: .int i :: st) h Q ↔ Runs 159 7 ls (.int (i + j) :: st) h Q := R_iadd rfl
theorem s159_7 : Runs 159 7 [x0, x1, some (.int i)] st h Q ↔ Runs 159 8 [x0, x1, some (.int i)] (.int i :: st) h Q := R_ildn rfl rfl
theorem s159_8 : Runs 159 8 ls (.int j :: .int i :: st) h Q ↔ Runs 159 9 ls (.int (i + j) :: st) h Q := R_iadd rfl
theorem s159_9 (ht : tg a = 20) : Runs 159 9 ls (.int i :: .ref a :: st) (n, tg, ln, I, J, O) Q ↔ ((0 ≤ i ∧ i < Int32.ofNat (ln a)) ∧ Runs 159 10 ls (.int (I a i) :: st) (n, tg, ln, I, J, O) Q) := R_iald rfl ht
theorem s159_10 : Runs 159 10 ls (.int i :: st) h Q ↔ if i = 0 then Runs 159 25 ls st h Q else Runs 159 13 ls st h Q := R_ifeq rfl rfl
theorem s159_13 : Runs 159 13 [some (.ref a), x1, x2] st h Q ↔ Runs 159 14 [some (.ref a), x1, x2] (.ref a :: st) h Q := R_aldn rfl rfl
theorem s159_13q : Runs 159 13 [some (zrf r), x1, x2] st h Q ↔ Runs 159 14 [some (zrf r), x1, x2] (zrf r :: st) h Q := R_aldnq rfl rfl
theorem s159_14 : Runs 159 14 [x0, some (.int i), x2] st h Q ↔ Runs 159 15 [x0, some (.int i), x2] (.int i :: st) h Q := R_ildn rfl rfl
theorem s159_15 : Runs 159 15 [x0, x1, some (.int i)] st h Q ↔ Runs 159 16 [x0, x1, some (.int i)] (.int i :: st) h Q := R_ildn rfl rfl
theorem s159_16 : Runs 159 16 ls st h Q ↔ Runs 159 17 ls (.int 0 :: st) h Q := R_iconst rfl rfl
theorem s159_17 (ht : tg a = 10) (hs : zsumc st ≤ 8) : Runs 159 17 ls (.int i2 :: .int i1 :: .int i0 :: .ref a :: st) (n, tg, ln, I, J, O) Q ↔ Runs 152 0 [some (.ref a), some (.int i0), some (.int i1), some (.int i2)] [] (n, tg, ln, I, J, O) (fun v h2 => Runs 159 20 ls (v.toList ++ st) h2 Q) := R_callv (a := a) (rest := st) rfl rfl rfl rfl rfl rfl rfl ht hs
theorem s159_20 : Runs 159 20 ls st h Q ↔ Runs 159 22 ls (.int 11 :: st) h Q := R_bipush rfl (by decide)
theorem s159_22 : Runs 159 22 ls (.int j :: .int i :: st) h Q ↔ if i ≤ j then Runs 159 29 ls st h Q else Runs 159 25 ls st h Q := R_icle rfl rfl
theorem s159_25 : Runs 159 25 ls st h Q ↔ Runs 159 26 ls (.int (-1) :: st) h Q := R_iconst rfl rfl
theorem s159_26 : Runs 159 26 ls st h Q ↔ Runs 159 46 ls st h Q := R_goto rfl rfl
theorem s159_29 : Runs 159 29 [some (.ref a), x1, x2] st h Q ↔ Runs 159 30 [some (.ref a), x1, x2] (.ref a :: st) h Q := R_aldn rfl rfl
theorem s159_29q : Runs 159 29 [some (zrf r), x1, x2] st h Q ↔ Runs 159 30 [some (zrf r), x1, x2] (zrf r :: st) h Q := R_aldnq rfl rfl
theorem s159_30 (ht : tg a = 10) : Runs 159 30 ls (.ref a :: st) (n, tg, ln, I, J, O) Q ↔ Runs 159 33 ls (zrf (O a 0) :: st) (n, tg, ln, I, J, O) Q := R_getr rfl rfl rfl rfl ht
theorem s159_33 : Runs 159 33 [x0, some (.int i), x2] st h Q ↔ Runs 159 34 [x0, some (.int i), x2] (.int i :: st) h Q := R_ildn rfl rfl
theorem s159_34 : Runs 159 34 ls st h Q ↔ Runs 159 36 ls (.int 42 :: st) h Q := R_bipush rfl (by decide)
theorem s159_36 : Runs 159 36 ls (.int j :: .int i :: st) h Q ↔ Runs 159 37 ls (.int (i + j) :: st) h Q := R_iadd rfl
theorem s159_37 : Runs 159 37 [some (.ref a), x1, x2] st h Q ↔ Runs 159 38 [some (.ref a), x1, x2] (.ref a :: st) h Q := R_aldn rfl rfl
theorem s159_37q : Runs 159 37 [some (zrf r), x1, x2] st h Q ↔ Runs 159 38 [some (zrf r), x1, x2] (zrf r :: st) h Q := R_aldnq rfl rfl
theorem s159_38 : Runs 159 38 [x0, some (.int i), x2] st h Q ↔ Runs 159 39 [x0, some (.int i), x2] (.int i :: st) h Q := R_ildn rfl rfl
theorem s159_39 : Runs 159 39 [x0, x1, some (.int i)] st h Q ↔ Runs 159 40 [x0, x1, some (.int i)] (.int i :: st) h Q := R_ildn rfl rfl
theorem s159_40 : Runs 159 40 ls st h Q ↔ Runs 159 41 ls (.int 0 :: st) h Q := R_iconst rfl rfl
theorem s159_41 (ht : tg a = 10) (hs : zsumc st ≤ 8) : Runs 159 41 ls (.int i2 :: .int i1 :: .int i0 :: .ref a :: st) (n, tg, ln, I, J, O) Q ↔ Runs 152 0 [some (.ref a), some (.int i0), some (.int i1), some (.int i2)] [] (n, tg, ln, I, J, O) (fun v h2 => Runs 159 44 ls (v.toList ++ st) h2 Q) := R_callv (a := a) (rest := st) rfl rfl rfl rfl rfl rfl rfl ht hs
theorem s159_44 : Runs 159 44 ls (.int j :: .int i :: st) h Q ↔ Runs 159 45 ls (.int (i + j) :: st) h Q := R_iadd rfl
theorem s159_45 (ht : tg a = 20) : Runs 159 45 ls (.int i :: .ref a :: st) (n, tg, ln, I, J, O) Q ↔ ((0 ≤ i ∧ i < Int32.ofNat (ln a)) ∧ Runs 159 46 ls (.int (I a i) :: st) (n, tg, ln, I, J, O) Q) := R_iald rfl ht
theorem s159_46 : Runs 159 46 ls [.int i] h Q ↔ Q (some (.int i)) h := R_iret rfl rfl
theorem s160_0 : Runs 160 0 [some (.ref a), x1, x2, x3, x4] st h Q ↔ Runs 160 1 [some (.ref a), x1, x2, x3, x4] (.ref a :: st) h Q := R_aldn rfl rfl
theorem s160_0q : Runs 160 0 [some (zrf r), x1, x2, x3, x4] st h Q ↔ Runs 160 1 [some (zrf r), x1, x2, x3, x4] (zrf r :: st) h Q := R_aldnq rfl rfl
theorem s160_1 (ht : tg a = 10) : Runs 160 1 ls (.ref a :: st) (n, tg, ln, I, J, O) Q ↔ Runs 160 4 ls (zrf (O a 0) :: st) (n, tg, ln, I, J, O) Q := R_getr rfl rfl rfl rfl ht
theorem s160_4 : Runs 160 4 [x0, some (.int i), x2, x3, x4] st h Q ↔ Runs 160 5 [x0, some (.int i), x2, x3, x4] (.int i :: st) h Q := R_ildn rfl rfl
theorem s160_5 : Runs 160 5 ls st h Q ↔ Runs 160 6 ls (.int 4 :: st) h Q := R_iconst rfl rfl
theorem s160_6 : Runs 160 6 ls (.int j :: .int i :: st) h Q ↔ Runs 160 7 ls (.int (i + j) :: st) h Q := R_iadd rfl
theorem s160_7 (ht : tg a = 20) : Runs 160 7 ls (.int i :: .ref a :: st) (n, tg, ln, I, J, O) Q ↔ ((0 ≤ i ∧ i < Int32.ofNat (ln a)) ∧ Runs 160 8 ls (.int (I a i) :: st) (n, tg, ln, I, J, O) Q) := R_iald rfl ht
theorem s160_8 : Runs 160 8 [x0, x1, x2, x3, x4] (.int i :: st) h Q ↔ Runs 160 9 [x0, zdrop x1, some (.int i), x3, x4] st h Q := R_istn rfl rfl rfl
theorem s160_9 : Runs 160 9 [some (.ref a), x1, x2, x3, x4] st h Q ↔ Runs 160 10 [some (.ref a), x1, x2, x3, x4] (.ref a :: st) h Q := R_aldn rfl rfl
theorem s160_9q : Runs 160 9 [some (zrf r), x1, x2, x3, x4] st h Q ↔ Runs 160 10 [some (zrf r), x1, x2, x3, x4] (zrf r :: st) h Q := R_aldnq rfl rfl
theorem s160_10 (ht : tg a = 10) : Runs 160 10 ls (.ref a :: st) (n, tg, ln, I, J, O) Q ↔ Runs 160 13 ls (zrf (O a 0) :: st) (n, tg, ln, I, J, O) Q := R_getr rfl rfl rfl rfl ht
theorem s160_13 : Runs 160 13 [x0, some (.int i), x2, x3, x4] st h Q ↔ Runs 160 14 [x0, some (.int i), x2, x3, x4] (.int i :: st) h Q := R_ildn rfl rfl
theorem s160_14 : Runs 160 14 ls st h Q ↔ Runs 160 15 ls (.int 4 :: st) h Q := R_iconst rfl rfl
theorem s160_15 : Runs 160 15 ls (.int j :: .int i :: st) h Q ↔ Runs 160 16 ls (.int (i + j) :: st) h Q := R_iadd rfl
theorem s160_16 : Runs 160 16 ls st h Q ↔ Runs 160 17 ls (.int 1 :: st) h Q := R_iconst rfl rfl
theorem s160_17 : Runs 160 17 ls (.int j :: .int i :: st) h Q ↔ Runs 160 18 ls (.int (i + j) :: st) h Q := R_iadd rfl
theorem s160_18 (ht : tg a = 20) : Runs 160 18 ls (.int i :: .ref a :: st) (n, tg, ln, I, J, O) Q ↔ ((0 ≤ i ∧ i < Int32.ofNat (ln a)) ∧ Runs 160 19 ls (.int (I a i) :: st) (n, tg, ln, I, J, O) Q) := R_iald rfl ht
theorem s160_19 : Runs 160 19 [x0, x1, x2, x3, x4] (.int i :: st) h Q ↔ Runs 160 20 [x0, x1, zdrop x2, some (.int i), x4] st h Q := R_istn rfl rfl rfl
theorem s160_20 : Runs 160 20 [x0, x1, some (.int i), x3, x4] st h Q ↔ Runs 160 21 [x0, x1, some (.int i), x3, x4] (.int i :: st) h Q := R_ildn rfl rfl
theorem s160_21 : Runs 160 21 [x0, x1, x2, some (.int i), x4] st h Q ↔ Runs 160 22 [x0, x1, x2, some (.int i), x4] (.int i :: st) h Q := R_ildn rfl rfl
theorem s160_22 : Runs 160 22 ls (.int j :: .int i :: st) h Q ↔ Runs 160 23 ls (.int (i + j) :: st) h Q := R_iadd rfl
theorem s160_23 : Runs 160 23 ls (.int i :: st) h Q ↔ if ¬ i = 0 then Runs 160 28 ls st h Q else Runs 160 26 ls st h Q := R_ifne rfl rfl
theorem s160_26 : Runs 160 26 ls st h Q ↔ Runs 160 27 ls (.int (-1) :: st) h Q := R_iconst rfl rfl
theorem s160_27 : Runs 160 27 ls [.int i] h Q ↔ Q (some (.int i)) h := R_iret rfl rfl
theorem s160_28 : Runs 160 28 [some (.ref a), x1, x2, x3, x4] st h Q ↔ Runs 160 29 [some (.ref a), x1, x2, x3, x4] (.ref a :: st) h Q := R_aldn rfl rfl
theorem s160_28q : Runs 160 28 [some (zrf r), x1, x2, x3, x4] st h Q ↔ Runs 160 29 [some (zrf r), x1, x2, x3, x4] (zrf r :: st) h Q := R_aldnq rfl rfl
theorem s160_29 (ht : tg a = 10) : Runs 160 29 ls (.ref a :: st) (n, tg, ln, I, J, O) Q ↔ Runs 160 32 ls (zrf (O a 0) :: st) (n, tg, ln, I, J, O) Q := R_getr rfl rfl rfl rfl ht
theorem s160_32 : Runs 160 32 [x0, some (.int i), x2, x3, x4] st h Q ↔ Runs 160 33 [x0, some (.int i), x2, x3, x4] (.int i :: st) h Q := R_ildn rfl rfl
theorem s160_33 : Runs 160 33 ls st h Q ↔ Runs 160 34 ls (.int 1 :: st) h Q := R_iconst rfl rfl
theorem s160_34 : Runs 160 34 ls (.int j :: .int i :: st) h Q ↔ Runs 160 35 ls (.int (i + j) :: st) h Q := R_iadd rfl
theorem s160_35 (ht : tg a = 20) : Runs 160 35 ls (.int i :: .ref a :: st) (n, tg, ln, I, J, O) Q ↔ ((0 ≤ i ∧ i < Int32.ofNat (ln a)) ∧ Runs 160 36 ls (.int (I a i) :: st) (n, tg, ln, I, J, O) Q) := R_iald rfl ht
theorem s160_36 : Runs 160 36 ls (.int i :: st) h Q ↔ if ¬ i = 0 then Runs 160 73 ls st h Q else Runs 160 39 ls st h Q := R_ifne rfl rfl
theorem s160_39 : Runs 160 39 [some (.ref a), x1, x2, x3, x4] st h Q ↔ Runs 160 40 [some (.ref a), x1, x2, x3, x4] (.ref a :: st) h Q := R_aldn rfl rfl
theorem s160_39q : Runs 160 39 [some (zrf r), x1, x2, x3, x4] st h Q ↔ Runs 160 40 [some (zrf r), x1, x2, x3, x4] (zrf r :: st) h Q := R_aldnq rfl rfl
theorem s160_40 (ht : tg a = 10) : Runs 160 40 ls (.ref a :: st) (n, tg, ln, I, J, O) Q ↔ Runs 160 43 ls (zrf (O a 0) :: st) (n, tg, ln, I, J, O) Q := R_getr rfl rfl rfl rfl ht
theorem s160_43 : Runs 160 43 [x0, some (.int i), x2, x3, x4] st h Q ↔ Runs 160 44 [x0, some (.int i), x2, x3, x4] (.int i :: st) h Q := R_ildn rfl rfl
theorem s160_44 : Runs 160 44 ls st h Q ↔ Runs 160 45 ls (.int 3 :: st) h Q := R_iconst rfl rfl
theorem s160_45 : Runs 160 45 ls (.int j :: .int i :: st) h Q ↔ Runs 160 46 ls (.int (i + j) :: st) h Q := R_iadd rfl
theorem s160_46 (ht : tg a = 20) : Runs 160 46 ls (.int i :: .ref a :: st) (n, tg, ln, I, J, O) Q ↔ ((0 ≤ i ∧ i < Int32.ofNat (ln a)) ∧ Runs 160 47 ls (.int (I a i) :: st) (n, tg, ln, I, J, O) Q) := R_iald rfl ht
theorem s160_47 : Runs 160 47 [x0, x1, x2, x3, x4] (.int i :: st) h Q ↔ Runs 160 49 [x0, x1, x2, zdrop x3, some (.int i)] st h Q := R_ist rfl rfl rfl
theorem s160_49 : Runs 160 49 [some (.ref a), x1, x2, x3, x4] st h Q ↔ Runs 160 50 [some (.ref a), x1, x2, x3, x4] (.ref a :: st) h Q := R_aldn rfl rfl
theorem s160_49q : Runs 160 49 [some (zrf r), x1, x2, x3, x4] st h Q ↔ Runs 160 50 [some (zrf r), x1, x2, x3, x4] (zrf r :: st) h Q := R_aldnq rfl rfl
theorem s160_50 (ht : tg a = 10) : Runs 160 50 ls (.ref a :: st) (n, tg, ln, I, J, O) Q ↔ Runs 160 53 ls (zrf (O a 0) :: st) (n, tg, ln, I, J, O) Q := R_getr rfl rfl rfl rfl ht
theorem s160_53 : Runs 160 53 [x0, some (.int i), x2, x3, x4] st h Q ↔ Runs 160 54 [x0, some (.int i), x2, x3, x4] (.int i :: st) h Q := R_ildn rfl rfl
theorem s160_54 : Runs 160 54 ls st h Q ↔ Runs 160 55 ls (.int 4 :: st) h Q := R_iconst rfl rfl
theorem s160_55 : Runs 160 55 ls (.int j :: .int i :: st) h Q ↔ Runs 160 56 ls (.int (i + j) :: st) h Q := R_iadd rfl
theorem s160_56 : Runs 160 56 [x0, x1, x2, x3, some (.int i)] st h Q ↔ Runs 160 58 [x0, x1, x2, x3, some (.int i)] (.int i :: st) h Q := R_ild rfl rfl
theorem s160_58 : Runs 160 58 ls (.int j :: .int i :: st) h Q ↔ Runs 160 59 ls (.int (i + j) :: st) h Q := R_iadd rfl
theorem s160_59 (ht : tg a = 20) : Runs 160 59 ls (.int i :: .ref a :: st) (n, tg, ln, I, J, O) Q ↔ ((0 ≤ i ∧ i < Int32.ofNat (ln a)) ∧ Runs 160 60 ls (.int (I a i) :: st) (n, tg, ln, I, J, O) Q) := R_iald rfl ht
theorem s160_60 : Runs 160 60 ls (.int i :: st) h Q ↔ if i ≤ 0 then Runs 160 68 ls st h Q else Runs 160 63 ls st h Q := R_ifle rfl rfl
theorem s160_63 : Runs 160 63 [x0, x1, x2, x3, some (.int i)] st h Q ↔ Runs 160 65 [x0, x1, x2, x3, some (.int i)] (.int i :: st) h Q := R_ild rfl rfl
theorem s160_65 : Runs 160 65 ls st h Q ↔ Runs 160 72 ls st h Q := R_goto rfl rfl
theorem s160_68 : Runs 160 68 ls st h Q ↔ Runs 160 69 ls (.int 1 :: st) h Q := R_iconst rfl rfl
theorem s160_69 : Runs 160 69 [x0, x1, x2, x3, some (.int i)] st h Q ↔ Runs 160 71 [x0, x1, x2, x3, some (.int i)] (.int i :: st) h Q := R_ild rfl rfl
theorem s160_71 : Runs 160 71 ls (.int j :: .int i :: st) h Q ↔ Runs 160 72 ls (.int (i - j) :: st) h Q := R_isub rfl
theorem s160_72 : Runs 160 72 ls [.int i] h Q ↔ Q (some (.int i)) h := R_iret rfl rfl
theorem s160_73 : Runs 160 73 [some (.ref a), x1, x2, x3, x4] st h Q ↔ Runs 160 74 [some (.ref a), x1, x2, x3, x4] (.ref a :: st) h Q := R_aldn rfl rfl
theorem s160_73q : Runs 160 73 [some (zrf r), x1, x2, x3, x4] st h Q ↔ Runs 160 74 [some (zrf r), x1, x2, x3, x4] (zrf r :: st) h Q := R_aldnq rfl rfl
theorem s160_74 (ht : tg a = 10) : Runs 160 74 ls (.ref a :: st) (n, tg, ln, I, J, O) Q ↔ Runs 160 77 ls (zrf (O a 0) :: st) (n, tg, ln, I, J, O) Q := R_getr rfl rfl rfl rfl ht
theorem s160_77 : Runs 160 77 [x0, some (.int i), x2, x3, x4] st h Q ↔ Runs 160 78 [x0, some (.int i), x2, x3, x4] (.int i :: st) h Q := R_ildn rfl rfl
theorem s160_78 : Runs 160 78 ls st h Q ↔ Runs 160 79 ls (.int 1 :: st) h Q := R_iconst rfl rfl
theorem s160_79 : Runs 160 79 ls (.int j :: .int i :: st) h Q ↔ Runs 160 80 ls (.int (i + j) :: st) h Q := R_iadd rfl
theorem s160_80 (ht : tg a = 20) : Runs 160 80 ls (.int i :: .ref a :: st) (n, tg, ln, I, J, O) Q ↔ ((0 ≤ i ∧ i < Int32.ofNat (ln a)) ∧ Runs 160 81 ls (.int (I a i) :: st) (n, tg, ln, I, J, O) Q) := R_iald rfl ht
theorem s160_81 : Runs 160 81 ls st h Q ↔ Runs 160 82 ls (.int 1 :: st) h Q := R_iconst rfl rfl
theorem s160_82 : Runs 160 82 ls (.int j :: .int i :: st) h Q ↔ if ¬ i = j then Runs 160 98 ls st h Q else Runs 160 85 ls st h Q := R_icne rfl rfl
theorem s160_85 : Runs 160 85 [x0, x1, x2, some (.int i), x4] st h Q ↔ Runs 160 86 [x0, x1, x2, some (.int i), x4] (.int i :: st) h Q := R_ildn rfl rfl
theorem s160_86 : Runs 160 86 [x0, x1, some (.int i), x3, x4] st h Q ↔ Runs 160 87 [x0, x1, some (.int i), x3, x4] (.int i :: st) h Q := R_ildn rfl rfl
theorem s160_87 : Runs 160 87 ls (.int j :: .int i :: st) h Q ↔ if i ≤ j then Runs 160 94 ls st h Q else Runs 160 90 ls st h Q := R_icle rfl rfl
theorem s160_90 : Runs 160 90 ls st h Q ↔ Runs 160 91 ls (.int 1 :: st) h Q := R_iconst rfl rfl
theorem s160_91 : Runs 160 91 ls st h Q ↔ Runs 160 118 ls st h Q := R_goto rfl rfl
theorem s160_94 : Runs 160 94 ls st h Q ↔ Runs 160 95 ls (.int 0 :: st) h Q := R_iconst rfl rfl
theorem s160_95 : Runs 160 95 ls st h Q ↔ Runs 160 118 ls st h Q := R_goto rfl rfl
theorem s160_98 : Runs 160 98 [some (.ref a), x1, x2, x3, x4] st h Q ↔ Runs 160 99 [some (.ref a), x1, x2, x3, x4] (.ref a :: st) h Q := R_aldn rfl rfl
theorem s160_98q : Runs 160 98 [some (zrf r), x1, x2, x3, x4] st h Q ↔ Runs 160 99 [some (zrf r), x1, x2, x3, x4] (zrf r :: st) h Q := R_aldnq rfl rfl
theorem s160_99 : Runs 160 99 [x0, some (.int i), x2, x3, x4] st h Q ↔ Runs 160 100 [x0, some (.int i), x2, x3, x4] (.int i :: st) h Q := R_ildn rfl rfl
theorem s160_100 : Runs 160 100 ls st h Q ↔ Runs 160 101 ls (.int 1 :: st) h Q := R_iconst rfl rfl
theorem s160_101 (ht : tg a = 10) (hs : zsumc st ≤ 8) : Runs 160 101 ls (.int i1 :: .int i0 :: .ref a :: st) (n, tg, ln, I, J, O) Q ↔ Runs 159 0 [some (.ref a), some (.int i0), some (.int i1)] [] (n, tg, ln, I, J, O) (fun v h2 => Runs 160 104 ls (v.toList ++ st) h2 Q) := R_callv (a := a) (rest := st) rfl rfl rfl rfl rfl rfl rfl ht hs
theorem s160_104 : Runs 160 104 [some (.ref a), x1, x2, x3, x4] st h Q ↔ Runs 160 105 [some (.ref a), x1, x2, x3, x4] (.ref a :: st) h Q := R_aldn rfl rfl
theorem s160_104q : Runs 160 104 [some (zrf r), x1, x2, x3, x4] st h Q ↔ Runs 160 105 [some (zrf r), x1, x2, x3, x4] (zrf r :: st) h Q := R_aldnq rfl rfl
theorem s160_105 : Runs 160 105 [x0, some (.int i), x2, x3, x4] st h Q ↔ Runs 160 106 [x0, some (.int i), x2, x3, x4] (.int i :: st) h Q := R_ildn rfl rfl
theorem s160_106 : Runs 160 106 ls st h Q ↔ Runs 160 107 ls (.int 0 :: st) h Q := R_iconst rfl rfl
theorem s160_107 (ht : tg a = 10) (hs : zsumc st ≤ 8) : Runs 160 107 ls (.int i1 :: .int i0 :: .ref a :: st) (n, tg, ln, I, J, O) Q ↔ Runs 159 0 [some (.ref a), some (.int i0), some (.int i1)] [] (n, tg, ln, I, J, O) (fun v h2 => Runs 160 110 ls (v.toList ++ st) h2 Q) := R_callv (a := a) (rest := st) rfl rfl rfl rfl rfl rfl rfl ht hs
theorem s160_110 : Runs 160 110 ls (.int j :: .int i :: st) h Q ↔ if i ≤ j then Runs 160 117 ls st h Q else Runs 160 113 ls st h Q := R_icle rfl rfl
theorem s160_113 : Runs 160 113 ls st h Q ↔ Runs 160 114 ls (.int 1 :: st) h Q := R_iconst rfl rfl
theorem s160_114 : Runs 160 114 ls st h Q ↔ Runs 160 118 ls st h Q := R_goto rfl rfl
theorem s160_117 : Runs 160 117 ls st h Q ↔ Runs 160 118 ls (.int 0 :: st) h Q := R_iconst rfl rfl
theorem s160_118 : Runs 160 118 [x0, x1, x2, x3, x4] (.int i :: st) h Q ↔ Runs 160 120 [x0, x1, x2, zdrop x3, some (.int i)] st h Q := R_ist rfl rfl rfl
theorem s160_120 : Runs 160 120 [x0, x1, x2, x3, some (.int i)] st h Q ↔ Runs 160 122 [x0, x1, x2, x3, some (.int i)] (.int i :: st) h Q := R_ild rfl rfl
theorem s160_122 : Runs 160 122 ls (.int i :: st) h Q ↔ if i = 0 then Runs 160 129 ls st h Q else Runs 160 125 ls st h Q := R_ifeq rfl rfl
theorem s160_125 : Runs 160 125 ls st h Q ↔ Runs 160 126 ls (.int 1 :: st) h Q := R_iconst rfl rfl
theorem s160_126 : Runs 160 126 ls st h Q ↔ Runs 160 130 ls st h Q := R_goto rfl rfl
theorem s160_129 : Runs 160 129 ls st h Q ↔ Runs 160 130 ls (.int 0 :: st) h Q := R_iconst rfl rfl
theorem s160_130 : Runs 160 130 ls [.int i] h Q ↔ Q (some (.int i)) h := R_iret rfl rfl
theorem s161_0 : Runs 161 0 [some (.ref a), x1, x2, x3, x4] st h Q ↔ Runs 161 1 [some (.ref a), x1, x2, x3, x4] (.ref a :: st) h Q := R_aldn rfl rfl
theorem s161_0q : Runs 161 0 [some (zrf r), x1, x2, x3, x4] st h Q ↔ Runs 161 1 [some (zrf r), x1, x2, x3, x4] (zrf r :: st) h Q := R_aldnq rfl rfl
theorem s161_1 (ht : tg a = 10) : Runs 161 1 ls (.ref a :: st) (n, tg, ln, I, J, O) Q ↔ Runs 161 4 ls (zrf (O a 0) :: st) (n, tg, ln, I, J, O) Q := R_getr rfl rfl rfl rfl ht
theorem s161_4 : Runs 161 4 [x0, some (.int i), x2, x3, x4] st h Q ↔ Runs 161 5 [x0, some (.int i), x2, x3, x4] (.int i :: st) h Q := R_ildn rfl rfl
theorem s161_5 : Runs 161 5 ls st h Q ↔ Runs 161 6 ls (.int 4 :: st) h Q := R_iconst rfl rfl
theorem s161_6 : Runs 161 6 ls (.int j :: .int i :: st) h Q ↔ Runs 161 7 ls (.int (i + j) :: st) h Q := R_iadd rfl
theorem s161_7 : Runs 161 7 [x0, x1, some (.int i), x3, x4] st h Q ↔ Runs 161 8 [x0, x1, some (.int i), x3, x4] (.int i :: st) h Q := R_ildn rfl rfl
theorem s161_8 : Runs 161 8 ls (.int j :: .int i :: st) h Q ↔ Runs 161 9 ls (.int (i + j) :: st) h Q := R_iadd rfl
theorem s161_9 : Runs 161 9 ls (.int i :: .ref a :: st) h Q ↔ Runs 161 10 ls (.int i :: .ref a :: .int i :: .ref a :: st) h Q := R_dup2 rfl
theorem s161_10 (ht : tg a = 20) : Runs 161 10 ls (.int i :: .ref a :: st) (n, tg, ln, I, J, O) Q ↔ ((0 ≤ i ∧ i < Int32.ofNat (ln a)) ∧ Runs 161 11 ls (.int (I a i) :: st) (n, tg, ln, I, J, O) Q) := R_iald rfl ht
theorem s161_11 : Runs 161 11 ls st h Q ↔ Runs 161 12 ls (.int 1 :: st) h Q := R_iconst rfl rfl
theorem s161_12 : Runs 161 12 ls (.int j :: .int i :: st) h Q ↔ Runs 161 13 ls (.int (i - j) :: st) h Q := R_isub rfl
theorem s161_13 (ht : tg a = 20) : Runs 161 13 ls (.int j :: .int i :: .ref a :: st) (n, tg, ln, I, J, O) Q ↔ ((0 ≤ i ∧ i < Int32.ofNat (ln a)) ∧ Runs 161 14 ls st (n, tg, ln, zu I a i j, J, O) Q) := R_iast rfl ht
theorem s161_14 : Runs 161 14 [x0, x1, x2, some (.int i), x4] st h Q ↔ Runs 161 15 [x0, x1, x2, some (.int i), x4] (.int i :: st) h Q := R_ildn rfl rfl
theorem s161_15 : Runs 161 15 [x0, x1, x2, x3, x4] (.int i :: st) h Q ↔ Runs 161 17 [x0, x1, x2, zdrop x3, some (.int i)] st h Q := R_ist rfl rfl rfl
theorem s161_17 : Runs 161 17 [x0, x1, x2, x3, some (.int i)] st h Q ↔ Runs 161 19 [x0, x1, x2, x3, some (.int i)] (.int i :: st) h Q := R_ild rfl rfl
theorem s161_19 : Runs 161 19 [some (.ref a), x1, x2, x3, x4] st h Q ↔ Runs 161 20 [some (.ref a), x1, x2, x3, x4] (.ref a :: st) h Q := R_aldn rfl rfl
theorem s161_19q : Runs 161 19 [some (zrf r), x1, x2, x3, x4] st h Q ↔ Runs 161 20 [some (zrf r), x1, x2, x3, x4] (zrf r :: st) h Q := R_aldnq rfl rfl
theorem s161_20 (ht : tg a = 10) : Runs 161 20 ls (.ref a :: st) (n, tg, ln, I, J, O) Q ↔ Runs 161 23 ls (zrf (O a 0) :: st) (n, tg, ln, I, J, O) Q := R_getr rfl rfl rfl rfl ht
theorem s161_23 : Runs 161 23 [x0, some (.int i), x2, x3, x4] st h Q ↔ Runs 161 24 [x0, some (.int i), x2, x3, x4] (.int i :: st) h Q := R_ildn rfl rfl
theorem s161_24 : Runs 161 24 ls st h Q ↔ Runs 161 25 ls (.int 4 :: st) h Q := R_iconst rfl rfl
theorem s161_25 : Runs 161 25 ls (.int j :: .int i :: st) h Q ↔ Runs 161 26 ls (.int (i + j) :: st) h Q := R_iadd rfl
theorem s161_26 : Runs 161 26 [x0, x1, some (.int i), x3, x4] st h Q ↔ Runs 161 27 [x0, x1, some (.int i), x3, x4] (.int i :: st) h Q := R_ildn rfl rfl
theorem s161_27 : Runs 161 27 ls (.int j :: .int i :: st) h Q ↔ Runs 161 28 ls (.int (i + j) :: st) h Q := R_iadd rfl
theorem s161_28 (ht : tg a = 20) : Runs 161 28 ls (.int i :: .ref a :: st) (n, tg, ln, I, J, O) Q ↔ ((0 ≤ i ∧ i < Int32.ofNat (ln a)) ∧ Runs 161 29 ls (.int (I a i) :: st) (n, tg, ln, I, J, O) Q) := R_iald rfl ht
theorem s161_29 : Runs 161 29 ls (.int j :: .int i :: st) h Q ↔ if j ≤ i then Runs 161 74 ls st h Q else Runs 161 32 ls st h Q := R_icge rfl rfl
theorem s161_32 : Runs 161 32 [some (.ref a), x1, x2, x3, x4] st h Q ↔ Runs 161 33 [some (.ref a), x1, x2, x3, x4] (.ref a :: st) h Q := R_aldn rfl rfl
theorem s161_32q : Runs 161 32 [some (zrf r), x1, x2, x3, x4] st h Q ↔ Runs 161 33 [some (zrf r), x1, x2, x3, x4] (zrf r :: st) h Q := R_aldnq rfl rfl
theorem s161_33 (ht : tg a = 10) : Runs 161 33 ls (.ref a :: st) (n, tg, ln, I, J, O) Q ↔ Runs 161 36 ls (zrf (O a 0) :: st) (n, tg, ln, I, J, O) Q := R_getr rfl rfl rfl rfl ht
theorem s161_36 : Runs 161 36 [x0, some (.int i), x2, x3, x4] st h Q ↔ Runs 161 37 [x0, some (.int i), x2, x3, x4] (.int i :: st) h Q := R_ildn rfl rfl
theorem s161_37 : Runs 161 37 ls st h Q ↔ Runs 161 39 ls (.int 6 :: st) h Q := R_bipush rfl (by decide)
theorem s161_39 : Runs 161 39 ls (.int j :: .int i :: st) h Q ↔ Runs 161 40 ls (.int (i + j) :: st) h Q := R_iadd rfl
theorem s161_40 : Runs 161 40 ls st h Q ↔ Runs 161 42 ls (.int 12 :: st) h Q := R_bipush rfl (by decide)
theorem s161_42 : Runs 161 42 [x0, x1, some (.int i), x3, x4] st h Q ↔ Runs 161 43 [x0, x1, some (.int i), x3, x4] (.int i :: st) h Q := R_ildn rfl rfl
theorem s161_43 : Runs 161 43 ls (.int j :: .int i :: st) h Q ↔ Runs 161 44 ls (.int (i * j) :: st) h Q := R_imul rfl
theorem s161_44 : Runs 161 44 ls (.int j :: .int i :: st) h Q ↔ Runs 161 45 ls (.int (i + j) :: st) h Q := R_iadd rfl
theorem s161_45 : Runs 161 45 [x0, x1, x2, x3, some (.int i)] st h Q ↔ Runs 161 47 [x0, x1, x2, x3, some (.int i)] (.int i :: st) h Q := R_ild rfl rfl
theorem s161_47 : Runs 161 47 ls (.int j :: .int i :: st) h Q ↔ Runs 161 48 ls (.int (i + j) :: st) h Q := R_iadd rfl
theorem s161_48 : Runs 161 48 [some (.ref a), x1, x2, x3, x4] st h Q ↔ Runs 161 49 [some (.ref a), x1, x2, x3, x4] (.ref a :: st) h Q := R_aldn rfl rfl
theorem s161_48q : Runs 161 48 [some (zrf r), x1, x2, x3, x4] st h Q ↔ Runs 161 49 [some (zrf r), x1, x2, x3, x4] (zrf r :: st) h Q := R_aldnq rfl rfl
theorem s161_49 (ht : tg a = 10) : Runs 161 49 ls (.ref a :: st) (n, tg, ln, I, J, O) Q ↔ Runs 161 52 ls (zrf (O a 0) :: st) (n, tg, ln, I, J, O) Q := R_getr rfl rfl rfl rfl ht
theorem s161_52 : Runs 161 52 [x0, some (.int i), x2, x3, x4] st h Q ↔ Runs 161 53 [x0, some (.int i), x2, x3, x4] (.int i :: st) h Q := R_ildn rfl rfl
theorem s161_53 : Runs 161 53 ls st h Q ↔ Runs 161 55 ls (.int 6 :: st) h Q := R_bipush rfl (by decide)
theorem s161_55 : Runs 161 55 ls (.int j :: .int i :: st) h Q ↔ Runs 161 56 ls (.int (i + j) :: st) h Q := R_iadd rfl
theorem s161_56 : Runs 161 56 ls st h Q ↔ Runs 161 58 ls (.int 12 :: st) h Q := R_bipush rfl (by decide)
theorem s161_58 : Runs 161 58 [x0, x1, some (.int i), x3, x4] st h Q ↔ Runs 161 59 [x0, x1, some (.int i), x3, x4] (.int i :: st) h Q := R_ildn rfl rfl
theorem s161_59 : Runs 161 59 ls (.int j :: .int i :: st) h Q ↔ Runs 161 60 ls (.int (i * j) :: st) h Q := R_imul rfl
theorem s161_60 : Runs 161 60 ls (.int j :: .int i :: st) h Q ↔ Runs 161 61 ls (.int (i + j) :: st) h Q := R_iadd rfl
theorem s161_61 : Runs 161 61 [x0, x1, x2, x3, some (.int i)] st h Q ↔ Runs 161 63 [x0, x1, x2, x3, some (.int i)] (.int i :: st) h Q := R_ild rfl rfl
theorem s161_63 : Runs 161 63 ls (.int j :: .int i :: st) h Q ↔ Runs 161 64 ls (.int (i + j) :: st) h Q := R_iadd rfl
theorem s161_64 : Runs 161 64 ls st h Q ↔ Runs 161 65 ls (.int 1 :: st) h Q := R_iconst rfl rfl
theorem s161_65 : Runs 161 65 ls (.int j :: .int i :: st) h Q ↔ Runs 161 66 ls (.int (i + j) :: st) h Q := R_iadd rfl
theorem s161_66 (ht : tg a = 20) : Runs 161 66 ls (.int i :: .ref a :: st) (n, tg, ln, I, J, O) Q ↔ ((0 ≤ i ∧ i < Int32.ofNat (ln a)) ∧ Runs 161 67 ls (.int (I a i) :: st) (n, tg, ln, I, J, O) Q) := R_iald rfl ht
theorem s161_67 (ht : tg a = 20) : Runs 161 67 ls (.int j :: .int i :: .ref a :: st) (n, tg, ln, I, J, O) Q ↔ ((0 ≤ i ∧ i < Int32.ofNat (ln a)) ∧ Runs 161 68 ls st (n, tg, ln, zu I a i j, J, O) Q) := R_iast rfl ht
theorem s161_68 : Runs 161 68 [x0, x1, x2, x3, some (.int i)] st h Q ↔ Runs 161 71 [x0, x1, x2, zdrop x3, some (.int (i + 1))] st h Q := R_iinc rfl rfl rfl rfl rfl
theorem s161_71 : Runs 161 71 ls st h Q ↔ Runs 161 17 ls st h Q := R_goto rfl rfl
theorem s161_74 : Runs 161 74 ls [] h Q ↔ Q none h := R_vret rfl rfl
theorem s162_0 : Runs 162 0 [some (.ref a), x1, x2, x3, x4, x5] st h Q ↔ Runs 162 1 [some (.ref a), x1, x2, x3, x4, x5] (.ref a :: st) h Q := R_aldn rfl rfl
theorem s162_0q : Runs 162 0 [some (zrf r), x1, x2, x3, x4, x5] st h Q ↔ Runs 162 1 [some (zrf r), x1, x2, x3, x4, x5] (zrf r :: st) h Q := R_aldnq rfl rfl
theorem s162_1 (ht : tg a = 10) : Runs 162 1 ls (.ref a :: st) (n, tg, ln, I, J, O) Q ↔ Runs 162 4 ls (zrf (O a 0) :: st) (n, tg, ln, I, J, O) Q := R_getr rfl rfl rfl rfl ht
theorem s162_4 : Runs 162 4 [x0, some (.int i), x2, x3, x4, x5] st h Q ↔ Runs 162 5 [x0, some (.int i), x2, x3, x4, x5] (.int i :: st) h Q := R_ildn rfl rfl
theorem s162_5 : Runs 162 5 ls st h Q ↔ Runs 162 6 ls (.int 4 :: st) h Q := R_iconst rfl rfl
theorem s162_6 : Runs 162 6 ls (.int j :: .int i :: st) h Q ↔ Runs 162 7 ls (.int (i + j) :: st) h Q := R_iadd rfl
theorem s162_7 : Runs 162 7 [x0, x1, some (.int i), x3, x4, x5] st h Q ↔ Runs 162 8 [x0, x1, some (.int i), x3, x4, x5] (.int i :: st) h Q := R_ildn rfl rfl
theorem s162_8 : Runs 162 8 ls (.int j :: .int i :: st) h Q ↔ Runs 162 9 ls (.int (i + j) :: st) h Q := R_iadd rfl
theorem s162_9 (ht : tg a = 20) : Runs 162 9 ls (.int i :: .ref a :: st) (n, tg, ln, I, J, O) Q ↔ ((0 ≤ i ∧ i < Int32.ofNat (ln a)) ∧ Runs 162 10 ls (.int (I a i) :: st) (n, tg, ln, I, J, O) Q) := R_iald rfl ht
theorem s162_10 : Runs 162 10 [x0, x1, x2, x3, x4, x5] (.int i :: st) h Q ↔ Runs 162 11 [x0, x1, zdrop x2, some (.int i), x4, x5] st h Q := R_istn rfl rfl rfl
theorem s162_11 : Runs 162 11 [x0, x1, x2, some (.int i), x4, x5] st h Q ↔ Runs 162 12 [x0, x1, x2, some (.int i), x4, x5] (.int i :: st) h Q := R_ildn rfl rfl
theorem s162_12 : Runs 162 12 ls (.int i :: st) h Q ↔ if ¬ i = 0 then Runs 162 18 ls st h Q else Runs 162 15 ls st h Q := R_ifne rfl rfl
theorem s162_15 : Runs 162 15 ls st h Q ↔ Runs 162 17 ls (.int 99 :: st) h Q := R_bipush rfl (by decide)
theorem s162_17 : Runs 162 17 ls [.int i] h Q ↔ Q (some (.int i)) h := R_iret rfl rfl
theorem s162_18 : Runs 162 18 [some (.ref a), x1, x2, x3, x4, x5] st h Q ↔ Runs 162 19 [some (.ref a), x1, x2, x3, x4, x5] (.ref a :: st) h Q := R_aldn rfl rfl
theorem s162_18q : Runs 162 18 [some (zrf r), x1, x2, x3, x4, x5] st h Q ↔ Runs 162 19 [some (zrf r), x1, x2, x3, x4, x5] (zrf r :: st) h Q := R_aldnq rfl rfl
theorem s162_19 : Runs 162 19 [x0, some (.int i), x2, x3, x4, x5] st h Q ↔ Runs 162 20 [x0, some (.int i), x2, x3, x4, x5] (.int i :: st) h Q := R_ildn rfl rfl
theorem s162_20 : Runs 162 20 [x0, x1, some (.int i), x3, x4, x5] st h Q ↔ Runs 162 21 [x0, x1, some (.int i), x3, x4, x5] (.int i :: st) h Q := R_ildn rfl rfl
theorem s162_21 : Runs 162 21 ls st h Q ↔ Runs 162 22 ls (.int 0 :: st) h Q := R_iconst rfl rfl
theorem s162_22 (ht : tg a = 10) (hs : zsumc st ≤ 8) : Runs 162 22 ls (.int i2 :: .int i1 :: .int i0 :: .ref a :: st) (n, tg, ln, I, J, O) Q ↔ Runs 152 0 [some (.ref a), some (.int i0), some (.int i1), some (.int i2)] [] (n, tg, ln, I, J, O) (fun v h2 => Runs 162 25 ls (v.toList ++ st) h2 Q) := R_callv (a := a) (rest := st) rfl rfl rfl rfl rfl rfl rfl ht hs
theorem s162_25 : Runs 162 25 ls st h Q ↔ Runs 162 27 ls (.int 11 :: st) h Q := R_bipush rfl (by decide)
theorem s162_27 : Runs 162 27 ls (.int j :: .int i :: st) h Q ↔ if i ≤ j then Runs 162 40 ls st h Q else Runs 162 30 ls st h Q := R_icle rfl rfl
theorem s162_30 : Runs 162 30 [some (.ref a), x1, x2, x3, x4, x5] st h Q ↔ Runs 162 31 [some (.ref a), x1, x2, x3, x4, x5] (.ref a :: st) h Q := R_aldn rfl rfl
theorem s162_30q : Runs 162 30 [some (zrf r), x1, x2, x3, x4, x5] st h Q ↔ Runs 162 31 [some (zrf r), x1, x2, x3, x4, x5] (zrf r :: st) h Q := R_aldnq rfl rfl
theorem s162_31 : Runs 162 31 [x0, some (.int i), x2, x3, x4, x5] st h Q ↔ Runs 162 32 [x0, some (.int i), x2, x3, x4, x5] (.int i :: st) h Q := R_ildn rfl rfl
theorem s162_32 : Runs 162 32 [x0, x1, some (.int i), x3, x4, x5] st h Q ↔ Runs 162 33 [x0, x1, some (.int i), x3, x4, x5] (.int i :: st) h Q := R_ildn rfl rfl
theorem s162_33 : Runs 162 33 ls st h Q ↔ Runs 162 34 ls (.int 0 :: st) h Q := R_iconst rfl rfl
theorem s162_34 (ht : tg a = 10) (hs : zsumc st ≤ 8) : Runs 162 34 ls (.int i2 :: .int i1 :: .int i0 :: .ref a :: st) (n, tg, ln, I, J, O) Q ↔ Runs 161 0 [some (.ref a), some (.int i0), some (.int i1), some (.int i2), none] [] (n, tg, ln, I, J, O) (fun v h2 => Runs 162 37 ls (v.toList ++ st) h2 Q) := R_callv (a := a) (rest := st) rfl rfl rfl rfl rfl rfl rfl ht hs
theorem s162_37 : Runs 162 37 ls st h Q ↔ Runs 162 39 ls (.int 99 :: st) h Q := R_bipush rfl (by decide)
theorem s162_39 : Runs 162 39 ls [.int i] h Q ↔ Q (some (.int i)) h := R_iret rfl rfl
theorem s162_40 : Runs 162 40 ls st h Q ↔ Runs 162 41 ls (.int 0 :: st) h Q := R_iconst rfl rfl
theorem s162_41 : Runs 162 41 [x0, x1, x2, x3, x4, x5] (.int i :: st) h Q ↔ Runs 162 43 [x0, x1, x2, zdrop x3, some (.int i), x5] st h Q := R_ist rfl rfl rfl
theorem s162_43 : Runs 162 43 [x0, x1, x2, x3, some (.int i), x5] st h Q ↔ Runs 162 45 [x0, x1, x2, x3, some (.int i), x5] (.int i :: st) h Q := R_ild rfl rfl
theorem s162_45 : Runs 162 45 [x0, x1, x2, some (.int i), x4, x5] st h Q ↔ Runs 162 46 [x0, x1, x2, some (.int i), x4, x5] (.int i :: st) h Q := R_ildn rfl rfl
theorem s162_46 : Runs 162 46 ls (.int j :: .int i :: st) h Q ↔ if j ≤ i then Runs 162 90 ls st h Q else Runs 162 49 ls st h Q := R_icge rfl rfl
theorem s162_49 : Runs 162 49 [some (.ref a), x1, x2, x3, x4, x5] st h Q ↔ Runs 162 50 [some (.ref a), x1, x2, x3, x4, x5] (.ref a :: st) h Q := R_aldn rfl rfl
theorem s162_49q : Runs 162 49 [some (zrf r), x1, x2, x3, x4, x5] st h Q ↔ Runs 162 50 [some (zrf r), x1, x2, x3, x4, x5] (zrf r :: st) h Q := R_aldnq rfl rfl
theorem s162_50 : Runs 162 50 [x0, some (.int i), x2, x3, x4, x5] st h Q ↔ Runs 162 51 [x0, some (.int i), x2, x3, x4, x5] (.int i :: st) h Q := R_ildn rfl rfl
theorem s162_51 : Runs 162 51 [x0, x1, some (.int i), x3, x4, x5] st h Q ↔ Runs 162 52 [x0, x1, some (.int i), x3, x4, x5] (.int i :: st) h Q := R_ildn rfl rfl
theorem s162_52 : Runs 162 52 [x0, x1, x2, x3, some (.int i), x5] st h Q ↔ Runs 162 54 [x0, x1, x2, x3, some (.int i), x5] (.int i :: st) h Q := R_ild rfl rfl
theorem s162_54 (ht : tg a = 10) (hs : zsumc st ≤ 8) : Runs 162 54 ls (.int i2 :: .int i1 :: .int i0 :: .ref a :: st) (n, tg, ln, I, J, O) Q ↔ Runs 152 0 [some (.ref a), some (.int i0), some (.int i1), some (.int i2)] [] (n, tg, ln, I, J, O) (fun v h2 => Runs 162 57 ls (v.toList ++ st) h2 Q) := R_callv (a := a) (rest := st) rfl rfl rfl rfl rfl rfl rfl ht hs
theorem s162_57 : Runs 162 57 ls st h Q ↔ Runs 162 59 ls (.int 12 :: st) h Q := R_bipush rfl (by decide)
theorem s162_59 : Runs 162 59 ls (.int j :: .int i :: st) h Q ↔ if j ≤ i then Runs 162 90 ls st h Q else Runs 162 62 ls st h Q := R_icge rfl rfl
theorem s162_62 : Runs 162 62 [some (.ref a), x1, x2, x3, x4, x5] st h Q ↔ Runs 162 63 [some (.ref a), x1, x2, x3, x4, x5] (.ref a :: st) h Q := R_aldn rfl rfl
theorem s162_62q : Runs 162 62 [some (zrf r), x1, x2, x3, x4, x5] st h Q ↔ Runs 162 63 [some (zrf r), x1, x2, x3, x4, x5] (zrf r :: st) h Q := R_aldnq rfl rfl
theorem s162_63 (ht : tg a = 10) : Runs 162 63 ls (.ref a :: st) (n, tg, ln, I, J, O) Q ↔ Runs 162 66 ls (zrf (O a 0) :: st) (n, tg, ln, I, J, O) Q := R_getr rfl rfl rfl rfl ht
theorem s162_66 : Runs 162 66 [x0, some (.int i), x2, x3, x4, x5] st h Q ↔ Runs 162 67 [x0, some (.int i), x2, x3, x4, x5] (.int i :: st) h Q := R_ildn rfl rfl
theorem s162_67 : Runs 162 67 ls st h Q ↔ Runs 162 69 ls (.int 30 :: st) h Q := R_bipush rfl (by decide)
theorem s162_69 : Runs 162 69 ls (.int j :: .int i :: st) h Q ↔ Runs 162 70 ls (.int (i + j) :: st) h Q := R_iadd rfl
theorem s162_70 : Runs 162 70 [some (.ref a), x1, x2, x3, x4, x5] st h Q ↔ Runs 162 71 [some (.ref a), x1, x2, x3, x4, x5] (.ref a :: st) h Q := R_aldn rfl rfl
theorem s162_70q : Runs 162 70 [some (zrf r), x1, x2, x3, x4, x5] st h Q ↔ Runs 162 71 [some (zrf r), x1, x2, x3, x4, x5] (zrf r :: st) h Q := R_aldnq rfl rfl
theorem s162_71 : Runs 162 71 [x0, some (.int i), x2, x3, x4, x5] st h Q ↔ Runs 162 72 [x0, some (.int i), x2, x3, x4, x5] (.int i :: st) h Q := R_ildn rfl rfl
theorem s162_72 : Runs 162 72 [x0, x1, some (.int i), x3, x4, x5] st h Q ↔ Runs 162 73 [x0, x1, some (.int i), x3, x4, x5] (.int i :: st) h Q := R_ildn rfl rfl
theorem s162_73 : Runs 162 73 [x0, x1, x2, x3, some (.int i), x5] st h Q ↔ Runs 162 75 [x0, x1, x2, x3, some (.int i), x5] (.int i :: st) h Q := R_ild rfl rfl
theorem s162_75 (ht : tg a = 10) (hs : zsumc st ≤ 8) : Runs 162 75 ls (.int i2 :: .int i1 :: .int i0 :: .ref a :: st) (n, tg, ln, I, J, O) Q ↔ Runs 152 0 [some (.ref a), some (.int i0), some (.int i1), some (.int i2)] [] (n, tg, ln, I, J, O) (fun v h2 => Runs 162 78 ls (v.toList ++ st) h2 Q) := R_callv (a := a) (rest := st) rfl rfl rfl rfl rfl rfl rfl ht hs
theorem s162_78 : Runs 162 78 ls (.int j :: .int i :: st) h Q ↔ Runs 162 79 ls (.int (i + j) :: st) h Q := R_iadd rfl
theorem s162_79 (ht : tg a = 20) : Runs 162 79 ls (.int i :: .ref a :: st) (n, tg, ln, I, J, O) Q ↔ ((0 ≤ i ∧ i < Int32.ofNat (ln a)) ∧ Runs 162 80 ls (.int (I a i) :: st) (n, tg, ln, I, J, O) Q) := R_iald rfl ht
theorem s162_80 : Runs 162 80 ls st h Q ↔ Runs 162 81 ls (.int 3 :: st) h Q := R_iconst rfl rfl
theorem s162_81 : Runs 162 81 ls (.int j :: .int i :: st) h Q ↔ if ¬ i = j then Runs 162 90 ls st h Q else Runs 162 84 ls st h Q := R_icne rfl rfl
theorem s162_84 : Runs 162 84 [x0, x1, x2, x3, some (.int i), x5] st h Q ↔ Runs 162 87 [x0, x1, x2, zdrop x3, some (.int (i + 1)), x5] st h Q := R_iinc rfl rfl rfl rfl rfl
theorem s162_87 : Runs 162 87 ls st h Q ↔ Runs 162 43 ls st h Q := R_goto rfl rfl
theorem s162_90 : Runs 162 90 [x0, x1, x2, x3, some (.int i), x5] st h Q ↔ Runs 162 92 [x0, x1, x2, x3, some (.int i), x5] (.int i :: st) h Q := R_ild rfl rfl
theorem s162_92 : Runs 162 92 [x0, x1, x2, some (.int i), x4, x5] st h Q ↔ Runs 162 93 [x0, x1, x2, some (.int i), x4, x5] (.int i :: st) h Q := R_ildn rfl rfl
theorem s162_93 : Runs 162 93 ls (.int j :: .int i :: st) h Q ↔ if i = j then Runs 162 109 ls st h Q else Runs 162 96 ls st h Q := R_iceq rfl rfl
theorem s162_96 : Runs 162 96 [some (.ref a), x1, x2, x3, x4, x5] st h Q ↔ Runs 162 97 [some (.ref a), x1, x2, x3, x4, x5] (.ref a :: st) h Q := R_aldn rfl rfl
theorem s162_96q : Runs 162 96 [some (zrf r), x1, x2, x3, x4, x5] st h Q ↔ Runs 162 97 [some (zrf r), x1, x2, x3, x4, x5] (zrf r :: st) h Q := R_aldnq rfl rfl
theorem s162_97 : Runs 162 97 [x0, some (.int i), x2, x3, x4, x5] st h Q ↔ Runs 162 98 [x0, some (.int i), x2, x3, x4, x5] (.int i :: st) h Q := R_ildn rfl rfl
theorem s162_98 : Runs 162 98 [x0, x1, some (.int i), x3, x4, x5] st h Q ↔ Runs 162 99 [x0, x1, some (.int i), x3, x4, x5] (.int i :: st) h Q := R_ildn rfl rfl
theorem s162_99 : Runs 162 99 [x0, x1, x2, x3, some (.int i), x5] st h Q ↔ Runs 162 101 [x0, x1, x2, x3, some (.int i), x5] (.int i :: st) h Q := R_ild rfl rfl
theorem s162_101 (ht : tg a = 10) (hs : zsumc st ≤ 8) : Runs 162 101 ls (.int i2 :: .int i1 :: .int i0 :: .ref a :: st) (n, tg, ln, I, J, O) Q ↔ Runs 152 0 [some (.ref a), some (.int i0), some (.int i1), some (.int i2)] [] (n, tg, ln, I, J, O) (fun v h2 => Runs 162 104 ls (v.toList ++ st) h2 Q) := R_callv (a := a) (rest := st) rfl rfl rfl rfl rfl rfl rfl ht hs
theorem s162_104 : Runs 162 104 ls st h Q ↔ Runs 162 106 ls (.int 11 :: st) h Q := R_bipush rfl (by decide)
theorem s162_106 : Runs 162 106 ls (.int j :: .int i :: st) h Q ↔ if i ≤ j then Runs 162 112 ls st h Q else Runs 162 109 ls st h Q := R_icle rfl rfl
theorem s162_109 : Runs 162 109 ls st h Q ↔ Runs 162 111 ls (.int 99 :: st) h Q := R_bipush rfl (by decide)
theorem s162_111 : Runs 162 111 ls [.int i] h Q ↔ Q (some (.int i)) h := R_iret rfl rfl
theorem s162_112 : Runs 162 112 [some (.ref a), x1, x2, x3, x4, x5] st h Q ↔ Runs 162 113 [some (.ref a), x1, x2, x3, x4, x5] (.ref a :: st) h Q := R_aldn rfl rfl
theorem s162_112q : Runs 162 112 [some (zrf r), x1, x2, x3, x4, x5] st h Q ↔ Runs 162 113 [some (zrf r), x1, x2, x3, x4, x5] (zrf r :: st) h Q := R_aldnq rfl rfl
theorem s162_113 : Runs 162 113 [x0, some (.int i), x2, x3, x4, x5] st h Q ↔ Runs 162 114 [x0, some (.int i), x2, x3, x4, x5] (.int i :: st) h Q := R_ildn rfl rfl
theorem s162_114 : Runs 162 114 [x0, x1, some (.int i), x3, x4, x5] st h Q ↔ Runs 162 115 [x0, x1, some (.int i), x3, x4, x5] (.int i :: st) h Q := R_ildn rfl rfl
theorem s162_115 : Runs 162 115 [x0, x1, x2, x3, some (.int i), x5] st h Q ↔ Runs 162 117 [x0, x1, x2, x3, some (.int i), x5] (.int i :: st) h Q := R_ild rfl rfl
theorem s162_117 (ht : tg a = 10) (hs : zsumc st ≤ 8) : Runs 162 117 ls (.int i2 :: .int i1 :: .int i0 :: .ref a :: st) (n, tg, ln, I, J, O) Q ↔ Runs 152 0 [some (.ref a), some (.int i0), some (.int i1), some (.int i2)] [] (n, tg, ln, I, J, O) (fun v h2 => Runs 162 120 ls (v.toList ++ st) h2 Q) := R_callv (a := a) (rest := st) rfl rfl rfl rfl rfl rfl rfl ht hs
theorem s162_120 : Runs 162 120 [x0, x1, x2, x3, x4, x5] (.int i :: st) h Q ↔ Runs 162 122 [x0, x1, x2, x3, zdrop x4, some (.int i)] st h Q := R_ist rfl rfl rfl
theorem s162_122 : Runs 162 122 [some (.ref a), x1, x2, x3, x4, x5] st h Q ↔ Runs 162 123 [some (.ref a), x1, x2, x3, x4, x5] (.ref a :: st) h Q := R_aldn rfl rfl
theorem s162_122q : Runs 162 122 [some (zrf r), x1, x2, x3, x4, x5] st h Q ↔ Runs 162 123 [some (zrf r), x1, x2, x3, x4, x5] (zrf r :: st) h Q := R_aldnq rfl rfl
theorem s162_123 (ht : tg a = 10) : Runs 162 123 ls (.ref a :: st) (n, tg, ln, I, J, O) Q ↔ Runs 162 126 ls (zrf (O a 0) :: st) (n, tg, ln, I, J, O) Q := R_getr rfl rfl rfl rfl ht
theorem s162_126 : Runs 162 126 [x0, some (.int i), x2, x3, x4, x5] st h Q ↔ Runs 162 127 [x0, some (.int i), x2, x3, x4, x5] (.int i :: st) h Q := R_ildn rfl rfl
theorem s162_127 : Runs 162 127 ls st h Q ↔ Runs 162 129 ls (.int 66 :: st) h Q := R_bipush rfl (by decide)
theorem s162_129 : Runs 162 129 ls (.int j :: .int i :: st) h Q ↔ Runs 162 130 ls (.int (i + j) :: st) h Q := R_iadd rfl
theorem s162_130 : Runs 162 130 [x0, x1, x2, x3, x4, some (.int i)] st h Q ↔ Runs 162 132 [x0, x1, x2, x3, x4, some (.int i)] (.int i :: st) h Q := R_ild rfl rfl
theorem s162_132 : Runs 162 132 ls (.int j :: .int i :: st) h Q ↔ Runs 162 133 ls (.int (i + j) :: st) h Q := R_iadd rfl
theorem s162_133 : Runs 162 133 ls (.int i :: .ref a :: st) h Q ↔ Runs 162 134 ls (.int i :: .ref a :: .int i :: .ref a :: st) h Q := R_dup2 rfl
theorem s162_134 (ht : tg a = 20) : Runs 162 134 ls (.int i :: .ref a :: st) (n, tg, ln, I, J, O) Q ↔ ((0 ≤ i ∧ i < Int32.ofNat (ln a)) ∧ Runs 162 135 ls (.int (I a i) :: st) (n, tg, ln, I, J, O) Q) := R_iald rfl ht
theorem s162_135 : Runs 162 135 ls st h Q ↔ Runs 162 136 ls (.int 1 :: st) h Q := R_iconst rfl rfl
theorem s162_136 : Runs 162 136 ls (.int j :: .int i :: st) h Q ↔ Runs 162 137 ls (.int (i + j) :: st) h Q := R_iadd rfl
theorem s162_137 (ht : tg a = 20) : Runs 162 137 ls (.int j :: .int i :: .ref a :: st) (n, tg, ln, I, J, O) Q ↔ ((0 ≤ i ∧ i < Int32.ofNat (ln a)) ∧ Runs 162 138 ls st (n, tg, ln, zu I a i j, J, O) Q) := R_iast rfl ht
theorem s162_138 : Runs 162 138 [some (.ref a), x1, x2, x3, x4, x5] st h Q ↔ Runs 162 139 [some (.ref a), x1, x2, x3, x4, x5] (.ref a :: st) h Q := R_aldn rfl rfl
theorem s162_138q : Runs 162 138 [some (zrf r), x1, x2, x3, x4, x5] st h Q ↔ Runs 162 139 [some (zrf r), x1, x2, x3, x4, x5] (zrf r :: st) h Q := R_aldnq rfl rfl
theorem s162_139 (ht : tg a = 10) : Runs 162 139 ls (.ref a :: st) (n, tg, ln, I, J, O) Q ↔ Runs 162 142 ls (zrf (O a 0) :: st) (n, tg, ln, I, J, O) Q := R_getr rfl rfl rfl rfl ht
theorem s162_142 : Runs 162 142 [x0, some (.int i), x2, x3, x4, x5] st h Q ↔ Runs 162 143 [x0, some (.int i), x2, x3, x4, x5] (.int i :: st) h Q := R_ildn rfl rfl
theorem s162_143 : Runs 162 143 ls st h Q ↔ Runs 162 145 ls (.int 66 :: st) h Q := R_bipush rfl (by decide)
theorem s162_145 : Runs 162 145 ls (.int j :: .int i :: st) h Q ↔ Runs 162 146 ls (.int (i + j) :: st) h Q := R_iadd rfl
theorem s162_146 : Runs 162 146 [x0, x1, x2, x3, x4, some (.int i)] st h Q ↔ Runs 162 148 [x0, x1, x2, x3, x4, some (.int i)] (.int i :: st) h Q := R_ild rfl rfl
theorem s162_148 : Runs 162 148 ls (.int j :: .int i :: st) h Q ↔ Runs 162 149 ls (.int (i + j) :: st) h Q := R_iadd rfl
theorem s162_149 (ht : tg a = 20) : Runs 162 149 ls (.int i :: .ref a :: st) (n, tg, ln, I, J, O) Q ↔ ((0 ≤ i ∧ i < Int32.ofNat (ln a)) ∧ Runs 162 150 ls (.int (I a i) :: st) (n, tg, ln, I, J, O) Q) := R_iald rfl ht
theorem s162_150 : Runs 162 150 [some (.ref a), x1, x2, x3, x4, x5] st h Q ↔ Runs 162 151 [some (.ref a), x1, x2, x3, x4, x5] (.ref a :: st) h Q := R_aldn rfl rfl
theorem s162_150q : Runs 162 150 [some (zrf r), x1, x2, x3, x4, x5] st h Q ↔ Runs 162 151 [some (zrf r), x1, x2, x3, x4, x5] (zrf r :: st) h Q := R_aldnq rfl rfl
theorem s162_151 (ht : tg a = 10) : Runs 162 151 ls (.ref a :: st) (n, tg, ln, I, J, O) Q ↔ Runs 162 154 ls (zrf (O a 0) :: st) (n, tg, ln, I, J, O) Q := R_getr rfl rfl rfl rfl ht
theorem s162_154 : Runs 162 154 [x0, some (.int i), x2, x3, x4, x5] st h Q ↔ Runs 162 155 [x0, some (.int i), x2, x3, x4, x5] (.int i :: st) h Q := R_ildn rfl rfl
theorem s162_155 : Runs 162 155 ls st h Q ↔ Runs 162 157 ls (.int 30 :: st) h Q := R_bipush rfl (by decide)
theorem s162_157 : Runs 162 157 ls (.int j :: .int i :: st) h Q ↔ Runs 162 158 ls (.int (i + j) :: st) h Q := R_iadd rfl
theorem s162_158 : Runs 162 158 [x0, x1, x2, x3, x4, some (.int i)] st h Q ↔ Runs 162 160 [x0, x1, x2, x3, x4, some (.int i)] (.int i :: st) h Q := R_ild rfl rfl
theorem s162_160 : Runs 162 160 ls (.int j :: .int i :: st) h Q ↔ Runs 162 161 ls (.int (i + j) :: st) h Q := R_iadd rfl
theorem s162_161 (ht : tg a = 20) : Runs 162 161 ls (.int i :: .ref a :: st) (n, tg, ln, I, J, O) Q ↔ ((0 ≤ i ∧ i < Int32.ofNat (ln a)) ∧ Runs 162 162 ls (.int (I a i) :: st) (n, tg, ln, I, J, O) Q) := R_iald rfl ht
theorem s162_162 (hs : zsumc st ≤ 8) : Runs 162 162 ls (.int i0 :: st) h Q ↔ Runs 154 0 [some (.int i0)] [] h (fun v h2 => Runs 162 165 ls (v.toList ++ st) h2 Q) := R_calls (rest := st) rfl rfl rfl (by simp) rfl rfl rfl rfl hs
theorem s162_165 : Runs 162 165 ls (.int j :: .int i :: st) h Q ↔ if j ≤ i then Runs 162 171 ls st h Q else Runs 162 168 ls st h Q := R_icge rfl rfl
theorem s162_168 : Runs 162 168 ls st h Q ↔ Runs 162 170 ls (.int 99 :: st) h Q := R_bipush rfl (by decide)
theorem s162_170 : Runs 162 170 ls [.int i] h Q ↔ Q (some (.int i)) h := R_iret rfl rfl
theorem s162_171 : Runs 162 171 [some (.ref a), x1, x2, x3, x4, x5] st h Q ↔ Runs 162 172 [some (.ref a), x1, x2, x3, x4, x5] (.ref a :: st) h Q := R_aldn rfl rfl
theorem s162_171q : Runs 162 171 [some (zrf r), x1, x2, x3, x4, x5] st h Q ↔ Runs 162 172 [some (zrf r), x1, x2, x3, x4, x5] (zrf r :: st) h Q := R_aldnq rfl rfl
theorem s162_172 (ht : tg a = 10) : Runs 162 172 ls (.ref a :: st) (n, tg, ln, I, J, O) Q ↔ Runs 162 175 ls (zrf (O a 0) :: st) (n, tg, ln, I, J, O) Q := R_getr rfl rfl rfl rfl ht
theorem s162_175 : Runs 162 175 [x0, some (.int i), x2, x3, x4, x5] st h Q ↔ Runs 162 176 [x0, some (.int i), x2, x3, x4, x5] (.int i :: st) h Q := R_ildn rfl rfl
theorem s162_176 : Runs 162 176 ls st h Q ↔ Runs 162 178 ls (.int 54 :: st) h Q := R_bipush rfl (by decide)
theorem s162_178 : Runs 162 178 ls (.int j :: .int i :: st) h Q ↔ Runs 162 179 ls (.int (i + j) :: st) h Q := R_iadd rfl
theorem s162_179 : Runs 162 179 [x0, x1, x2, x3, x4, some (.int i)] st h Q ↔ Runs 162 181 [x0, x1, x2, x3, x4, some (.int i)] (.int i :: st) h Q := R_ild rfl rfl
theorem s162_181 : Runs 162 181 ls (.int j :: .int i :: st) h Q ↔ Runs 162 182 ls (.int (i + j) :: st) h Q := R_iadd rfl
theorem s162_182 : Runs 162 182 ls st h Q ↔ Runs 162 183 ls (.int 1 :: st) h Q := R_iconst rfl rfl
theorem s162_183 (ht : tg a = 20) : Runs 162 183 ls (.int j :: .int i :: .ref a :: st) (n, tg, ln, I, J, O) Q ↔ ((0 ≤ i ∧ i < Int32.ofNat (ln a)) ∧ Runs 162 184 ls st (n, tg, ln, zu I a i j, J, O) Q) := R_iast rfl ht
theorem s162_184 : Runs 162 184 [some (.ref a), x1, x2, x3, x4, x5] st h Q ↔ Runs 162 185 [some (.ref a), x1, x2, x3, x4, x5] (.ref a :: st) h Q := R_aldn rfl rfl
theorem s162_184q : Runs 162 184 [some (zrf r), x1, x2, x3, x4, x5] st h Q ↔ Runs 162 185 [some (zrf r), x1, x2, x3, x4, x5] (zrf r :: st) h Q := R_aldnq rfl rfl
theorem s162_185 : Runs 162 185 [x0, some (.int i), x2, x3, x4, x5] st h Q ↔ Runs 162 186 [x0, some (.int i), x2, x3, x4, x5] (.int i :: st) h Q := R_ildn rfl rfl
theorem s162_186 : Runs 162 186 [x0, x1, some (.int i), x3, x4, x5] st h Q ↔ Runs 162 187 [x0, x1, some (.int i), x3, x4, x5] (.int i :: st) h Q := R_ildn rfl rfl
theorem s162_187 : Runs 162 187 [x0, x1, x2, x3, some (.int i), x5] st h Q ↔ Runs 162 189 [x0, x1, x2, x3, some (.int i), x5] (.int i :: st) h Q := R_ild rfl rfl
theorem s162_189 (ht : tg a = 10) (hs : zsumc st ≤ 8) : Runs 162 189 ls (.int i2 :: .int i1 :: .int i0 :: .ref a :: st) (n, tg, ln, I, J, O) Q ↔ Runs 161 0 [some (.ref a), some (.int i0), some (.int i1), some (.int i2), none] [] (n, tg, ln, I, J, O) (fun v h2 => Runs 162 192 ls (v.toList ++ st) h2 Q) := R_callv (a := a) (rest := st) rfl rfl rfl rfl rfl rfl rfl ht hs
theorem s162_192 : Runs 162 192 [x0, x1, x2, x3, x4, some (.int i)] st h Q ↔ Runs 162 194 [x0, x1, x2, x3, x4, some (.int i)] (.int i :: st) h Q := R_ild rfl rfl
theorem s162_194 : Runs 162 194 ls [.int i] h Q ↔ Q (some (.int i)) h := R_iret rfl rfl
theorem s163_0 : Runs 163 0 [some (.ref a), x1, x2, x3] st h Q ↔ Runs 163 1 [some (.ref a), x1, x2, x3] (.ref a :: st) h Q := R_aldn rfl rfl
theorem s163_0q : Runs 163 0 [some (zrf r), x1, x2, x3] st h Q ↔ Runs 163 1 [some (zrf r), x1, x2, x3] (zrf r :: st) h Q := R_aldnq rfl rfl
theorem s163_1 : Runs 163 1 [x0, some (.int i), x2, x3] st h Q ↔ Runs 163 2 [x0, some (.int i), x2, x3] (.int i :: st) h Q := R_ildn rfl rfl
theorem s163_2 : Runs 163 2 ls st h Q ↔ Runs 163 3 ls (.int 0 :: st) h Q := R_iconst rfl rfl
theorem s163_3 (ht : tg a = 10) (hs : zsumc st ≤ 8) : Runs 163 3 ls (.int i1 :: .int i0 :: .ref a :: st) (n, tg, ln, I, J, O) Q ↔ Runs 158 0 [some (.ref a), some (.int i0), some (.int i1), none, none, none, none] [] (n, tg, ln, I, J, O) (fun v h2 => Runs 163 6 ls (v.toList ++ st) h2 Q) := R_callv (a := a) (rest := st) rfl rfl rfl rfl rfl rfl rfl ht hs
theorem s163_6 : Runs 163 6 [some (.ref a), x1, x2, x3] st h Q ↔ Runs 163 7 [some (.ref a), x1, x2, x3] (.ref a :: st) h Q := R_aldn rfl rfl
theorem s163_6q : Runs 163 6 [some (zrf r), x1, x2, x3] st h Q ↔ Runs 163 7 [some (zrf r), x1, x2, x3] (zrf r :: st) h Q := R_aldnq rfl rfl
theorem s163_7 : Runs 163 7 [x0, some (.int i), x2, x3] st h Q ↔ Runs 163 8 [x0, some (.int i), x2, x3] (.int i :: st) h Q := R_ildn rfl rfl
theorem s163_8 : Runs 163 8 ls st h Q ↔ Runs 163 9 ls (.int 1 :: st) h Q := R_iconst rfl rfl
theorem s163_9 (ht : tg a = 10) (hs : zsumc st ≤ 8) : Runs 163 9 ls (.int i1 :: .int i0 :: .ref a :: st) (n, tg, ln, I, J, O) Q ↔ Runs 158 0 [some (.ref a), some (.int i0), some (.int i1), none, none, none, none] [] (n, tg, ln, I, J, O) (fun v h2 => Runs 163 12 ls (v.toList ++ st) h2 Q) := R_callv (a := a) (rest := st) rfl rfl rfl rfl rfl rfl rfl ht hs
theorem s163_12 : Runs 163 12 [some (.ref a), x1, x2, x3] st h Q ↔ Runs 163 13 [some (.ref a), x1, x2, x3] (.ref a :: st) h Q := R_aldn rfl rfl
theorem s163_12q : Runs 163 12 [some (zrf r), x1, x2, x3] st h Q ↔ Runs 163 13 [some (zrf r), x1, x2, x3] (zrf r :: st) h Q := R_aldnq rfl rfl
theorem s163_13 : Runs 163 13 [x0, some (.int i), x2, x3] st h Q ↔ Runs 163 14 [x0, some (.int i), x2, x3] (.int i :: st) h Q := R_ildn rfl rfl
theorem s163_14 (ht : tg a = 10) (hs : zsumc st ≤ 8) : Runs 163 14 ls (.int i0 :: .ref a :: st) (n, tg, ln, I, J, O) Q ↔ Runs 160 0 [some (.ref a), some (.int i0), none, none, none] [] (n, tg, ln, I, J, O) (fun v h2 => Runs 163 17 ls (v.toList ++ st) h2 Q) := R_callv (a := a) (rest := st) rfl rfl rfl rfl rfl rfl rfl ht hs
theorem s163_17 : Runs 163 17 [x0, x1, x2, x3] (.int i :: st) h Q ↔ Runs 163 18 [x0, zdrop x1, some (.int i), x3] st h Q := R_istn rfl rfl rfl
theorem s163_18 : Runs 163 18 [x0, x1, some (.int i), x3] st h Q ↔ Runs 163 19 [x0, x1, some (.int i), x3] (.int i :: st) h Q := R_ildn rfl rfl
theorem s163_19 : Runs 163 19 ls st h Q ↔ Runs 163 20 ls (.int (-1) :: st) h Q := R_iconst rfl rfl
theorem s163_20 : Runs 163 20 ls (.int j :: .int i :: st) h Q ↔ if ¬ i = j then Runs 163 28 ls st h Q else Runs 163 23 ls st h Q := R_icne rfl rfl
theorem s163_23 : Runs 163 23 ls st h Q ↔ Runs 163 25 ls (.int 99 :: st) h Q := R_bipush rfl (by decide)
theorem s163_25 : Runs 163 25 ls st h Q ↔ Runs 163 34 ls st h Q := R_goto rfl rfl
theorem s163_28 : Runs 163 28 [some (.ref a), x1, x2, x3] st h Q ↔ Runs 163 29 [some (.ref a), x1, x2, x3] (.ref a :: st) h Q := R_aldn rfl rfl
theorem s163_28q : Runs 163 28 [some (zrf r), x1, x2, x3] st h Q ↔ Runs 163 29 [some (zrf r), x1, x2, x3] (zrf r :: st) h Q := R_aldnq rfl rfl
theorem s163_29 : Runs 163 29 [x0, some (.int i), x2, x3] st h Q ↔ Runs 163 30 [x0, some (.int i), x2, x3] (.int i :: st) h Q := R_ildn rfl rfl
theorem s163_30 : Runs 163 30 [x0, x1, some (.int i), x3] st h Q ↔ Runs 163 31 [x0, x1, some (.int i), x3] (.int i :: st) h Q := R_ildn rfl rfl
theorem s163_31 (ht : tg a = 10) (hs : zsumc st ≤ 8) : Runs 163 31 ls (.int i1 :: .int i0 :: .ref a :: st) (n, tg, ln, I, J, O) Q ↔ Runs 162 0 [some (.ref a), some (.int i0), some (.int i1), none, none, none] [] (n, tg, ln, I, J, O) (fun v h2 => Runs 163 34 ls (v.toList ++ st) h2 Q) := R_callv (a := a) (rest := st) rfl rfl rfl rfl rfl rfl rfl ht hs
theorem s163_34 : Runs 163 34 [x0, x1, x2, x3] (.int i :: st) h Q ↔ Runs 163 35 [x0, x1, zdrop x2, some (.int i)] st h Q := R_istn rfl rfl rfl
theorem s163_35 : Runs 163 35 [some (.ref a), x1, x2, x3] st h Q ↔ Runs 163 36 [some (.ref a), x1, x2, x3] (.ref a :: st) h Q := R_aldn rfl rfl
theorem s163_35q : Runs 163 35 [some (zrf r), x1, x2, x3] st h Q ↔ Runs 163 36 [some (zrf r), x1, x2, x3] (zrf r :: st) h Q := R_aldnq rfl rfl
theorem s163_36 (ht : tg a = 10) : Runs 163 36 ls (.ref a :: st) (n, tg, ln, I, J, O) Q ↔ Runs 163 39 ls (zrf (O a 0) :: st) (n, tg, ln, I, J, O) Q := R_getr rfl rfl rfl rfl ht
theorem s163_39 : Runs 163 39 [x0, some (.int i), x2, x3] st h Q ↔ Runs 163 40 [x0, some (.int i), x2, x3] (.int i :: st) h Q := R_ildn rfl rfl
theorem s163_40 : Runs 163 40 ls st h Q ↔ Runs 163 41 ls (.int 1 :: st) h Q := R_iconst rfl rfl
theorem s163_41 : Runs 163 41 ls (.int j :: .int i :: st) h Q ↔ Runs 163 42 ls (.int (i + j) :: st) h Q := R_iadd rfl
theorem s163_42 (ht : tg a = 20) : Runs 163 42 ls (.int i :: .ref a :: st) (n, tg, ln, I, J, O) Q ↔ ((0 ≤ i ∧ i < Int32.ofNat (ln a)) ∧ Runs 163 43 ls (.int (I a i) :: st) (n, tg, ln, I, J, O) Q) := R_iald rfl ht
theorem s163_43 : Runs 163 43 ls (.int i :: st) h Q ↔ if ¬ i = 0 then Runs 163 62 ls st h Q else Runs 163 46 ls st h Q := R_ifne rfl rfl
theorem s163_46 : Runs 163 46 [x0, x1, some (.int i), x3] st h Q ↔ Runs 163 47 [x0, x1, some (.int i), x3] (.int i :: st) h Q := R_ildn rfl rfl
theorem s163_47 : Runs 163 47 ls st h Q ↔ Runs 163 48 ls (.int (-1) :: st) h Q := R_iconst rfl rfl
theorem s163_48 : Runs 163 48 ls (.int j :: .int i :: st) h Q ↔ if i = j then Runs 163 62 ls st h Q else Runs 163 51 ls st h Q := R_iceq rfl rfl
theorem s163_51 : Runs 163 51 [some (.ref a), x1, x2, x3] st h Q ↔ Runs 163 52 [some (.ref a), x1, x2, x3] (.ref a :: st) h Q := R_aldn rfl rfl
theorem s163_51q : Runs 163 51 [some (zrf r), x1, x2, x3] st h Q ↔ Runs 163 52 [some (zrf r), x1, x2, x3] (zrf r :: st) h Q := R_aldnq rfl rfl
theorem s163_52 (ht : tg a = 10) : Runs 163 52 ls (.ref a :: st) (n, tg, ln, I, J, O) Q ↔ Runs 163 55 ls (zrf (O a 0) :: st) (n, tg, ln, I, J, O) Q := R_getr rfl rfl rfl rfl ht
theorem s163_55 : Runs 163 55 [x0, some (.int i), x2, x3] st h Q ↔ Runs 163 56 [x0, some (.int i), x2, x3] (.int i :: st) h Q := R_ildn rfl rfl
theorem s163_56 : Runs 163 56 ls st h Q ↔ Runs 163 57 ls (.int 3 :: st) h Q := R_iconst rfl rfl
theorem s163_57 : Runs 163 57 ls (.int j :: .int i :: st) h Q ↔ Runs 163 58 ls (.int (i + j) :: st) h Q := R_iadd rfl
theorem s163_58 : Runs 163 58 ls st h Q ↔ Runs 163 59 ls (.int 1 :: st) h Q := R_iconst rfl rfl
theorem s163_59 : Runs 163 59 [x0, x1, some (.int i), x3] st h Q ↔ Runs 163 60 [x0, x1, some (.int i), x3] (.int i :: st) h Q := R_ildn rfl rfl
theorem s163_60 : Runs 163 60 ls (.int j :: .int i :: st) h Q ↔ Runs 163 61 ls (.int (i - j) :: st) h Q := R_isub rfl
theorem s163_61 (ht : tg a = 20) : Runs 163 61 ls (.int j :: .int i :: .ref a :: st) (n, tg, ln, I, J, O) Q ↔ ((0 ≤ i ∧ i < Int32.ofNat (ln a)) ∧ Runs 163 62 ls st (n, tg, ln, zu I a i j, J, O) Q) := R_iast rfl ht
theorem s163_62 : Runs 163 62 [some (.ref a), x1, x2, x3] st h Q ↔ Runs 163 63 [some (.ref a), x1, x2, x3] (.ref a :: st) h Q := R_aldn rfl rfl
theorem s163_62q : Runs 163 62 [some (zrf r), x1, x2, x3] st h Q ↔ Runs 163 63 [some (zrf r), x1, x2, x3] (zrf r :: st) h Q := R_aldnq rfl rfl
theorem s163_63 (ht : tg a = 10) : Runs 163 63 ls (.ref a :: st) (n, tg, ln, I, J, O) Q ↔ Runs 163 66 ls (zrf (O a 0) :: st) (n, tg, ln, I, J, O) Q := R_getr rfl rfl rfl rfl ht
theorem s163_66 : Runs 163 66 [x0, some (.int i), x2, x3] st h Q ↔ Runs 163 67 [x0, some (.int i), x2, x3] (.int i :: st) h Q := R_ildn rfl rfl
theorem s163_67 : Runs 163 67 ls st h Q ↔ Runs 163 68 ls (.int 2 :: st) h Q := R_iconst rfl rfl
theorem s163_68 : Runs 163 68 ls (.int j :: .int i :: st) h Q ↔ Runs 163 69 ls (.int (i + j) :: st) h Q := R_iadd rfl
theorem s163_69 : Runs 163 69 ls (.int i :: .ref a :: st) h Q ↔ Runs 163 70 ls (.int i :: .ref a :: .int i :: .ref a :: st) h Q := R_dup2 rfl
theorem s163_70 (ht : tg a = 20) : Runs 163 70 ls (.int i :: .ref a :: st) (n, tg, ln, I, J, O) Q ↔ ((0 ≤ i ∧ i < Int32.ofNat (ln a)) ∧ Runs 163 71 ls (.int (I a i) :: st) (n, tg, ln, I, J, O) Q) := R_iald rfl ht
theorem s163_71 : Runs 163 71 ls st h Q ↔ Runs 163 72 ls (.int 1 :: st) h Q := R_iconst rfl rfl
theorem s163_72 : Runs 163 72 ls (.int j :: .int i :: st) h Q ↔ Runs 163 73 ls (.int (i + j) :: st) h Q := R_iadd rfl
theorem s163_73 (ht : tg a = 20) : Runs 163 73 ls (.int j :: .int i :: .ref a :: st) (n, tg, ln, I, J, O) Q ↔ ((0 ≤ i ∧ i < Int32.ofNat (ln a)) ∧ Runs 163 74 ls st (n, tg, ln, zu I a i j, J, O) Q) := R_iast rfl ht
theorem s163_74 : Runs 163 74 [x0, x1, x2, some (.int i)] st h Q ↔ Runs 163 75 [x0, x1, x2, some (.int i)] (.int i :: st) h Q := R_ildn rfl rfl
theorem s163_75 : Runs 163 75 ls [.int i] h Q ↔ Q (some (.int i)) h := R_iret rfl rfl
theorem s164_0 : Runs 164 0 [some (.ref a), x1] st h Q ↔ Runs 164 1 [some (.ref a), x1] (.ref a :: st) h Q := R_aldn rfl rfl
theorem s164_0q : Runs 164 0 [some (zrf r), x1] st h Q ↔ Runs 164 1 [some (zrf r), x1] (zrf r :: st) h Q := R_aldnq rfl rfl
theorem s164_1 (ht : tg a = 10) : Runs 164 1 ls (.ref a :: st) (n, tg, ln, I, J, O) Q ↔ Runs 164 4 ls (.int (I a 1) :: st) (n, tg, ln, I, J, O) Q := R_geti rfl rfl rfl rfl ht
theorem s164_4 : Runs 164 4 ls st h Q ↔ Runs 164 6 ls (.int 8 :: st) h Q := R_bipush rfl (by decide)
theorem s164_6 : Runs 164 6 ls (.int j :: .int i :: st) h Q ↔ if ¬ i = j then Runs 164 54 ls st h Q else Runs 164 9 ls st h Q := R_icne rfl rfl
theorem s164_9 : Runs 164 9 ls st h Q ↔ Runs 164 10 ls (.int 0 :: st) h Q := R_iconst rfl rfl
theorem s164_10 : Runs 164 10 [x0, x1] (.int i :: st) h Q ↔ Runs 164 11 [zdrop x0, some (.int i)] st h Q := R_istn rfl rfl rfl
theorem s164_11 : Runs 164 11 [x0, some (.int i)] st h Q ↔ Runs 164 12 [x0, some (.int i)] (.int i :: st) h Q := R_ildn rfl rfl
theorem s164_12 : Runs 164 12 ls st h Q ↔ Runs 164 15 ls (.int 630 :: st) h Q := R_sipush rfl (by decide)
theorem s164_15 : Runs 164 15 ls (.int j :: .int i :: st) h Q ↔ if j ≤ i then Runs 164 44 ls st h Q else Runs 164 18 ls st h Q := R_icge rfl rfl
theorem s164_18 : Runs 164 18 [some (.ref a), x1] st h Q ↔ Runs 164 19 [some (.ref a), x1] (.ref a :: st) h Q := R_aldn rfl rfl
theorem s164_18q : Runs 164 18 [some (zrf r), x1] st h Q ↔ Runs 164 19 [some (zrf r), x1] (zrf r :: st) h Q := R_aldnq rfl rfl
theorem s164_19 (ht : tg a = 10) : Runs 164 19 ls (.ref a :: st) (n, tg, ln, I, J, O) Q ↔ Runs 164 22 ls (zrf (O a 0) :: st) (n, tg, ln, I, J, O) Q := R_getr rfl rfl rfl rfl ht
theorem s164_22 : Runs 164 22 ls st h Q ↔ Runs 164 25 ls (.int 180 :: st) h Q := R_sipush rfl (by decide)
theorem s164_25 : Runs 164 25 [x0, some (.int i)] st h Q ↔ Runs 164 26 [x0, some (.int i)] (.int i :: st) h Q := R_ildn rfl rfl
theorem s164_26 : Runs 164 26 ls (.int j :: .int i :: st) h Q ↔ Runs 164 27 ls (.int (i + j) :: st) h Q := R_iadd rfl
theorem s164_27 : Runs 164 27 [some (.ref a), x1] st h Q ↔ Runs 164 28 [some (.ref a), x1] (.ref a :: st) h Q := R_aldn rfl rfl
theorem s164_27q : Runs 164 27 [some (zrf r), x1] st h Q ↔ Runs 164 28 [some (zrf r), x1] (zrf r :: st) h Q := R_aldnq rfl rfl
theorem s164_28 (ht : tg a = 10) : Runs 164 28 ls (.ref a :: st) (n, tg, ln, I, J, O) Q ↔ Runs 164 31 ls (zrf (O a 0) :: st) (n, tg, ln, I, J, O) Q := R_getr rfl rfl rfl rfl ht
theorem s164_31 : Runs 164 31 ls st h Q ↔ Runs 164 34 ls (.int 270 :: st) h Q := R_sipush rfl (by decide)
theorem s164_34 : Runs 164 34 [x0, some (.int i)] st h Q ↔ Runs 164 35 [x0, some (.int i)] (.int i :: st) h Q := R_ildn rfl rfl
theorem s164_35 : Runs 164 35 ls (.int j :: .int i :: st) h Q ↔ Runs 164 36 ls (.int (i + j) :: st) h Q := R_iadd rfl
theorem s164_36 (ht : tg a = 20) : Runs 164 36 ls (.int i :: .ref a :: st) (n, tg, ln, I, J, O) Q ↔ ((0 ≤ i ∧ i < Int32.ofNat (ln a)) ∧ Runs 164 37 ls (.int (I a i) :: st) (n, tg, ln, I, J, O) Q) := R_iald rfl ht
theorem s164_37 (ht : tg a = 20) : Runs 164 37 ls (.int j :: .int i :: .ref a :: st) (n, tg, ln, I, J, O) Q ↔ ((0 ≤ i ∧ i < Int32.ofNat (ln a)) ∧ Runs 164 38 ls st (n, tg, ln, zu I a i j, J, O) Q) := R_iast rfl ht
theorem s164_38 : Runs 164 38 [x0, some (.int i)] st h Q ↔ Runs 164 41 [zdrop x0, some (.int (i + 1))] st h Q := R_iinc rfl rfl rfl rfl rfl
theorem s164_41 : Runs 164 41 ls st h Q ↔ Runs 164 11 ls st h Q := R_goto rfl rfl
theorem s164_44 : Runs 164 44 [some (.ref a), x1] st h Q ↔ Runs 164 45 [some (.ref a), x1] (.ref a :: st) h Q := R_aldn rfl rfl
theorem s164_44q : Runs 164 44 [some (zrf r), x1] st h Q ↔ Runs 164 45 [some (zrf r), x1] (zrf r :: st) h Q := R_aldnq rfl rfl
theorem s164_45 : Runs 164 45 ls (.int i :: st) h Q ↔ Runs 164 46 ls (.int i :: .int i :: st) h Q := R_dupi rfl
theorem s164_45q : Runs 164 45 ls (.ref a :: st) h Q ↔ Runs 164 46 ls (.ref a :: .ref a :: st) h Q := R_dupr rfl
theorem s164_46 (ht : tg a = 10) : Runs 164 46 ls (.ref a :: st) (n, tg, ln, I, J, O) Q ↔ Runs 164 49 ls (.int (I a 1) :: st) (n, tg, ln, I, J, O) Q := R_geti rfl rfl rfl rfl ht
theorem s164_49 : Runs 164 49 ls st h Q ↔ Runs 164 50 ls (.int 1 :: st) h Q := R_iconst rfl rfl
theorem s164_50 : Runs 164 50 ls (.int j :: .int i :: st) h Q ↔ Runs 164 51 ls (.int (i - j) :: st) h Q := R_isub rfl
theorem s164_51 (ht : tg a = 10) : Runs 164 51 ls (.int i :: .ref a :: st) (n, tg, ln, I, J, O) Q ↔ Runs 164 54 ls st (n, tg, ln, zu I a 1 i, J, O) Q := R_puti rfl rfl rfl rfl rfl rfl ht
theorem s164_54 : Runs 164 54 [some (.ref a), x1] st h Q ↔ Runs 164 55 [some (.ref a), x1] (.ref a :: st) h Q := R_aldn rfl rfl
theorem s164_54q : Runs 164 54 [some (zrf r), x1] st h Q ↔ Runs 164 55 [some (zrf r), x1] (zrf r :: st) h Q := R_aldnq rfl rfl
theorem s164_55 : Runs 164 55 ls st h Q ↔ Runs 164 56 ls (.int 0 :: st) h Q := R_iconst rfl rfl
theorem s164_56 : Runs 164 56 ls st h Q ↔ Runs 164 59 ls (.int 180 :: st) h Q := R_sipush rfl (by decide)
theorem s164_59 : Runs 164 59 ls st h Q ↔ Runs 164 61 ls (.int 90 :: st) h Q := R_bipush rfl (by decide)
theorem s164_61 : Runs 164 61 [some (.ref a), x1] st h Q ↔ Runs 164 62 [some (.ref a), x1] (.ref a :: st) h Q := R_aldn rfl rfl
theorem s164_61q : Runs 164 61 [some (zrf r), x1] st h Q ↔ Runs 164 62 [some (zrf r), x1] (zrf r :: st) h Q := R_aldnq rfl rfl
theorem s164_62 (ht : tg a = 10) : Runs 164 62 ls (.ref a :: st) (n, tg, ln, I, J, O) Q ↔ Runs 164 65 ls (.int (I a 1) :: st) (n, tg, ln, I, J, O) Q := R_geti rfl rfl rfl rfl ht
theorem s164_65 : Runs 164 65 ls (.int j :: .int i :: st) h Q ↔ Runs 164 66 ls (.int (i * j) :: st) h Q := R_imul rfl
theorem s164_66 : Runs 164 66 ls (.int j :: .int i :: st) h Q ↔ Runs 164 67 ls (.int (i + j) :: st) h Q := R_iadd rfl
theorem s164_67 (ht : tg a = 10) (hs : zsumc st ≤ 8) : Runs 164 67 ls (.int i1 :: .int i0 :: .ref a :: st) (n, tg, ln, I, J, O) Q ↔ Runs 149 0 [some (.ref a), some (.int i0), some (.int i1), none] [] (n, tg, ln, I, J, O) (fun v h2 => Runs 164 70 ls (v.toList ++ st) h2 Q) := R_callv (a := a) (rest := st) rfl rfl rfl rfl rfl rfl rfl ht hs
theorem s164_70 : Runs 164 70 [some (.ref a), x1] st h Q ↔ Runs 164 71 [some (.ref a), x1] (.ref a :: st) h Q := R_aldn rfl rfl
theorem s164_70q : Runs 164 70 [some (zrf r), x1] st h Q ↔ Runs 164 71 [some (zrf r), x1] (zrf r :: st) h Q := R_aldnq rfl rfl
theorem s164_71 : Runs 164 71 ls (.int i :: st) h Q ↔ Runs 164 72 ls (.int i :: .int i :: st) h Q := R_dupi rfl
theorem s164_71q : Runs 164 71 ls (.ref a :: st) h Q ↔ Runs 164 72 ls (.ref a :: .ref a :: st) h Q := R_dupr rfl
theorem s164_72 (ht : tg a = 10) : Runs 164 72 ls (.ref a :: st) (n, tg, ln, I, J, O) Q ↔ Runs 164 75 ls (.int (I a 1) :: st) (n, tg, ln, I, J, O) Q := R_geti rfl rfl rfl rfl ht
theorem s164_75 : Runs 164 75 ls st h Q ↔ Runs 164 76 ls (.int 1 :: st) h Q := R_iconst rfl rfl
theorem s164_76 : Runs 164 76 ls (.int j :: .int i :: st) h Q ↔ Runs 164 77 ls (.int (i + j) :: st) h Q := R_iadd rfl
theorem s164_77 (ht : tg a = 10) : Runs 164 77 ls (.int i :: .ref a :: st) (n, tg, ln, I, J, O) Q ↔ Runs 164 80 ls st (n, tg, ln, zu I a 1 i, J, O) Q := R_puti rfl rfl rfl rfl rfl rfl ht
theorem s164_80 : Runs 164 80 ls [] h Q ↔ Q none h := R_vret rfl rfl
theorem s167_0 : Runs 167 0 [some (.ref a), x1, x2, x3] st h Q ↔ Runs 167 1 [some (.ref a), x1, x2, x3] (.ref a :: st) h Q := R_aldn rfl rfl
theorem s167_0q : Runs 167 0 [some (zrf r), x1, x2, x3] st h Q ↔ Runs 167 1 [some (zrf r), x1, x2, x3] (zrf r :: st) h Q := R_aldnq rfl rfl
theorem s167_1 : Runs 167 1 [x0, some (.int i), x2, x3] st h Q ↔ Runs 167 2 [x0, some (.int i), x2, x3] (.int i :: st) h Q := R_ildn rfl rfl
theorem s167_2 : Runs 167 2 [x0, x1, some (.int i), x3] st h Q ↔ Runs 167 3 [x0, x1, some (.int i), x3] (.int i :: st) h Q := R_ildn rfl rfl
theorem s167_3 (ht : tg a = 10) (hs : zsumc st ≤ 8) : Runs 167 3 ls (.int i1 :: .int i0 :: .ref a :: st) (n, tg, ln, I, J, O) Q ↔ Runs 153 0 [some (.ref a), some (.int i0), some (.int i1), none, none] [] (n, tg, ln, I, J, O) (fun v h2 => Runs 167 6 ls (v.toList ++ st) h2 Q) := R_callv (a := a) (rest := st) rfl rfl rfl rfl rfl rfl rfl ht hs
theorem s167_6 : Runs 167 6 [x0, x1, x2, x3] (.int i :: st) h Q ↔ Runs 167 7 [x0, x1, zdrop x2, some (.int i)] st h Q := R_istn rfl rfl rfl
theorem s167_7 : Runs 167 7 [some (.ref a), x1, x2, x3] st h Q ↔ Runs 167 8 [some (.ref a), x1, x2, x3] (.ref a :: st) h Q := R_aldn rfl rfl
theorem s167_7q : Runs 167 7 [some (zrf r), x1, x2, x3] st h Q ↔ Runs 167 8 [some (zrf r), x1, x2, x3] (zrf r :: st) h Q := R_aldnq rfl rfl
theorem s167_8 (ht : tg a = 10) : Runs 167 8 ls (.ref a :: st) (n, tg, ln, I, J, O) Q ↔ Runs 167 11 ls (zrf (O a 0) :: st) (n, tg, ln, I, J, O) Q := R_getr rfl rfl rfl rfl ht
theorem s167_11 : Runs 167 11 [x0, some (.int i), x2, x3] st h Q ↔ Runs 167 12 [x0, some (.int i), x2, x3] (.int i :: st) h Q := R_ildn rfl rfl
theorem s167_12 : Runs 167 12 ls st h Q ↔ Runs 167 14 ls (.int 6 :: st) h Q := R_bipush rfl (by decide)
theorem s167_14 : Runs 167 14 ls (.int j :: .int i :: st) h Q ↔ Runs 167 15 ls (.int (i + j) :: st) h Q := R_iadd rfl
theorem s167_15 : Runs 167 15 ls st h Q ↔ Runs 167 17 ls (.int 12 :: st) h Q := R_bipush rfl (by decide)
theorem s167_17 : Runs 167 17 [x0, x1, x2, some (.int i)] st h Q ↔ Runs 167 18 [x0, x1, x2, some (.int i)] (.int i :: st) h Q := R_ildn rfl rfl
theorem s167_18 : Runs 167 18 ls st h Q ↔ Runs 167 20 ls (.int 100 :: st) h Q := R_bipush rfl (by decide)
theorem s167_20 : Runs 167 20 ls (.int j :: .int i :: st) h Q ↔ (¬ j = 0 ∧ Runs 167 21 ls (.int (i / j) :: st) h Q) := R_idiv rfl
theorem s167_21 : Runs 167 21 ls (.int j :: .int i :: st) h Q ↔ Runs 167 22 ls (.int (i * j) :: st) h Q := R_imul rfl
theorem s167_22 : Runs 167 22 ls (.int j :: .int i :: st) h Q ↔ Runs 167 23 ls (.int (i + j) :: st) h Q := R_iadd rfl
theorem s167_23 : Runs 167 23 [x0, x1, x2, some (.int i)] st h Q ↔ Runs 167 24 [x0, x1, x2, some (.int i)] (.int i :: st) h Q := R_ildn rfl rfl
theorem s167_24 : Runs 167 24 ls st h Q ↔ Runs 167 26 ls (.int 100 :: st) h Q := R_bipush rfl (by decide)
theorem s167_26 : Runs 167 26 ls (.int j :: .int i :: st) h Q ↔ (¬ j = 0 ∧ Runs 167 27 ls (.int (i - i / j * j) :: st) h Q) := R_irem rfl
theorem s167_27 : Runs 167 27 ls (.int j :: .int i :: st) h Q ↔ Runs 167 28 ls (.int (i + j) :: st) h Q := R_iadd rfl
theorem s167_28 : Runs 167 28 ls st h Q ↔ Runs 167 30 ls (.int 50 :: st) h Q := R_bipush rfl (by decide)
theorem s167_30 : Runs 167 30 [x0, x1, some (.int i), x3] st h Q ↔ Runs 167 31 [x0, x1, some (.int i), x3] (.int i :: st) h Q := R_ildn rfl rfl
theorem s167_31 : Runs 167 31 ls (.int j :: .int i :: st) h Q ↔ Runs 167 32 ls (.int (i + j) :: st) h Q := R_iadd rfl
theorem s167_32 (ht : tg a = 20) : Runs 167 32 ls (.int j :: .int i :: .ref a :: st) (n, tg, ln, I, J, O) Q ↔ ((0 ≤ i ∧ i < Int32.ofNat (ln a)) ∧ Runs 167 33 ls st (n, tg, ln, zu I a i j, J, O) Q) := R_iast rfl ht
theorem s167_33 : Runs 167 33 [some (.ref a), x1, x2, x3] st h Q ↔ Runs 167 34 [some (.ref a), x1, x2, x3] (.ref a :: st) h Q := R_aldn rfl rfl
theorem s167_33q : Runs 167 33 [some (zrf r), x1, x2, x3] st h Q ↔ Runs 167 34 [some (zrf r), x1, x2, x3] (zrf r :: st) h Q := R_aldnq rfl rfl
theorem s167_34 (ht : tg a = 10) : Runs 167 34 ls (.ref a :: st) (n, tg, ln, I, J, O) Q ↔ Runs 167 37 ls (zrf (O a 0) :: st) (n, tg, ln, I, J, O) Q := R_getr rfl rfl rfl rfl ht
theorem s167_37 : Runs 167 37 [x0, some (.int i), x2, x3] st h Q ↔ Runs 167 38 [x0, some (.int i), x2, x3] (.int i :: st) h Q := R_ildn rfl rfl
theorem s167_38 : Runs 167 38 ls st h Q ↔ Runs 167 40 ls (.int 54 :: st) h Q := R_bipush rfl (by decide)
theorem s167_40 : Runs 167 40 ls (.int j :: .int i :: st) h Q ↔ Runs 167 41 ls (.int (i + j) :: st) h Q := R_iadd rfl
theorem s167_41 : Runs 167 41 [x0, x1, some (.int i), x3] st h Q ↔ Runs 167 42 [x0, x1, some (.int i), x3] (.int i :: st) h Q := R_ildn rfl rfl
theorem s167_42 : Runs 167 42 ls (.int j :: .int i :: st) h Q ↔ Runs 167 43 ls (.int (i + j) :: st) h Q := R_iadd rfl
theorem s167_43 : Runs 167 43 ls st h Q ↔ Runs 167 44 ls (.int 2 :: st) h Q := R_iconst rfl rfl
theorem s167_44 (ht : tg a = 20) : Runs 167 44 ls (.int j :: .int i :: .ref a :: st) (n, tg, ln, I, J, O) Q ↔ ((0 ≤ i ∧ i < Int32.ofNat (ln a)) ∧ Runs 167 45 ls st (n, tg, ln, zu I a i j, J, O) Q) := R_iast rfl ht
theorem s167_45 : Runs 167 45 [some (.ref a), x1, x2, x3] st h Q ↔ Runs 167 46 [some (.ref a), x1, x2, x3] (.ref a :: st) h Q := R_aldn rfl rfl
theorem s167_45q : Runs 167 45 [some (zrf r), x1, x2, x3] st h Q ↔ Runs 167 46 [some (zrf r), x1, x2, x3] (zrf r :: st) h Q := R_aldnq rfl rfl
theorem s167_46 (ht : tg a = 10) : Runs 167 46 ls (.ref a :: st) (n, tg, ln, I, J, O) Q ↔ Runs 167 49 ls (zrf (O a 0) :: st) (n, tg, ln, I, J, O) Q := R_getr rfl rfl rfl rfl ht
theorem s167_49 : Runs 167 49 [x0, some (.int i), x2, x3] st h Q ↔ Runs 167 50 [x0, some (.int i), x2, x3] (.int i :: st) h Q := R_ildn rfl rfl
theorem s167_50 : Runs 167 50 ls st h Q ↔ Runs 167 52 ls (.int 78 :: st) h Q := R_bipush rfl (by decide)
theorem s167_52 : Runs 167 52 ls (.int j :: .int i :: st) h Q ↔ Runs 167 53 ls (.int (i + j) :: st) h Q := R_iadd rfl
theorem s167_53 : Runs 167 53 [x0, x1, some (.int i), x3] st h Q ↔ Runs 167 54 [x0, x1, some (.int i), x3] (.int i :: st) h Q := R_ildn rfl rfl
theorem s167_54 : Runs 167 54 ls (.int j :: .int i :: st) h Q ↔ Runs 167 55 ls (.int (i + j) :: st) h Q := R_iadd rfl
theorem s167_55 : Runs 167 55 [x0, x1, x2, some (.int i)] st h Q ↔ Runs 167 56 [x0, x1, x2, some (.int i)] (.int i :: st) h Q := R_ildn rfl rfl
theorem s167_56 : Runs 167 56 ls st h Q ↔ Runs 167 58 ls (.int 100 :: st) h Q := R_bipush rfl (by decide)
theorem s167_58 : Runs 167 58 ls (.int j :: .int i :: st) h Q ↔ (¬ j = 0 ∧ Runs 167 59 ls (.int (i / j) :: st) h Q) := R_idiv rfl
theorem s167_59 (ht : tg a = 20) : Runs 167 59 ls (.int j :: .int i :: .ref a :: st) (n, tg, ln, I, J, O) Q ↔ ((0 ≤ i ∧ i < Int32.ofNat (ln a)) ∧ Runs 167 60 ls st (n, tg, ln, zu I a i j, J, O) Q) := R_iast rfl ht
theorem s167_60 : Runs 167 60 ls [] h Q ↔ Q none h := R_vret rfl rfl
theorem s175_0 : Runs 175 0 [some (.ref a)] st h Q ↔ Runs 175 1 [some (.ref a)] (.ref a :: st) h Q := R_aldn rfl rfl
theorem s175_0q : Runs 175 0 [some (zrf r)] st h Q ↔ Runs 175 1 [some (zrf r)] (zrf r :: st) h Q := R_aldnq rfl rfl
theorem s175_1 : Runs 175 1 ls st h Q ↔ Runs 175 2 ls (.int 0 :: st) h Q := R_iconst rfl rfl
theorem s175_2 : Runs 175 2 ls st h Q ↔ Runs 175 5 ls (.int 1080 :: st) h Q := R_sipush rfl (by decide)
theorem s175_5 (ht : tg a = 10) (hs : zsumc st ≤ 8) : Runs 175 5 ls (.int i1 :: .int i0 :: .ref a :: st) (n, tg, ln, I, J, O) Q ↔ Runs 149 0 [some (.ref a), some (.int i0), some (.int i1), none] [] (n, tg, ln, I, J, O) (fun v h2 => Runs 175 8 ls (v.toList ++ st) h2 Q) := R_callv (a := a) (rest := st) rfl rfl rfl rfl rfl rfl rfl ht hs
theorem s175_8 : Runs 175 8 ls [] h Q ↔ Q none h := R_vret rfl rfl
theorem s176_0 : Runs 176 0 ls st h Q ↔ Runs 176 1 ls (.int 1 :: st) h Q := R_iconst rfl rfl
theorem s176_1 : Runs 176 1 [x0, x1, x2, x3] (.int i :: st) h Q ↔ Runs 176 2 [x0, x1, zdrop x2, some (.int i)] st h Q := R_istn rfl rfl rfl
theorem s176_2 : Runs 176 2 [x0, x1, x2, some (.int i)] st h Q ↔ Runs 176 3 [x0, x1, x2, some (.int i)] (.int i :: st) h Q := R_ildn rfl rfl
theorem s176_3 : Runs 176 3 [x0, x1, some (.int i), x3] st h Q ↔ Runs 176 4 [x0, x1, some (.int i), x3] (.int i :: st) h Q := R_ildn rfl rfl
theorem s176_4 : Runs 176 4 ls (.int j :: .int i :: st) h Q ↔ if j < i then Runs 176 26 ls st h Q else Runs 176 7 ls st h Q := R_icgt rfl rfl
theorem s176_7 : Runs 176 7 [some (.ref a), x1, x2, x3] st h Q ↔ Runs 176 8 [some (.ref a), x1, x2, x3] (.ref a :: st) h Q := R_aldn rfl rfl
theorem s176_7q : Runs 176 7 [some (zrf r), x1, x2, x3] st h Q ↔ Runs 176 8 [some (zrf r), x1, x2, x3] (zrf r :: st) h Q := R_aldnq rfl rfl
theorem s176_8 : Runs 176 8 ls st h Q ↔ Runs 176 11 ls (.int 1080 :: st) h Q := R_sipush rfl (by decide)
theorem s176_11 (ht : tg a = 10) (hs : zsumc st ≤ 8) : Runs 176 11 ls (.int i0 :: .ref a :: st) (n, tg, ln, I, J, O) Q ↔ Runs 163 0 [some (.ref a), some (.int i0), none, none] [] (n, tg, ln, I, J, O) (fun v h2 => Runs 176 14 ls (v.toList ++ st) h2 Q) := R_callv (a := a) (rest := st) rfl rfl rfl rfl rfl rfl rfl ht hs
theorem s176_14 : Runs 176 14 [x0, some (.int i), x2, x3] st h Q ↔ Runs 176 15 [x0, some (.int i), x2, x3] (.int i :: st) h Q := R_ildn rfl rfl
theorem s176_15 : Runs 176 15 ls (.int j :: .int i :: st) h Q ↔ if ¬ i = j then Runs 176 20 ls st h Q else Runs 176 18 ls st h Q := R_icne rfl rfl
theorem s176_18 : Runs 176 18 [x0, x1, x2, some (.int i)] st h Q ↔ Runs 176 19 [x0, x1, x2, some (.int i)] (.int i :: st) h Q := R_ildn rfl rfl
theorem s176_19 : Runs 176 19 ls [.int i] h Q ↔ Q (some (.int i)) h := R_iret rfl rfl
theorem s176_20 : Runs 176 20 [x0, x1, x2, some (.int i)] st h Q ↔ Runs 176 23 [x0, x1, zdrop x2, some (.int (i + 1))] st h Q := R_iinc rfl rfl rfl rfl rfl
theorem s176_23 : Runs 176 23 ls st h Q ↔ Runs 176 2 ls st h Q := R_goto rfl rfl
theorem s176_26 : Runs 176 26 ls st h Q ↔ Runs 176 27 ls (.int (-1) :: st) h Q := R_iconst rfl rfl
theorem s176_27 : Runs 176 27 ls [.int i] h Q ↔ Q (some (.int i)) h := R_iret rfl rfl
theorem s180_0 : Runs 180 0 [some (.ref a), x1, x2, x3] st h Q ↔ Runs 180 1 [some (.ref a), x1, x2, x3] (.ref a :: st) h Q := R_aldn rfl rfl
theorem s180_0q : Runs 180 0 [some (zrf r), x1, x2, x3] st h Q ↔ Runs 180 1 [some (zrf r), x1, x2, x3] (zrf r :: st) h Q := R_aldnq rfl rfl
theorem s180_1 (ht : tg a = 10) : Runs 180 1 ls (.ref a :: st) (n, tg, ln, I, J, O) Q ↔ Runs 180 4 ls (zrf (O a 0) :: st) (n, tg, ln, I, J, O) Q := R_getr rfl rfl rfl rfl ht
theorem s180_4 : Runs 180 4 ls st h Q ↔ Runs 180 5 ls (.int 4 :: st) h Q := R_iconst rfl rfl
theorem s180_5 : Runs 180 5 [x0, some (.int i), x2, x3] st h Q ↔ Runs 180 6 [x0, some (.int i), x2, x3] (.int i :: st) h Q := R_ildn rfl rfl
theorem s180_6 : Runs 180 6 ls (.int j :: .int i :: st) h Q ↔ Runs 180 7 ls (.int (i + j) :: st) h Q := R_iadd rfl
theorem s180_7 (ht : tg a = 20) : Runs 180 7 ls (.int i :: .ref a :: st) (n, tg, ln, I, J, O) Q ↔ ((0 ≤ i ∧ i < Int32.ofNat (ln a)) ∧ Runs 180 8 ls (.int (I a i) :: st) (n, tg, ln, I, J, O) Q) := R_iald rfl ht
theorem s180_8 : Runs 180 8 ls st h Q ↔ Runs 180 10 ls (.int 12 :: st) h Q := R_bipush rfl (by decide)
theorem s180_10 : Runs 180 10 ls (.int j :: .int i :: st) h Q ↔ if ¬ i = j then Runs 180 15 ls st h Q else Runs 180 13 ls st h Q := R_icne rfl rfl
theorem s180_13 : Runs 180 13 ls st h Q ↔ Runs 180 14 ls (.int (-1) :: st) h Q := R_iconst rfl rfl
theorem s180_14 : Runs 180 14 ls [.int i] h Q ↔ Q (some (.int i)) h := R_iret rfl rfl
theorem s180_15 : Runs 180 15 [some (.ref a), x1, x2, x3] st h Q ↔ Runs 180 16 [some (.ref a), x1, x2, x3] (.ref a :: st) h Q := R_aldn rfl rfl
theorem s180_15q : Runs 180 15 [some (zrf r), x1, x2, x3] st h Q ↔ Runs 180 16 [some (zrf r), x1, x2, x3] (zrf r :: st) h Q := R_aldnq rfl rfl
theorem s180_16 (ht : tg a = 10) (hs : zsumc st ≤ 8) : Runs 180 16 ls (.ref a :: st) (n, tg, ln, I, J, O) Q ↔ Runs 175 0 [some (.ref a)] [] (n, tg, ln, I, J, O) (fun v h2 => Runs 180 19 ls (v.toList ++ st) h2 Q) := R_callv (a := a) (rest := st) rfl rfl rfl rfl rfl rfl rfl ht hs
theorem s180_19 : Runs 180 19 [some (.ref a), x1, x2, x3] st h Q ↔ Runs 180 20 [some (.ref a), x1, x2, x3] (.ref a :: st) h Q := R_aldn rfl rfl
theorem s180_19q : Runs 180 19 [some (zrf r), x1, x2, x3] st h Q ↔ Runs 180 20 [some (zrf r), x1, x2, x3] (zrf r :: st) h Q := R_aldnq rfl rfl
theorem s180_20 : Runs 180 20 ls st h Q ↔ Runs 180 23 ls (.int 1080 :: st) h Q := R_sipush rfl (by decide)
theorem s180_23 : Runs 180 23 [x0, some (.int i), x2, x3] st h Q ↔ Runs 180 24 [x0, some (.int i), x2, x3] (.int i :: st) h Q := R_ildn rfl rfl
theorem s180_24 : Runs 180 24 [x0, x1, some (.int i), x3] st h Q ↔ Runs 180 25 [x0, x1, some (.int i), x3] (.int i :: st) h Q := R_ildn rfl rfl
theorem s180_25 : Runs 180 25 [x0, x1, x2, some (.int i)] st h Q ↔ Runs 180 26 [x0, x1, x2, some (.int i)] (.int i :: st) h Q := R_ildn rfl rfl
theorem s180_26 (ht : tg a = 10) (hs : zsumc st ≤ 8) : Runs 180 26 ls (.int i3 :: .int i2 :: .int i1 :: .int i0 :: .ref a :: st) (n, tg, ln, I, J, O) Q ↔ Runs 141 0 [some (.ref a), some (.int i0), some (.int i1), some (.int i2), some (.int i3), none] [] (n, tg, ln, I, J, O) (fun v h2 => Runs 180 29 ls (v.toList ++ st) h2 Q) := R_callv (a := a) (rest := st) rfl rfl rfl rfl rfl rfl rfl ht hs
theorem s180_29 : Runs 180 29 [some (.ref a), x1, x2, x3] st h Q ↔ Runs 180 30 [some (.ref a), x1, x2, x3] (.ref a :: st) h Q := R_aldn rfl rfl
theorem s180_29q : Runs 180 29 [some (zrf r), x1, x2, x3] st h Q ↔ Runs 180 30 [some (zrf r), x1, x2, x3] (zrf r :: st) h Q := R_aldnq rfl rfl
theorem s180_30 : Runs 180 30 [some (.ref a), x1, x2, x3] st h Q ↔ Runs 180 31 [some (.ref a), x1, x2, x3] (.ref a :: st) h Q := R_aldn rfl rfl
theorem s180_30q : Runs 180 30 [some (zrf r), x1, x2, x3] st h Q ↔ Runs 180 31 [some (zrf r), x1, x2, x3] (zrf r :: st) h Q := R_aldnq rfl rfl
theorem s180_31 (ht : tg a = 10) : Runs 180 31 ls (.ref a :: st) (n, tg, ln, I, J, O) Q ↔ Runs 180 34 ls (zrf (O a 0) :: st) (n, tg, ln, I, J, O) Q := R_getr rfl rfl rfl rfl ht
theorem s180_34 : Runs 180 34 ls st h Q ↔ Runs 180 35 ls (.int 0 :: st) h Q := R_iconst rfl rfl
theorem s180_35 (ht : tg a = 20) : Runs 180 35 ls (.int i :: .ref a :: st) (n, tg, ln, I, J, O) Q ↔ ((0 ≤ i ∧ i < Int32.ofNat (ln a)) ∧ Runs 180 36 ls (.int (I a i) :: st) (n, tg, ln, I, J, O) Q) := R_iald rfl ht
theorem s180_36 : Runs 180 36 ls st h Q ↔ Runs 180 38 ls (.int 60 :: st) h Q := R_bipush rfl (by decide)
theorem s180_38 (ht : tg a = 10) (hs : zsumc st ≤ 8) : Runs 180 38 ls (.int i1 :: .int i0 :: .ref a :: st) (n, tg, ln, I, J, O) Q ↔ Runs 176 0 [some (.ref a), some (.int i0), some (.int i1), none] [] (n, tg, ln, I, J, O) (fun v h2 => Runs 180 41 ls (v.toList ++ st) h2 Q) := R_callv (a := a) (rest := st) rfl rfl rfl rfl rfl rfl rfl ht hs
theorem s180_41 : Runs 180 41 ls [.int i] h Q ↔ Q (some (.int i)) h := R_iret rfl rfl
theorem s182_0 : Runs 182 0 [some (.ref a), x1, x2, x3, x4] st h Q ↔ Runs 182 1 [some (.ref a), x1, x2, x3, x4] (.ref a :: st) h Q := R_aldn rfl rfl
theorem s182_0q : Runs 182 0 [some (zrf r), x1, x2, x3, x4] st h Q ↔ Runs 182 1 [some (zrf r), x1, x2, x3, x4] (zrf r :: st) h Q := R_aldnq rfl rfl
theorem s182_1 (ht : tg a = 10) (hs : zsumc st ≤ 8) : Runs 182 1 ls (.ref a :: st) (n, tg, ln, I, J, O) Q ↔ Runs 175 0 [some (.ref a)] [] (n, tg, ln, I, J, O) (fun v h2 => Runs 182 4 ls (v.toList ++ st) h2 Q) := R_callv (a := a) (rest := st) rfl rfl rfl rfl rfl rfl rfl ht hs
theorem s182_4 : Runs 182 4 ls st h Q ↔ Runs 182 5 ls (.int 0 :: st) h Q := R_iconst rfl rfl
theorem s182_5 : Runs 182 5 [x0, x1, x2, x3, x4] (.int i :: st) h Q ↔ Runs 182 7 [x0, x1, x2, zdrop x3, some (.int i)] st h Q := R_ist rfl rfl rfl
theorem s182_7 : Runs 182 7 [x0, x1, x2, x3, some (.int i)] st h Q ↔ Runs 182 9 [x0, x1, x2, x3, some (.int i)] (.int i :: st) h Q := R_ild rfl rfl
theorem s182_9 : Runs 182 9 [some (.ref a), x1, x2, x3, x4] st h Q ↔ Runs 182 10 [some (.ref a), x1, x2, x3, x4] (.ref a :: st) h Q := R_aldn rfl rfl
theorem s182_9q : Runs 182 9 [some (zrf r), x1, x2, x3, x4] st h Q ↔ Runs 182 10 [some (zrf r), x1, x2, x3, x4] (zrf r :: st) h Q := R_aldnq rfl rfl
theorem s182_10 (ht : tg a = 10) : Runs 182 10 ls (.ref a :: st) (n, tg, ln, I, J, O) Q ↔ Runs 182 13 ls (zrf (O a 0) :: st) (n, tg, ln, I, J, O) Q := R_getr rfl rfl rfl rfl ht
theorem s182_13 : Runs 182 13 ls st h Q ↔ Runs 182 14 ls (.int 0 :: st) h Q := R_iconst rfl rfl
theorem s182_14 (ht : tg a = 20) : Runs 182 14 ls (.int i :: .ref a :: st) (n, tg, ln, I, J, O) Q ↔ ((0 ≤ i ∧ i < Int32.ofNat (ln a)) ∧ Runs 182 15 ls (.int (I a i) :: st) (n, tg, ln, I, J, O) Q) := R_iald rfl ht
theorem s182_15 : Runs 182 15 ls (.int j :: .int i :: st) h Q ↔ if j ≤ i then Runs 182 42 ls st h Q else Runs 182 18 ls st h Q := R_icge rfl rfl
theorem s182_18 : Runs 182 18 [x0, x1, x2, some (.int i), x4] st h Q ↔ Runs 182 19 [x0, x1, x2, some (.int i), x4] (.int i :: st) h Q := R_ildn rfl rfl
theorem s182_19 : Runs 182 19 [x0, x1, x2, x3, some (.int i)] st h Q ↔ Runs 182 21 [x0, x1, x2, x3, some (.int i)] (.int i :: st) h Q := R_ild rfl rfl
theorem s182_21 (hs : zsumc st ≤ 8) : Runs 182 21 ls (.int i1 :: .int i0 :: st) h Q ↔ Runs 128 0 [some (.int i0), some (.int i1)] [] h (fun v h2 => Runs 182 24 ls (v.toList ++ st) h2 Q) := R_calls (rest := st) rfl rfl rfl (by simp) rfl rfl rfl rfl hs
theorem s182_24 : Runs 182 24 ls (.int i :: st) h Q ↔ if i = 0 then Runs 182 36 ls st h Q else Runs 182 27 ls st h Q := R_ifeq rfl rfl
theorem s182_27 : Runs 182 27 [some (.ref a), x1, x2, x3, x4] st h Q ↔ Runs 182 28 [some (.ref a), x1, x2, x3, x4] (.ref a :: st) h Q := R_aldn rfl rfl
theorem s182_27q : Runs 182 27 [some (zrf r), x1, x2, x3, x4] st h Q ↔ Runs 182 28 [some (zrf r), x1, x2, x3, x4] (zrf r :: st) h Q := R_aldnq rfl rfl
theorem s182_28 : Runs 182 28 ls st h Q ↔ Runs 182 31 ls (.int 1080 :: st) h Q := R_sipush rfl (by decide)
theorem s182_31 : Runs 182 31 [x0, x1, x2, x3, some (.int i)] st h Q ↔ Runs 182 33 [x0, x1, x2, x3, some (.int i)] (.int i :: st) h Q := R_ild rfl rfl
theorem s182_33 (ht : tg a = 10) (hs : zsumc st ≤ 8) : Runs 182 33 ls (.int i1 :: .int i0 :: .ref a :: st) (n, tg, ln, I, J, O) Q ↔ Runs 167 0 [some (.ref a), some (.int i0), some (.int i1), none] [] (n, tg, ln, I, J, O) (fun v h2 => Runs 182 36 ls (v.toList ++ st) h2 Q) := R_callv (a := a) (rest := st) rfl rfl rfl rfl rfl rfl rfl ht hs
theorem s182_36 : Runs 182 36 [x0, x1, x2, x3, some (.int i)] st h Q ↔ Runs 182 39 [x0, x1, x2, zdrop x3, some (.int (i + 1))] st h Q := R_iinc rfl rfl rfl rfl rfl
theorem s182_39 : Runs 182 39 ls st h Q ↔ Runs 182 7 ls st h Q := R_goto rfl rfl
theorem s182_42 : Runs 182 42 [some (.ref a), x1, x2, x3, x4] st h Q ↔ Runs 182 43 [some (.ref a), x1, x2, x3, x4] (.ref a :: st) h Q := R_aldn rfl rfl
theorem s182_42q : Runs 182 42 [some (zrf r), x1, x2, x3, x4] st h Q ↔ Runs 182 43 [some (zrf r), x1, x2, x3, x4] (zrf r :: st) h Q := R_aldnq rfl rfl
theorem s182_43 : Runs 182 43 [x0, some (.int i), x2, x3, x4] st h Q ↔ Runs 182 44 [x0, some (.int i), x2, x3, x4] (.int i :: st) h Q := R_ildn rfl rfl
theorem s182_44 : Runs 182 44 [x0, x1, some (.int i), x3, x4] st h Q ↔ Runs 182 45 [x0, x1, some (.int i), x3, x4] (.int i :: st) h Q := R_ildn rfl rfl
theorem s182_45 (ht : tg a = 10) (hs : zsumc st ≤ 8) : Runs 182 45 ls (.int i1 :: .int i0 :: .ref a :: st) (n, tg, ln, I, J, O) Q ↔ Runs 176 0 [some (.ref a), some (.int i0), some (.int i1), none] [] (n, tg, ln, I, J, O) (fun v h2 => Runs 182 48 ls (v.toList ++ st) h2 Q) := R_callv (a := a) (rest := st) rfl rfl rfl rfl rfl rfl rfl ht hs
theorem s182_48 : Runs 182 48 ls st h Q ↔ Runs 182 49 ls (.int (-1) :: st) h Q := R_iconst rfl rfl
theorem s182_49 : Runs 182 49 ls (.int j :: .int i :: st) h Q ↔ if i = j then Runs 182 56 ls st h Q else Runs 182 52 ls st h Q := R_iceq rfl rfl
theorem s182_52 : Runs 182 52 ls st h Q ↔ Runs 182 53 ls (.int 1 :: st) h Q := R_iconst rfl rfl
theorem s182_53 : Runs 182 53 ls st h Q ↔ Runs 182 57 ls st h Q := R_goto rfl rfl
theorem s182_56 : Runs 182 56 ls st h Q ↔ Runs 182 57 ls (.int 0 :: st) h Q := R_iconst rfl rfl
theorem s182_57 (hx : i = 0 ∨ i = 1) : Runs 182 57 ls [.int i] h Q ↔ Q (some (.int i)) h := R_zret rfl rfl hx
theorem s187_0 : Runs 187 0 ls st h Q ↔ Runs 187 1 ls (.int 1 :: st) h Q := R_iconst rfl rfl
theorem s187_1 : Runs 187 1 [x0, x1, x2, x3, x4] (.int i :: st) h Q ↔ Runs 187 2 [zdrop x0, some (.int i), x2, x3, x4] st h Q := R_istn rfl rfl rfl
theorem s187_2 : Runs 187 2 ls st h Q ↔ Runs 187 3 ls (.int 0 :: st) h Q := R_iconst rfl rfl
theorem s187_3 : Runs 187 3 [x0, x1, x2, x3, x4] (.int i :: st) h Q ↔ Runs 187 4 [x0, zdrop x1, some (.int i), x3, x4] st h Q := R_istn rfl rfl rfl
theorem s187_4 : Runs 187 4 ls st h Q ↔ Runs 187 5 ls (.int 1 :: st) h Q := R_iconst rfl rfl
theorem s187_5 : Runs 187 5 [x0, x1, x2, x3, x4] (.int i :: st) h Q ↔ Runs 187 6 [x0, x1, zdrop x2, some (.int i), x4] st h Q := R_istn rfl rfl rfl
theorem s187_6 : Runs 187 6 [x0, x1, x2, some (.int i), x4] st h Q ↔ Runs 187 7 [x0, x1, x2, some (.int i), x4] (.int i :: st) h Q := R_ildn rfl rfl
theorem s187_7 : Runs 187 7 ls st h Q ↔ Runs 187 9 ls (.int 21 :: st) h Q := R_bipush rfl (by decide)
theorem s187_9 : Runs 187 9 ls (.int j :: .int i :: st) h Q ↔ if j ≤ i then Runs 187 88 ls st h Q else Runs 187 12 ls st h Q := R_icge rfl rfl
theorem s187_12 : Runs 187 12 [x0, x1, some (.int i), x3, x4] st h Q ↔ Runs 187 13 [x0, x1, some (.int i), x3, x4] (.int i :: st) h Q := R_ildn rfl rfl
theorem s187_13 : Runs 187 13 [some (.ref a), x1, x2, x3, x4] st h Q ↔ Runs 187 14 [some (.ref a), x1, x2, x3, x4] (.ref a :: st) h Q := R_aldn rfl rfl
theorem s187_13q : Runs 187 13 [some (zrf r), x1, x2, x3, x4] st h Q ↔ Runs 187 14 [some (zrf r), x1, x2, x3, x4] (zrf r :: st) h Q := R_aldnq rfl rfl
theorem s187_14 : Runs 187 14 ls st h Q ↔ Runs 187 17 ls (.int 1080 :: st) h Q := R_sipush rfl (by decide)
theorem s187_17 (ht : tg a = 10) (hs : zsumc st ≤ 8) : Runs 187 17 ls (.int i0 :: .ref a :: st) (n, tg, ln, I, J, O) Q ↔ Runs 163 0 [some (.ref a), some (.int i0), none, none] [] (n, tg, ln, I, J, O) (fun v h2 => Runs 187 20 ls (v.toList ++ st) h2 Q) := R_callv (a := a) (rest := st) rfl rfl rfl rfl rfl rfl rfl ht hs
theorem s187_20 : Runs 187 20 ls st h Q ↔ Runs 187 22 ls (.int 99 :: st) h Q := R_bipush rfl (by decide)
theorem s187_22 : Runs 187 22 ls (.int j :: .int i :: st) h Q ↔ if ¬ i = j then Runs 187 29 ls st h Q else Runs 187 25 ls st h Q := R_icne rfl rfl
theorem s187_25 : Runs 187 25 ls st h Q ↔ Runs 187 26 ls (.int 0 :: st) h Q := R_iconst rfl rfl
theorem s187_26 : Runs 187 26 ls st h Q ↔ Runs 187 30 ls st h Q := R_goto rfl rfl
theorem s187_29 : Runs 187 29 ls st h Q ↔ Runs 187 30 ls (.int 1 :: st) h Q := R_iconst rfl rfl
theorem s187_30 : Runs 187 30 ls (.int j :: .int i :: st) h Q ↔ Runs 187 31 ls (.int (i + j) :: st) h Q := R_iadd rfl
theorem s187_31 : Runs 187 31 [x0, x1, x2, x3, x4] (.int i :: st) h Q ↔ Runs 187 32 [x0, zdrop x1, some (.int i), x3, x4] st h Q := R_istn rfl rfl rfl
theorem s187_32 : Runs 187 32 ls st h Q ↔ Runs 187 33 ls (.int 0 :: st) h Q := R_iconst rfl rfl
theorem s187_33 : Runs 187 33 [x0, x1, x2, x3, x4] (.int i :: st) h Q ↔ Runs 187 35 [x0, x1, x2, zdrop x3, some (.int i)] st h Q := R_ist rfl rfl rfl
theorem s187_35 : Runs 187 35 [x0, x1, x2, x3, some (.int i)] st h Q ↔ Runs 187 37 [x0, x1, x2, x3, some (.int i)] (.int i :: st) h Q := R_ild rfl rfl
theorem s187_37 : Runs 187 37 [some (.ref a), x1, x2, x3, x4] st h Q ↔ Runs 187 38 [some (.ref a), x1, x2, x3, x4] (.ref a :: st) h Q := R_aldn rfl rfl
theorem s187_37q : Runs 187 37 [some (zrf r), x1, x2, x3, x4] st h Q ↔ Runs 187 38 [some (zrf r), x1, x2, x3, x4] (zrf r :: st) h Q := R_aldnq rfl rfl
theorem s187_38 (ht : tg a = 10) : Runs 187 38 ls (.ref a :: st) (n, tg, ln, I, J, O) Q ↔ Runs 187 41 ls (.int (I a 5) :: st) (n, tg, ln, I, J, O) Q := R_geti rfl rfl rfl rfl ht
theorem s187_41 : Runs 187 41 ls (.int j :: .int i :: st) h Q ↔ if j ≤ i then Runs 187 82 ls st h Q else Runs 187 44 ls st h Q := R_icge rfl rfl
theorem s187_44 : Runs 187 44 [x0, some (.int i), x2, x3, x4] st h Q ↔ Runs 187 45 [x0, some (.int i), x2, x3, x4] (.int i :: st) h Q := R_ildn rfl rfl
theorem s187_45 : Runs 187 45 ls (.int i :: st) h Q ↔ if i = 0 then Runs 187 74 ls st h Q else Runs 187 48 ls st h Q := R_ifeq rfl rfl
theorem s187_48 : Runs 187 48 [some (.ref a), x1, x2, x3, x4] st h Q ↔ Runs 187 49 [some (.ref a), x1, x2, x3, x4] (.ref a :: st) h Q := R_aldn rfl rfl
theorem s187_48q : Runs 187 48 [some (zrf r), x1, x2, x3, x4] st h Q ↔ Runs 187 49 [some (zrf r), x1, x2, x3, x4] (zrf r :: st) h Q := R_aldnq rfl rfl
theorem s187_49 (ht : tg a = 10) : Runs 187 49 ls (.ref a :: st) (n, tg, ln, I, J, O) Q ↔ Runs 187 52 ls (zrf (O a 6) :: st) (n, tg, ln, I, J, O) Q := R_getr rfl rfl rfl rfl ht
theorem s187_52 : Runs 187 52 [x0, x1, x2, x3, some (.int i)] st h Q ↔ Runs 187 54 [x0, x1, x2, x3, some (.int i)] (.int i :: st) h Q := R_ild rfl rfl
theorem s187_54 (ht : tg a = 20) : Runs 187 54 ls (.int i :: .ref a :: st) (n, tg, ln, I, J, O) Q ↔ ((0 ≤ i ∧ i < Int32.ofNat (ln a)) ∧ Runs 187 55 ls (.int (I a i) :: st) (n, tg, ln, I, J, O) Q) := R_iald rfl ht
theorem s187_55 : Runs 187 55 [x0, x1, x2, some (.int i), x4] st h Q ↔ Runs 187 56 [x0, x1, x2, some (.int i), x4] (.int i :: st) h Q := R_ildn rfl rfl
theorem s187_56 : Runs 187 56 ls (.int j :: .int i :: st) h Q ↔ if ¬ i = j then Runs 187 70 ls st h Q else Runs 187 59 ls st h Q := R_icne rfl rfl
theorem s187_59 : Runs 187 59 [some (.ref a), x1, x2, x3, x4] st h Q ↔ Runs 187 60 [some (.ref a), x1, x2, x3, x4] (.ref a :: st) h Q := R_aldn rfl rfl
theorem s187_59q : Runs 187 59 [some (zrf r), x1, x2, x3, x4] st h Q ↔ Runs 187 60 [some (zrf r), x1, x2, x3, x4] (zrf r :: st) h Q := R_aldnq rfl rfl
theorem s187_60 (ht : tg a = 10) : Runs 187 60 ls (.ref a :: st) (n, tg, ln, I, J, O) Q ↔ Runs 187 63 ls (zrf (O a 7) :: st) (n, tg, ln, I, J, O) Q := R_getr rfl rfl rfl rfl ht
theorem s187_63 : Runs 187 63 [x0, x1, x2, x3, some (.int i)] st h Q ↔ Runs 187 65 [x0, x1, x2, x3, some (.int i)] (.int i :: st) h Q := R_ild rfl rfl
theorem s187_65 (ht : tg a = 20) : Runs 187 65 ls (.int i :: .ref a :: st) (n, tg, ln, I, J, O) Q ↔ ((0 ≤ i ∧ i < Int32.ofNat (ln a)) ∧ Runs 187 66 ls (.int (I a i) :: st) (n, tg, ln, I, J, O) Q) := R_iald rfl ht
theorem s187_66 : Runs 187 66 [x0, x1, some (.int i), x3, x4] st h Q ↔ Runs 187 67 [x0, x1, some (.int i), x3, x4] (.int i :: st) h Q := R_ildn rfl rfl
theorem s187_67 : Runs 187 67 ls (.int j :: .int i :: st) h Q ↔ if ¬ i = j then Runs 187 74 ls st h Q else Runs 187 70 ls st h Q := R_icne rfl rfl
theorem s187_70 : Runs 187 70 ls st h Q ↔ Runs 187 71 ls (.int 1 :: st) h Q := R_iconst rfl rfl
theorem s187_71 : Runs 187 71 ls st h Q ↔ Runs 187 75 ls st h Q := R_goto rfl rfl
theorem s187_74 : Runs 187 74 ls st h Q ↔ Runs 187 75 ls (.int 0 :: st) h Q := R_iconst rfl rfl
theorem s187_75 : Runs 187 75 [x0, x1, x2, x3, x4] (.int i :: st) h Q ↔ Runs 187 76 [zdrop x0, some (.int i), x2, x3, x4] st h Q := R_istn rfl rfl rfl
theorem s187_76 : Runs 187 76 [x0, x1, x2, x3, some (.int i)] st h Q ↔ Runs 187 79 [x0, x1, x2, zdrop x3, some (.int (i + 1))] st h Q := R_iinc rfl rfl rfl rfl rfl
theorem s187_79 : Runs 187 79 ls st h Q ↔ Runs 187 35 ls st h Q := R_goto rfl rfl
theorem s187_82 : Runs 187 82 [x0, x1, x2, some (.int i), x4] st h Q ↔ Runs 187 85 [x0, x1, zdrop x2, some (.int (i + 1)), x4] st h Q := R_iinc rfl rfl rfl rfl rfl
theorem s187_85 : Runs 187 85 ls st h Q ↔ Runs 187 6 ls st h Q := R_goto rfl rfl
theorem s187_88 : Runs 187 88 [x0, some (.int i), x2, x3, x4] st h Q ↔ Runs 187 89 [x0, some (.int i), x2, x3, x4] (.int i :: st) h Q := R_ildn rfl rfl
theorem s187_89 (hx : i = 0 ∨ i = 1) : Runs 187 89 ls [.int i] h Q ↔ Q (some (.int i)) h := R_zret rfl rfl hx
theorem s202_0 : Runs 202 0 ls st h Q ↔ Runs 202 1 ls (.int 0 :: st) h Q := R_iconst rfl rfl
theorem s202_1 : Runs 202 1 [x0, x1, x2, x3] (.int i :: st) h Q ↔ Runs 202 2 [x0, zdrop x1, some (.int i), x3] st h Q := R_istn rfl rfl rfl
theorem s202_2 : Runs 202 2 ls st h Q ↔ Runs 202 3 ls (.int 0 :: st) h Q := R_iconst rfl rfl
theorem s202_3 : Runs 202 3 [x0, x1, x2, x3] (.int i :: st) h Q ↔ Runs 202 4 [x0, x1, zdrop x2, some (.int i)] st h Q := R_istn rfl rfl rfl
theorem s202_4 : Runs 202 4 [x0, x1, x2, some (.int i)] st h Q ↔ Runs 202 5 [x0, x1, x2, some (.int i)] (.int i :: st) h Q := R_ildn rfl rfl
theorem s202_5 : Runs 202 5 [some (.ref a), x1, x2, x3] st h Q ↔ Runs 202 6 [some (.ref a), x1, x2, x3] (.ref a :: st) h Q := R_aldn rfl rfl
theorem s202_5q : Runs 202 5 [some (zrf r), x1, x2, x3] st h Q ↔ Runs 202 6 [some (zrf r), x1, x2, x3] (zrf r :: st) h Q := R_aldnq rfl rfl
theorem s202_6 (ht : tg a = 10) : Runs 202 6 ls (.ref a :: st) (n, tg, ln, I, J, O) Q ↔ Runs 202 9 ls (zrf (O a 0) :: st) (n, tg, ln, I, J, O) Q := R_getr rfl rfl rfl rfl ht
theorem s202_9 : Runs 202 9 ls st h Q ↔ Runs 202 10 ls (.int 0 :: st) h Q := R_iconst rfl rfl
theorem s202_10 (ht : tg a = 20) : Runs 202 10 ls (.int i :: .ref a :: st) (n, tg, ln, I, J, O) Q ↔ ((0 ≤ i ∧ i < Int32.ofNat (ln a)) ∧ Runs 202 11 ls (.int (I a i) :: st) (n, tg, ln, I, J, O) Q) := R_iald rfl ht
theorem s202_11 : Runs 202 11 ls (.int j :: .int i :: st) h Q ↔ if j ≤ i then Runs 202 43 ls st h Q else Runs 202 14 ls st h Q := R_icge rfl rfl
theorem s202_14 : Runs 202 14 [x0, x1, some (.int i), x3] st h Q ↔ Runs 202 15 [x0, x1, some (.int i), x3] (.int i :: st) h Q := R_ildn rfl rfl
theorem s202_15 : Runs 202 15 [some (.ref a), x1, x2, x3] st h Q ↔ Runs 202 16 [some (.ref a), x1, x2, x3] (.ref a :: st) h Q := R_aldn rfl rfl
theorem s202_15q : Runs 202 15 [some (zrf r), x1, x2, x3] st h Q ↔ Runs 202 16 [some (zrf r), x1, x2, x3] (zrf r :: st) h Q := R_aldnq rfl rfl
theorem s202_16 (ht : tg a = 10) : Runs 202 16 ls (.ref a :: st) (n, tg, ln, I, J, O) Q ↔ Runs 202 19 ls (zrf (O a 0) :: st) (n, tg, ln, I, J, O) Q := R_getr rfl rfl rfl rfl ht
theorem s202_19 : Runs 202 19 ls st h Q ↔ Runs 202 21 ls (.int 54 :: st) h Q := R_bipush rfl (by decide)
theorem s202_21 : Runs 202 21 [x0, x1, x2, some (.int i)] st h Q ↔ Runs 202 22 [x0, x1, x2, some (.int i)] (.int i :: st) h Q := R_ildn rfl rfl
theorem s202_22 : Runs 202 22 ls (.int j :: .int i :: st) h Q ↔ Runs 202 23 ls (.int (i + j) :: st) h Q := R_iadd rfl
theorem s202_23 (ht : tg a = 20) : Runs 202 23 ls (.int i :: .ref a :: st) (n, tg, ln, I, J, O) Q ↔ ((0 ≤ i ∧ i < Int32.ofNat (ln a)) ∧ Runs 202 24 ls (.int (I a i) :: st) (n, tg, ln, I, J, O) Q) := R_iald rfl ht
theorem s202_24 : Runs 202 24 [x0, some (.int i), x2, x3] st h Q ↔ Runs 202 25 [x0, some (.int i), x2, x3] (.int i :: st) h Q := R_ildn rfl rfl
theorem s202_25 : Runs 202 25 ls (.int j :: .int i :: st) h Q ↔ if ¬ i = j then Runs 202 34 ls st h Q else Runs 202 28 ls st h Q := R_icne rfl rfl
theorem s202_28 : Runs 202 28 ls st h Q ↔ Runs 202 29 ls (.int 1 :: st) h Q := R_iconst rfl rfl
theorem s202_29 : Runs 202 29 [x0, x1, x2, some (.int i)] st h Q ↔ Runs 202 30 [x0, x1, x2, some (.int i)] (.int i :: st) h Q := R_ildn rfl rfl
theorem s202_30 : Runs 202 30 ls (.int j :: .int i :: st) h Q ↔ Runs 202 31 ls (.int (i <<< (j &&& 31)) :: st) h Q := R_ishl rfl
theorem s202_31 : Runs 202 31 ls st h Q ↔ Runs 202 35 ls st h Q := R_goto rfl rfl
theorem s202_34 : Runs 202 34 ls st h Q ↔ Runs 202 35 ls (.int 0 :: st) h Q := R_iconst rfl rfl
theorem s202_35 : Runs 202 35 ls (.int j :: .int i :: st) h Q ↔ Runs 202 36 ls (.int (i ||| j) :: st) h Q := R_ior rfl
theorem s202_36 : Runs 202 36 [x0, x1, x2, x3] (.int i :: st) h Q ↔ Runs 202 37 [x0, zdrop x1, some (.int i), x3] st h Q := R_istn rfl rfl rfl
theorem s202_37 : Runs 202 37 [x0, x1, x2, some (.int i)] st h Q ↔ Runs 202 40 [x0, x1, zdrop x2, some (.int (i + 1))] st h Q := R_iinc rfl rfl rfl rfl rfl
theorem s202_40 : Runs 202 40 ls st h Q ↔ Runs 202 4 ls st h Q := R_goto rfl rfl
theorem s202_43 : Runs 202 43 [x0, x1, some (.int i), x3] st h Q ↔ Runs 202 44 [x0, x1, some (.int i), x3] (.int i :: st) h Q := R_ildn rfl rfl
theorem s202_44 : Runs 202 44 ls [.int i] h Q ↔ Q (some (.int i)) h := R_iret rfl rfl
theorem s203_0 : Runs 203 0 ls st h Q ↔ Runs 203 1 ls (.int 0 :: st) h Q := R_iconst rfl rfl
theorem s203_1 : Runs 203 1 [x0, x1, x2] (.int i :: st) h Q ↔ Runs 203 2 [zdrop x0, some (.int i), x2] st h Q := R_istn rfl rfl rfl
theorem s203_2 : Runs 203 2 ls st h Q ↔ Runs 203 3 ls (.int 0 :: st) h Q := R_iconst rfl rfl
theorem s203_3 : Runs 203 3 [x0, x1, x2] (.int i :: st) h Q ↔ Runs 203 4 [x0, zdrop x1, some (.int i)] st h Q := R_istn rfl rfl rfl
theorem s203_4 : Runs 203 4 [x0, x1, some (.int i)] st h Q ↔ Runs 203 5 [x0, x1, some (.int i)] (.int i :: st) h Q := R_ildn rfl rfl
theorem s203_5 : Runs 203 5 ls st h Q ↔ Runs 203 6 ls (.int 3 :: st) h Q := R_iconst rfl rfl
theorem s203_6 : Runs 203 6 ls (.int j :: .int i :: st) h Q ↔ if j ≤ i then Runs 203 32 ls st h Q else Runs 203 9 ls st h Q := R_icge rfl rfl
theorem s203_9 : Runs 203 9 [x0, some (.int i), x2] st h Q ↔ Runs 203 10 [x0, some (.int i), x2] (.int i :: st) h Q := R_ildn rfl rfl
theorem s203_10 : Runs 203 10 [some (.ref a), x1, x2] st h Q ↔ Runs 203 11 [some (.ref a), x1, x2] (.ref a :: st) h Q := R_aldn rfl rfl
theorem s203_10q : Runs 203 10 [some (zrf r), x1, x2] st h Q ↔ Runs 203 11 [some (zrf r), x1, x2] (zrf r :: st) h Q := R_aldnq rfl rfl
theorem s203_11 (ht : tg a = 10) : Runs 203 11 ls (.ref a :: st) (n, tg, ln, I, J, O) Q ↔ Runs 203 14 ls (zrf (O a 8) :: st) (n, tg, ln, I, J, O) Q := R_getr rfl rfl rfl rfl ht
theorem s203_14 : Runs 203 14 [x0, x1, some (.int i)] st h Q ↔ Runs 203 15 [x0, x1, some (.int i)] (.int i :: st) h Q := R_ildn rfl rfl
theorem s203_15 (ht : tg a = 20) : Runs 203 15 ls (.int i :: .ref a :: st) (n, tg, ln, I, J, O) Q ↔ ((0 ≤ i ∧ i < Int32.ofNat (ln a)) ∧ Runs 203 16 ls (.int (I a i) :: st) (n, tg, ln, I, J, O) Q) := R_iald rfl ht
theorem s203_16 : Runs 203 16 ls (.int i :: st) h Q ↔ if 0 ≤ i then Runs 203 23 ls st h Q else Runs 203 19 ls st h Q := R_ifge rfl rfl
theorem s203_19 : Runs 203 19 ls st h Q ↔ Runs 203 20 ls (.int 0 :: st) h Q := R_iconst rfl rfl
theorem s203_20 : Runs 203 20 ls st h Q ↔ Runs 203 24 ls st h Q := R_goto rfl rfl
theorem s203_23 : Runs 203 23 ls st h Q ↔ Runs 203 24 ls (.int 1 :: st) h Q := R_iconst rfl rfl
theorem s203_24 : Runs 203 24 ls (.int j :: .int i :: st) h Q ↔ Runs 203 25 ls (.int (i + j) :: st) h Q := R_iadd rfl
theorem s203_25 : Runs 203 25 [x0, x1, x2] (.int i :: st) h Q ↔ Runs 203 26 [zdrop x0, some (.int i), x2] st h Q := R_istn rfl rfl rfl
theorem s203_26 : Runs 203 26 [x0, x1, some (.int i)] st h Q ↔ Runs 203 29 [x0, zdrop x1, some (.int (i + 1))] st h Q := R_iinc rfl rfl rfl rfl rfl
theorem s203_29 : Runs 203 29 ls st h Q ↔ Runs 203 4 ls st h Q := R_goto rfl rfl
theorem s203_32 : Runs 203 32 [x0, some (.int i), x2] st h Q ↔ Runs 203 33 [x0, some (.int i), x2] (.int i :: st) h Q := R_ildn rfl rfl
theorem s203_33 : Runs 203 33 ls [.int i] h Q ↔ Q (some (.int i)) h := R_iret rfl rfl
end ZROWS
