section ZROWS
variable {ls : List (Option Value)} {st : List Value} {h : ZH} {Q : Option Value → ZH → Prop} {n : Nat} {tg ln : Nat → Nat} {I : Nat → Int32 → Int32} {J : Nat → Int32 → Int64} {O : Nat → Int32 → Option Nat} {i j i0 i1 i2 i3 i4 : Int32} {u w u0 u1 u2 u3 : Int64} {a b b0 b1 b2 : Nat} {r r0 r1 r2 : Option Nat}
variable {x0 x1 x2 x3 x4 x5 x6 x7 x8 x9 x10 x11 x12 x13 x14 x15 x16 x17 x18 x19 : Option Value}
theorem s126_0 : Runs 126 0 [some (.long u), x1, x2, x3, x4, x5] st h Q ↔ Runs 126 1 [some (.long u), x1, x2, x3, x4, x5] (.long u :: st) h Q := R_lldn rfl rfl
theorem s126_1 : Runs 126 1 [x0, x1, some (.long u), x3, x4, x5] st h Q ↔ Runs 126 2 [x0, x1, some (.long u), x3, x4, x5] (.long u :: st) h Q := R_lldn rfl rfl
theorem s126_2 : Runs 126 2 ls (.long w :: .long u :: st) h Q ↔ Runs 126 3 ls (.int (lg_cmp u w) :: st) h Q := R_lcmp rfl
theorem s126_3 : Runs 126 3 ls (.int i :: st) h Q ↔ if i < 0 then Runs 126 17 ls st h Q else Runs 126 6 ls st h Q := R_iflt rfl rfl
theorem s126_6 : Runs 126 6 [some (.long u), x1, x2, x3, x4, x5] st h Q ↔ Runs 126 7 [some (.long u), x1, x2, x3, x4, x5] (.long u :: st) h Q := R_lldn rfl rfl
theorem s126_7 : Runs 126 7 [x0, x1, x2, x3, some (.long u), x5] st h Q ↔ Runs 126 9 [x0, x1, x2, x3, some (.long u), x5] (.long u :: st) h Q := R_lld rfl rfl
theorem s126_9 : Runs 126 9 ls (.long w :: .long u :: st) h Q ↔ Runs 126 10 ls (.int (lg_cmp u w) :: st) h Q := R_lcmp rfl
theorem s126_10 : Runs 126 10 ls (.int i :: st) h Q ↔ if 0 < i then Runs 126 17 ls st h Q else Runs 126 13 ls st h Q := R_ifgt rfl rfl
theorem s126_13 : Runs 126 13 ls st h Q ↔ Runs 126 14 ls (.int 1 :: st) h Q := R_iconst rfl rfl
theorem s126_14 : Runs 126 14 ls st h Q ↔ Runs 126 18 ls st h Q := R_goto rfl rfl
theorem s126_17 : Runs 126 17 ls st h Q ↔ Runs 126 18 ls (.int 0 :: st) h Q := R_iconst rfl rfl
theorem s126_18 (hx : i = 0 ∨ i = 1) : Runs 126 18 ls [.int i] h Q ↔ Q (some (.int i)) h := R_zret rfl rfl hx
theorem s127_0 : Runs 127 0 [some (.int i), x1] st h Q ↔ Runs 127 1 [some (.int i), x1] (.int i :: st) h Q := R_ildn rfl rfl
theorem s127_1 : Runs 127 1 [x0, some (.int i)] st h Q ↔ Runs 127 2 [x0, some (.int i)] (.int i :: st) h Q := R_ildn rfl rfl
theorem s127_2 : Runs 127 2 ls (.int j :: .int i :: st) h Q ↔ Runs 127 3 ls (.int (i >>> (j &&& 31)) :: st) h Q := R_ishr rfl
theorem s127_3 : Runs 127 3 ls st h Q ↔ Runs 127 4 ls (.int 1 :: st) h Q := R_iconst rfl rfl
theorem s127_4 : Runs 127 4 ls (.int j :: .int i :: st) h Q ↔ Runs 127 5 ls (.int (i &&& j) :: st) h Q := R_iand rfl
theorem s127_5 : Runs 127 5 ls st h Q ↔ Runs 127 6 ls (.int 1 :: st) h Q := R_iconst rfl rfl
theorem s127_6 : Runs 127 6 ls (.int j :: .int i :: st) h Q ↔ if ¬ i = j then Runs 127 13 ls st h Q else Runs 127 9 ls st h Q := R_icne rfl rfl
theorem s127_9 : Runs 127 9 ls st h Q ↔ Runs 127 10 ls (.int 1 :: st) h Q := R_iconst rfl rfl
theorem s127_10 : Runs 127 10 ls st h Q ↔ Runs 127 14 ls st h Q := R_goto rfl rfl
theorem s127_13 : Runs 127 13 ls st h Q ↔ Runs 127 14 ls (.int 0 :: st) h Q := R_iconst rfl rfl
theorem s127_14 (hx : i = 0 ∨ i = 1) : Runs 127 14 ls [.int i] h Q ↔ Q (some (.int i)) h := R_zret rfl rfl hx
theorem s128_0 : Runs 128 0 ls st h Q ↔ Runs 128 1 ls (.int 0 :: st) h Q := R_iconst rfl rfl
theorem s128_1 : Runs 128 1 [x0, x1, x2] (.int i :: st) h Q ↔ Runs 128 2 [zdrop x0, some (.int i), x2] st h Q := R_istn rfl rfl rfl
theorem s128_2 : Runs 128 2 ls st h Q ↔ Runs 128 3 ls (.int 0 :: st) h Q := R_iconst rfl rfl
theorem s128_3 : Runs 128 3 [x0, x1, x2] (.int i :: st) h Q ↔ Runs 128 4 [x0, zdrop x1, some (.int i)] st h Q := R_istn rfl rfl rfl
theorem s128_4 : Runs 128 4 [x0, x1, some (.int i)] st h Q ↔ Runs 128 5 [x0, x1, some (.int i)] (.int i :: st) h Q := R_ildn rfl rfl
theorem s128_5 : Runs 128 5 ls st h Q ↔ Runs 128 7 ls (.int 12 :: st) h Q := R_bipush rfl (by decide)
theorem s128_7 : Runs 128 7 ls (.int j :: .int i :: st) h Q ↔ if j ≤ i then Runs 128 24 ls st h Q else Runs 128 10 ls st h Q := R_icge rfl rfl
theorem s128_10 : Runs 128 10 [x0, some (.int i), x2] st h Q ↔ Runs 128 11 [x0, some (.int i), x2] (.int i :: st) h Q := R_ildn rfl rfl
theorem s128_11 : Runs 128 11 [some (.int i), x1, x2] st h Q ↔ Runs 128 12 [some (.int i), x1, x2] (.int i :: st) h Q := R_ildn rfl rfl
theorem s128_12 : Runs 128 12 [x0, x1, some (.int i)] st h Q ↔ Runs 128 13 [x0, x1, some (.int i)] (.int i :: st) h Q := R_ildn rfl rfl
theorem s128_13 : Runs 128 13 ls (.int j :: .int i :: st) h Q ↔ Runs 128 14 ls (.int (i >>> (j &&& 31)) :: st) h Q := R_ishr rfl
theorem s128_14 : Runs 128 14 ls st h Q ↔ Runs 128 15 ls (.int 1 :: st) h Q := R_iconst rfl rfl
theorem s128_15 : Runs 128 15 ls (.int j :: .int i :: st) h Q ↔ Runs 128 16 ls (.int (i &&& j) :: st) h Q := R_iand rfl
theorem s128_16 : Runs 128 16 ls (.int j :: .int i :: st) h Q ↔ Runs 128 17 ls (.int (i + j) :: st) h Q := R_iadd rfl
theorem s128_17 : Runs 128 17 [x0, x1, x2] (.int i :: st) h Q ↔ Runs 128 18 [zdrop x0, some (.int i), x2] st h Q := R_istn rfl rfl rfl
theorem s128_18 : Runs 128 18 [x0, x1, some (.int i)] st h Q ↔ Runs 128 21 [x0, zdrop x1, some (.int (i + 1))] st h Q := R_iinc rfl rfl rfl rfl rfl
theorem s128_21 : Runs 128 21 ls st h Q ↔ Runs 128 4 ls st h Q := R_goto rfl rfl
theorem s128_24 : Runs 128 24 [x0, some (.int i), x2] st h Q ↔ Runs 128 25 [x0, some (.int i), x2] (.int i :: st) h Q := R_ildn rfl rfl
theorem s128_25 : Runs 128 25 ls [.int i] h Q ↔ Q (some (.int i)) h := R_iret rfl rfl
theorem s139_0 : Runs 139 0 [some (.ref a), x1, x2, x3] st h Q ↔ Runs 139 1 [some (.ref a), x1, x2, x3] (.ref a :: st) h Q := R_aldn rfl rfl
theorem s139_0q : Runs 139 0 [some (zrf r), x1, x2, x3] st h Q ↔ Runs 139 1 [some (zrf r), x1, x2, x3] (zrf r :: st) h Q := R_aldnq rfl rfl
theorem s139_1 (ht : tg a = 10) : Runs 139 1 ls (.ref a :: st) (n, tg, ln, I, J, O) Q ↔ Runs 139 4 ls (zrf (O a 0) :: st) (n, tg, ln, I, J, O) Q := R_getr rfl rfl rfl rfl ht
theorem s139_4 : Runs 139 4 [x0, some (.int i), x2, x3] st h Q ↔ Runs 139 5 [x0, some (.int i), x2, x3] (.int i :: st) h Q := R_ildn rfl rfl
theorem s139_5 : Runs 139 5 ls st h Q ↔ Runs 139 7 ls (.int 6 :: st) h Q := R_bipush rfl (by decide)
theorem s139_7 : Runs 139 7 ls (.int j :: .int i :: st) h Q ↔ Runs 139 8 ls (.int (i + j) :: st) h Q := R_iadd rfl
theorem s139_8 : Runs 139 8 ls st h Q ↔ Runs 139 10 ls (.int 12 :: st) h Q := R_bipush rfl (by decide)
theorem s139_10 : Runs 139 10 [x0, x1, some (.int i), x3] st h Q ↔ Runs 139 11 [x0, x1, some (.int i), x3] (.int i :: st) h Q := R_ildn rfl rfl
theorem s139_11 : Runs 139 11 ls (.int j :: .int i :: st) h Q ↔ Runs 139 12 ls (.int (i * j) :: st) h Q := R_imul rfl
theorem s139_12 : Runs 139 12 ls (.int j :: .int i :: st) h Q ↔ Runs 139 13 ls (.int (i + j) :: st) h Q := R_iadd rfl
theorem s139_13 : Runs 139 13 [some (.ref a), x1, x2, x3] st h Q ↔ Runs 139 14 [some (.ref a), x1, x2, x3] (.ref a :: st) h Q := R_aldn rfl rfl
theorem s139_13q : Runs 139 13 [some (zrf r), x1, x2, x3] st h Q ↔ Runs 139 14 [some (zrf r), x1, x2, x3] (zrf r :: st) h Q := R_aldnq rfl rfl
theorem s139_14 (ht : tg a = 10) : Runs 139 14 ls (.ref a :: st) (n, tg, ln, I, J, O) Q ↔ Runs 139 17 ls (zrf (O a 0) :: st) (n, tg, ln, I, J, O) Q := R_getr rfl rfl rfl rfl ht
theorem s139_17 : Runs 139 17 [x0, some (.int i), x2, x3] st h Q ↔ Runs 139 18 [x0, some (.int i), x2, x3] (.int i :: st) h Q := R_ildn rfl rfl
theorem s139_18 : Runs 139 18 ls st h Q ↔ Runs 139 19 ls (.int 4 :: st) h Q := R_iconst rfl rfl
theorem s139_19 : Runs 139 19 ls (.int j :: .int i :: st) h Q ↔ Runs 139 20 ls (.int (i + j) :: st) h Q := R_iadd rfl
theorem s139_20 : Runs 139 20 [x0, x1, some (.int i), x3] st h Q ↔ Runs 139 21 [x0, x1, some (.int i), x3] (.int i :: st) h Q := R_ildn rfl rfl
theorem s139_21 : Runs 139 21 ls (.int j :: .int i :: st) h Q ↔ Runs 139 22 ls (.int (i + j) :: st) h Q := R_iadd rfl
theorem s139_22 (ht : tg a = 20) : Runs 139 22 ls (.int i :: .ref a :: st) (n, tg, ln, I, J, O) Q ↔ ((0 ≤ i ∧ i < Int32.ofNat (ln a)) ∧ Runs 139 23 ls (.int (I a i) :: st) (n, tg, ln, I, J, O) Q) := R_iald rfl ht
theorem s139_23 : Runs 139 23 ls (.int j :: .int i :: st) h Q ↔ Runs 139 24 ls (.int (i + j) :: st) h Q := R_iadd rfl
theorem s139_24 : Runs 139 24 [x0, x1, x2, some (.int i)] st h Q ↔ Runs 139 25 [x0, x1, x2, some (.int i)] (.int i :: st) h Q := R_ildn rfl rfl
theorem s139_25 (ht : tg a = 20) : Runs 139 25 ls (.int j :: .int i :: .ref a :: st) (n, tg, ln, I, J, O) Q ↔ ((0 ≤ i ∧ i < Int32.ofNat (ln a)) ∧ Runs 139 26 ls st (n, tg, ln, zu I a i j, J, O) Q) := R_iast rfl ht
theorem s139_26 : Runs 139 26 [some (.ref a), x1, x2, x3] st h Q ↔ Runs 139 27 [some (.ref a), x1, x2, x3] (.ref a :: st) h Q := R_aldn rfl rfl
theorem s139_26q : Runs 139 26 [some (zrf r), x1, x2, x3] st h Q ↔ Runs 139 27 [some (zrf r), x1, x2, x3] (zrf r :: st) h Q := R_aldnq rfl rfl
theorem s139_27 (ht : tg a = 10) : Runs 139 27 ls (.ref a :: st) (n, tg, ln, I, J, O) Q ↔ Runs 139 30 ls (zrf (O a 0) :: st) (n, tg, ln, I, J, O) Q := R_getr rfl rfl rfl rfl ht
theorem s139_30 : Runs 139 30 [x0, some (.int i), x2, x3] st h Q ↔ Runs 139 31 [x0, some (.int i), x2, x3] (.int i :: st) h Q := R_ildn rfl rfl
theorem s139_31 : Runs 139 31 ls st h Q ↔ Runs 139 32 ls (.int 4 :: st) h Q := R_iconst rfl rfl
theorem s139_32 : Runs 139 32 ls (.int j :: .int i :: st) h Q ↔ Runs 139 33 ls (.int (i + j) :: st) h Q := R_iadd rfl
theorem s139_33 : Runs 139 33 [x0, x1, some (.int i), x3] st h Q ↔ Runs 139 34 [x0, x1, some (.int i), x3] (.int i :: st) h Q := R_ildn rfl rfl
theorem s139_34 : Runs 139 34 ls (.int j :: .int i :: st) h Q ↔ Runs 139 35 ls (.int (i + j) :: st) h Q := R_iadd rfl
theorem s139_35 : Runs 139 35 ls (.int i :: .ref a :: st) h Q ↔ Runs 139 36 ls (.int i :: .ref a :: .int i :: .ref a :: st) h Q := R_dup2 rfl
theorem s139_36 (ht : tg a = 20) : Runs 139 36 ls (.int i :: .ref a :: st) (n, tg, ln, I, J, O) Q ↔ ((0 ≤ i ∧ i < Int32.ofNat (ln a)) ∧ Runs 139 37 ls (.int (I a i) :: st) (n, tg, ln, I, J, O) Q) := R_iald rfl ht
theorem s139_37 : Runs 139 37 ls st h Q ↔ Runs 139 38 ls (.int 1 :: st) h Q := R_iconst rfl rfl
theorem s139_38 : Runs 139 38 ls (.int j :: .int i :: st) h Q ↔ Runs 139 39 ls (.int (i + j) :: st) h Q := R_iadd rfl
theorem s139_39 (ht : tg a = 20) : Runs 139 39 ls (.int j :: .int i :: .ref a :: st) (n, tg, ln, I, J, O) Q ↔ ((0 ≤ i ∧ i < Int32.ofNat (ln a)) ∧ Runs 139 40 ls st (n, tg, ln, zu I a i j, J, O) Q) := R_iast rfl ht
theorem s139_40 : Runs 139 40 ls [] h Q ↔ Q none h := R_vret rfl rfl
theorem s140_0 : Runs 140 0 [some (.ref a), x1, x2, x3, x4, x5] st h Q ↔ Runs 140 1 [some (.ref a), x1, x2, x3, x4, x5] (.ref a :: st) h Q := R_aldn rfl rfl
theorem s140_0q : Runs 140 0 [some (zrf r), x1, x2, x3, x4, x5] st h Q ↔ Runs 140 1 [some (zrf r), x1, x2, x3, x4, x5] (zrf r :: st) h Q := R_aldnq rfl rfl
theorem s140_1 (ht : tg a = 10) : Runs 140 1 ls (.ref a :: st) (n, tg, ln, I, J, O) Q ↔ Runs 140 4 ls (zrf (O a 0) :: st) (n, tg, ln, I, J, O) Q := R_getr rfl rfl rfl rfl ht
theorem s140_4 : Runs 140 4 [x0, some (.int i), x2, x3, x4, x5] st h Q ↔ Runs 140 5 [x0, some (.int i), x2, x3, x4, x5] (.int i :: st) h Q := R_ildn rfl rfl
theorem s140_5 : Runs 140 5 ls st h Q ↔ Runs 140 6 ls (.int 0 :: st) h Q := R_iconst rfl rfl
theorem s140_6 : Runs 140 6 ls (.int j :: .int i :: st) h Q ↔ Runs 140 7 ls (.int (i + j) :: st) h Q := R_iadd rfl
theorem s140_7 (ht : tg a = 20) : Runs 140 7 ls (.int i :: .ref a :: st) (n, tg, ln, I, J, O) Q ↔ ((0 ≤ i ∧ i < Int32.ofNat (ln a)) ∧ Runs 140 8 ls (.int (I a i) :: st) (n, tg, ln, I, J, O) Q) := R_iald rfl ht
theorem s140_8 : Runs 140 8 [x0, x1, x2, x3, x4, x5] (.int i :: st) h Q ↔ Runs 140 10 [x0, x1, x2, x3, zdrop x4, some (.int i)] st h Q := R_ist rfl rfl rfl
theorem s140_10 : Runs 140 10 [some (.ref a), x1, x2, x3, x4, x5] st h Q ↔ Runs 140 11 [some (.ref a), x1, x2, x3, x4, x5] (.ref a :: st) h Q := R_aldn rfl rfl
theorem s140_10q : Runs 140 10 [some (zrf r), x1, x2, x3, x4, x5] st h Q ↔ Runs 140 11 [some (zrf r), x1, x2, x3, x4, x5] (zrf r :: st) h Q := R_aldnq rfl rfl
theorem s140_11 (ht : tg a = 10) : Runs 140 11 ls (.ref a :: st) (n, tg, ln, I, J, O) Q ↔ Runs 140 14 ls (zrf (O a 0) :: st) (n, tg, ln, I, J, O) Q := R_getr rfl rfl rfl rfl ht
theorem s140_14 : Runs 140 14 [x0, some (.int i), x2, x3, x4, x5] st h Q ↔ Runs 140 15 [x0, some (.int i), x2, x3, x4, x5] (.int i :: st) h Q := R_ildn rfl rfl
theorem s140_15 : Runs 140 15 ls st h Q ↔ Runs 140 17 ls (.int 30 :: st) h Q := R_bipush rfl (by decide)
theorem s140_17 : Runs 140 17 ls (.int j :: .int i :: st) h Q ↔ Runs 140 18 ls (.int (i + j) :: st) h Q := R_iadd rfl
theorem s140_18 : Runs 140 18 [x0, x1, x2, x3, x4, some (.int i)] st h Q ↔ Runs 140 20 [x0, x1, x2, x3, x4, some (.int i)] (.int i :: st) h Q := R_ild rfl rfl
theorem s140_20 : Runs 140 20 ls (.int j :: .int i :: st) h Q ↔ Runs 140 21 ls (.int (i + j) :: st) h Q := R_iadd rfl
theorem s140_21 : Runs 140 21 [x0, x1, x2, some (.int i), x4, x5] st h Q ↔ Runs 140 22 [x0, x1, x2, some (.int i), x4, x5] (.int i :: st) h Q := R_ildn rfl rfl
theorem s140_22 (ht : tg a = 20) : Runs 140 22 ls (.int j :: .int i :: .ref a :: st) (n, tg, ln, I, J, O) Q ↔ ((0 ≤ i ∧ i < Int32.ofNat (ln a)) ∧ Runs 140 23 ls st (n, tg, ln, zu I a i j, J, O) Q) := R_iast rfl ht
theorem s140_23 : Runs 140 23 [some (.ref a), x1, x2, x3, x4, x5] st h Q ↔ Runs 140 24 [some (.ref a), x1, x2, x3, x4, x5] (.ref a :: st) h Q := R_aldn rfl rfl
theorem s140_23q : Runs 140 23 [some (zrf r), x1, x2, x3, x4, x5] st h Q ↔ Runs 140 24 [some (zrf r), x1, x2, x3, x4, x5] (zrf r :: st) h Q := R_aldnq rfl rfl
theorem s140_24 (ht : tg a = 10) : Runs 140 24 ls (.ref a :: st) (n, tg, ln, I, J, O) Q ↔ Runs 140 27 ls (zrf (O a 0) :: st) (n, tg, ln, I, J, O) Q := R_getr rfl rfl rfl rfl ht
theorem s140_27 : Runs 140 27 [x0, some (.int i), x2, x3, x4, x5] st h Q ↔ Runs 140 28 [x0, some (.int i), x2, x3, x4, x5] (.int i :: st) h Q := R_ildn rfl rfl
theorem s140_28 : Runs 140 28 ls st h Q ↔ Runs 140 30 ls (.int 42 :: st) h Q := R_bipush rfl (by decide)
theorem s140_30 : Runs 140 30 ls (.int j :: .int i :: st) h Q ↔ Runs 140 31 ls (.int (i + j) :: st) h Q := R_iadd rfl
theorem s140_31 : Runs 140 31 [x0, x1, x2, x3, x4, some (.int i)] st h Q ↔ Runs 140 33 [x0, x1, x2, x3, x4, some (.int i)] (.int i :: st) h Q := R_ild rfl rfl
theorem s140_33 : Runs 140 33 ls (.int j :: .int i :: st) h Q ↔ Runs 140 34 ls (.int (i + j) :: st) h Q := R_iadd rfl
theorem s140_34 : Runs 140 34 [x0, x1, x2, x3, some (.int i), x5] st h Q ↔ Runs 140 36 [x0, x1, x2, x3, some (.int i), x5] (.int i :: st) h Q := R_ild rfl rfl
theorem s140_36 (ht : tg a = 20) : Runs 140 36 ls (.int j :: .int i :: .ref a :: st) (n, tg, ln, I, J, O) Q ↔ ((0 ≤ i ∧ i < Int32.ofNat (ln a)) ∧ Runs 140 37 ls st (n, tg, ln, zu I a i j, J, O) Q) := R_iast rfl ht
theorem s140_37 : Runs 140 37 [some (.ref a), x1, x2, x3, x4, x5] st h Q ↔ Runs 140 38 [some (.ref a), x1, x2, x3, x4, x5] (.ref a :: st) h Q := R_aldn rfl rfl
theorem s140_37q : Runs 140 37 [some (zrf r), x1, x2, x3, x4, x5] st h Q ↔ Runs 140 38 [some (zrf r), x1, x2, x3, x4, x5] (zrf r :: st) h Q := R_aldnq rfl rfl
theorem s140_38 (ht : tg a = 10) : Runs 140 38 ls (.ref a :: st) (n, tg, ln, I, J, O) Q ↔ Runs 140 41 ls (zrf (O a 0) :: st) (n, tg, ln, I, J, O) Q := R_getr rfl rfl rfl rfl ht
theorem s140_41 : Runs 140 41 [x0, some (.int i), x2, x3, x4, x5] st h Q ↔ Runs 140 42 [x0, some (.int i), x2, x3, x4, x5] (.int i :: st) h Q := R_ildn rfl rfl
theorem s140_42 : Runs 140 42 ls st h Q ↔ Runs 140 44 ls (.int 54 :: st) h Q := R_bipush rfl (by decide)
theorem s140_44 : Runs 140 44 ls (.int j :: .int i :: st) h Q ↔ Runs 140 45 ls (.int (i + j) :: st) h Q := R_iadd rfl
theorem s140_45 : Runs 140 45 [x0, x1, x2, x3, x4, some (.int i)] st h Q ↔ Runs 140 47 [x0, x1, x2, x3, x4, some (.int i)] (.int i :: st) h Q := R_ild rfl rfl
theorem s140_47 : Runs 140 47 ls (.int j :: .int i :: st) h Q ↔ Runs 140 48 ls (.int (i + j) :: st) h Q := R_iadd rfl
theorem s140_48 : Runs 140 48 ls st h Q ↔ Runs 140 49 ls (.int 0 :: st) h Q := R_iconst rfl rfl
theorem s140_49 (ht : tg a = 20) : Runs 140 49 ls (.int j :: .int i :: .ref a :: st) (n, tg, ln, I, J, O) Q ↔ ((0 ≤ i ∧ i < Int32.ofNat (ln a)) ∧ Runs 140 50 ls st (n, tg, ln, zu I a i j, J, O) Q) := R_iast rfl ht
theorem s140_50 : Runs 140 50 [some (.ref a), x1, x2, x3, x4, x5] st h Q ↔ Runs 140 51 [some (.ref a), x1, x2, x3, x4, x5] (.ref a :: st) h Q := R_aldn rfl rfl
theorem s140_50q : Runs 140 50 [some (zrf r), x1, x2, x3, x4, x5] st h Q ↔ Runs 140 51 [some (zrf r), x1, x2, x3, x4, x5] (zrf r :: st) h Q := R_aldnq rfl rfl
theorem s140_51 (ht : tg a = 10) : Runs 140 51 ls (.ref a :: st) (n, tg, ln, I, J, O) Q ↔ Runs 140 54 ls (zrf (O a 0) :: st) (n, tg, ln, I, J, O) Q := R_getr rfl rfl rfl rfl ht
theorem s140_54 : Runs 140 54 [x0, some (.int i), x2, x3, x4, x5] st h Q ↔ Runs 140 55 [x0, some (.int i), x2, x3, x4, x5] (.int i :: st) h Q := R_ildn rfl rfl
theorem s140_55 : Runs 140 55 ls st h Q ↔ Runs 140 57 ls (.int 66 :: st) h Q := R_bipush rfl (by decide)
theorem s140_57 : Runs 140 57 ls (.int j :: .int i :: st) h Q ↔ Runs 140 58 ls (.int (i + j) :: st) h Q := R_iadd rfl
theorem s140_58 : Runs 140 58 [x0, x1, x2, x3, x4, some (.int i)] st h Q ↔ Runs 140 60 [x0, x1, x2, x3, x4, some (.int i)] (.int i :: st) h Q := R_ild rfl rfl
theorem s140_60 : Runs 140 60 ls (.int j :: .int i :: st) h Q ↔ Runs 140 61 ls (.int (i + j) :: st) h Q := R_iadd rfl
theorem s140_61 : Runs 140 61 ls st h Q ↔ Runs 140 62 ls (.int 0 :: st) h Q := R_iconst rfl rfl
theorem s140_62 (ht : tg a = 20) : Runs 140 62 ls (.int j :: .int i :: .ref a :: st) (n, tg, ln, I, J, O) Q ↔ ((0 ≤ i ∧ i < Int32.ofNat (ln a)) ∧ Runs 140 63 ls st (n, tg, ln, zu I a i j, J, O) Q) := R_iast rfl ht
theorem s140_63 : Runs 140 63 [some (.ref a), x1, x2, x3, x4, x5] st h Q ↔ Runs 140 64 [some (.ref a), x1, x2, x3, x4, x5] (.ref a :: st) h Q := R_aldn rfl rfl
theorem s140_63q : Runs 140 63 [some (zrf r), x1, x2, x3, x4, x5] st h Q ↔ Runs 140 64 [some (zrf r), x1, x2, x3, x4, x5] (zrf r :: st) h Q := R_aldnq rfl rfl
theorem s140_64 (ht : tg a = 10) : Runs 140 64 ls (.ref a :: st) (n, tg, ln, I, J, O) Q ↔ Runs 140 67 ls (zrf (O a 0) :: st) (n, tg, ln, I, J, O) Q := R_getr rfl rfl rfl rfl ht
theorem s140_67 : Runs 140 67 [x0, some (.int i), x2, x3, x4, x5] st h Q ↔ Runs 140 68 [x0, some (.int i), x2, x3, x4, x5] (.int i :: st) h Q := R_ildn rfl rfl
theorem s140_68 : Runs 140 68 ls st h Q ↔ Runs 140 70 ls (.int 78 :: st) h Q := R_bipush rfl (by decide)
theorem s140_70 : Runs 140 70 ls (.int j :: .int i :: st) h Q ↔ Runs 140 71 ls (.int (i + j) :: st) h Q := R_iadd rfl
theorem s140_71 : Runs 140 71 [x0, x1, x2, x3, x4, some (.int i)] st h Q ↔ Runs 140 73 [x0, x1, x2, x3, x4, some (.int i)] (.int i :: st) h Q := R_ild rfl rfl
theorem s140_73 : Runs 140 73 ls (.int j :: .int i :: st) h Q ↔ Runs 140 74 ls (.int (i + j) :: st) h Q := R_iadd rfl
theorem s140_74 : Runs 140 74 [x0, x1, some (.int i), x3, x4, x5] st h Q ↔ Runs 140 75 [x0, x1, some (.int i), x3, x4, x5] (.int i :: st) h Q := R_ildn rfl rfl
theorem s140_75 (ht : tg a = 20) : Runs 140 75 ls (.int j :: .int i :: .ref a :: st) (n, tg, ln, I, J, O) Q ↔ ((0 ≤ i ∧ i < Int32.ofNat (ln a)) ∧ Runs 140 76 ls st (n, tg, ln, zu I a i j, J, O) Q) := R_iast rfl ht
theorem s140_76 : Runs 140 76 [some (.ref a), x1, x2, x3, x4, x5] st h Q ↔ Runs 140 77 [some (.ref a), x1, x2, x3, x4, x5] (.ref a :: st) h Q := R_aldn rfl rfl
theorem s140_76q : Runs 140 76 [some (zrf r), x1, x2, x3, x4, x5] st h Q ↔ Runs 140 77 [some (zrf r), x1, x2, x3, x4, x5] (zrf r :: st) h Q := R_aldnq rfl rfl
theorem s140_77 : Runs 140 77 [x0, some (.int i), x2, x3, x4, x5] st h Q ↔ Runs 140 78 [x0, some (.int i), x2, x3, x4, x5] (.int i :: st) h Q := R_ildn rfl rfl
theorem s140_78 : Runs 140 78 [x0, x1, some (.int i), x3, x4, x5] st h Q ↔ Runs 140 79 [x0, x1, some (.int i), x3, x4, x5] (.int i :: st) h Q := R_ildn rfl rfl
theorem s140_79 : Runs 140 79 [x0, x1, x2, x3, x4, some (.int i)] st h Q ↔ Runs 140 81 [x0, x1, x2, x3, x4, some (.int i)] (.int i :: st) h Q := R_ild rfl rfl
theorem s140_81 (ht : tg a = 10) (hs : zsumc st ≤ 8) : Runs 140 81 ls (.int i2 :: .int i1 :: .int i0 :: .ref a :: st) (n, tg, ln, I, J, O) Q ↔ Runs 139 0 [some (.ref a), some (.int i0), some (.int i1), some (.int i2)] [] (n, tg, ln, I, J, O) (fun v h2 => Runs 140 84 ls (v.toList ++ st) h2 Q) := R_callv (a := a) (rest := st) rfl rfl rfl rfl rfl rfl rfl ht hs
theorem s140_84 : Runs 140 84 [some (.ref a), x1, x2, x3, x4, x5] st h Q ↔ Runs 140 85 [some (.ref a), x1, x2, x3, x4, x5] (.ref a :: st) h Q := R_aldn rfl rfl
theorem s140_84q : Runs 140 84 [some (zrf r), x1, x2, x3, x4, x5] st h Q ↔ Runs 140 85 [some (zrf r), x1, x2, x3, x4, x5] (zrf r :: st) h Q := R_aldnq rfl rfl
theorem s140_85 (ht : tg a = 10) : Runs 140 85 ls (.ref a :: st) (n, tg, ln, I, J, O) Q ↔ Runs 140 88 ls (zrf (O a 0) :: st) (n, tg, ln, I, J, O) Q := R_getr rfl rfl rfl rfl ht
theorem s140_88 : Runs 140 88 [x0, some (.int i), x2, x3, x4, x5] st h Q ↔ Runs 140 89 [x0, some (.int i), x2, x3, x4, x5] (.int i :: st) h Q := R_ildn rfl rfl
theorem s140_89 : Runs 140 89 ls st h Q ↔ Runs 140 90 ls (.int 0 :: st) h Q := R_iconst rfl rfl
theorem s140_90 : Runs 140 90 ls (.int j :: .int i :: st) h Q ↔ Runs 140 91 ls (.int (i + j) :: st) h Q := R_iadd rfl
theorem s140_91 : Runs 140 91 ls (.int i :: .ref a :: st) h Q ↔ Runs 140 92 ls (.int i :: .ref a :: .int i :: .ref a :: st) h Q := R_dup2 rfl
theorem s140_92 (ht : tg a = 20) : Runs 140 92 ls (.int i :: .ref a :: st) (n, tg, ln, I, J, O) Q ↔ ((0 ≤ i ∧ i < Int32.ofNat (ln a)) ∧ Runs 140 93 ls (.int (I a i) :: st) (n, tg, ln, I, J, O) Q) := R_iald rfl ht
theorem s140_93 : Runs 140 93 ls st h Q ↔ Runs 140 94 ls (.int 1 :: st) h Q := R_iconst rfl rfl
theorem s140_94 : Runs 140 94 ls (.int j :: .int i :: st) h Q ↔ Runs 140 95 ls (.int (i + j) :: st) h Q := R_iadd rfl
theorem s140_95 (ht : tg a = 20) : Runs 140 95 ls (.int j :: .int i :: .ref a :: st) (n, tg, ln, I, J, O) Q ↔ ((0 ≤ i ∧ i < Int32.ofNat (ln a)) ∧ Runs 140 96 ls st (n, tg, ln, zu I a i j, J, O) Q) := R_iast rfl ht
theorem s140_96 : Runs 140 96 ls [] h Q ↔ Q none h := R_vret rfl rfl
theorem s148_0 : Runs 148 0 ls st h Q ↔ Runs 148 1 ls (.int 0 :: st) h Q := R_iconst rfl rfl
theorem s148_1 : Runs 148 1 [x0, x1, x2, x3] (.int i :: st) h Q ↔ Runs 148 2 [x0, x1, zdrop x2, some (.int i)] st h Q := R_istn rfl rfl rfl
theorem s148_2 : Runs 148 2 [x0, x1, x2, some (.int i)] st h Q ↔ Runs 148 3 [x0, x1, x2, some (.int i)] (.int i :: st) h Q := R_ildn rfl rfl
theorem s148_3 : Runs 148 3 ls st h Q ↔ Runs 148 5 ls (.int 90 :: st) h Q := R_bipush rfl (by decide)
theorem s148_5 : Runs 148 5 ls (.int j :: .int i :: st) h Q ↔ if j ≤ i then Runs 148 30 ls st h Q else Runs 148 8 ls st h Q := R_icge rfl rfl
theorem s148_8 : Runs 148 8 [some (.ref a), x1, x2, x3] st h Q ↔ Runs 148 9 [some (.ref a), x1, x2, x3] (.ref a :: st) h Q := R_aldn rfl rfl
theorem s148_8q : Runs 148 8 [some (zrf r), x1, x2, x3] st h Q ↔ Runs 148 9 [some (zrf r), x1, x2, x3] (zrf r :: st) h Q := R_aldnq rfl rfl
theorem s148_9 (ht : tg a = 10) : Runs 148 9 ls (.ref a :: st) (n, tg, ln, I, J, O) Q ↔ Runs 148 12 ls (zrf (O a 0) :: st) (n, tg, ln, I, J, O) Q := R_getr rfl rfl rfl rfl ht
theorem s148_12 : Runs 148 12 [x0, x1, some (.int i), x3] st h Q ↔ Runs 148 13 [x0, x1, some (.int i), x3] (.int i :: st) h Q := R_ildn rfl rfl
theorem s148_13 : Runs 148 13 [x0, x1, x2, some (.int i)] st h Q ↔ Runs 148 14 [x0, x1, x2, some (.int i)] (.int i :: st) h Q := R_ildn rfl rfl
theorem s148_14 : Runs 148 14 ls (.int j :: .int i :: st) h Q ↔ Runs 148 15 ls (.int (i + j) :: st) h Q := R_iadd rfl
theorem s148_15 : Runs 148 15 [some (.ref a), x1, x2, x3] st h Q ↔ Runs 148 16 [some (.ref a), x1, x2, x3] (.ref a :: st) h Q := R_aldn rfl rfl
theorem s148_15q : Runs 148 15 [some (zrf r), x1, x2, x3] st h Q ↔ Runs 148 16 [some (zrf r), x1, x2, x3] (zrf r :: st) h Q := R_aldnq rfl rfl
theorem s148_16 (ht : tg a = 10) : Runs 148 16 ls (.ref a :: st) (n, tg, ln, I, J, O) Q ↔ Runs 148 19 ls (zrf (O a 0) :: st) (n, tg, ln, I, J, O) Q := R_getr rfl rfl rfl rfl ht
theorem s148_19 : Runs 148 19 [x0, some (.int i), x2, x3] st h Q ↔ Runs 148 20 [x0, some (.int i), x2, x3] (.int i :: st) h Q := R_ildn rfl rfl
theorem s148_20 : Runs 148 20 [x0, x1, x2, some (.int i)] st h Q ↔ Runs 148 21 [x0, x1, x2, some (.int i)] (.int i :: st) h Q := R_ildn rfl rfl
theorem s148_21 : Runs 148 21 ls (.int j :: .int i :: st) h Q ↔ Runs 148 22 ls (.int (i + j) :: st) h Q := R_iadd rfl
theorem s148_22 (ht : tg a = 20) : Runs 148 22 ls (.int i :: .ref a :: st) (n, tg, ln, I, J, O) Q ↔ ((0 ≤ i ∧ i < Int32.ofNat (ln a)) ∧ Runs 148 23 ls (.int (I a i) :: st) (n, tg, ln, I, J, O) Q) := R_iald rfl ht
theorem s148_23 (ht : tg a = 20) : Runs 148 23 ls (.int j :: .int i :: .ref a :: st) (n, tg, ln, I, J, O) Q ↔ ((0 ≤ i ∧ i < Int32.ofNat (ln a)) ∧ Runs 148 24 ls st (n, tg, ln, zu I a i j, J, O) Q) := R_iast rfl ht
theorem s148_24 : Runs 148 24 [x0, x1, x2, some (.int i)] st h Q ↔ Runs 148 27 [x0, x1, zdrop x2, some (.int (i + 1))] st h Q := R_iinc rfl rfl rfl rfl rfl
theorem s148_27 : Runs 148 27 ls st h Q ↔ Runs 148 2 ls st h Q := R_goto rfl rfl
theorem s148_30 : Runs 148 30 ls [] h Q ↔ Q none h := R_vret rfl rfl
theorem s150_0 : Runs 150 0 [x0, some (.long u), x2] st h Q ↔ Runs 150 1 [x0, some (.long u), x2] (.long u :: st) h Q := R_lldn rfl rfl
theorem s150_1 : Runs 150 1 ls st h Q ↔ Runs 150 2 ls (.long 0 :: st) h Q := R_lconst rfl rfl
theorem s150_2 : Runs 150 2 [some (.ref a), x1, x2] st h Q ↔ Runs 150 3 [some (.ref a), x1, x2] (.ref a :: st) h Q := R_aldn rfl rfl
theorem s150_2q : Runs 150 2 [some (zrf r), x1, x2] st h Q ↔ Runs 150 3 [some (zrf r), x1, x2] (zrf r :: st) h Q := R_aldnq rfl rfl
theorem s150_3 (ht : tg a = 10) : Runs 150 3 ls (.ref a :: st) (n, tg, ln, I, J, O) Q ↔ Runs 150 6 ls (zrf (O a 0) :: st) (n, tg, ln, I, J, O) Q := R_getr rfl rfl rfl rfl ht
theorem s150_6 : Runs 150 6 ls st h Q ↔ Runs 150 7 ls (.int 0 :: st) h Q := R_iconst rfl rfl
theorem s150_7 (ht : tg a = 20) : Runs 150 7 ls (.int i :: .ref a :: st) (n, tg, ln, I, J, O) Q ↔ ((0 ≤ i ∧ i < Int32.ofNat (ln a)) ∧ Runs 150 8 ls (.int (I a i) :: st) (n, tg, ln, I, J, O) Q) := R_iald rfl ht
theorem s150_8 : Runs 150 8 ls st h Q ↔ Runs 150 9 ls (.int 1 :: st) h Q := R_iconst rfl rfl
theorem s150_9 : Runs 150 9 ls (.int j :: .int i :: st) h Q ↔ Runs 150 10 ls (.int (i - j) :: st) h Q := R_isub rfl
theorem s150_10 : Runs 150 10 ls (.int i :: st) h Q ↔ Runs 150 11 ls (.long i.toInt64 :: st) h Q := R_i2l rfl
theorem s150_11 (hs : zsumc st ≤ 8) : Runs 150 11 ls (.long u2 :: .long u1 :: .long u0 :: st) h Q ↔ Runs 126 0 [some (.long u0), none, some (.long u1), none, some (.long u2), none] [] h (fun v h2 => Runs 150 14 ls (v.toList ++ st) h2 Q) := R_calls (rest := st) rfl rfl rfl (by simp) rfl rfl rfl rfl hs
theorem s150_14 (hx : i = 0 ∨ i = 1) : Runs 150 14 ls [.int i] h Q ↔ Q (some (.int i)) h := R_zret rfl rfl hx
theorem s151_0 : Runs 151 0 [some (.ref a), x1, x2, x3] st h Q ↔ Runs 151 1 [some (.ref a), x1, x2, x3] (.ref a :: st) h Q := R_aldn rfl rfl
theorem s151_0q : Runs 151 0 [some (zrf r), x1, x2, x3] st h Q ↔ Runs 151 1 [some (zrf r), x1, x2, x3] (zrf r :: st) h Q := R_aldnq rfl rfl
theorem s151_1 (ht : tg a = 10) : Runs 151 1 ls (.ref a :: st) (n, tg, ln, I, J, O) Q ↔ Runs 151 4 ls (zrf (O a 0) :: st) (n, tg, ln, I, J, O) Q := R_getr rfl rfl rfl rfl ht
theorem s151_4 : Runs 151 4 [x0, some (.int i), x2, x3] st h Q ↔ Runs 151 5 [x0, some (.int i), x2, x3] (.int i :: st) h Q := R_ildn rfl rfl
theorem s151_5 : Runs 151 5 ls st h Q ↔ Runs 151 7 ls (.int 6 :: st) h Q := R_bipush rfl (by decide)
theorem s151_7 : Runs 151 7 ls (.int j :: .int i :: st) h Q ↔ Runs 151 8 ls (.int (i + j) :: st) h Q := R_iadd rfl
theorem s151_8 : Runs 151 8 ls st h Q ↔ Runs 151 10 ls (.int 12 :: st) h Q := R_bipush rfl (by decide)
theorem s151_10 : Runs 151 10 [x0, x1, some (.int i), x3] st h Q ↔ Runs 151 11 [x0, x1, some (.int i), x3] (.int i :: st) h Q := R_ildn rfl rfl
theorem s151_11 : Runs 151 11 ls (.int j :: .int i :: st) h Q ↔ Runs 151 12 ls (.int (i * j) :: st) h Q := R_imul rfl
theorem s151_12 : Runs 151 12 ls (.int j :: .int i :: st) h Q ↔ Runs 151 13 ls (.int (i + j) :: st) h Q := R_iadd rfl
theorem s151_13 : Runs 151 13 [x0, x1, x2, some (.int i)] st h Q ↔ Runs 151 14 [x0, x1, x2, some (.int i)] (.int i :: st) h Q := R_ildn rfl rfl
theorem s151_14 : Runs 151 14 ls (.int j :: .int i :: st) h Q ↔ Runs 151 15 ls (.int (i + j) :: st) h Q := R_iadd rfl
theorem s151_15 (ht : tg a = 20) : Runs 151 15 ls (.int i :: .ref a :: st) (n, tg, ln, I, J, O) Q ↔ ((0 ≤ i ∧ i < Int32.ofNat (ln a)) ∧ Runs 151 16 ls (.int (I a i) :: st) (n, tg, ln, I, J, O) Q) := R_iald rfl ht
theorem s151_16 : Runs 151 16 ls [.int i] h Q ↔ Q (some (.int i)) h := R_iret rfl rfl
theorem s152_0 : Runs 152 0 ls st h Q ↔ Runs 152 1 ls (.int 0 :: st) h Q := R_iconst rfl rfl
theorem s152_1 : Runs 152 1 [x0, x1, x2, x3, x4] (.int i :: st) h Q ↔ Runs 152 2 [x0, x1, zdrop x2, some (.int i), x4] st h Q := R_istn rfl rfl rfl
theorem s152_2 : Runs 152 2 [x0, x1, x2, some (.int i), x4] st h Q ↔ Runs 152 3 [x0, x1, x2, some (.int i), x4] (.int i :: st) h Q := R_ildn rfl rfl
theorem s152_3 : Runs 152 3 ls st h Q ↔ Runs 152 4 ls (.int 2 :: st) h Q := R_iconst rfl rfl
theorem s152_4 : Runs 152 4 ls (.int j :: .int i :: st) h Q ↔ if j ≤ i then Runs 152 57 ls st h Q else Runs 152 7 ls st h Q := R_icge rfl rfl
theorem s152_7 : Runs 152 7 ls st h Q ↔ Runs 152 8 ls (.int 0 :: st) h Q := R_iconst rfl rfl
theorem s152_8 : Runs 152 8 [x0, x1, x2, x3, x4] (.int i :: st) h Q ↔ Runs 152 10 [x0, x1, x2, zdrop x3, some (.int i)] st h Q := R_ist rfl rfl rfl
theorem s152_10 : Runs 152 10 [x0, x1, x2, x3, some (.int i)] st h Q ↔ Runs 152 12 [x0, x1, x2, x3, some (.int i)] (.int i :: st) h Q := R_ild rfl rfl
theorem s152_12 : Runs 152 12 [some (.ref a), x1, x2, x3, x4] st h Q ↔ Runs 152 13 [some (.ref a), x1, x2, x3, x4] (.ref a :: st) h Q := R_aldn rfl rfl
theorem s152_12q : Runs 152 12 [some (zrf r), x1, x2, x3, x4] st h Q ↔ Runs 152 13 [some (zrf r), x1, x2, x3, x4] (zrf r :: st) h Q := R_aldnq rfl rfl
theorem s152_13 (ht : tg a = 10) : Runs 152 13 ls (.ref a :: st) (n, tg, ln, I, J, O) Q ↔ Runs 152 16 ls (zrf (O a 0) :: st) (n, tg, ln, I, J, O) Q := R_getr rfl rfl rfl rfl ht
theorem s152_16 : Runs 152 16 [x0, some (.int i), x2, x3, x4] st h Q ↔ Runs 152 17 [x0, some (.int i), x2, x3, x4] (.int i :: st) h Q := R_ildn rfl rfl
theorem s152_17 : Runs 152 17 ls st h Q ↔ Runs 152 18 ls (.int 4 :: st) h Q := R_iconst rfl rfl
theorem s152_18 : Runs 152 18 ls (.int j :: .int i :: st) h Q ↔ Runs 152 19 ls (.int (i + j) :: st) h Q := R_iadd rfl
theorem s152_19 : Runs 152 19 [x0, x1, x2, some (.int i), x4] st h Q ↔ Runs 152 20 [x0, x1, x2, some (.int i), x4] (.int i :: st) h Q := R_ildn rfl rfl
theorem s152_20 : Runs 152 20 ls (.int j :: .int i :: st) h Q ↔ Runs 152 21 ls (.int (i + j) :: st) h Q := R_iadd rfl
theorem s152_21 (ht : tg a = 20) : Runs 152 21 ls (.int i :: .ref a :: st) (n, tg, ln, I, J, O) Q ↔ ((0 ≤ i ∧ i < Int32.ofNat (ln a)) ∧ Runs 152 22 ls (.int (I a i) :: st) (n, tg, ln, I, J, O) Q) := R_iald rfl ht
theorem s152_22 : Runs 152 22 ls (.int j :: .int i :: st) h Q ↔ if j ≤ i then Runs 152 51 ls st h Q else Runs 152 25 ls st h Q := R_icge rfl rfl
theorem s152_25 : Runs 152 25 [some (.ref a), x1, x2, x3, x4] st h Q ↔ Runs 152 26 [some (.ref a), x1, x2, x3, x4] (.ref a :: st) h Q := R_aldn rfl rfl
theorem s152_25q : Runs 152 25 [some (zrf r), x1, x2, x3, x4] st h Q ↔ Runs 152 26 [some (zrf r), x1, x2, x3, x4] (zrf r :: st) h Q := R_aldnq rfl rfl
theorem s152_26 : Runs 152 26 [x0, some (.int i), x2, x3, x4] st h Q ↔ Runs 152 27 [x0, some (.int i), x2, x3, x4] (.int i :: st) h Q := R_ildn rfl rfl
theorem s152_27 : Runs 152 27 [x0, x1, x2, some (.int i), x4] st h Q ↔ Runs 152 28 [x0, x1, x2, some (.int i), x4] (.int i :: st) h Q := R_ildn rfl rfl
theorem s152_28 : Runs 152 28 [x0, x1, x2, x3, some (.int i)] st h Q ↔ Runs 152 30 [x0, x1, x2, x3, some (.int i)] (.int i :: st) h Q := R_ild rfl rfl
theorem s152_30 (ht : tg a = 10) (hs : zsumc st ≤ 8) : Runs 152 30 ls (.int i2 :: .int i1 :: .int i0 :: .ref a :: st) (n, tg, ln, I, J, O) Q ↔ Runs 151 0 [some (.ref a), some (.int i0), some (.int i1), some (.int i2)] [] (n, tg, ln, I, J, O) (fun v h2 => Runs 152 33 ls (v.toList ++ st) h2 Q) := R_callv (a := a) (rest := st) rfl rfl rfl rfl rfl rfl rfl ht hs
theorem s152_33 : Runs 152 33 [x0, x1, some (.int i), x3, x4] st h Q ↔ Runs 152 34 [x0, x1, some (.int i), x3, x4] (.int i :: st) h Q := R_ildn rfl rfl
theorem s152_34 : Runs 152 34 ls (.int j :: .int i :: st) h Q ↔ if ¬ i = j then Runs 152 45 ls st h Q else Runs 152 37 ls st h Q := R_icne rfl rfl
theorem s152_37 : Runs 152 37 ls st h Q ↔ Runs 152 39 ls (.int 100 :: st) h Q := R_bipush rfl (by decide)
theorem s152_39 : Runs 152 39 [x0, x1, x2, some (.int i), x4] st h Q ↔ Runs 152 40 [x0, x1, x2, some (.int i), x4] (.int i :: st) h Q := R_ildn rfl rfl
theorem s152_40 : Runs 152 40 ls (.int j :: .int i :: st) h Q ↔ Runs 152 41 ls (.int (i * j) :: st) h Q := R_imul rfl
theorem s152_41 : Runs 152 41 [x0, x1, x2, x3, some (.int i)] st h Q ↔ Runs 152 43 [x0, x1, x2, x3, some (.int i)] (.int i :: st) h Q := R_ild rfl rfl
theorem s152_43 : Runs 152 43 ls (.int j :: .int i :: st) h Q ↔ Runs 152 44 ls (.int (i + j) :: st) h Q := R_iadd rfl
theorem s152_44 : Runs 152 44 ls [.int i] h Q ↔ Q (some (.int i)) h := R_iret rfl rfl
theorem s152_45 : Runs 152 45 [x0, x1, x2, x3, some (.int i)] st h Q ↔ Runs 152 48 [x0, x1, x2, zdrop x3, some (.int (i + 1))] st h Q := R_iinc rfl rfl rfl rfl rfl
theorem s152_48 : Runs 152 48 ls st h Q ↔ Runs 152 10 ls st h Q := R_goto rfl rfl
theorem s152_51 : Runs 152 51 [x0, x1, x2, some (.int i), x4] st h Q ↔ Runs 152 54 [x0, x1, zdrop x2, some (.int (i + 1)), x4] st h Q := R_iinc rfl rfl rfl rfl rfl
theorem s152_54 : Runs 152 54 ls st h Q ↔ Runs 152 2 ls st h Q := R_goto rfl rfl
theorem s152_57 : Runs 152 57 ls st h Q ↔ Runs 152 58 ls (.int (-1) :: st) h Q := R_iconst rfl rfl
theorem s152_58 : Runs 152 58 ls [.int i] h Q ↔ Q (some (.int i)) h := R_iret rfl rfl
theorem s153_0 : Runs 153 0 [some (.int i)] st h Q ↔ Runs 153 1 [some (.int i)] (.int i :: st) h Q := R_ildn rfl rfl
theorem s153_1 : Runs 153 1 ls st h Q ↔ Runs 153 2 ls (.int 3 :: st) h Q := R_iconst rfl rfl
theorem s153_2 : Runs 153 2 ls (.int j :: .int i :: st) h Q ↔ if ¬ i = j then Runs 153 9 ls st h Q else Runs 153 5 ls st h Q := R_icne rfl rfl
theorem s153_5 : Runs 153 5 ls st h Q ↔ Runs 153 6 ls (.int 0 :: st) h Q := R_iconst rfl rfl
theorem s153_6 : Runs 153 6 ls st h Q ↔ Runs 153 28 ls st h Q := R_goto rfl rfl
theorem s153_9 : Runs 153 9 [some (.int i)] st h Q ↔ Runs 153 10 [some (.int i)] (.int i :: st) h Q := R_ildn rfl rfl
theorem s153_10 : Runs 153 10 ls st h Q ↔ Runs 153 11 ls (.int 4 :: st) h Q := R_iconst rfl rfl
theorem s153_11 : Runs 153 11 ls (.int j :: .int i :: st) h Q ↔ if ¬ i = j then Runs 153 18 ls st h Q else Runs 153 14 ls st h Q := R_icne rfl rfl
theorem s153_14 : Runs 153 14 ls st h Q ↔ Runs 153 15 ls (.int 3 :: st) h Q := R_iconst rfl rfl
theorem s153_15 : Runs 153 15 ls st h Q ↔ Runs 153 28 ls st h Q := R_goto rfl rfl
theorem s153_18 : Runs 153 18 [some (.int i)] st h Q ↔ Runs 153 19 [some (.int i)] (.int i :: st) h Q := R_ildn rfl rfl
theorem s153_19 : Runs 153 19 ls st h Q ↔ Runs 153 20 ls (.int 2 :: st) h Q := R_iconst rfl rfl
theorem s153_20 : Runs 153 20 ls (.int j :: .int i :: st) h Q ↔ if ¬ i = j then Runs 153 27 ls st h Q else Runs 153 23 ls st h Q := R_icne rfl rfl
theorem s153_23 : Runs 153 23 ls st h Q ↔ Runs 153 24 ls (.int 2 :: st) h Q := R_iconst rfl rfl
theorem s153_24 : Runs 153 24 ls st h Q ↔ Runs 153 28 ls st h Q := R_goto rfl rfl
theorem s153_27 : Runs 153 27 ls st h Q ↔ Runs 153 28 ls (.int 1 :: st) h Q := R_iconst rfl rfl
theorem s153_28 : Runs 153 28 ls [.int i] h Q ↔ Q (some (.int i)) h := R_iret rfl rfl
theorem s157_0 : Runs 157 0 [x0, some (.int i), x2, x3, x4, x5, x6] st h Q ↔ Runs 157 1 [x0, some (.int i), x2, x3, x4, x5, x6] (.int i :: st) h Q := R_ildn rfl rfl
theorem s157_1 : Runs 157 1 ls st h Q ↔ Runs 157 3 ls (.int 6 :: st) h Q := R_bipush rfl (by decide)
theorem s157_3 : Runs 157 3 ls (.int j :: .int i :: st) h Q ↔ Runs 157 4 ls (.int (i + j) :: st) h Q := R_iadd rfl
theorem s157_4 : Runs 157 4 ls st h Q ↔ Runs 157 6 ls (.int 12 :: st) h Q := R_bipush rfl (by decide)
theorem s157_6 : Runs 157 6 [x0, x1, some (.int i), x3, x4, x5, x6] st h Q ↔ Runs 157 7 [x0, x1, some (.int i), x3, x4, x5, x6] (.int i :: st) h Q := R_ildn rfl rfl
theorem s157_7 : Runs 157 7 ls (.int j :: .int i :: st) h Q ↔ Runs 157 8 ls (.int (i * j) :: st) h Q := R_imul rfl
theorem s157_8 : Runs 157 8 ls (.int j :: .int i :: st) h Q ↔ Runs 157 9 ls (.int (i + j) :: st) h Q := R_iadd rfl
theorem s157_9 : Runs 157 9 [x0, x1, x2, x3, x4, x5, x6] (.int i :: st) h Q ↔ Runs 157 10 [x0, x1, zdrop x2, some (.int i), x4, x5, x6] st h Q := R_istn rfl rfl rfl
theorem s157_10 : Runs 157 10 ls st h Q ↔ Runs 157 11 ls (.int 1 :: st) h Q := R_iconst rfl rfl
theorem s157_11 : Runs 157 11 [x0, x1, x2, x3, x4, x5, x6] (.int i :: st) h Q ↔ Runs 157 13 [x0, x1, x2, zdrop x3, some (.int i), x5, x6] st h Q := R_ist rfl rfl rfl
theorem s157_13 : Runs 157 13 [x0, x1, x2, x3, some (.int i), x5, x6] st h Q ↔ Runs 157 15 [x0, x1, x2, x3, some (.int i), x5, x6] (.int i :: st) h Q := R_ild rfl rfl
theorem s157_15 : Runs 157 15 [some (.ref a), x1, x2, x3, x4, x5, x6] st h Q ↔ Runs 157 16 [some (.ref a), x1, x2, x3, x4, x5, x6] (.ref a :: st) h Q := R_aldn rfl rfl
theorem s157_15q : Runs 157 15 [some (zrf r), x1, x2, x3, x4, x5, x6] st h Q ↔ Runs 157 16 [some (zrf r), x1, x2, x3, x4, x5, x6] (zrf r :: st) h Q := R_aldnq rfl rfl
theorem s157_16 (ht : tg a = 10) : Runs 157 16 ls (.ref a :: st) (n, tg, ln, I, J, O) Q ↔ Runs 157 19 ls (zrf (O a 0) :: st) (n, tg, ln, I, J, O) Q := R_getr rfl rfl rfl rfl ht
theorem s157_19 : Runs 157 19 [x0, some (.int i), x2, x3, x4, x5, x6] st h Q ↔ Runs 157 20 [x0, some (.int i), x2, x3, x4, x5, x6] (.int i :: st) h Q := R_ildn rfl rfl
theorem s157_20 : Runs 157 20 ls st h Q ↔ Runs 157 21 ls (.int 4 :: st) h Q := R_iconst rfl rfl
theorem s157_21 : Runs 157 21 ls (.int j :: .int i :: st) h Q ↔ Runs 157 22 ls (.int (i + j) :: st) h Q := R_iadd rfl
theorem s157_22 : Runs 157 22 [x0, x1, some (.int i), x3, x4, x5, x6] st h Q ↔ Runs 157 23 [x0, x1, some (.int i), x3, x4, x5, x6] (.int i :: st) h Q := R_ildn rfl rfl
theorem s157_23 : Runs 157 23 ls (.int j :: .int i :: st) h Q ↔ Runs 157 24 ls (.int (i + j) :: st) h Q := R_iadd rfl
theorem s157_24 (ht : tg a = 20) : Runs 157 24 ls (.int i :: .ref a :: st) (n, tg, ln, I, J, O) Q ↔ ((0 ≤ i ∧ i < Int32.ofNat (ln a)) ∧ Runs 157 25 ls (.int (I a i) :: st) (n, tg, ln, I, J, O) Q) := R_iald rfl ht
theorem s157_25 : Runs 157 25 ls (.int j :: .int i :: st) h Q ↔ if j ≤ i then Runs 157 155 ls st h Q else Runs 157 28 ls st h Q := R_icge rfl rfl
theorem s157_28 : Runs 157 28 [some (.ref a), x1, x2, x3, x4, x5, x6] st h Q ↔ Runs 157 29 [some (.ref a), x1, x2, x3, x4, x5, x6] (.ref a :: st) h Q := R_aldn rfl rfl
theorem s157_28q : Runs 157 28 [some (zrf r), x1, x2, x3, x4, x5, x6] st h Q ↔ Runs 157 29 [some (zrf r), x1, x2, x3, x4, x5, x6] (zrf r :: st) h Q := R_aldnq rfl rfl
theorem s157_29 (ht : tg a = 10) : Runs 157 29 ls (.ref a :: st) (n, tg, ln, I, J, O) Q ↔ Runs 157 32 ls (zrf (O a 0) :: st) (n, tg, ln, I, J, O) Q := R_getr rfl rfl rfl rfl ht
theorem s157_32 : Runs 157 32 [x0, x1, x2, some (.int i), x4, x5, x6] st h Q ↔ Runs 157 33 [x0, x1, x2, some (.int i), x4, x5, x6] (.int i :: st) h Q := R_ildn rfl rfl
theorem s157_33 : Runs 157 33 [x0, x1, x2, x3, some (.int i), x5, x6] st h Q ↔ Runs 157 35 [x0, x1, x2, x3, some (.int i), x5, x6] (.int i :: st) h Q := R_ild rfl rfl
theorem s157_35 : Runs 157 35 ls (.int j :: .int i :: st) h Q ↔ Runs 157 36 ls (.int (i + j) :: st) h Q := R_iadd rfl
theorem s157_36 (ht : tg a = 20) : Runs 157 36 ls (.int i :: .ref a :: st) (n, tg, ln, I, J, O) Q ↔ ((0 ≤ i ∧ i < Int32.ofNat (ln a)) ∧ Runs 157 37 ls (.int (I a i) :: st) (n, tg, ln, I, J, O) Q) := R_iald rfl ht
theorem s157_37 : Runs 157 37 [x0, x1, x2, x3, x4, x5, x6] (.int i :: st) h Q ↔ Runs 157 39 [x0, x1, x2, x3, zdrop x4, some (.int i), x6] st h Q := R_ist rfl rfl rfl
theorem s157_39 : Runs 157 39 [some (.ref a), x1, x2, x3, x4, x5, x6] st h Q ↔ Runs 157 40 [some (.ref a), x1, x2, x3, x4, x5, x6] (.ref a :: st) h Q := R_aldn rfl rfl
theorem s157_39q : Runs 157 39 [some (zrf r), x1, x2, x3, x4, x5, x6] st h Q ↔ Runs 157 40 [some (zrf r), x1, x2, x3, x4, x5, x6] (zrf r :: st) h Q := R_aldnq rfl rfl
theorem s157_40 (ht : tg a = 10) : Runs 157 40 ls (.ref a :: st) (n, tg, ln, I, J, O) Q ↔ Runs 157 43 ls (zrf (O a 0) :: st) (n, tg, ln, I, J, O) Q := R_getr rfl rfl rfl rfl ht
theorem s157_43 : Runs 157 43 [x0, x1, x2, some (.int i), x4, x5, x6] st h Q ↔ Runs 157 44 [x0, x1, x2, some (.int i), x4, x5, x6] (.int i :: st) h Q := R_ildn rfl rfl
theorem s157_44 : Runs 157 44 [x0, x1, x2, x3, some (.int i), x5, x6] st h Q ↔ Runs 157 46 [x0, x1, x2, x3, some (.int i), x5, x6] (.int i :: st) h Q := R_ild rfl rfl
theorem s157_46 : Runs 157 46 ls (.int j :: .int i :: st) h Q ↔ Runs 157 47 ls (.int (i + j) :: st) h Q := R_iadd rfl
theorem s157_47 : Runs 157 47 ls st h Q ↔ Runs 157 48 ls (.int 1 :: st) h Q := R_iconst rfl rfl
theorem s157_48 : Runs 157 48 ls (.int j :: .int i :: st) h Q ↔ Runs 157 49 ls (.int (i - j) :: st) h Q := R_isub rfl
theorem s157_49 (ht : tg a = 20) : Runs 157 49 ls (.int i :: .ref a :: st) (n, tg, ln, I, J, O) Q ↔ ((0 ≤ i ∧ i < Int32.ofNat (ln a)) ∧ Runs 157 50 ls (.int (I a i) :: st) (n, tg, ln, I, J, O) Q) := R_iald rfl ht
theorem s157_50 : Runs 157 50 [x0, x1, x2, x3, x4, x5, x6] (.int i :: st) h Q ↔ Runs 157 52 [x0, x1, x2, x3, x4, zdrop x5, some (.int i)] st h Q := R_ist rfl rfl rfl
theorem s157_52 : Runs 157 52 [x0, x1, x2, x3, x4, some (.int i), x6] st h Q ↔ Runs 157 54 [x0, x1, x2, x3, x4, some (.int i), x6] (.int i :: st) h Q := R_ild rfl rfl
theorem s157_54 : Runs 157 54 ls st h Q ↔ Runs 157 56 ls (.int 12 :: st) h Q := R_bipush rfl (by decide)
theorem s157_56 : Runs 157 56 ls (.int j :: .int i :: st) h Q ↔ if j ≤ i then Runs 157 149 ls st h Q else Runs 157 59 ls st h Q := R_icge rfl rfl
theorem s157_59 : Runs 157 59 [x0, x1, x2, x3, x4, x5, some (.int i)] st h Q ↔ Runs 157 61 [x0, x1, x2, x3, x4, x5, some (.int i)] (.int i :: st) h Q := R_ild rfl rfl
theorem s157_61 : Runs 157 61 ls st h Q ↔ Runs 157 63 ls (.int 12 :: st) h Q := R_bipush rfl (by decide)
theorem s157_63 : Runs 157 63 ls (.int j :: .int i :: st) h Q ↔ if j ≤ i then Runs 157 149 ls st h Q else Runs 157 66 ls st h Q := R_icge rfl rfl
theorem s157_66 : Runs 157 66 [some (.ref a), x1, x2, x3, x4, x5, x6] st h Q ↔ Runs 157 67 [some (.ref a), x1, x2, x3, x4, x5, x6] (.ref a :: st) h Q := R_aldn rfl rfl
theorem s157_66q : Runs 157 66 [some (zrf r), x1, x2, x3, x4, x5, x6] st h Q ↔ Runs 157 67 [some (zrf r), x1, x2, x3, x4, x5, x6] (zrf r :: st) h Q := R_aldnq rfl rfl
theorem s157_67 (ht : tg a = 10) : Runs 157 67 ls (.ref a :: st) (n, tg, ln, I, J, O) Q ↔ Runs 157 70 ls (zrf (O a 0) :: st) (n, tg, ln, I, J, O) Q := R_getr rfl rfl rfl rfl ht
theorem s157_70 : Runs 157 70 [x0, some (.int i), x2, x3, x4, x5, x6] st h Q ↔ Runs 157 71 [x0, some (.int i), x2, x3, x4, x5, x6] (.int i :: st) h Q := R_ildn rfl rfl
theorem s157_71 : Runs 157 71 ls st h Q ↔ Runs 157 73 ls (.int 30 :: st) h Q := R_bipush rfl (by decide)
theorem s157_73 : Runs 157 73 ls (.int j :: .int i :: st) h Q ↔ Runs 157 74 ls (.int (i + j) :: st) h Q := R_iadd rfl
theorem s157_74 : Runs 157 74 [x0, x1, x2, x3, x4, some (.int i), x6] st h Q ↔ Runs 157 76 [x0, x1, x2, x3, x4, some (.int i), x6] (.int i :: st) h Q := R_ild rfl rfl
theorem s157_76 : Runs 157 76 ls (.int j :: .int i :: st) h Q ↔ Runs 157 77 ls (.int (i + j) :: st) h Q := R_iadd rfl
theorem s157_77 (ht : tg a = 20) : Runs 157 77 ls (.int i :: .ref a :: st) (n, tg, ln, I, J, O) Q ↔ ((0 ≤ i ∧ i < Int32.ofNat (ln a)) ∧ Runs 157 78 ls (.int (I a i) :: st) (n, tg, ln, I, J, O) Q) := R_iald rfl ht
theorem s157_78 : Runs 157 78 ls st h Q ↔ Runs 157 79 ls (.int 1 :: st) h Q := R_iconst rfl rfl
theorem s157_79 : Runs 157 79 ls (.int j :: .int i :: st) h Q ↔ if ¬ i = j then Runs 157 149 ls st h Q else Runs 157 82 ls st h Q := R_icne rfl rfl
theorem s157_82 : Runs 157 82 [some (.ref a), x1, x2, x3, x4, x5, x6] st h Q ↔ Runs 157 83 [some (.ref a), x1, x2, x3, x4, x5, x6] (.ref a :: st) h Q := R_aldn rfl rfl
theorem s157_82q : Runs 157 82 [some (zrf r), x1, x2, x3, x4, x5, x6] st h Q ↔ Runs 157 83 [some (zrf r), x1, x2, x3, x4, x5, x6] (zrf r :: st) h Q := R_aldnq rfl rfl
theorem s157_83 (ht : tg a = 10) : Runs 157 83 ls (.ref a :: st) (n, tg, ln, I, J, O) Q ↔ Runs 157 86 ls (zrf (O a 0) :: st) (n, tg, ln, I, J, O) Q := R_getr rfl rfl rfl rfl ht
theorem s157_86 : Runs 157 86 [x0, some (.int i), x2, x3, x4, x5, x6] st h Q ↔ Runs 157 87 [x0, some (.int i), x2, x3, x4, x5, x6] (.int i :: st) h Q := R_ildn rfl rfl
theorem s157_87 : Runs 157 87 ls st h Q ↔ Runs 157 89 ls (.int 30 :: st) h Q := R_bipush rfl (by decide)
theorem s157_89 : Runs 157 89 ls (.int j :: .int i :: st) h Q ↔ Runs 157 90 ls (.int (i + j) :: st) h Q := R_iadd rfl
theorem s157_90 : Runs 157 90 [x0, x1, x2, x3, x4, x5, some (.int i)] st h Q ↔ Runs 157 92 [x0, x1, x2, x3, x4, x5, some (.int i)] (.int i :: st) h Q := R_ild rfl rfl
theorem s157_92 : Runs 157 92 ls (.int j :: .int i :: st) h Q ↔ Runs 157 93 ls (.int (i + j) :: st) h Q := R_iadd rfl
theorem s157_93 (ht : tg a = 20) : Runs 157 93 ls (.int i :: .ref a :: st) (n, tg, ln, I, J, O) Q ↔ ((0 ≤ i ∧ i < Int32.ofNat (ln a)) ∧ Runs 157 94 ls (.int (I a i) :: st) (n, tg, ln, I, J, O) Q) := R_iald rfl ht
theorem s157_94 : Runs 157 94 ls st h Q ↔ Runs 157 95 ls (.int 3 :: st) h Q := R_iconst rfl rfl
theorem s157_95 : Runs 157 95 ls (.int j :: .int i :: st) h Q ↔ if j ≤ i then Runs 157 149 ls st h Q else Runs 157 98 ls st h Q := R_icge rfl rfl
theorem s157_98 : Runs 157 98 [some (.ref a), x1, x2, x3, x4, x5, x6] st h Q ↔ Runs 157 99 [some (.ref a), x1, x2, x3, x4, x5, x6] (.ref a :: st) h Q := R_aldn rfl rfl
theorem s157_98q : Runs 157 98 [some (zrf r), x1, x2, x3, x4, x5, x6] st h Q ↔ Runs 157 99 [some (zrf r), x1, x2, x3, x4, x5, x6] (zrf r :: st) h Q := R_aldnq rfl rfl
theorem s157_99 (ht : tg a = 10) : Runs 157 99 ls (.ref a :: st) (n, tg, ln, I, J, O) Q ↔ Runs 157 102 ls (zrf (O a 0) :: st) (n, tg, ln, I, J, O) Q := R_getr rfl rfl rfl rfl ht
theorem s157_102 : Runs 157 102 [x0, some (.int i), x2, x3, x4, x5, x6] st h Q ↔ Runs 157 103 [x0, some (.int i), x2, x3, x4, x5, x6] (.int i :: st) h Q := R_ildn rfl rfl
theorem s157_103 : Runs 157 103 ls st h Q ↔ Runs 157 105 ls (.int 42 :: st) h Q := R_bipush rfl (by decide)
theorem s157_105 : Runs 157 105 ls (.int j :: .int i :: st) h Q ↔ Runs 157 106 ls (.int (i + j) :: st) h Q := R_iadd rfl
theorem s157_106 : Runs 157 106 [x0, x1, x2, x3, x4, x5, some (.int i)] st h Q ↔ Runs 157 108 [x0, x1, x2, x3, x4, x5, some (.int i)] (.int i :: st) h Q := R_ild rfl rfl
theorem s157_108 : Runs 157 108 ls (.int j :: .int i :: st) h Q ↔ Runs 157 109 ls (.int (i + j) :: st) h Q := R_iadd rfl
theorem s157_109 (ht : tg a = 20) : Runs 157 109 ls (.int i :: .ref a :: st) (n, tg, ln, I, J, O) Q ↔ ((0 ≤ i ∧ i < Int32.ofNat (ln a)) ∧ Runs 157 110 ls (.int (I a i) :: st) (n, tg, ln, I, J, O) Q) := R_iald rfl ht
theorem s157_110 : Runs 157 110 [some (.ref a), x1, x2, x3, x4, x5, x6] st h Q ↔ Runs 157 111 [some (.ref a), x1, x2, x3, x4, x5, x6] (.ref a :: st) h Q := R_aldn rfl rfl
theorem s157_110q : Runs 157 110 [some (zrf r), x1, x2, x3, x4, x5, x6] st h Q ↔ Runs 157 111 [some (zrf r), x1, x2, x3, x4, x5, x6] (zrf r :: st) h Q := R_aldnq rfl rfl
theorem s157_111 (ht : tg a = 10) : Runs 157 111 ls (.ref a :: st) (n, tg, ln, I, J, O) Q ↔ Runs 157 114 ls (zrf (O a 0) :: st) (n, tg, ln, I, J, O) Q := R_getr rfl rfl rfl rfl ht
theorem s157_114 : Runs 157 114 [x0, some (.int i), x2, x3, x4, x5, x6] st h Q ↔ Runs 157 115 [x0, some (.int i), x2, x3, x4, x5, x6] (.int i :: st) h Q := R_ildn rfl rfl
theorem s157_115 : Runs 157 115 ls st h Q ↔ Runs 157 117 ls (.int 42 :: st) h Q := R_bipush rfl (by decide)
theorem s157_117 : Runs 157 117 ls (.int j :: .int i :: st) h Q ↔ Runs 157 118 ls (.int (i + j) :: st) h Q := R_iadd rfl
theorem s157_118 : Runs 157 118 [x0, x1, x2, x3, x4, some (.int i), x6] st h Q ↔ Runs 157 120 [x0, x1, x2, x3, x4, some (.int i), x6] (.int i :: st) h Q := R_ild rfl rfl
theorem s157_120 : Runs 157 120 ls (.int j :: .int i :: st) h Q ↔ Runs 157 121 ls (.int (i + j) :: st) h Q := R_iadd rfl
theorem s157_121 (ht : tg a = 20) : Runs 157 121 ls (.int i :: .ref a :: st) (n, tg, ln, I, J, O) Q ↔ ((0 ≤ i ∧ i < Int32.ofNat (ln a)) ∧ Runs 157 122 ls (.int (I a i) :: st) (n, tg, ln, I, J, O) Q) := R_iald rfl ht
theorem s157_122 : Runs 157 122 ls (.int j :: .int i :: st) h Q ↔ if j ≤ i then Runs 157 149 ls st h Q else Runs 157 125 ls st h Q := R_icge rfl rfl
theorem s157_125 : Runs 157 125 [some (.ref a), x1, x2, x3, x4, x5, x6] st h Q ↔ Runs 157 126 [some (.ref a), x1, x2, x3, x4, x5, x6] (.ref a :: st) h Q := R_aldn rfl rfl
theorem s157_125q : Runs 157 125 [some (zrf r), x1, x2, x3, x4, x5, x6] st h Q ↔ Runs 157 126 [some (zrf r), x1, x2, x3, x4, x5, x6] (zrf r :: st) h Q := R_aldnq rfl rfl
theorem s157_126 (ht : tg a = 10) : Runs 157 126 ls (.ref a :: st) (n, tg, ln, I, J, O) Q ↔ Runs 157 129 ls (zrf (O a 0) :: st) (n, tg, ln, I, J, O) Q := R_getr rfl rfl rfl rfl ht
theorem s157_129 : Runs 157 129 [x0, x1, x2, some (.int i), x4, x5, x6] st h Q ↔ Runs 157 130 [x0, x1, x2, some (.int i), x4, x5, x6] (.int i :: st) h Q := R_ildn rfl rfl
theorem s157_130 : Runs 157 130 [x0, x1, x2, x3, some (.int i), x5, x6] st h Q ↔ Runs 157 132 [x0, x1, x2, x3, some (.int i), x5, x6] (.int i :: st) h Q := R_ild rfl rfl
theorem s157_132 : Runs 157 132 ls (.int j :: .int i :: st) h Q ↔ Runs 157 133 ls (.int (i + j) :: st) h Q := R_iadd rfl
theorem s157_133 : Runs 157 133 [x0, x1, x2, x3, x4, x5, some (.int i)] st h Q ↔ Runs 157 135 [x0, x1, x2, x3, x4, x5, some (.int i)] (.int i :: st) h Q := R_ild rfl rfl
theorem s157_135 (ht : tg a = 20) : Runs 157 135 ls (.int j :: .int i :: .ref a :: st) (n, tg, ln, I, J, O) Q ↔ ((0 ≤ i ∧ i < Int32.ofNat (ln a)) ∧ Runs 157 136 ls st (n, tg, ln, zu I a i j, J, O) Q) := R_iast rfl ht
theorem s157_136 : Runs 157 136 [some (.ref a), x1, x2, x3, x4, x5, x6] st h Q ↔ Runs 157 137 [some (.ref a), x1, x2, x3, x4, x5, x6] (.ref a :: st) h Q := R_aldn rfl rfl
theorem s157_136q : Runs 157 136 [some (zrf r), x1, x2, x3, x4, x5, x6] st h Q ↔ Runs 157 137 [some (zrf r), x1, x2, x3, x4, x5, x6] (zrf r :: st) h Q := R_aldnq rfl rfl
theorem s157_137 (ht : tg a = 10) : Runs 157 137 ls (.ref a :: st) (n, tg, ln, I, J, O) Q ↔ Runs 157 140 ls (zrf (O a 0) :: st) (n, tg, ln, I, J, O) Q := R_getr rfl rfl rfl rfl ht
theorem s157_140 : Runs 157 140 [x0, x1, x2, some (.int i), x4, x5, x6] st h Q ↔ Runs 157 141 [x0, x1, x2, some (.int i), x4, x5, x6] (.int i :: st) h Q := R_ildn rfl rfl
theorem s157_141 : Runs 157 141 [x0, x1, x2, x3, some (.int i), x5, x6] st h Q ↔ Runs 157 143 [x0, x1, x2, x3, some (.int i), x5, x6] (.int i :: st) h Q := R_ild rfl rfl
theorem s157_143 : Runs 157 143 ls (.int j :: .int i :: st) h Q ↔ Runs 157 144 ls (.int (i + j) :: st) h Q := R_iadd rfl
theorem s157_144 : Runs 157 144 ls st h Q ↔ Runs 157 145 ls (.int 1 :: st) h Q := R_iconst rfl rfl
theorem s157_145 : Runs 157 145 ls (.int j :: .int i :: st) h Q ↔ Runs 157 146 ls (.int (i - j) :: st) h Q := R_isub rfl
theorem s157_146 : Runs 157 146 [x0, x1, x2, x3, x4, some (.int i), x6] st h Q ↔ Runs 157 148 [x0, x1, x2, x3, x4, some (.int i), x6] (.int i :: st) h Q := R_ild rfl rfl
theorem s157_148 (ht : tg a = 20) : Runs 157 148 ls (.int j :: .int i :: .ref a :: st) (n, tg, ln, I, J, O) Q ↔ ((0 ≤ i ∧ i < Int32.ofNat (ln a)) ∧ Runs 157 149 ls st (n, tg, ln, zu I a i j, J, O) Q) := R_iast rfl ht
theorem s157_149 : Runs 157 149 [x0, x1, x2, x3, some (.int i), x5, x6] st h Q ↔ Runs 157 152 [x0, x1, x2, zdrop x3, some (.int (i + 1)), x5, x6] st h Q := R_iinc rfl rfl rfl rfl rfl
theorem s157_152 : Runs 157 152 ls st h Q ↔ Runs 157 13 ls st h Q := R_goto rfl rfl
theorem s157_155 : Runs 157 155 ls [] h Q ↔ Q none h := R_vret rfl rfl
theorem s158_0 : Runs 158 0 [some (.ref a), x1, x2] st h Q ↔ Runs 158 1 [some (.ref a), x1, x2] (.ref a :: st) h Q := R_aldn rfl rfl
theorem s158_0q : Runs 158 0 [some (zrf r), x1, x2] st h Q ↔ Runs 158 1 [some (zrf r), x1, x2] (zrf r :: st) h Q := R_aldnq rfl rfl
theorem s158_1 (ht : tg a = 10) : Runs 158 1 ls (.ref a :: st) (n, tg, ln, I, J, O) Q ↔ Runs 158 4 ls (zrf (O a 0) :: st) (n, tg, ln, I, J, O) Q := R_getr rfl rfl rfl rfl ht
theorem s158_4 : Runs 158 4 [x0, some (.int i), x2] st h Q ↔ Runs 158 5 [x0, some (.int i), x2] (.int i :: st) h Q := R_ildn rfl rfl
theorem s158_5 : Runs 158 5 ls st h Q ↔ Runs 158 6 ls (.int 4 :: st) h Q := R_iconst rfl rfl
theorem s158_6 : Runs 158 6 ls (.int j :: .int i :: st) h Q ↔ Runs 158 7 ls (.int (i + j) :: st) h Q := R_iadd rfl
theorem s158_7 : Runs 158 7 [x0, x1, some (.int i)] st h Q ↔ Runs 158 8 [x0, x1, some (.int i)] (.int i :: st) h Q := R_ildn rfl rfl
theorem s158_8 : Runs 158 8 ls (.int j :: .int i :: st) h Q ↔ Runs 158 9 ls (.int (i + j) :: st) h Q := R_iadd rfl
theorem s158_9 (ht : tg a = 20) : Runs 158 9 ls (.int i :: .ref a :: st) (n, tg, ln, I, J, O) Q ↔ ((0 ≤ i ∧ i < Int32.ofNat (ln a)) ∧ Runs 158 10 ls (.int (I a i) :: st) (n, tg, ln, I, J, O) Q) := R_iald rfl ht
theorem s158_10 : Runs 158 10 ls (.int i :: st) h Q ↔ if i = 0 then Runs 158 25 ls st h Q else Runs 158 13 ls st h Q := R_ifeq rfl rfl
theorem s158_13 : Runs 158 13 [some (.ref a), x1, x2] st h Q ↔ Runs 158 14 [some (.ref a), x1, x2] (.ref a :: st) h Q := R_aldn rfl rfl
theorem s158_13q : Runs 158 13 [some (zrf r), x1, x2] st h Q ↔ Runs 158 14 [some (zrf r), x1, x2] (zrf r :: st) h Q := R_aldnq rfl rfl
theorem s158_14 : Runs 158 14 [x0, some (.int i), x2] st h Q ↔ Runs 158 15 [x0, some (.int i), x2] (.int i :: st) h Q := R_ildn rfl rfl
theorem s158_15 : Runs 158 15 [x0, x1, some (.int i)] st h Q ↔ Runs 158 16 [x0, x1, some (.int i)] (.int i :: st) h Q := R_ildn rfl rfl
theorem s158_16 : Runs 158 16 ls st h Q ↔ Runs 158 17 ls (.int 0 :: st) h Q := R_iconst rfl rfl
theorem s158_17 (ht : tg a = 10) (hs : zsumc st ≤ 8) : Runs 158 17 ls (.int i2 :: .int i1 :: .int i0 :: .ref a :: st) (n, tg, ln, I, J, O) Q ↔ Runs 151 0 [some (.ref a), some (.int i0), some (.int i1), some (.int i2)] [] (n, tg, ln, I, J, O) (fun v h2 => Runs 158 20 ls (v.toList ++ st) h2 Q) := R_callv (a := a) (rest := st) rfl rfl rfl rfl rfl rfl rfl ht hs
theorem s158_20 : Runs 158 20 ls st h Q ↔ Runs 158 22 ls (.int 11 :: st) h Q := R_bipush rfl (by decide)
theorem s158_22 : Runs 158 22 ls (.int j :: .int i :: st) h Q ↔ if i ≤ j then Runs 158 29 ls st h Q else Runs 158 25 ls st h Q := R_icle rfl rfl
theorem s158_25 : Runs 158 25 ls st h Q ↔ Runs 158 26 ls (.int (-1) :: st) h Q := R_iconst rfl rfl
theorem s158_26 : Runs 158 26 ls st h Q ↔ Runs 158 46 ls st h Q := R_goto rfl rfl
theorem s158_29 : Runs 158 29 [some (.ref a), x1, x2] st h Q ↔ Runs 158 30 [some (.ref a), x1, x2] (.ref a :: st) h Q := R_aldn rfl rfl
theorem s158_29q : Runs 158 29 [some (zrf r), x1, x2] st h Q ↔ Runs 158 30 [some (zrf r), x1, x2] (zrf r :: st) h Q := R_aldnq rfl rfl
theorem s158_30 (ht : tg a = 10) : Runs 158 30 ls (.ref a :: st) (n, tg, ln, I, J, O) Q ↔ Runs 158 33 ls (zrf (O a 0) :: st) (n, tg, ln, I, J, O) Q := R_getr rfl rfl rfl rfl ht
theorem s158_33 : Runs 158 33 [x0, some (.int i), x2] st h Q ↔ Runs 158 34 [x0, some (.int i), x2] (.int i :: st) h Q := R_ildn rfl rfl
theorem s158_34 : Runs 158 34 ls st h Q ↔ Runs 158 36 ls (.int 42 :: st) h Q := R_bipush rfl (by decide)
theorem s158_36 : Runs 158 36 ls (.int j :: .int i :: st) h Q ↔ Runs 158 37 ls (.int (i + j) :: st) h Q := R_iadd rfl
theorem s158_37 : Runs 158 37 [some (.ref a), x1, x2] st h Q ↔ Runs 158 38 [some (.ref a), x1, x2] (.ref a :: st) h Q := R_aldn rfl rfl
theorem s158_37q : Runs 158 37 [some (zrf r), x1, x2] st h Q ↔ Runs 158 38 [some (zrf r), x1, x2] (zrf r :: st) h Q := R_aldnq rfl rfl
theorem s158_38 : Runs 158 38 [x0, some (.int i), x2] st h Q ↔ Runs 158 39 [x0, some (.int i), x2] (.int i :: st) h Q := R_ildn rfl rfl
theorem s158_39 : Runs 158 39 [x0, x1, some (.int i)] st h Q ↔ Runs 158 40 [x0, x1, some (.int i)] (.int i :: st) h Q := R_ildn rfl rfl
theorem s158_40 : Runs 158 40 ls st h Q ↔ Runs 158 41 ls (.int 0 :: st) h Q := R_iconst rfl rfl
theorem s158_41 (ht : tg a = 10) (hs : zsumc st ≤ 8) : Runs 158 41 ls (.int i2 :: .int i1 :: .int i0 :: .ref a :: st) (n, tg, ln, I, J, O) Q ↔ Runs 151 0 [some (.ref a), some (.int i0), some (.int i1), some (.int i2)] [] (n, tg, ln, I, J, O) (fun v h2 => Runs 158 44 ls (v.toList ++ st) h2 Q) := R_callv (a := a) (rest := st) rfl rfl rfl rfl rfl rfl rfl ht hs
theorem s158_44 : Runs 158 44 ls (.int j :: .int i :: st) h Q ↔ Runs 158 45 ls (.int (i + j) :: st) h Q := R_iadd rfl
theorem s158_45 (ht : tg a = 20) : Runs 158 45 ls (.int i :: .ref a :: st) (n, tg, ln, I, J, O) Q ↔ ((0 ≤ i ∧ i < Int32.ofNat (ln a)) ∧ Runs 158 46 ls (.int (I a i) :: st) (n, tg, ln, I, J, O) Q) := R_iald rfl ht
theorem s158_46 : Runs 158 46 ls [.int i] h Q ↔ Q (some (.int i)) h := R_iret rfl rfl
theorem s159_0 : Runs 159 0 [some (.ref a), x1, x2, x3, x4] st h Q ↔ Runs 159 1 [some (.ref a), x1, x2, x3, x4] (.ref a :: st) h Q := R_aldn rfl rfl
theorem s159_0q : Runs 159 0 [some (zrf r), x1, x2, x3, x4] st h Q ↔ Runs 159 1 [some (zrf r), x1, x2, x3, x4] (zrf r :: st) h Q := R_aldnq rfl rfl
theorem s159_1 (ht : tg a = 10) : Runs 159 1 ls (.ref a :: st) (n, tg, ln, I, J, O) Q ↔ Runs 159 4 ls (zrf (O a 0) :: st) (n, tg, ln, I, J, O) Q := R_getr rfl rfl rfl rfl ht
theorem s159_4 : Runs 159 4 [x0, some (.int i), x2, x3, x4] st h Q ↔ Runs 159 5 [x0, some (.int i), x2, x3, x4] (.int i :: st) h Q := R_ildn rfl rfl
theorem s159_5 : Runs 159 5 ls st h Q ↔ Runs 159 6 ls (.int 4 :: st) h Q := R_iconst rfl rfl
theorem s159_6 : Runs 159 6 ls (.int j :: .int i :: st) h Q ↔ Runs 159 7 ls (.int (i + j) :: st) h Q := R_iadd rfl
theorem s159_7 (ht : tg a = 20) : Runs 159 7 ls (.int i :: .ref a :: st) (n, tg, ln, I, J, O) Q ↔ ((0 ≤ i ∧ i < Int32.ofNat (ln a)) ∧ Runs 159 8 ls (.int (I a i) :: st) (n, tg, ln, I, J, O) Q) := R_iald rfl ht
theorem s159_8 : Runs 159 8 [x0, x1, x2, x3, x4] (.int i :: st) h Q ↔ Runs 159 9 [x0, zdrop x1, some (.int i), x3, x4] st h Q := R_istn rfl rfl rfl
theorem s159_9 : Runs 159 9 [some (.ref a), x1, x2, x3, x4] st h Q ↔ Runs 159 10 [some (.ref a), x1, x2, x3, x4] (.ref a :: st) h Q := R_aldn rfl rfl
theorem s159_9q : Runs 159 9 [some (zrf r), x1, x2, x3, x4] st h Q ↔ Runs 159 10 [some (zrf r), x1, x2, x3, x4] (zrf r :: st) h Q := R_aldnq rfl rfl
theorem s159_10 (ht : tg a = 10) : Runs 159 10 ls (.ref a :: st) (n, tg, ln, I, J, O) Q ↔ Runs 159 13 ls (zrf (O a 0) :: st) (n, tg, ln, I, J, O) Q := R_getr rfl rfl rfl rfl ht
theorem s159_13 : Runs 159 13 [x0, some (.int i), x2, x3, x4] st h Q ↔ Runs 159 14 [x0, some (.int i), x2, x3, x4] (.int i :: st) h Q := R_ildn rfl rfl
theorem s159_14 : Runs 159 14 ls st h Q ↔ Runs 159 15 ls (.int 4 :: st) h Q := R_iconst rfl rfl
theorem s159_15 : Runs 159 15 ls (.int j :: .int i :: st) h Q ↔ Runs 159 16 ls (.int (i + j) :: st) h Q := R_iadd rfl
theorem s159_16 : Runs 159 16 ls st h Q ↔ Runs 159 17 ls (.int 1 :: st) h Q := R_iconst rfl rfl
theorem s159_17 : Runs 159 17 ls (.int j :: .int i :: st) h Q ↔ Runs 159 18 ls (.int (i + j) :: st) h Q := R_iadd rfl
theorem s159_18 (ht : tg a = 20) : Runs 159 18 ls (.int i :: .ref a :: st) (n, tg, ln, I, J, O) Q ↔ ((0 ≤ i ∧ i < Int32.ofNat (ln a)) ∧ Runs 159 19 ls (.int (I a i) :: st) (n, tg, ln, I, J, O) Q) := R_iald rfl ht
theorem s159_19 : Runs 159 19 [x0, x1, x2, x3, x4] (.int i :: st) h Q ↔ Runs 159 20 [x0, x1, zdrop x2, some (.int i), x4] st h Q := R_istn rfl rfl rfl
theorem s159_20 : Runs 159 20 [x0, x1, some (.int i), x3, x4] st h Q ↔ Runs 159 21 [x0, x1, some (.int i), x3, x4] (.int i :: st) h Q := R_ildn rfl rfl
theorem s159_21 : Runs 159 21 [x0, x1, x2, some (.int i), x4] st h Q ↔ Runs 159 22 [x0, x1, x2, some (.int i), x4] (.int i :: st) h Q := R_ildn rfl rfl
theorem s159_22 : Runs 159 22 ls (.int j :: .int i :: st) h Q ↔ Runs 159 23 ls (.int (i + j) :: st) h Q := R_iadd rfl
theorem s159_23 : Runs 159 23 ls (.int i :: st) h Q ↔ if ¬ i = 0 then Runs 159 28 ls st h Q else Runs 159 26 ls st h Q := R_ifne rfl rfl
theorem s159_26 : Runs 159 26 ls st h Q ↔ Runs 159 27 ls (.int (-1) :: st) h Q := R_iconst rfl rfl
theorem s159_27 : Runs 159 27 ls [.int i] h Q ↔ Q (some (.int i)) h := R_iret rfl rfl
theorem s159_28 : Runs 159 28 [some (.ref a), x1, x2, x3, x4] st h Q ↔ Runs 159 29 [some (.ref a), x1, x2, x3, x4] (.ref a :: st) h Q := R_aldn rfl rfl
theorem s159_28q : Runs 159 28 [some (zrf r), x1, x2, x3, x4] st h Q ↔ Runs 159 29 [some (zrf r), x1, x2, x3, x4] (zrf r :: st) h Q := R_aldnq rfl rfl
theorem s159_29 (ht : tg a = 10) : Runs 159 29 ls (.ref a :: st) (n, tg, ln, I, J, O) Q ↔ Runs 159 32 ls (zrf (O a 0) :: st) (n, tg, ln, I, J, O) Q := R_getr rfl rfl rfl rfl ht
theorem s159_32 : Runs 159 32 [x0, some (.int i), x2, x3, x4] st h Q ↔ Runs 159 33 [x0, some (.int i), x2, x3, x4] (.int i :: st) h Q := R_ildn rfl rfl
theorem s159_33 : Runs 159 33 ls st h Q ↔ Runs 159 34 ls (.int 1 :: st) h Q := R_iconst rfl rfl
theorem s159_34 : Runs 159 34 ls (.int j :: .int i :: st) h Q ↔ Runs 159 35 ls (.int (i + j) :: st) h Q := R_iadd rfl
theorem s159_35 (ht : tg a = 20) : Runs 159 35 ls (.int i :: .ref a :: st) (n, tg, ln, I, J, O) Q ↔ ((0 ≤ i ∧ i < Int32.ofNat (ln a)) ∧ Runs 159 36 ls (.int (I a i) :: st) (n, tg, ln, I, J, O) Q) := R_iald rfl ht
theorem s159_36 : Runs 159 36 ls (.int i :: st) h Q ↔ if ¬ i = 0 then Runs 159 73 ls st h Q else Runs 159 39 ls st h Q := R_ifne rfl rfl
theorem s159_39 : Runs 159 39 [some (.ref a), x1, x2, x3, x4] st h Q ↔ Runs 159 40 [some (.ref a), x1, x2, x3, x4] (.ref a :: st) h Q := R_aldn rfl rfl
theorem s159_39q : Runs 159 39 [some (zrf r), x1, x2, x3, x4] st h Q ↔ Runs 159 40 [some (zrf r), x1, x2, x3, x4] (zrf r :: st) h Q := R_aldnq rfl rfl
theorem s159_40 (ht : tg a = 10) : Runs 159 40 ls (.ref a :: st) (n, tg, ln, I, J, O) Q ↔ Runs 159 43 ls (zrf (O a 0) :: st) (n, tg, ln, I, J, O) Q := R_getr rfl rfl rfl rfl ht
theorem s159_43 : Runs 159 43 [x0, some (.int i), x2, x3, x4] st h Q ↔ Runs 159 44 [x0, some (.int i), x2, x3, x4] (.int i :: st) h Q := R_ildn rfl rfl
theorem s159_44 : Runs 159 44 ls st h Q ↔ Runs 159 45 ls (.int 3 :: st) h Q := R_iconst rfl rfl
theorem s159_45 : Runs 159 45 ls (.int j :: .int i :: st) h Q ↔ Runs 159 46 ls (.int (i + j) :: st) h Q := R_iadd rfl
theorem s159_46 (ht : tg a = 20) : Runs 159 46 ls (.int i :: .ref a :: st) (n, tg, ln, I, J, O) Q ↔ ((0 ≤ i ∧ i < Int32.ofNat (ln a)) ∧ Runs 159 47 ls (.int (I a i) :: st) (n, tg, ln, I, J, O) Q) := R_iald rfl ht
theorem s159_47 : Runs 159 47 [x0, x1, x2, x3, x4] (.int i :: st) h Q ↔ Runs 159 49 [x0, x1, x2, zdrop x3, some (.int i)] st h Q := R_ist rfl rfl rfl
theorem s159_49 : Runs 159 49 [some (.ref a), x1, x2, x3, x4] st h Q ↔ Runs 159 50 [some (.ref a), x1, x2, x3, x4] (.ref a :: st) h Q := R_aldn rfl rfl
theorem s159_49q : Runs 159 49 [some (zrf r), x1, x2, x3, x4] st h Q ↔ Runs 159 50 [some (zrf r), x1, x2, x3, x4] (zrf r :: st) h Q := R_aldnq rfl rfl
theorem s159_50 (ht : tg a = 10) : Runs 159 50 ls (.ref a :: st) (n, tg, ln, I, J, O) Q ↔ Runs 159 53 ls (zrf (O a 0) :: st) (n, tg, ln, I, J, O) Q := R_getr rfl rfl rfl rfl ht
theorem s159_53 : Runs 159 53 [x0, some (.int i), x2, x3, x4] st h Q ↔ Runs 159 54 [x0, some (.int i), x2, x3, x4] (.int i :: st) h Q := R_ildn rfl rfl
theorem s159_54 : Runs 159 54 ls st h Q ↔ Runs 159 55 ls (.int 4 :: st) h Q := R_iconst rfl rfl
theorem s159_55 : Runs 159 55 ls (.int j :: .int i :: st) h Q ↔ Runs 159 56 ls (.int (i + j) :: st) h Q := R_iadd rfl
theorem s159_56 : Runs 159 56 [x0, x1, x2, x3, some (.int i)] st h Q ↔ Runs 159 58 [x0, x1, x2, x3, some (.int i)] (.int i :: st) h Q := R_ild rfl rfl
theorem s159_58 : Runs 159 58 ls (.int j :: .int i :: st) h Q ↔ Runs 159 59 ls (.int (i + j) :: st) h Q := R_iadd rfl
theorem s159_59 (ht : tg a = 20) : Runs 159 59 ls (.int i :: .ref a :: st) (n, tg, ln, I, J, O) Q ↔ ((0 ≤ i ∧ i < Int32.ofNat (ln a)) ∧ Runs 159 60 ls (.int (I a i) :: st) (n, tg, ln, I, J, O) Q) := R_iald rfl ht
theorem s159_60 : Runs 159 60 ls (.int i :: st) h Q ↔ if i ≤ 0 then Runs 159 68 ls st h Q else Runs 159 63 ls st h Q := R_ifle rfl rfl
theorem s159_63 : Runs 159 63 [x0, x1, x2, x3, some (.int i)] st h Q ↔ Runs 159 65 [x0, x1, x2, x3, some (.int i)] (.int i :: st) h Q := R_ild rfl rfl
theorem s159_65 : Runs 159 65 ls st h Q ↔ Runs 159 72 ls st h Q := R_goto rfl rfl
theorem s159_68 : Runs 159 68 ls st h Q ↔ Runs 159 69 ls (.int 1 :: st) h Q := R_iconst rfl rfl
theorem s159_69 : Runs 159 69 [x0, x1, x2, x3, some (.int i)] st h Q ↔ Runs 159 71 [x0, x1, x2, x3, some (.int i)] (.int i :: st) h Q := R_ild rfl rfl
theorem s159_71 : Runs 159 71 ls (.int j :: .int i :: st) h Q ↔ Runs 159 72 ls (.int (i - j) :: st) h Q := R_isub rfl
theorem s159_72 : Runs 159 72 ls [.int i] h Q ↔ Q (some (.int i)) h := R_iret rfl rfl
theorem s159_73 : Runs 159 73 [some (.ref a), x1, x2, x3, x4] st h Q ↔ Runs 159 74 [some (.ref a), x1, x2, x3, x4] (.ref a :: st) h Q := R_aldn rfl rfl
theorem s159_73q : Runs 159 73 [some (zrf r), x1, x2, x3, x4] st h Q ↔ Runs 159 74 [some (zrf r), x1, x2, x3, x4] (zrf r :: st) h Q := R_aldnq rfl rfl
theorem s159_74 (ht : tg a = 10) : Runs 159 74 ls (.ref a :: st) (n, tg, ln, I, J, O) Q ↔ Runs 159 77 ls (zrf (O a 0) :: st) (n, tg, ln, I, J, O) Q := R_getr rfl rfl rfl rfl ht
theorem s159_77 : Runs 159 77 [x0, some (.int i), x2, x3, x4] st h Q ↔ Runs 159 78 [x0, some (.int i), x2, x3, x4] (.int i :: st) h Q := R_ildn rfl rfl
theorem s159_78 : Runs 159 78 ls st h Q ↔ Runs 159 79 ls (.int 1 :: st) h Q := R_iconst rfl rfl
theorem s159_79 : Runs 159 79 ls (.int j :: .int i :: st) h Q ↔ Runs 159 80 ls (.int (i + j) :: st) h Q := R_iadd rfl
theorem s159_80 (ht : tg a = 20) : Runs 159 80 ls (.int i :: .ref a :: st) (n, tg, ln, I, J, O) Q ↔ ((0 ≤ i ∧ i < Int32.ofNat (ln a)) ∧ Runs 159 81 ls (.int (I a i) :: st) (n, tg, ln, I, J, O) Q) := R_iald rfl ht
theorem s159_81 : Runs 159 81 ls st h Q ↔ Runs 159 82 ls (.int 1 :: st) h Q := R_iconst rfl rfl
theorem s159_82 : Runs 159 82 ls (.int j :: .int i :: st) h Q ↔ if ¬ i = j then Runs 159 98 ls st h Q else Runs 159 85 ls st h Q := R_icne rfl rfl
theorem s159_85 : Runs 159 85 [x0, x1, x2, some (.int i), x4] st h Q ↔ Runs 159 86 [x0, x1, x2, some (.int i), x4] (.int i :: st) h Q := R_ildn rfl rfl
theorem s159_86 : Runs 159 86 [x0, x1, some (.int i), x3, x4] st h Q ↔ Runs 159 87 [x0, x1, some (.int i), x3, x4] (.int i :: st) h Q := R_ildn rfl rfl
theorem s159_87 : Runs 159 87 ls (.int j :: .int i :: st) h Q ↔ if i ≤ j then Runs 159 94 ls st h Q else Runs 159 90 ls st h Q := R_icle rfl rfl
theorem s159_90 : Runs 159 90 ls st h Q ↔ Runs 159 91 ls (.int 1 :: st) h Q := R_iconst rfl rfl
theorem s159_91 : Runs 159 91 ls st h Q ↔ Runs 159 118 ls st h Q := R_goto rfl rfl
theorem s159_94 : Runs 159 94 ls st h Q ↔ Runs 159 95 ls (.int 0 :: st) h Q := R_iconst rfl rfl
theorem s159_95 : Runs 159 95 ls st h Q ↔ Runs 159 118 ls st h Q := R_goto rfl rfl
theorem s159_98 : Runs 159 98 [some (.ref a), x1, x2, x3, x4] st h Q ↔ Runs 159 99 [some (.ref a), x1, x2, x3, x4] (.ref a :: st) h Q := R_aldn rfl rfl
theorem s159_98q : Runs 159 98 [some (zrf r), x1, x2, x3, x4] st h Q ↔ Runs 159 99 [some (zrf r), x1, x2, x3, x4] (zrf r :: st) h Q := R_aldnq rfl rfl
theorem s159_99 : Runs 159 99 [x0, some (.int i), x2, x3, x4] st h Q ↔ Runs 159 100 [x0, some (.int i), x2, x3, x4] (.int i :: st) h Q := R_ildn rfl rfl
theorem s159_100 : Runs 159 100 ls st h Q ↔ Runs 159 101 ls (.int 1 :: st) h Q := R_iconst rfl rfl
theorem s159_101 (ht : tg a = 10) (hs : zsumc st ≤ 8) : Runs 159 101 ls (.int i1 :: .int i0 :: .ref a :: st) (n, tg, ln, I, J, O) Q ↔ Runs 158 0 [some (.ref a), some (.int i0), some (.int i1)] [] (n, tg, ln, I, J, O) (fun v h2 => Runs 159 104 ls (v.toList ++ st) h2 Q) := R_callv (a := a) (rest := st) rfl rfl rfl rfl rfl rfl rfl ht hs
theorem s159_104 : Runs 159 104 [some (.ref a), x1, x2, x3, x4] st h Q ↔ Runs 159 105 [some (.ref a), x1, x2, x3, x4] (.ref a :: st) h Q := R_aldn rfl rfl
theorem s159_104q : Runs 159 104 [some (zrf r), x1, x2, x3, x4] st h Q ↔ Runs 159 105 [some (zrf r), x1, x2, x3, x4] (zrf r :: st) h Q := R_aldnq rfl rfl
theorem s159_105 : Runs 159 105 [x0, some (.int i), x2, x3, x4] st h Q ↔ Runs 159 106 [x0, some (.int i), x2, x3, x4] (.int i :: st) h Q := R_ildn rfl rfl
theorem s159_106 : Runs 159 106 ls st h Q ↔ Runs 159 107 ls (.int 0 :: st) h Q := R_iconst rfl rfl
theorem s159_107 (ht : tg a = 10) (hs : zsumc st ≤ 8) : Runs 159 107 ls (.int i1 :: .int i0 :: .ref a :: st) (n, tg, ln, I, J, O) Q ↔ Runs 158 0 [some (.ref a), some (.int i0), some (.int i1)] [] (n, tg, ln, I, J, O) (fun v h2 => Runs 159 110 ls (v.toList ++ st) h2 Q) := R_callv (a := a) (rest := st) rfl rfl rfl rfl rfl rfl rfl ht hs
theorem s159_110 : Runs 159 110 ls (.int j :: .int i :: st) h Q ↔ if i ≤ j then Runs 159 117 ls st h Q else Runs 159 113 ls st h Q := R_icle rfl rfl
theorem s159_113 : Runs 159 113 ls st h Q ↔ Runs 159 114 ls (.int 1 :: st) h Q := R_iconst rfl rfl
theorem s159_114 : Runs 159 114 ls st h Q ↔ Runs 159 118 ls st h Q := R_goto rfl rfl
theorem s159_117 : Runs 159 117 ls st h Q ↔ Runs 159 118 ls (.int 0 :: st) h Q := R_iconst rfl rfl
theorem s159_118 : Runs 159 118 [x0, x1, x2, x3, x4] (.int i :: st) h Q ↔ Runs 159 120 [x0, x1, x2, zdrop x3, some (.int i)] st h Q := R_ist rfl rfl rfl
theorem s159_120 : Runs 159 120 [x0, x1, x2, x3, some (.int i)] st h Q ↔ Runs 159 122 [x0, x1, x2, x3, some (.int i)] (.int i :: st) h Q := R_ild rfl rfl
theorem s159_122 : Runs 159 122 ls (.int i :: st) h Q ↔ if i = 0 then Runs 159 129 ls st h Q else Runs 159 125 ls st h Q := R_ifeq rfl rfl
theorem s159_125 : Runs 159 125 ls st h Q ↔ Runs 159 126 ls (.int 1 :: st) h Q := R_iconst rfl rfl
theorem s159_126 : Runs 159 126 ls st h Q ↔ Runs 159 130 ls st h Q := R_goto rfl rfl
theorem s159_129 : Runs 159 129 ls st h Q ↔ Runs 159 130 ls (.int 0 :: st) h Q := R_iconst rfl rfl
theorem s159_130 : Runs 159 130 ls [.int i] h Q ↔ Q (some (.int i)) h := R_iret rfl rfl
theorem s160_0 : Runs 160 0 [some (.ref a), x1, x2, x3, x4] st h Q ↔ Runs 160 1 [some (.ref a), x1, x2, x3, x4] (.ref a :: st) h Q := R_aldn rfl rfl
theorem s160_0q : Runs 160 0 [some (zrf r), x1, x2, x3, x4] st h Q ↔ Runs 160 1 [some (zrf r), x1, x2, x3, x4] (zrf r :: st) h Q := R_aldnq rfl rfl
theorem s160_1 (ht : tg a = 10) : Runs 160 1 ls (.ref a :: st) (n, tg, ln, I, J, O) Q ↔ Runs 160 4 ls (zrf (O a 0) :: st) (n, tg, ln, I, J, O) Q := R_getr rfl rfl rfl rfl ht
theorem s160_4 : Runs 160 4 [x0, some (.int i), x2, x3, x4] st h Q ↔ Runs 160 5 [x0, some (.int i), x2, x3, x4] (.int i :: st) h Q := R_ildn rfl rfl
theorem s160_5 : Runs 160 5 ls st h Q ↔ Runs 160 6 ls (.int 4 :: st) h Q := R_iconst rfl rfl
theorem s160_6 : Runs 160 6 ls (.int j :: .int i :: st) h Q ↔ Runs 160 7 ls (.int (i + j) :: st) h Q := R_iadd rfl
theorem s160_7 : Runs 160 7 [x0, x1, some (.int i), x3, x4] st h Q ↔ Runs 160 8 [x0, x1, some (.int i), x3, x4] (.int i :: st) h Q := R_ildn rfl rfl
theorem s160_8 : Runs 160 8 ls (.int j :: .int i :: st) h Q ↔ Runs 160 9 ls (.int (i + j) :: st) h Q := R_iadd rfl
theorem s160_9 : Runs 160 9 ls (.int i :: .ref a :: st) h Q ↔ Runs 160 10 ls (.int i :: .ref a :: .int i :: .ref a :: st) h Q := R_dup2 rfl
theorem s160_10 (ht : tg a = 20) : Runs 160 10 ls (.int i :: .ref a :: st) (n, tg, ln, I, J, O) Q ↔ ((0 ≤ i ∧ i < Int32.ofNat (ln a)) ∧ Runs 160 11 ls (.int (I a i) :: st) (n, tg, ln, I, J, O) Q) := R_iald rfl ht
theorem s160_11 : Runs 160 11 ls st h Q ↔ Runs 160 12 ls (.int 1 :: st) h Q := R_iconst rfl rfl
theorem s160_12 : Runs 160 12 ls (.int j :: .int i :: st) h Q ↔ Runs 160 13 ls (.int (i - j) :: st) h Q := R_isub rfl
theorem s160_13 (ht : tg a = 20) : Runs 160 13 ls (.int j :: .int i :: .ref a :: st) (n, tg, ln, I, J, O) Q ↔ ((0 ≤ i ∧ i < Int32.ofNat (ln a)) ∧ Runs 160 14 ls st (n, tg, ln, zu I a i j, J, O) Q) := R_iast rfl ht
theorem s160_14 : Runs 160 14 [x0, x1, x2, some (.int i), x4] st h Q ↔ Runs 160 15 [x0, x1, x2, some (.int i), x4] (.int i :: st) h Q := R_ildn rfl rfl
theorem s160_15 : Runs 160 15 [x0, x1, x2, x3, x4] (.int i :: st) h Q ↔ Runs 160 17 [x0, x1, x2, zdrop x3, some (.int i)] st h Q := R_ist rfl rfl rfl
theorem s160_17 : Runs 160 17 [x0, x1, x2, x3, some (.int i)] st h Q ↔ Runs 160 19 [x0, x1, x2, x3, some (.int i)] (.int i :: st) h Q := R_ild rfl rfl
theorem s160_19 : Runs 160 19 [some (.ref a), x1, x2, x3, x4] st h Q ↔ Runs 160 20 [some (.ref a), x1, x2, x3, x4] (.ref a :: st) h Q := R_aldn rfl rfl
theorem s160_19q : Runs 160 19 [some (zrf r), x1, x2, x3, x4] st h Q ↔ Runs 160 20 [some (zrf r), x1, x2, x3, x4] (zrf r :: st) h Q := R_aldnq rfl rfl
theorem s160_20 (ht : tg a = 10) : Runs 160 20 ls (.ref a :: st) (n, tg, ln, I, J, O) Q ↔ Runs 160 23 ls (zrf (O a 0) :: st) (n, tg, ln, I, J, O) Q := R_getr rfl rfl rfl rfl ht
theorem s160_23 : Runs 160 23 [x0, some (.int i), x2, x3, x4] st h Q ↔ Runs 160 24 [x0, some (.int i), x2, x3, x4] (.int i :: st) h Q := R_ildn rfl rfl
theorem s160_24 : Runs 160 24 ls st h Q ↔ Runs 160 25 ls (.int 4 :: st) h Q := R_iconst rfl rfl
theorem s160_25 : Runs 160 25 ls (.int j :: .int i :: st) h Q ↔ Runs 160 26 ls (.int (i + j) :: st) h Q := R_iadd rfl
theorem s160_26 : Runs 160 26 [x0, x1, some (.int i), x3, x4] st h Q ↔ Runs 160 27 [x0, x1, some (.int i), x3, x4] (.int i :: st) h Q := R_ildn rfl rfl
theorem s160_27 : Runs 160 27 ls (.int j :: .int i :: st) h Q ↔ Runs 160 28 ls (.int (i + j) :: st) h Q := R_iadd rfl
theorem s160_28 (ht : tg a = 20) : Runs 160 28 ls (.int i :: .ref a :: st) (n, tg, ln, I, J, O) Q ↔ ((0 ≤ i ∧ i < Int32.ofNat (ln a)) ∧ Runs 160 29 ls (.int (I a i) :: st) (n, tg, ln, I, J, O) Q) := R_iald rfl ht
theorem s160_29 : Runs 160 29 ls (.int j :: .int i :: st) h Q ↔ if j ≤ i then Runs 160 74 ls st h Q else Runs 160 32 ls st h Q := R_icge rfl rfl
theorem s160_32 : Runs 160 32 [some (.ref a), x1, x2, x3, x4] st h Q ↔ Runs 160 33 [some (.ref a), x1, x2, x3, x4] (.ref a :: st) h Q := R_aldn rfl rfl
theorem s160_32q : Runs 160 32 [some (zrf r), x1, x2, x3, x4] st h Q ↔ Runs 160 33 [some (zrf r), x1, x2, x3, x4] (zrf r :: st) h Q := R_aldnq rfl rfl
theorem s160_33 (ht : tg a = 10) : Runs 160 33 ls (.ref a :: st) (n, tg, ln, I, J, O) Q ↔ Runs 160 36 ls (zrf (O a 0) :: st) (n, tg, ln, I, J, O) Q := R_getr rfl rfl rfl rfl ht
theorem s160_36 : Runs 160 36 [x0, some (.int i), x2, x3, x4] st h Q ↔ Runs 160 37 [x0, some (.int i), x2, x3, x4] (.int i :: st) h Q := R_ildn rfl rfl
theorem s160_37 : Runs 160 37 ls st h Q ↔ Runs 160 39 ls (.int 6 :: st) h Q := R_bipush rfl (by decide)
theorem s160_39 : Runs 160 39 ls (.int j :: .int i :: st) h Q ↔ Runs 160 40 ls (.int (i + j) :: st) h Q := R_iadd rfl
theorem s160_40 : Runs 160 40 ls st h Q ↔ Runs 160 42 ls (.int 12 :: st) h Q := R_bipush rfl (by decide)
theorem s160_42 : Runs 160 42 [x0, x1, some (.int i), x3, x4] st h Q ↔ Runs 160 43 [x0, x1, some (.int i), x3, x4] (.int i :: st) h Q := R_ildn rfl rfl
theorem s160_43 : Runs 160 43 ls (.int j :: .int i :: st) h Q ↔ Runs 160 44 ls (.int (i * j) :: st) h Q := R_imul rfl
theorem s160_44 : Runs 160 44 ls (.int j :: .int i :: st) h Q ↔ Runs 160 45 ls (.int (i + j) :: st) h Q := R_iadd rfl
theorem s160_45 : Runs 160 45 [x0, x1, x2, x3, some (.int i)] st h Q ↔ Runs 160 47 [x0, x1, x2, x3, some (.int i)] (.int i :: st) h Q := R_ild rfl rfl
theorem s160_47 : Runs 160 47 ls (.int j :: .int i :: st) h Q ↔ Runs 160 48 ls (.int (i + j) :: st) h Q := R_iadd rfl
theorem s160_48 : Runs 160 48 [some (.ref a), x1, x2, x3, x4] st h Q ↔ Runs 160 49 [some (.ref a), x1, x2, x3, x4] (.ref a :: st) h Q := R_aldn rfl rfl
theorem s160_48q : Runs 160 48 [some (zrf r), x1, x2, x3, x4] st h Q ↔ Runs 160 49 [some (zrf r), x1, x2, x3, x4] (zrf r :: st) h Q := R_aldnq rfl rfl
theorem s160_49 (ht : tg a = 10) : Runs 160 49 ls (.ref a :: st) (n, tg, ln, I, J, O) Q ↔ Runs 160 52 ls (zrf (O a 0) :: st) (n, tg, ln, I, J, O) Q := R_getr rfl rfl rfl rfl ht
theorem s160_52 : Runs 160 52 [x0, some (.int i), x2, x3, x4] st h Q ↔ Runs 160 53 [x0, some (.int i), x2, x3, x4] (.int i :: st) h Q := R_ildn rfl rfl
theorem s160_53 : Runs 160 53 ls st h Q ↔ Runs 160 55 ls (.int 6 :: st) h Q := R_bipush rfl (by decide)
theorem s160_55 : Runs 160 55 ls (.int j :: .int i :: st) h Q ↔ Runs 160 56 ls (.int (i + j) :: st) h Q := R_iadd rfl
theorem s160_56 : Runs 160 56 ls st h Q ↔ Runs 160 58 ls (.int 12 :: st) h Q := R_bipush rfl (by decide)
theorem s160_58 : Runs 160 58 [x0, x1, some (.int i), x3, x4] st h Q ↔ Runs 160 59 [x0, x1, some (.int i), x3, x4] (.int i :: st) h Q := R_ildn rfl rfl
theorem s160_59 : Runs 160 59 ls (.int j :: .int i :: st) h Q ↔ Runs 160 60 ls (.int (i * j) :: st) h Q := R_imul rfl
theorem s160_60 : Runs 160 60 ls (.int j :: .int i :: st) h Q ↔ Runs 160 61 ls (.int (i + j) :: st) h Q := R_iadd rfl
theorem s160_61 : Runs 160 61 [x0, x1, x2, x3, some (.int i)] st h Q ↔ Runs 160 63 [x0, x1, x2, x3, some (.int i)] (.int i :: st) h Q := R_ild rfl rfl
theorem s160_63 : Runs 160 63 ls (.int j :: .int i :: st) h Q ↔ Runs 160 64 ls (.int (i + j) :: st) h Q := R_iadd rfl
theorem s160_64 : Runs 160 64 ls st h Q ↔ Runs 160 65 ls (.int 1 :: st) h Q := R_iconst rfl rfl
theorem s160_65 : Runs 160 65 ls (.int j :: .int i :: st) h Q ↔ Runs 160 66 ls (.int (i + j) :: st) h Q := R_iadd rfl
theorem s160_66 (ht : tg a = 20) : Runs 160 66 ls (.int i :: .ref a :: st) (n, tg, ln, I, J, O) Q ↔ ((0 ≤ i ∧ i < Int32.ofNat (ln a)) ∧ Runs 160 67 ls (.int (I a i) :: st) (n, tg, ln, I, J, O) Q) := R_iald rfl ht
theorem s160_67 (ht : tg a = 20) : Runs 160 67 ls (.int j :: .int i :: .ref a :: st) (n, tg, ln, I, J, O) Q ↔ ((0 ≤ i ∧ i < Int32.ofNat (ln a)) ∧ Runs 160 68 ls st (n, tg, ln, zu I a i j, J, O) Q) := R_iast rfl ht
theorem s160_68 : Runs 160 68 [x0, x1, x2, x3, some (.int i)] st h Q ↔ Runs 160 71 [x0, x1, x2, zdrop x3, some (.int (i + 1))] st h Q := R_iinc rfl rfl rfl rfl rfl
theorem s160_71 : Runs 160 71 ls st h Q ↔ Runs 160 17 ls st h Q := R_goto rfl rfl
theorem s160_74 : Runs 160 74 ls [] h Q ↔ Q none h := R_vret rfl rfl
theorem s161_0 : Runs 161 0 [some (.ref a), x1, x2, x3, x4, x5] st h Q ↔ Runs 161 1 [some (.ref a), x1, x2, x3, x4, x5] (.ref a :: st) h Q := R_aldn rfl rfl
theorem s161_0q : Runs 161 0 [some (zrf r), x1, x2, x3, x4, x5] st h Q ↔ Runs 161 1 [some (zrf r), x1, x2, x3, x4, x5] (zrf r :: st) h Q := R_aldnq rfl rfl
theorem s161_1 (ht : tg a = 10) : Runs 161 1 ls (.ref a :: st) (n, tg, ln, I, J, O) Q ↔ Runs 161 4 ls (zrf (O a 0) :: st) (n, tg, ln, I, J, O) Q := R_getr rfl rfl rfl rfl ht
theorem s161_4 : Runs 161 4 [x0, some (.int i), x2, x3, x4, x5] st h Q ↔ Runs 161 5 [x0, some (.int i), x2, x3, x4, x5] (.int i :: st) h Q := R_ildn rfl rfl
theorem s161_5 : Runs 161 5 ls st h Q ↔ Runs 161 6 ls (.int 4 :: st) h Q := R_iconst rfl rfl
theorem s161_6 : Runs 161 6 ls (.int j :: .int i :: st) h Q ↔ Runs 161 7 ls (.int (i + j) :: st) h Q := R_iadd rfl
theorem s161_7 : Runs 161 7 [x0, x1, some (.int i), x3, x4, x5] st h Q ↔ Runs 161 8 [x0, x1, some (.int i), x3, x4, x5] (.int i :: st) h Q := R_ildn rfl rfl
theorem s161_8 : Runs 161 8 ls (.int j :: .int i :: st) h Q ↔ Runs 161 9 ls (.int (i + j) :: st) h Q := R_iadd rfl
theorem s161_9 (ht : tg a = 20) : Runs 161 9 ls (.int i :: .ref a :: st) (n, tg, ln, I, J, O) Q ↔ ((0 ≤ i ∧ i < Int32.ofNat (ln a)) ∧ Runs 161 10 ls (.int (I a i) :: st) (n, tg, ln, I, J, O) Q) := R_iald rfl ht
theorem s161_10 : Runs 161 10 [x0, x1, x2, x3, x4, x5] (.int i :: st) h Q ↔ Runs 161 11 [x0, x1, zdrop x2, some (.int i), x4, x5] st h Q := R_istn rfl rfl rfl
theorem s161_11 : Runs 161 11 [x0, x1, x2, some (.int i), x4, x5] st h Q ↔ Runs 161 12 [x0, x1, x2, some (.int i), x4, x5] (.int i :: st) h Q := R_ildn rfl rfl
theorem s161_12 : Runs 161 12 ls (.int i :: st) h Q ↔ if ¬ i = 0 then Runs 161 18 ls st h Q else Runs 161 15 ls st h Q := R_ifne rfl rfl
theorem s161_15 : Runs 161 15 ls st h Q ↔ Runs 161 17 ls (.int 99 :: st) h Q := R_bipush rfl (by decide)
theorem s161_17 : Runs 161 17 ls [.int i] h Q ↔ Q (some (.int i)) h := R_iret rfl rfl
theorem s161_18 : Runs 161 18 [some (.ref a), x1, x2, x3, x4, x5] st h Q ↔ Runs 161 19 [some (.ref a), x1, x2, x3, x4, x5] (.ref a :: st) h Q := R_aldn rfl rfl
theorem s161_18q : Runs 161 18 [some (zrf r), x1, x2, x3, x4, x5] st h Q ↔ Runs 161 19 [some (zrf r), x1, x2, x3, x4, x5] (zrf r :: st) h Q := R_aldnq rfl rfl
theorem s161_19 : Runs 161 19 [x0, some (.int i), x2, x3, x4, x5] st h Q ↔ Runs 161 20 [x0, some (.int i), x2, x3, x4, x5] (.int i :: st) h Q := R_ildn rfl rfl
theorem s161_20 : Runs 161 20 [x0, x1, some (.int i), x3, x4, x5] st h Q ↔ Runs 161 21 [x0, x1, some (.int i), x3, x4, x5] (.int i :: st) h Q := R_ildn rfl rfl
theorem s161_21 : Runs 161 21 ls st h Q ↔ Runs 161 22 ls (.int 0 :: st) h Q := R_iconst rfl rfl
theorem s161_22 (ht : tg a = 10) (hs : zsumc st ≤ 8) : Runs 161 22 ls (.int i2 :: .int i1 :: .int i0 :: .ref a :: st) (n, tg, ln, I, J, O) Q ↔ Runs 151 0 [some (.ref a), some (.int i0), some (.int i1), some (.int i2)] [] (n, tg, ln, I, J, O) (fun v h2 => Runs 161 25 ls (v.toList ++ st) h2 Q) := R_callv (a := a) (rest := st) rfl rfl rfl rfl rfl rfl rfl ht hs
theorem s161_25 : Runs 161 25 ls st h Q ↔ Runs 161 27 ls (.int 11 :: st) h Q := R_bipush rfl (by decide)
theorem s161_27 : Runs 161 27 ls (.int j :: .int i :: st) h Q ↔ if i ≤ j then Runs 161 40 ls st h Q else Runs 161 30 ls st h Q := R_icle rfl rfl
theorem s161_30 : Runs 161 30 [some (.ref a), x1, x2, x3, x4, x5] st h Q ↔ Runs 161 31 [some (.ref a), x1, x2, x3, x4, x5] (.ref a :: st) h Q := R_aldn rfl rfl
theorem s161_30q : Runs 161 30 [some (zrf r), x1, x2, x3, x4, x5] st h Q ↔ Runs 161 31 [some (zrf r), x1, x2, x3, x4, x5] (zrf r :: st) h Q := R_aldnq rfl rfl
theorem s161_31 : Runs 161 31 [x0, some (.int i), x2, x3, x4, x5] st h Q ↔ Runs 161 32 [x0, some (.int i), x2, x3, x4, x5] (.int i :: st) h Q := R_ildn rfl rfl
theorem s161_32 : Runs 161 32 [x0, x1, some (.int i), x3, x4, x5] st h Q ↔ Runs 161 33 [x0, x1, some (.int i), x3, x4, x5] (.int i :: st) h Q := R_ildn rfl rfl
theorem s161_33 : Runs 161 33 ls st h Q ↔ Runs 161 34 ls (.int 0 :: st) h Q := R_iconst rfl rfl
theorem s161_34 (ht : tg a = 10) (hs : zsumc st ≤ 8) : Runs 161 34 ls (.int i2 :: .int i1 :: .int i0 :: .ref a :: st) (n, tg, ln, I, J, O) Q ↔ Runs 160 0 [some (.ref a), some (.int i0), some (.int i1), some (.int i2), none] [] (n, tg, ln, I, J, O) (fun v h2 => Runs 161 37 ls (v.toList ++ st) h2 Q) := R_callv (a := a) (rest := st) rfl rfl rfl rfl rfl rfl rfl ht hs
theorem s161_37 : Runs 161 37 ls st h Q ↔ Runs 161 39 ls (.int 99 :: st) h Q := R_bipush rfl (by decide)
theorem s161_39 : Runs 161 39 ls [.int i] h Q ↔ Q (some (.int i)) h := R_iret rfl rfl
theorem s161_40 : Runs 161 40 ls st h Q ↔ Runs 161 41 ls (.int 0 :: st) h Q := R_iconst rfl rfl
theorem s161_41 : Runs 161 41 [x0, x1, x2, x3, x4, x5] (.int i :: st) h Q ↔ Runs 161 43 [x0, x1, x2, zdrop x3, some (.int i), x5] st h Q := R_ist rfl rfl rfl
theorem s161_43 : Runs 161 43 [x0, x1, x2, x3, some (.int i), x5] st h Q ↔ Runs 161 45 [x0, x1, x2, x3, some (.int i), x5] (.int i :: st) h Q := R_ild rfl rfl
theorem s161_45 : Runs 161 45 [x0, x1, x2, some (.int i), x4, x5] st h Q ↔ Runs 161 46 [x0, x1, x2, some (.int i), x4, x5] (.int i :: st) h Q := R_ildn rfl rfl
theorem s161_46 : Runs 161 46 ls (.int j :: .int i :: st) h Q ↔ if j ≤ i then Runs 161 90 ls st h Q else Runs 161 49 ls st h Q := R_icge rfl rfl
theorem s161_49 : Runs 161 49 [some (.ref a), x1, x2, x3, x4, x5] st h Q ↔ Runs 161 50 [some (.ref a), x1, x2, x3, x4, x5] (.ref a :: st) h Q := R_aldn rfl rfl
theorem s161_49q : Runs 161 49 [some (zrf r), x1, x2, x3, x4, x5] st h Q ↔ Runs 161 50 [some (zrf r), x1, x2, x3, x4, x5] (zrf r :: st) h Q := R_aldnq rfl rfl
theorem s161_50 : Runs 161 50 [x0, some (.int i), x2, x3, x4, x5] st h Q ↔ Runs 161 51 [x0, some (.int i), x2, x3, x4, x5] (.int i :: st) h Q := R_ildn rfl rfl
theorem s161_51 : Runs 161 51 [x0, x1, some (.int i), x3, x4, x5] st h Q ↔ Runs 161 52 [x0, x1, some (.int i), x3, x4, x5] (.int i :: st) h Q := R_ildn rfl rfl
theorem s161_52 : Runs 161 52 [x0, x1, x2, x3, some (.int i), x5] st h Q ↔ Runs 161 54 [x0, x1, x2, x3, some (.int i), x5] (.int i :: st) h Q := R_ild rfl rfl
theorem s161_54 (ht : tg a = 10) (hs : zsumc st ≤ 8) : Runs 161 54 ls (.int i2 :: .int i1 :: .int i0 :: .ref a :: st) (n, tg, ln, I, J, O) Q ↔ Runs 151 0 [some (.ref a), some (.int i0), some (.int i1), some (.int i2)] [] (n, tg, ln, I, J, O) (fun v h2 => Runs 161 57 ls (v.toList ++ st) h2 Q) := R_callv (a := a) (rest := st) rfl rfl rfl rfl rfl rfl rfl ht hs
theorem s161_57 : Runs 161 57 ls st h Q ↔ Runs 161 59 ls (.int 12 :: st) h Q := R_bipush rfl (by decide)
theorem s161_59 : Runs 161 59 ls (.int j :: .int i :: st) h Q ↔ if j ≤ i then Runs 161 90 ls st h Q else Runs 161 62 ls st h Q := R_icge rfl rfl
theorem s161_62 : Runs 161 62 [some (.ref a), x1, x2, x3, x4, x5] st h Q ↔ Runs 161 63 [some (.ref a), x1, x2, x3, x4, x5] (.ref a :: st) h Q := R_aldn rfl rfl
theorem s161_62q : Runs 161 62 [some (zrf r), x1, x2, x3, x4, x5] st h Q ↔ Runs 161 63 [some (zrf r), x1, x2, x3, x4, x5] (zrf r :: st) h Q := R_aldnq rfl rfl
theorem s161_63 (ht : tg a = 10) : Runs 161 63 ls (.ref a :: st) (n, tg, ln, I, J, O) Q ↔ Runs 161 66 ls (zrf (O a 0) :: st) (n, tg, ln, I, J, O) Q := R_getr rfl rfl rfl rfl ht
theorem s161_66 : Runs 161 66 [x0, some (.int i), x2, x3, x4, x5] st h Q ↔ Runs 161 67 [x0, some (.int i), x2, x3, x4, x5] (.int i :: st) h Q := R_ildn rfl rfl
theorem s161_67 : Runs 161 67 ls st h Q ↔ Runs 161 69 ls (.int 30 :: st) h Q := R_bipush rfl (by decide)
theorem s161_69 : Runs 161 69 ls (.int j :: .int i :: st) h Q ↔ Runs 161 70 ls (.int (i + j) :: st) h Q := R_iadd rfl
theorem s161_70 : Runs 161 70 [some (.ref a), x1, x2, x3, x4, x5] st h Q ↔ Runs 161 71 [some (.ref a), x1, x2, x3, x4, x5] (.ref a :: st) h Q := R_aldn rfl rfl
theorem s161_70q : Runs 161 70 [some (zrf r), x1, x2, x3, x4, x5] st h Q ↔ Runs 161 71 [some (zrf r), x1, x2, x3, x4, x5] (zrf r :: st) h Q := R_aldnq rfl rfl
theorem s161_71 : Runs 161 71 [x0, some (.int i), x2, x3, x4, x5] st h Q ↔ Runs 161 72 [x0, some (.int i), x2, x3, x4, x5] (.int i :: st) h Q := R_ildn rfl rfl
theorem s161_72 : Runs 161 72 [x0, x1, some (.int i), x3, x4, x5] st h Q ↔ Runs 161 73 [x0, x1, some (.int i), x3, x4, x5] (.int i :: st) h Q := R_ildn rfl rfl
theorem s161_73 : Runs 161 73 [x0, x1, x2, x3, some (.int i), x5] st h Q ↔ Runs 161 75 [x0, x1, x2, x3, some (.int i), x5] (.int i :: st) h Q := R_ild rfl rfl
theorem s161_75 (ht : tg a = 10) (hs : zsumc st ≤ 8) : Runs 161 75 ls (.int i2 :: .int i1 :: .int i0 :: .ref a :: st) (n, tg, ln, I, J, O) Q ↔ Runs 151 0 [some (.ref a), some (.int i0), some (.int i1), some (.int i2)] [] (n, tg, ln, I, J, O) (fun v h2 => Runs 161 78 ls (v.toList ++ st) h2 Q) := R_callv (a := a) (rest := st) rfl rfl rfl rfl rfl rfl rfl ht hs
theorem s161_78 : Runs 161 78 ls (.int j :: .int i :: st) h Q ↔ Runs 161 79 ls (.int (i + j) :: st) h Q := R_iadd rfl
theorem s161_79 (ht : tg a = 20) : Runs 161 79 ls (.int i :: .ref a :: st) (n, tg, ln, I, J, O) Q ↔ ((0 ≤ i ∧ i < Int32.ofNat (ln a)) ∧ Runs 161 80 ls (.int (I a i) :: st) (n, tg, ln, I, J, O) Q) := R_iald rfl ht
theorem s161_80 : Runs 161 80 ls st h Q ↔ Runs 161 81 ls (.int 3 :: st) h Q := R_iconst rfl rfl
theorem s161_81 : Runs 161 81 ls (.int j :: .int i :: st) h Q ↔ if ¬ i = j then Runs 161 90 ls st h Q else Runs 161 84 ls st h Q := R_icne rfl rfl
theorem s161_84 : Runs 161 84 [x0, x1, x2, x3, some (.int i), x5] st h Q ↔ Runs 161 87 [x0, x1, x2, zdrop x3, some (.int (i + 1)), x5] st h Q := R_iinc rfl rfl rfl rfl rfl
theorem s161_87 : Runs 161 87 ls st h Q ↔ Runs 161 43 ls st h Q := R_goto rfl rfl
theorem s161_90 : Runs 161 90 [x0, x1, x2, x3, some (.int i), x5] st h Q ↔ Runs 161 92 [x0, x1, x2, x3, some (.int i), x5] (.int i :: st) h Q := R_ild rfl rfl
theorem s161_92 : Runs 161 92 [x0, x1, x2, some (.int i), x4, x5] st h Q ↔ Runs 161 93 [x0, x1, x2, some (.int i), x4, x5] (.int i :: st) h Q := R_ildn rfl rfl
theorem s161_93 : Runs 161 93 ls (.int j :: .int i :: st) h Q ↔ if i = j then Runs 161 109 ls st h Q else Runs 161 96 ls st h Q := R_iceq rfl rfl
theorem s161_96 : Runs 161 96 [some (.ref a), x1, x2, x3, x4, x5] st h Q ↔ Runs 161 97 [some (.ref a), x1, x2, x3, x4, x5] (.ref a :: st) h Q := R_aldn rfl rfl
theorem s161_96q : Runs 161 96 [some (zrf r), x1, x2, x3, x4, x5] st h Q ↔ Runs 161 97 [some (zrf r), x1, x2, x3, x4, x5] (zrf r :: st) h Q := R_aldnq rfl rfl
theorem s161_97 : Runs 161 97 [x0, some (.int i), x2, x3, x4, x5] st h Q ↔ Runs 161 98 [x0, some (.int i), x2, x3, x4, x5] (.int i :: st) h Q := R_ildn rfl rfl
theorem s161_98 : Runs 161 98 [x0, x1, some (.int i), x3, x4, x5] st h Q ↔ Runs 161 99 [x0, x1, some (.int i), x3, x4, x5] (.int i :: st) h Q := R_ildn rfl rfl
theorem s161_99 : Runs 161 99 [x0, x1, x2, x3, some (.int i), x5] st h Q ↔ Runs 161 101 [x0, x1, x2, x3, some (.int i), x5] (.int i :: st) h Q := R_ild rfl rfl
theorem s161_101 (ht : tg a = 10) (hs : zsumc st ≤ 8) : Runs 161 101 ls (.int i2 :: .int i1 :: .int i0 :: .ref a :: st) (n, tg, ln, I, J, O) Q ↔ Runs 151 0 [some (.ref a), some (.int i0), some (.int i1), some (.int i2)] [] (n, tg, ln, I, J, O) (fun v h2 => Runs 161 104 ls (v.toList ++ st) h2 Q) := R_callv (a := a) (rest := st) rfl rfl rfl rfl rfl rfl rfl ht hs
theorem s161_104 : Runs 161 104 ls st h Q ↔ Runs 161 106 ls (.int 11 :: st) h Q := R_bipush rfl (by decide)
theorem s161_106 : Runs 161 106 ls (.int j :: .int i :: st) h Q ↔ if i ≤ j then Runs 161 112 ls st h Q else Runs 161 109 ls st h Q := R_icle rfl rfl
theorem s161_109 : Runs 161 109 ls st h Q ↔ Runs 161 111 ls (.int 99 :: st) h Q := R_bipush rfl (by decide)
theorem s161_111 : Runs 161 111 ls [.int i] h Q ↔ Q (some (.int i)) h := R_iret rfl rfl
theorem s161_112 : Runs 161 112 [some (.ref a), x1, x2, x3, x4, x5] st h Q ↔ Runs 161 113 [some (.ref a), x1, x2, x3, x4, x5] (.ref a :: st) h Q := R_aldn rfl rfl
theorem s161_112q : Runs 161 112 [some (zrf r), x1, x2, x3, x4, x5] st h Q ↔ Runs 161 113 [some (zrf r), x1, x2, x3, x4, x5] (zrf r :: st) h Q := R_aldnq rfl rfl
theorem s161_113 : Runs 161 113 [x0, some (.int i), x2, x3, x4, x5] st h Q ↔ Runs 161 114 [x0, some (.int i), x2, x3, x4, x5] (.int i :: st) h Q := R_ildn rfl rfl
theorem s161_114 : Runs 161 114 [x0, x1, some (.int i), x3, x4, x5] st h Q ↔ Runs 161 115 [x0, x1, some (.int i), x3, x4, x5] (.int i :: st) h Q := R_ildn rfl rfl
theorem s161_115 : Runs 161 115 [x0, x1, x2, x3, some (.int i), x5] st h Q ↔ Runs 161 117 [x0, x1, x2, x3, some (.int i), x5] (.int i :: st) h Q := R_ild rfl rfl
theorem s161_117 (ht : tg a = 10) (hs : zsumc st ≤ 8) : Runs 161 117 ls (.int i2 :: .int i1 :: .int i0 :: .ref a :: st) (n, tg, ln, I, J, O) Q ↔ Runs 151 0 [some (.ref a), some (.int i0), some (.int i1), some (.int i2)] [] (n, tg, ln, I, J, O) (fun v h2 => Runs 161 120 ls (v.toList ++ st) h2 Q) := R_callv (a := a) (rest := st) rfl rfl rfl rfl rfl rfl rfl ht hs
theorem s161_120 : Runs 161 120 [x0, x1, x2, x3, x4, x5] (.int i :: st) h Q ↔ Runs 161 122 [x0, x1, x2, x3, zdrop x4, some (.int i)] st h Q := R_ist rfl rfl rfl
theorem s161_122 : Runs 161 122 [some (.ref a), x1, x2, x3, x4, x5] st h Q ↔ Runs 161 123 [some (.ref a), x1, x2, x3, x4, x5] (.ref a :: st) h Q := R_aldn rfl rfl
theorem s161_122q : Runs 161 122 [some (zrf r), x1, x2, x3, x4, x5] st h Q ↔ Runs 161 123 [some (zrf r), x1, x2, x3, x4, x5] (zrf r :: st) h Q := R_aldnq rfl rfl
theorem s161_123 (ht : tg a = 10) : Runs 161 123 ls (.ref a :: st) (n, tg, ln, I, J, O) Q ↔ Runs 161 126 ls (zrf (O a 0) :: st) (n, tg, ln, I, J, O) Q := R_getr rfl rfl rfl rfl ht
theorem s161_126 : Runs 161 126 [x0, some (.int i), x2, x3, x4, x5] st h Q ↔ Runs 161 127 [x0, some (.int i), x2, x3, x4, x5] (.int i :: st) h Q := R_ildn rfl rfl
theorem s161_127 : Runs 161 127 ls st h Q ↔ Runs 161 129 ls (.int 66 :: st) h Q := R_bipush rfl (by decide)
theorem s161_129 : Runs 161 129 ls (.int j :: .int i :: st) h Q ↔ Runs 161 130 ls (.int (i + j) :: st) h Q := R_iadd rfl
theorem s161_130 : Runs 161 130 [x0, x1, x2, x3, x4, some (.int i)] st h Q ↔ Runs 161 132 [x0, x1, x2, x3, x4, some (.int i)] (.int i :: st) h Q := R_ild rfl rfl
theorem s161_132 : Runs 161 132 ls (.int j :: .int i :: st) h Q ↔ Runs 161 133 ls (.int (i + j) :: st) h Q := R_iadd rfl
theorem s161_133 : Runs 161 133 ls (.int i :: .ref a :: st) h Q ↔ Runs 161 134 ls (.int i :: .ref a :: .int i :: .ref a :: st) h Q := R_dup2 rfl
theorem s161_134 (ht : tg a = 20) : Runs 161 134 ls (.int i :: .ref a :: st) (n, tg, ln, I, J, O) Q ↔ ((0 ≤ i ∧ i < Int32.ofNat (ln a)) ∧ Runs 161 135 ls (.int (I a i) :: st) (n, tg, ln, I, J, O) Q) := R_iald rfl ht
theorem s161_135 : Runs 161 135 ls st h Q ↔ Runs 161 136 ls (.int 1 :: st) h Q := R_iconst rfl rfl
theorem s161_136 : Runs 161 136 ls (.int j :: .int i :: st) h Q ↔ Runs 161 137 ls (.int (i + j) :: st) h Q := R_iadd rfl
theorem s161_137 (ht : tg a = 20) : Runs 161 137 ls (.int j :: .int i :: .ref a :: st) (n, tg, ln, I, J, O) Q ↔ ((0 ≤ i ∧ i < Int32.ofNat (ln a)) ∧ Runs 161 138 ls st (n, tg, ln, zu I a i j, J, O) Q) := R_iast rfl ht
theorem s161_138 : Runs 161 138 [some (.ref a), x1, x2, x3, x4, x5] st h Q ↔ Runs 161 139 [some (.ref a), x1, x2, x3, x4, x5] (.ref a :: st) h Q := R_aldn rfl rfl
theorem s161_138q : Runs 161 138 [some (zrf r), x1, x2, x3, x4, x5] st h Q ↔ Runs 161 139 [some (zrf r), x1, x2, x3, x4, x5] (zrf r :: st) h Q := R_aldnq rfl rfl
theorem s161_139 (ht : tg a = 10) : Runs 161 139 ls (.ref a :: st) (n, tg, ln, I, J, O) Q ↔ Runs 161 142 ls (zrf (O a 0) :: st) (n, tg, ln, I, J, O) Q := R_getr rfl rfl rfl rfl ht
theorem s161_142 : Runs 161 142 [x0, some (.int i), x2, x3, x4, x5] st h Q ↔ Runs 161 143 [x0, some (.int i), x2, x3, x4, x5] (.int i :: st) h Q := R_ildn rfl rfl
theorem s161_143 : Runs 161 143 ls st h Q ↔ Runs 161 145 ls (.int 66 :: st) h Q := R_bipush rfl (by decide)
theorem s161_145 : Runs 161 145 ls (.int j :: .int i :: st) h Q ↔ Runs 161 146 ls (.int (i + j) :: st) h Q := R_iadd rfl
theorem s161_146 : Runs 161 146 [x0, x1, x2, x3, x4, some (.int i)] st h Q ↔ Runs 161 148 [x0, x1, x2, x3, x4, some (.int i)] (.int i :: st) h Q := R_ild rfl rfl
theorem s161_148 : Runs 161 148 ls (.int j :: .int i :: st) h Q ↔ Runs 161 149 ls (.int (i + j) :: st) h Q := R_iadd rfl
theorem s161_149 (ht : tg a = 20) : Runs 161 149 ls (.int i :: .ref a :: st) (n, tg, ln, I, J, O) Q ↔ ((0 ≤ i ∧ i < Int32.ofNat (ln a)) ∧ Runs 161 150 ls (.int (I a i) :: st) (n, tg, ln, I, J, O) Q) := R_iald rfl ht
theorem s161_150 : Runs 161 150 [some (.ref a), x1, x2, x3, x4, x5] st h Q ↔ Runs 161 151 [some (.ref a), x1, x2, x3, x4, x5] (.ref a :: st) h Q := R_aldn rfl rfl
theorem s161_150q : Runs 161 150 [some (zrf r), x1, x2, x3, x4, x5] st h Q ↔ Runs 161 151 [some (zrf r), x1, x2, x3, x4, x5] (zrf r :: st) h Q := R_aldnq rfl rfl
theorem s161_151 (ht : tg a = 10) : Runs 161 151 ls (.ref a :: st) (n, tg, ln, I, J, O) Q ↔ Runs 161 154 ls (zrf (O a 0) :: st) (n, tg, ln, I, J, O) Q := R_getr rfl rfl rfl rfl ht
theorem s161_154 : Runs 161 154 [x0, some (.int i), x2, x3, x4, x5] st h Q ↔ Runs 161 155 [x0, some (.int i), x2, x3, x4, x5] (.int i :: st) h Q := R_ildn rfl rfl
theorem s161_155 : Runs 161 155 ls st h Q ↔ Runs 161 157 ls (.int 30 :: st) h Q := R_bipush rfl (by decide)
theorem s161_157 : Runs 161 157 ls (.int j :: .int i :: st) h Q ↔ Runs 161 158 ls (.int (i + j) :: st) h Q := R_iadd rfl
theorem s161_158 : Runs 161 158 [x0, x1, x2, x3, x4, some (.int i)] st h Q ↔ Runs 161 160 [x0, x1, x2, x3, x4, some (.int i)] (.int i :: st) h Q := R_ild rfl rfl
theorem s161_160 : Runs 161 160 ls (.int j :: .int i :: st) h Q ↔ Runs 161 161 ls (.int (i + j) :: st) h Q := R_iadd rfl
theorem s161_161 (ht : tg a = 20) : Runs 161 161 ls (.int i :: .ref a :: st) (n, tg, ln, I, J, O) Q ↔ ((0 ≤ i ∧ i < Int32.ofNat (ln a)) ∧ Runs 161 162 ls (.int (I a i) :: st) (n, tg, ln, I, J, O) Q) := R_iald rfl ht
theorem s161_162 (hs : zsumc st ≤ 8) : Runs 161 162 ls (.int i0 :: st) h Q ↔ Runs 153 0 [some (.int i0)] [] h (fun v h2 => Runs 161 165 ls (v.toList ++ st) h2 Q) := R_calls (rest := st) rfl rfl rfl (by simp) rfl rfl rfl rfl hs
theorem s161_165 : Runs 161 165 ls (.int j :: .int i :: st) h Q ↔ if j ≤ i then Runs 161 171 ls st h Q else Runs 161 168 ls st h Q := R_icge rfl rfl
theorem s161_168 : Runs 161 168 ls st h Q ↔ Runs 161 170 ls (.int 99 :: st) h Q := R_bipush rfl (by decide)
theorem s161_170 : Runs 161 170 ls [.int i] h Q ↔ Q (some (.int i)) h := R_iret rfl rfl
theorem s161_171 : Runs 161 171 [some (.ref a), x1, x2, x3, x4, x5] st h Q ↔ Runs 161 172 [some (.ref a), x1, x2, x3, x4, x5] (.ref a :: st) h Q := R_aldn rfl rfl
theorem s161_171q : Runs 161 171 [some (zrf r), x1, x2, x3, x4, x5] st h Q ↔ Runs 161 172 [some (zrf r), x1, x2, x3, x4, x5] (zrf r :: st) h Q := R_aldnq rfl rfl
theorem s161_172 (ht : tg a = 10) : Runs 161 172 ls (.ref a :: st) (n, tg, ln, I, J, O) Q ↔ Runs 161 175 ls (zrf (O a 0) :: st) (n, tg, ln, I, J, O) Q := R_getr rfl rfl rfl rfl ht
theorem s161_175 : Runs 161 175 [x0, some (.int i), x2, x3, x4, x5] st h Q ↔ Runs 161 176 [x0, some (.int i), x2, x3, x4, x5] (.int i :: st) h Q := R_ildn rfl rfl
theorem s161_176 : Runs 161 176 ls st h Q ↔ Runs 161 178 ls (.int 54 :: st) h Q := R_bipush rfl (by decide)
theorem s161_178 : Runs 161 178 ls (.int j :: .int i :: st) h Q ↔ Runs 161 179 ls (.int (i + j) :: st) h Q := R_iadd rfl
theorem s161_179 : Runs 161 179 [x0, x1, x2, x3, x4, some (.int i)] st h Q ↔ Runs 161 181 [x0, x1, x2, x3, x4, some (.int i)] (.int i :: st) h Q := R_ild rfl rfl
theorem s161_181 : Runs 161 181 ls (.int j :: .int i :: st) h Q ↔ Runs 161 182 ls (.int (i + j) :: st) h Q := R_iadd rfl
theorem s161_182 : Runs 161 182 ls st h Q ↔ Runs 161 183 ls (.int 1 :: st) h Q := R_iconst rfl rfl
theorem s161_183 (ht : tg a = 20) : Runs 161 183 ls (.int j :: .int i :: .ref a :: st) (n, tg, ln, I, J, O) Q ↔ ((0 ≤ i ∧ i < Int32.ofNat (ln a)) ∧ Runs 161 184 ls st (n, tg, ln, zu I a i j, J, O) Q) := R_iast rfl ht
theorem s161_184 : Runs 161 184 [some (.ref a), x1, x2, x3, x4, x5] st h Q ↔ Runs 161 185 [some (.ref a), x1, x2, x3, x4, x5] (.ref a :: st) h Q := R_aldn rfl rfl
theorem s161_184q : Runs 161 184 [some (zrf r), x1, x2, x3, x4, x5] st h Q ↔ Runs 161 185 [some (zrf r), x1, x2, x3, x4, x5] (zrf r :: st) h Q := R_aldnq rfl rfl
theorem s161_185 : Runs 161 185 [x0, some (.int i), x2, x3, x4, x5] st h Q ↔ Runs 161 186 [x0, some (.int i), x2, x3, x4, x5] (.int i :: st) h Q := R_ildn rfl rfl
theorem s161_186 : Runs 161 186 [x0, x1, some (.int i), x3, x4, x5] st h Q ↔ Runs 161 187 [x0, x1, some (.int i), x3, x4, x5] (.int i :: st) h Q := R_ildn rfl rfl
theorem s161_187 : Runs 161 187 [x0, x1, x2, x3, some (.int i), x5] st h Q ↔ Runs 161 189 [x0, x1, x2, x3, some (.int i), x5] (.int i :: st) h Q := R_ild rfl rfl
theorem s161_189 (ht : tg a = 10) (hs : zsumc st ≤ 8) : Runs 161 189 ls (.int i2 :: .int i1 :: .int i0 :: .ref a :: st) (n, tg, ln, I, J, O) Q ↔ Runs 160 0 [some (.ref a), some (.int i0), some (.int i1), some (.int i2), none] [] (n, tg, ln, I, J, O) (fun v h2 => Runs 161 192 ls (v.toList ++ st) h2 Q) := R_callv (a := a) (rest := st) rfl rfl rfl rfl rfl rfl rfl ht hs
theorem s161_192 : Runs 161 192 [x0, x1, x2, x3, x4, some (.int i)] st h Q ↔ Runs 161 194 [x0, x1, x2, x3, x4, some (.int i)] (.int i :: st) h Q := R_ild rfl rfl
theorem s161_194 : Runs 161 194 ls [.int i] h Q ↔ Q (some (.int i)) h := R_iret rfl rfl
theorem s162_0 : Runs 162 0 [some (.ref a), x1, x2, x3] st h Q ↔ Runs 162 1 [some (.ref a), x1, x2, x3] (.ref a :: st) h Q := R_aldn rfl rfl
theorem s162_0q : Runs 162 0 [some (zrf r), x1, x2, x3] st h Q ↔ Runs 162 1 [some (zrf r), x1, x2, x3] (zrf r :: st) h Q := R_aldnq rfl rfl
theorem s162_1 : Runs 162 1 [x0, some (.int i), x2, x3] st h Q ↔ Runs 162 2 [x0, some (.int i), x2, x3] (.int i :: st) h Q := R_ildn rfl rfl
theorem s162_2 : Runs 162 2 ls st h Q ↔ Runs 162 3 ls (.int 0 :: st) h Q := R_iconst rfl rfl
theorem s162_3 (ht : tg a = 10) (hs : zsumc st ≤ 8) : Runs 162 3 ls (.int i1 :: .int i0 :: .ref a :: st) (n, tg, ln, I, J, O) Q ↔ Runs 157 0 [some (.ref a), some (.int i0), some (.int i1), none, none, none, none] [] (n, tg, ln, I, J, O) (fun v h2 => Runs 162 6 ls (v.toList ++ st) h2 Q) := R_callv (a := a) (rest := st) rfl rfl rfl rfl rfl rfl rfl ht hs
theorem s162_6 : Runs 162 6 [some (.ref a), x1, x2, x3] st h Q ↔ Runs 162 7 [some (.ref a), x1, x2, x3] (.ref a :: st) h Q := R_aldn rfl rfl
theorem s162_6q : Runs 162 6 [some (zrf r), x1, x2, x3] st h Q ↔ Runs 162 7 [some (zrf r), x1, x2, x3] (zrf r :: st) h Q := R_aldnq rfl rfl
theorem s162_7 : Runs 162 7 [x0, some (.int i), x2, x3] st h Q ↔ Runs 162 8 [x0, some (.int i), x2, x3] (.int i :: st) h Q := R_ildn rfl rfl
theorem s162_8 : Runs 162 8 ls st h Q ↔ Runs 162 9 ls (.int 1 :: st) h Q := R_iconst rfl rfl
theorem s162_9 (ht : tg a = 10) (hs : zsumc st ≤ 8) : Runs 162 9 ls (.int i1 :: .int i0 :: .ref a :: st) (n, tg, ln, I, J, O) Q ↔ Runs 157 0 [some (.ref a), some (.int i0), some (.int i1), none, none, none, none] [] (n, tg, ln, I, J, O) (fun v h2 => Runs 162 12 ls (v.toList ++ st) h2 Q) := R_callv (a := a) (rest := st) rfl rfl rfl rfl rfl rfl rfl ht hs
theorem s162_12 : Runs 162 12 [some (.ref a), x1, x2, x3] st h Q ↔ Runs 162 13 [some (.ref a), x1, x2, x3] (.ref a :: st) h Q := R_aldn rfl rfl
theorem s162_12q : Runs 162 12 [some (zrf r), x1, x2, x3] st h Q ↔ Runs 162 13 [some (zrf r), x1, x2, x3] (zrf r :: st) h Q := R_aldnq rfl rfl
theorem s162_13 : Runs 162 13 [x0, some (.int i), x2, x3] st h Q ↔ Runs 162 14 [x0, some (.int i), x2, x3] (.int i :: st) h Q := R_ildn rfl rfl
theorem s162_14 (ht : tg a = 10) (hs : zsumc st ≤ 8) : Runs 162 14 ls (.int i0 :: .ref a :: st) (n, tg, ln, I, J, O) Q ↔ Runs 159 0 [some (.ref a), some (.int i0), none, none, none] [] (n, tg, ln, I, J, O) (fun v h2 => Runs 162 17 ls (v.toList ++ st) h2 Q) := R_callv (a := a) (rest := st) rfl rfl rfl rfl rfl rfl rfl ht hs
theorem s162_17 : Runs 162 17 [x0, x1, x2, x3] (.int i :: st) h Q ↔ Runs 162 18 [x0, zdrop x1, some (.int i), x3] st h Q := R_istn rfl rfl rfl
theorem s162_18 : Runs 162 18 [x0, x1, some (.int i), x3] st h Q ↔ Runs 162 19 [x0, x1, some (.int i), x3] (.int i :: st) h Q := R_ildn rfl rfl
theorem s162_19 : Runs 162 19 ls st h Q ↔ Runs 162 20 ls (.int (-1) :: st) h Q := R_iconst rfl rfl
theorem s162_20 : Runs 162 20 ls (.int j :: .int i :: st) h Q ↔ if ¬ i = j then Runs 162 28 ls st h Q else Runs 162 23 ls st h Q := R_icne rfl rfl
theorem s162_23 : Runs 162 23 ls st h Q ↔ Runs 162 25 ls (.int 99 :: st) h Q := R_bipush rfl (by decide)
theorem s162_25 : Runs 162 25 ls st h Q ↔ Runs 162 34 ls st h Q := R_goto rfl rfl
theorem s162_28 : Runs 162 28 [some (.ref a), x1, x2, x3] st h Q ↔ Runs 162 29 [some (.ref a), x1, x2, x3] (.ref a :: st) h Q := R_aldn rfl rfl
theorem s162_28q : Runs 162 28 [some (zrf r), x1, x2, x3] st h Q ↔ Runs 162 29 [some (zrf r), x1, x2, x3] (zrf r :: st) h Q := R_aldnq rfl rfl
theorem s162_29 : Runs 162 29 [x0, some (.int i), x2, x3] st h Q ↔ Runs 162 30 [x0, some (.int i), x2, x3] (.int i :: st) h Q := R_ildn rfl rfl
theorem s162_30 : Runs 162 30 [x0, x1, some (.int i), x3] st h Q ↔ Runs 162 31 [x0, x1, some (.int i), x3] (.int i :: st) h Q := R_ildn rfl rfl
theorem s162_31 (ht : tg a = 10) (hs : zsumc st ≤ 8) : Runs 162 31 ls (.int i1 :: .int i0 :: .ref a :: st) (n, tg, ln, I, J, O) Q ↔ Runs 161 0 [some (.ref a), some (.int i0), some (.int i1), none, none, none] [] (n, tg, ln, I, J, O) (fun v h2 => Runs 162 34 ls (v.toList ++ st) h2 Q) := R_callv (a := a) (rest := st) rfl rfl rfl rfl rfl rfl rfl ht hs
theorem s162_34 : Runs 162 34 [x0, x1, x2, x3] (.int i :: st) h Q ↔ Runs 162 35 [x0, x1, zdrop x2, some (.int i)] st h Q := R_istn rfl rfl rfl
theorem s162_35 : Runs 162 35 [some (.ref a), x1, x2, x3] st h Q ↔ Runs 162 36 [some (.ref a), x1, x2, x3] (.ref a :: st) h Q := R_aldn rfl rfl
theorem s162_35q : Runs 162 35 [some (zrf r), x1, x2, x3] st h Q ↔ Runs 162 36 [some (zrf r), x1, x2, x3] (zrf r :: st) h Q := R_aldnq rfl rfl
theorem s162_36 (ht : tg a = 10) : Runs 162 36 ls (.ref a :: st) (n, tg, ln, I, J, O) Q ↔ Runs 162 39 ls (zrf (O a 0) :: st) (n, tg, ln, I, J, O) Q := R_getr rfl rfl rfl rfl ht
theorem s162_39 : Runs 162 39 [x0, some (.int i), x2, x3] st h Q ↔ Runs 162 40 [x0, some (.int i), x2, x3] (.int i :: st) h Q := R_ildn rfl rfl
theorem s162_40 : Runs 162 40 ls st h Q ↔ Runs 162 41 ls (.int 1 :: st) h Q := R_iconst rfl rfl
theorem s162_41 : Runs 162 41 ls (.int j :: .int i :: st) h Q ↔ Runs 162 42 ls (.int (i + j) :: st) h Q := R_iadd rfl
theorem s162_42 (ht : tg a = 20) : Runs 162 42 ls (.int i :: .ref a :: st) (n, tg, ln, I, J, O) Q ↔ ((0 ≤ i ∧ i < Int32.ofNat (ln a)) ∧ Runs 162 43 ls (.int (I a i) :: st) (n, tg, ln, I, J, O) Q) := R_iald rfl ht
theorem s162_43 : Runs 162 43 ls (.int i :: st) h Q ↔ if ¬ i = 0 then Runs 162 62 ls st h Q else Runs 162 46 ls st h Q := R_ifne rfl rfl
theorem s162_46 : Runs 162 46 [x0, x1, some (.int i), x3] st h Q ↔ Runs 162 47 [x0, x1, some (.int i), x3] (.int i :: st) h Q := R_ildn rfl rfl
theorem s162_47 : Runs 162 47 ls st h Q ↔ Runs 162 48 ls (.int (-1) :: st) h Q := R_iconst rfl rfl
theorem s162_48 : Runs 162 48 ls (.int j :: .int i :: st) h Q ↔ if i = j then Runs 162 62 ls st h Q else Runs 162 51 ls st h Q := R_iceq rfl rfl
theorem s162_51 : Runs 162 51 [some (.ref a), x1, x2, x3] st h Q ↔ Runs 162 52 [some (.ref a), x1, x2, x3] (.ref a :: st) h Q := R_aldn rfl rfl
theorem s162_51q : Runs 162 51 [some (zrf r), x1, x2, x3] st h Q ↔ Runs 162 52 [some (zrf r), x1, x2, x3] (zrf r :: st) h Q := R_aldnq rfl rfl
theorem s162_52 (ht : tg a = 10) : Runs 162 52 ls (.ref a :: st) (n, tg, ln, I, J, O) Q ↔ Runs 162 55 ls (zrf (O a 0) :: st) (n, tg, ln, I, J, O) Q := R_getr rfl rfl rfl rfl ht
theorem s162_55 : Runs 162 55 [x0, some (.int i), x2, x3] st h Q ↔ Runs 162 56 [x0, some (.int i), x2, x3] (.int i :: st) h Q := R_ildn rfl rfl
theorem s162_56 : Runs 162 56 ls st h Q ↔ Runs 162 57 ls (.int 3 :: st) h Q := R_iconst rfl rfl
theorem s162_57 : Runs 162 57 ls (.int j :: .int i :: st) h Q ↔ Runs 162 58 ls (.int (i + j) :: st) h Q := R_iadd rfl
theorem s162_58 : Runs 162 58 ls st h Q ↔ Runs 162 59 ls (.int 1 :: st) h Q := R_iconst rfl rfl
theorem s162_59 : Runs 162 59 [x0, x1, some (.int i), x3] st h Q ↔ Runs 162 60 [x0, x1, some (.int i), x3] (.int i :: st) h Q := R_ildn rfl rfl
theorem s162_60 : Runs 162 60 ls (.int j :: .int i :: st) h Q ↔ Runs 162 61 ls (.int (i - j) :: st) h Q := R_isub rfl
theorem s162_61 (ht : tg a = 20) : Runs 162 61 ls (.int j :: .int i :: .ref a :: st) (n, tg, ln, I, J, O) Q ↔ ((0 ≤ i ∧ i < Int32.ofNat (ln a)) ∧ Runs 162 62 ls st (n, tg, ln, zu I a i j, J, O) Q) := R_iast rfl ht
theorem s162_62 : Runs 162 62 [some (.ref a), x1, x2, x3] st h Q ↔ Runs 162 63 [some (.ref a), x1, x2, x3] (.ref a :: st) h Q := R_aldn rfl rfl
theorem s162_62q : Runs 162 62 [some (zrf r), x1, x2, x3] st h Q ↔ Runs 162 63 [some (zrf r), x1, x2, x3] (zrf r :: st) h Q := R_aldnq rfl rfl
theorem s162_63 (ht : tg a = 10) : Runs 162 63 ls (.ref a :: st) (n, tg, ln, I, J, O) Q ↔ Runs 162 66 ls (zrf (O a 0) :: st) (n, tg, ln, I, J, O) Q := R_getr rfl rfl rfl rfl ht
theorem s162_66 : Runs 162 66 [x0, some (.int i), x2, x3] st h Q ↔ Runs 162 67 [x0, some (.int i), x2, x3] (.int i :: st) h Q := R_ildn rfl rfl
theorem s162_67 : Runs 162 67 ls st h Q ↔ Runs 162 68 ls (.int 2 :: st) h Q := R_iconst rfl rfl
theorem s162_68 : Runs 162 68 ls (.int j :: .int i :: st) h Q ↔ Runs 162 69 ls (.int (i + j) :: st) h Q := R_iadd rfl
theorem s162_69 : Runs 162 69 ls (.int i :: .ref a :: st) h Q ↔ Runs 162 70 ls (.int i :: .ref a :: .int i :: .ref a :: st) h Q := R_dup2 rfl
theorem s162_70 (ht : tg a = 20) : Runs 162 70 ls (.int i :: .ref a :: st) (n, tg, ln, I, J, O) Q ↔ ((0 ≤ i ∧ i < Int32.ofNat (ln a)) ∧ Runs 162 71 ls (.int (I a i) :: st) (n, tg, ln, I, J, O) Q) := R_iald rfl ht
theorem s162_71 : Runs 162 71 ls st h Q ↔ Runs 162 72 ls (.int 1 :: st) h Q := R_iconst rfl rfl
theorem s162_72 : Runs 162 72 ls (.int j :: .int i :: st) h Q ↔ Runs 162 73 ls (.int (i + j) :: st) h Q := R_iadd rfl
theorem s162_73 (ht : tg a = 20) : Runs 162 73 ls (.int j :: .int i :: .ref a :: st) (n, tg, ln, I, J, O) Q ↔ ((0 ≤ i ∧ i < Int32.ofNat (ln a)) ∧ Runs 162 74 ls st (n, tg, ln, zu I a i j, J, O) Q) := R_iast rfl ht
theorem s162_74 : Runs 162 74 [x0, x1, x2, some (.int i)] st h Q ↔ Runs 162 75 [x0, x1, x2, some (.int i)] (.int i :: st) h Q := R_ildn rfl rfl
theorem s162_75 : Runs 162 75 ls [.int i] h Q ↔ Q (some (.int i)) h := R_iret rfl rfl
theorem s163_0 : Runs 163 0 [some (.ref a), x1] st h Q ↔ Runs 163 1 [some (.ref a), x1] (.ref a :: st) h Q := R_aldn rfl rfl
theorem s163_0q : Runs 163 0 [some (zrf r), x1] st h Q ↔ Runs 163 1 [some (zrf r), x1] (zrf r :: st) h Q := R_aldnq rfl rfl
theorem s163_1 (ht : tg a = 10) : Runs 163 1 ls (.ref a :: st) (n, tg, ln, I, J, O) Q ↔ Runs 163 4 ls (.int (I a 1) :: st) (n, tg, ln, I, J, O) Q := R_geti rfl rfl rfl rfl ht
theorem s163_4 : Runs 163 4 ls st h Q ↔ Runs 163 6 ls (.int 8 :: st) h Q := R_bipush rfl (by decide)
theorem s163_6 : Runs 163 6 ls (.int j :: .int i :: st) h Q ↔ if ¬ i = j then Runs 163 54 ls st h Q else Runs 163 9 ls st h Q := R_icne rfl rfl
theorem s163_9 : Runs 163 9 ls st h Q ↔ Runs 163 10 ls (.int 0 :: st) h Q := R_iconst rfl rfl
theorem s163_10 : Runs 163 10 [x0, x1] (.int i :: st) h Q ↔ Runs 163 11 [zdrop x0, some (.int i)] st h Q := R_istn rfl rfl rfl
theorem s163_11 : Runs 163 11 [x0, some (.int i)] st h Q ↔ Runs 163 12 [x0, some (.int i)] (.int i :: st) h Q := R_ildn rfl rfl
theorem s163_12 : Runs 163 12 ls st h Q ↔ Runs 163 15 ls (.int 630 :: st) h Q := R_sipush rfl (by decide)
theorem s163_15 : Runs 163 15 ls (.int j :: .int i :: st) h Q ↔ if j ≤ i then Runs 163 44 ls st h Q else Runs 163 18 ls st h Q := R_icge rfl rfl
theorem s163_18 : Runs 163 18 [some (.ref a), x1] st h Q ↔ Runs 163 19 [some (.ref a), x1] (.ref a :: st) h Q := R_aldn rfl rfl
theorem s163_18q : Runs 163 18 [some (zrf r), x1] st h Q ↔ Runs 163 19 [some (zrf r), x1] (zrf r :: st) h Q := R_aldnq rfl rfl
theorem s163_19 (ht : tg a = 10) : Runs 163 19 ls (.ref a :: st) (n, tg, ln, I, J, O) Q ↔ Runs 163 22 ls (zrf (O a 0) :: st) (n, tg, ln, I, J, O) Q := R_getr rfl rfl rfl rfl ht
theorem s163_22 : Runs 163 22 ls st h Q ↔ Runs 163 25 ls (.int 180 :: st) h Q := R_sipush rfl (by decide)
theorem s163_25 : Runs 163 25 [x0, some (.int i)] st h Q ↔ Runs 163 26 [x0, some (.int i)] (.int i :: st) h Q := R_ildn rfl rfl
theorem s163_26 : Runs 163 26 ls (.int j :: .int i :: st) h Q ↔ Runs 163 27 ls (.int (i + j) :: st) h Q := R_iadd rfl
theorem s163_27 : Runs 163 27 [some (.ref a), x1] st h Q ↔ Runs 163 28 [some (.ref a), x1] (.ref a :: st) h Q := R_aldn rfl rfl
theorem s163_27q : Runs 163 27 [some (zrf r), x1] st h Q ↔ Runs 163 28 [some (zrf r), x1] (zrf r :: st) h Q := R_aldnq rfl rfl
theorem s163_28 (ht : tg a = 10) : Runs 163 28 ls (.ref a :: st) (n, tg, ln, I, J, O) Q ↔ Runs 163 31 ls (zrf (O a 0) :: st) (n, tg, ln, I, J, O) Q := R_getr rfl rfl rfl rfl ht
theorem s163_31 : Runs 163 31 ls st h Q ↔ Runs 163 34 ls (.int 270 :: st) h Q := R_sipush rfl (by decide)
theorem s163_34 : Runs 163 34 [x0, some (.int i)] st h Q ↔ Runs 163 35 [x0, some (.int i)] (.int i :: st) h Q := R_ildn rfl rfl
theorem s163_35 : Runs 163 35 ls (.int j :: .int i :: st) h Q ↔ Runs 163 36 ls (.int (i + j) :: st) h Q := R_iadd rfl
theorem s163_36 (ht : tg a = 20) : Runs 163 36 ls (.int i :: .ref a :: st) (n, tg, ln, I, J, O) Q ↔ ((0 ≤ i ∧ i < Int32.ofNat (ln a)) ∧ Runs 163 37 ls (.int (I a i) :: st) (n, tg, ln, I, J, O) Q) := R_iald rfl ht
theorem s163_37 (ht : tg a = 20) : Runs 163 37 ls (.int j :: .int i :: .ref a :: st) (n, tg, ln, I, J, O) Q ↔ ((0 ≤ i ∧ i < Int32.ofNat (ln a)) ∧ Runs 163 38 ls st (n, tg, ln, zu I a i j, J, O) Q) := R_iast rfl ht
theorem s163_38 : Runs 163 38 [x0, some (.int i)] st h Q ↔ Runs 163 41 [zdrop x0, some (.int (i + 1))] st h Q := R_iinc rfl rfl rfl rfl rfl
theorem s163_41 : Runs 163 41 ls st h Q ↔ Runs 163 11 ls st h Q := R_goto rfl rfl
theorem s163_44 : Runs 163 44 [some (.ref a), x1] st h Q ↔ Runs 163 45 [some (.ref a), x1] (.ref a :: st) h Q := R_aldn rfl rfl
theorem s163_44q : Runs 163 44 [some (zrf r), x1] st h Q ↔ Runs 163 45 [some (zrf r), x1] (zrf r :: st) h Q := R_aldnq rfl rfl
theorem s163_45 : Runs 163 45 ls (.int i :: st) h Q ↔ Runs 163 46 ls (.int i :: .int i :: st) h Q := R_dupi rfl
theorem s163_45q : Runs 163 45 ls (.ref a :: st) h Q ↔ Runs 163 46 ls (.ref a :: .ref a :: st) h Q := R_dupr rfl
theorem s163_46 (ht : tg a = 10) : Runs 163 46 ls (.ref a :: st) (n, tg, ln, I, J, O) Q ↔ Runs 163 49 ls (.int (I a 1) :: st) (n, tg, ln, I, J, O) Q := R_geti rfl rfl rfl rfl ht
theorem s163_49 : Runs 163 49 ls st h Q ↔ Runs 163 50 ls (.int 1 :: st) h Q := R_iconst rfl rfl
theorem s163_50 : Runs 163 50 ls (.int j :: .int i :: st) h Q ↔ Runs 163 51 ls (.int (i - j) :: st) h Q := R_isub rfl
theorem s163_51 (ht : tg a = 10) : Runs 163 51 ls (.int i :: .ref a :: st) (n, tg, ln, I, J, O) Q ↔ Runs 163 54 ls st (n, tg, ln, zu I a 1 i, J, O) Q := R_puti rfl rfl rfl rfl rfl rfl ht
theorem s163_54 : Runs 163 54 [some (.ref a), x1] st h Q ↔ Runs 163 55 [some (.ref a), x1] (.ref a :: st) h Q := R_aldn rfl rfl
theorem s163_54q : Runs 163 54 [some (zrf r), x1] st h Q ↔ Runs 163 55 [some (zrf r), x1] (zrf r :: st) h Q := R_aldnq rfl rfl
theorem s163_55 : Runs 163 55 ls st h Q ↔ Runs 163 56 ls (.int 0 :: st) h Q := R_iconst rfl rfl
theorem s163_56 : Runs 163 56 ls st h Q ↔ Runs 163 59 ls (.int 180 :: st) h Q := R_sipush rfl (by decide)
theorem s163_59 : Runs 163 59 ls st h Q ↔ Runs 163 61 ls (.int 90 :: st) h Q := R_bipush rfl (by decide)
theorem s163_61 : Runs 163 61 [some (.ref a), x1] st h Q ↔ Runs 163 62 [some (.ref a), x1] (.ref a :: st) h Q := R_aldn rfl rfl
theorem s163_61q : Runs 163 61 [some (zrf r), x1] st h Q ↔ Runs 163 62 [some (zrf r), x1] (zrf r :: st) h Q := R_aldnq rfl rfl
theorem s163_62 (ht : tg a = 10) : Runs 163 62 ls (.ref a :: st) (n, tg, ln, I, J, O) Q ↔ Runs 163 65 ls (.int (I a 1) :: st) (n, tg, ln, I, J, O) Q := R_geti rfl rfl rfl rfl ht
theorem s163_65 : Runs 163 65 ls (.int j :: .int i :: st) h Q ↔ Runs 163 66 ls (.int (i * j) :: st) h Q := R_imul rfl
theorem s163_66 : Runs 163 66 ls (.int j :: .int i :: st) h Q ↔ Runs 163 67 ls (.int (i + j) :: st) h Q := R_iadd rfl
theorem s163_67 (ht : tg a = 10) (hs : zsumc st ≤ 8) : Runs 163 67 ls (.int i1 :: .int i0 :: .ref a :: st) (n, tg, ln, I, J, O) Q ↔ Runs 148 0 [some (.ref a), some (.int i0), some (.int i1), none] [] (n, tg, ln, I, J, O) (fun v h2 => Runs 163 70 ls (v.toList ++ st) h2 Q) := R_callv (a := a) (rest := st) rfl rfl rfl rfl rfl rfl rfl ht hs
theorem s163_70 : Runs 163 70 [some (.ref a), x1] st h Q ↔ Runs 163 71 [some (.ref a), x1] (.ref a :: st) h Q := R_aldn rfl rfl
theorem s163_70q : Runs 163 70 [some (zrf r), x1] st h Q ↔ Runs 163 71 [some (zrf r), x1] (zrf r :: st) h Q := R_aldnq rfl rfl
theorem s163_71 : Runs 163 71 ls (.int i :: st) h Q ↔ Runs 163 72 ls (.int i :: .int i :: st) h Q := R_dupi rfl
theorem s163_71q : Runs 163 71 ls (.ref a :: st) h Q ↔ Runs 163 72 ls (.ref a :: .ref a :: st) h Q := R_dupr rfl
theorem s163_72 (ht : tg a = 10) : Runs 163 72 ls (.ref a :: st) (n, tg, ln, I, J, O) Q ↔ Runs 163 75 ls (.int (I a 1) :: st) (n, tg, ln, I, J, O) Q := R_geti rfl rfl rfl rfl ht
theorem s163_75 : Runs 163 75 ls st h Q ↔ Runs 163 76 ls (.int 1 :: st) h Q := R_iconst rfl rfl
theorem s163_76 : Runs 163 76 ls (.int j :: .int i :: st) h Q ↔ Runs 163 77 ls (.int (i + j) :: st) h Q := R_iadd rfl
theorem s163_77 (ht : tg a = 10) : Runs 163 77 ls (.int i :: .ref a :: st) (n, tg, ln, I, J, O) Q ↔ Runs 163 80 ls st (n, tg, ln, zu I a 1 i, J, O) Q := R_puti rfl rfl rfl rfl rfl rfl ht
theorem s163_80 : Runs 163 80 ls [] h Q ↔ Q none h := R_vret rfl rfl
theorem s166_0 : Runs 166 0 [some (.ref a), x1, x2, x3] st h Q ↔ Runs 166 1 [some (.ref a), x1, x2, x3] (.ref a :: st) h Q := R_aldn rfl rfl
theorem s166_0q : Runs 166 0 [some (zrf r), x1, x2, x3] st h Q ↔ Runs 166 1 [some (zrf r), x1, x2, x3] (zrf r :: st) h Q := R_aldnq rfl rfl
theorem s166_1 : Runs 166 1 [x0, some (.int i), x2, x3] st h Q ↔ Runs 166 2 [x0, some (.int i), x2, x3] (.int i :: st) h Q := R_ildn rfl rfl
theorem s166_2 : Runs 166 2 [x0, x1, some (.int i), x3] st h Q ↔ Runs 166 3 [x0, x1, some (.int i), x3] (.int i :: st) h Q := R_ildn rfl rfl
theorem s166_3 (ht : tg a = 10) (hs : zsumc st ≤ 8) : Runs 166 3 ls (.int i1 :: .int i0 :: .ref a :: st) (n, tg, ln, I, J, O) Q ↔ Runs 152 0 [some (.ref a), some (.int i0), some (.int i1), none, none] [] (n, tg, ln, I, J, O) (fun v h2 => Runs 166 6 ls (v.toList ++ st) h2 Q) := R_callv (a := a) (rest := st) rfl rfl rfl rfl rfl rfl rfl ht hs
theorem s166_6 : Runs 166 6 [x0, x1, x2, x3] (.int i :: st) h Q ↔ Runs 166 7 [x0, x1, zdrop x2, some (.int i)] st h Q := R_istn rfl rfl rfl
theorem s166_7 : Runs 166 7 [some (.ref a), x1, x2, x3] st h Q ↔ Runs 166 8 [some (.ref a), x1, x2, x3] (.ref a :: st) h Q := R_aldn rfl rfl
theorem s166_7q : Runs 166 7 [some (zrf r), x1, x2, x3] st h Q ↔ Runs 166 8 [some (zrf r), x1, x2, x3] (zrf r :: st) h Q := R_aldnq rfl rfl
theorem s166_8 (ht : tg a = 10) : Runs 166 8 ls (.ref a :: st) (n, tg, ln, I, J, O) Q ↔ Runs 166 11 ls (zrf (O a 0) :: st) (n, tg, ln, I, J, O) Q := R_getr rfl rfl rfl rfl ht
theorem s166_11 : Runs 166 11 [x0, some (.int i), x2, x3] st h Q ↔ Runs 166 12 [x0, some (.int i), x2, x3] (.int i :: st) h Q := R_ildn rfl rfl
theorem s166_12 : Runs 166 12 ls st h Q ↔ Runs 166 14 ls (.int 6 :: st) h Q := R_bipush rfl (by decide)
theorem s166_14 : Runs 166 14 ls (.int j :: .int i :: st) h Q ↔ Runs 166 15 ls (.int (i + j) :: st) h Q := R_iadd rfl
theorem s166_15 : Runs 166 15 ls st h Q ↔ Runs 166 17 ls (.int 12 :: st) h Q := R_bipush rfl (by decide)
theorem s166_17 : Runs 166 17 [x0, x1, x2, some (.int i)] st h Q ↔ Runs 166 18 [x0, x1, x2, some (.int i)] (.int i :: st) h Q := R_ildn rfl rfl
theorem s166_18 : Runs 166 18 ls st h Q ↔ Runs 166 20 ls (.int 100 :: st) h Q := R_bipush rfl (by decide)
theorem s166_20 : Runs 166 20 ls (.int j :: .int i :: st) h Q ↔ (¬ j = 0 ∧ Runs 166 21 ls (.int (i / j) :: st) h Q) := R_idiv rfl
theorem s166_21 : Runs 166 21 ls (.int j :: .int i :: st) h Q ↔ Runs 166 22 ls (.int (i * j) :: st) h Q := R_imul rfl
theorem s166_22 : Runs 166 22 ls (.int j :: .int i :: st) h Q ↔ Runs 166 23 ls (.int (i + j) :: st) h Q := R_iadd rfl
theorem s166_23 : Runs 166 23 [x0, x1, x2, some (.int i)] st h Q ↔ Runs 166 24 [x0, x1, x2, some (.int i)] (.int i :: st) h Q := R_ildn rfl rfl
theorem s166_24 : Runs 166 24 ls st h Q ↔ Runs 166 26 ls (.int 100 :: st) h Q := R_bipush rfl (by decide)
theorem s166_26 : Runs 166 26 ls (.int j :: .int i :: st) h Q ↔ (¬ j = 0 ∧ Runs 166 27 ls (.int (i - i / j * j) :: st) h Q) := R_irem rfl
theorem s166_27 : Runs 166 27 ls (.int j :: .int i :: st) h Q ↔ Runs 166 28 ls (.int (i + j) :: st) h Q := R_iadd rfl
theorem s166_28 : Runs 166 28 ls st h Q ↔ Runs 166 30 ls (.int 50 :: st) h Q := R_bipush rfl (by decide)
theorem s166_30 : Runs 166 30 [x0, x1, some (.int i), x3] st h Q ↔ Runs 166 31 [x0, x1, some (.int i), x3] (.int i :: st) h Q := R_ildn rfl rfl
theorem s166_31 : Runs 166 31 ls (.int j :: .int i :: st) h Q ↔ Runs 166 32 ls (.int (i + j) :: st) h Q := R_iadd rfl
theorem s166_32 (ht : tg a = 20) : Runs 166 32 ls (.int j :: .int i :: .ref a :: st) (n, tg, ln, I, J, O) Q ↔ ((0 ≤ i ∧ i < Int32.ofNat (ln a)) ∧ Runs 166 33 ls st (n, tg, ln, zu I a i j, J, O) Q) := R_iast rfl ht
theorem s166_33 : Runs 166 33 [some (.ref a), x1, x2, x3] st h Q ↔ Runs 166 34 [some (.ref a), x1, x2, x3] (.ref a :: st) h Q := R_aldn rfl rfl
theorem s166_33q : Runs 166 33 [some (zrf r), x1, x2, x3] st h Q ↔ Runs 166 34 [some (zrf r), x1, x2, x3] (zrf r :: st) h Q := R_aldnq rfl rfl
theorem s166_34 (ht : tg a = 10) : Runs 166 34 ls (.ref a :: st) (n, tg, ln, I, J, O) Q ↔ Runs 166 37 ls (zrf (O a 0) :: st) (n, tg, ln, I, J, O) Q := R_getr rfl rfl rfl rfl ht
theorem s166_37 : Runs 166 37 [x0, some (.int i), x2, x3] st h Q ↔ Runs 166 38 [x0, some (.int i), x2, x3] (.int i :: st) h Q := R_ildn rfl rfl
theorem s166_38 : Runs 166 38 ls st h Q ↔ Runs 166 40 ls (.int 54 :: st) h Q := R_bipush rfl (by decide)
theorem s166_40 : Runs 166 40 ls (.int j :: .int i :: st) h Q ↔ Runs 166 41 ls (.int (i + j) :: st) h Q := R_iadd rfl
theorem s166_41 : Runs 166 41 [x0, x1, some (.int i), x3] st h Q ↔ Runs 166 42 [x0, x1, some (.int i), x3] (.int i :: st) h Q := R_ildn rfl rfl
theorem s166_42 : Runs 166 42 ls (.int j :: .int i :: st) h Q ↔ Runs 166 43 ls (.int (i + j) :: st) h Q := R_iadd rfl
theorem s166_43 : Runs 166 43 ls st h Q ↔ Runs 166 44 ls (.int 2 :: st) h Q := R_iconst rfl rfl
theorem s166_44 (ht : tg a = 20) : Runs 166 44 ls (.int j :: .int i :: .ref a :: st) (n, tg, ln, I, J, O) Q ↔ ((0 ≤ i ∧ i < Int32.ofNat (ln a)) ∧ Runs 166 45 ls st (n, tg, ln, zu I a i j, J, O) Q) := R_iast rfl ht
theorem s166_45 : Runs 166 45 [some (.ref a), x1, x2, x3] st h Q ↔ Runs 166 46 [some (.ref a), x1, x2, x3] (.ref a :: st) h Q := R_aldn rfl rfl
theorem s166_45q : Runs 166 45 [some (zrf r), x1, x2, x3] st h Q ↔ Runs 166 46 [some (zrf r), x1, x2, x3] (zrf r :: st) h Q := R_aldnq rfl rfl
theorem s166_46 (ht : tg a = 10) : Runs 166 46 ls (.ref a :: st) (n, tg, ln, I, J, O) Q ↔ Runs 166 49 ls (zrf (O a 0) :: st) (n, tg, ln, I, J, O) Q := R_getr rfl rfl rfl rfl ht
theorem s166_49 : Runs 166 49 [x0, some (.int i), x2, x3] st h Q ↔ Runs 166 50 [x0, some (.int i), x2, x3] (.int i :: st) h Q := R_ildn rfl rfl
theorem s166_50 : Runs 166 50 ls st h Q ↔ Runs 166 52 ls (.int 78 :: st) h Q := R_bipush rfl (by decide)
theorem s166_52 : Runs 166 52 ls (.int j :: .int i :: st) h Q ↔ Runs 166 53 ls (.int (i + j) :: st) h Q := R_iadd rfl
theorem s166_53 : Runs 166 53 [x0, x1, some (.int i), x3] st h Q ↔ Runs 166 54 [x0, x1, some (.int i), x3] (.int i :: st) h Q := R_ildn rfl rfl
theorem s166_54 : Runs 166 54 ls (.int j :: .int i :: st) h Q ↔ Runs 166 55 ls (.int (i + j) :: st) h Q := R_iadd rfl
theorem s166_55 : Runs 166 55 [x0, x1, x2, some (.int i)] st h Q ↔ Runs 166 56 [x0, x1, x2, some (.int i)] (.int i :: st) h Q := R_ildn rfl rfl
theorem s166_56 : Runs 166 56 ls st h Q ↔ Runs 166 58 ls (.int 100 :: st) h Q := R_bipush rfl (by decide)
theorem s166_58 : Runs 166 58 ls (.int j :: .int i :: st) h Q ↔ (¬ j = 0 ∧ Runs 166 59 ls (.int (i / j) :: st) h Q) := R_idiv rfl
theorem s166_59 (ht : tg a = 20) : Runs 166 59 ls (.int j :: .int i :: .ref a :: st) (n, tg, ln, I, J, O) Q ↔ ((0 ≤ i ∧ i < Int32.ofNat (ln a)) ∧ Runs 166 60 ls st (n, tg, ln, zu I a i j, J, O) Q) := R_iast rfl ht
theorem s166_60 : Runs 166 60 ls [] h Q ↔ Q none h := R_vret rfl rfl
theorem s174_0 : Runs 174 0 [some (.ref a)] st h Q ↔ Runs 174 1 [some (.ref a)] (.ref a :: st) h Q := R_aldn rfl rfl
theorem s174_0q : Runs 174 0 [some (zrf r)] st h Q ↔ Runs 174 1 [some (zrf r)] (zrf r :: st) h Q := R_aldnq rfl rfl
theorem s174_1 : Runs 174 1 ls st h Q ↔ Runs 174 2 ls (.int 0 :: st) h Q := R_iconst rfl rfl
theorem s174_2 : Runs 174 2 ls st h Q ↔ Runs 174 5 ls (.int 1080 :: st) h Q := R_sipush rfl (by decide)
theorem s174_5 (ht : tg a = 10) (hs : zsumc st ≤ 8) : Runs 174 5 ls (.int i1 :: .int i0 :: .ref a :: st) (n, tg, ln, I, J, O) Q ↔ Runs 148 0 [some (.ref a), some (.int i0), some (.int i1), none] [] (n, tg, ln, I, J, O) (fun v h2 => Runs 174 8 ls (v.toList ++ st) h2 Q) := R_callv (a := a) (rest := st) rfl rfl rfl rfl rfl rfl rfl ht hs
theorem s174_8 : Runs 174 8 ls [] h Q ↔ Q none h := R_vret rfl rfl
theorem s175_0 : Runs 175 0 ls st h Q ↔ Runs 175 1 ls (.int 1 :: st) h Q := R_iconst rfl rfl
theorem s175_1 : Runs 175 1 [x0, x1, x2, x3] (.int i :: st) h Q ↔ Runs 175 2 [x0, x1, zdrop x2, some (.int i)] st h Q := R_istn rfl rfl rfl
theorem s175_2 : Runs 175 2 [x0, x1, x2, some (.int i)] st h Q ↔ Runs 175 3 [x0, x1, x2, some (.int i)] (.int i :: st) h Q := R_ildn rfl rfl
theorem s175_3 : Runs 175 3 [x0, x1, some (.int i), x3] st h Q ↔ Runs 175 4 [x0, x1, some (.int i), x3] (.int i :: st) h Q := R_ildn rfl rfl
theorem s175_4 : Runs 175 4 ls (.int j :: .int i :: st) h Q ↔ if j < i then Runs 175 26 ls st h Q else Runs 175 7 ls st h Q := R_icgt rfl rfl
theorem s175_7 : Runs 175 7 [some (.ref a), x1, x2, x3] st h Q ↔ Runs 175 8 [some (.ref a), x1, x2, x3] (.ref a :: st) h Q := R_aldn rfl rfl
theorem s175_7q : Runs 175 7 [some (zrf r), x1, x2, x3] st h Q ↔ Runs 175 8 [some (zrf r), x1, x2, x3] (zrf r :: st) h Q := R_aldnq rfl rfl
theorem s175_8 : Runs 175 8 ls st h Q ↔ Runs 175 11 ls (.int 1080 :: st) h Q := R_sipush rfl (by decide)
theorem s175_11 (ht : tg a = 10) (hs : zsumc st ≤ 8) : Runs 175 11 ls (.int i0 :: .ref a :: st) (n, tg, ln, I, J, O) Q ↔ Runs 162 0 [some (.ref a), some (.int i0), none, none] [] (n, tg, ln, I, J, O) (fun v h2 => Runs 175 14 ls (v.toList ++ st) h2 Q) := R_callv (a := a) (rest := st) rfl rfl rfl rfl rfl rfl rfl ht hs
theorem s175_14 : Runs 175 14 [x0, some (.int i), x2, x3] st h Q ↔ Runs 175 15 [x0, some (.int i), x2, x3] (.int i :: st) h Q := R_ildn rfl rfl
theorem s175_15 : Runs 175 15 ls (.int j :: .int i :: st) h Q ↔ if ¬ i = j then Runs 175 20 ls st h Q else Runs 175 18 ls st h Q := R_icne rfl rfl
theorem s175_18 : Runs 175 18 [x0, x1, x2, some (.int i)] st h Q ↔ Runs 175 19 [x0, x1, x2, some (.int i)] (.int i :: st) h Q := R_ildn rfl rfl
theorem s175_19 : Runs 175 19 ls [.int i] h Q ↔ Q (some (.int i)) h := R_iret rfl rfl
theorem s175_20 : Runs 175 20 [x0, x1, x2, some (.int i)] st h Q ↔ Runs 175 23 [x0, x1, zdrop x2, some (.int (i + 1))] st h Q := R_iinc rfl rfl rfl rfl rfl
theorem s175_23 : Runs 175 23 ls st h Q ↔ Runs 175 2 ls st h Q := R_goto rfl rfl
theorem s175_26 : Runs 175 26 ls st h Q ↔ Runs 175 27 ls (.int (-1) :: st) h Q := R_iconst rfl rfl
theorem s175_27 : Runs 175 27 ls [.int i] h Q ↔ Q (some (.int i)) h := R_iret rfl rfl
theorem s179_0 : Runs 179 0 [some (.ref a), x1, x2, x3] st h Q ↔ Runs 179 1 [some (.ref a), x1, x2, x3] (.ref a :: st) h Q := R_aldn rfl rfl
theorem s179_0q : Runs 179 0 [some (zrf r), x1, x2, x3] st h Q ↔ Runs 179 1 [some (zrf r), x1, x2, x3] (zrf r :: st) h Q := R_aldnq rfl rfl
theorem s179_1 (ht : tg a = 10) : Runs 179 1 ls (.ref a :: st) (n, tg, ln, I, J, O) Q ↔ Runs 179 4 ls (zrf (O a 0) :: st) (n, tg, ln, I, J, O) Q := R_getr rfl rfl rfl rfl ht
theorem s179_4 : Runs 179 4 ls st h Q ↔ Runs 179 5 ls (.int 4 :: st) h Q := R_iconst rfl rfl
theorem s179_5 : Runs 179 5 [x0, some (.int i), x2, x3] st h Q ↔ Runs 179 6 [x0, some (.int i), x2, x3] (.int i :: st) h Q := R_ildn rfl rfl
theorem s179_6 : Runs 179 6 ls (.int j :: .int i :: st) h Q ↔ Runs 179 7 ls (.int (i + j) :: st) h Q := R_iadd rfl
theorem s179_7 (ht : tg a = 20) : Runs 179 7 ls (.int i :: .ref a :: st) (n, tg, ln, I, J, O) Q ↔ ((0 ≤ i ∧ i < Int32.ofNat (ln a)) ∧ Runs 179 8 ls (.int (I a i) :: st) (n, tg, ln, I, J, O) Q) := R_iald rfl ht
theorem s179_8 : Runs 179 8 ls st h Q ↔ Runs 179 10 ls (.int 12 :: st) h Q := R_bipush rfl (by decide)
theorem s179_10 : Runs 179 10 ls (.int j :: .int i :: st) h Q ↔ if ¬ i = j then Runs 179 15 ls st h Q else Runs 179 13 ls st h Q := R_icne rfl rfl
theorem s179_13 : Runs 179 13 ls st h Q ↔ Runs 179 14 ls (.int (-1) :: st) h Q := R_iconst rfl rfl
theorem s179_14 : Runs 179 14 ls [.int i] h Q ↔ Q (some (.int i)) h := R_iret rfl rfl
theorem s179_15 : Runs 179 15 [some (.ref a), x1, x2, x3] st h Q ↔ Runs 179 16 [some (.ref a), x1, x2, x3] (.ref a :: st) h Q := R_aldn rfl rfl
theorem s179_15q : Runs 179 15 [some (zrf r), x1, x2, x3] st h Q ↔ Runs 179 16 [some (zrf r), x1, x2, x3] (zrf r :: st) h Q := R_aldnq rfl rfl
theorem s179_16 (ht : tg a = 10) (hs : zsumc st ≤ 8) : Runs 179 16 ls (.ref a :: st) (n, tg, ln, I, J, O) Q ↔ Runs 174 0 [some (.ref a)] [] (n, tg, ln, I, J, O) (fun v h2 => Runs 179 19 ls (v.toList ++ st) h2 Q) := R_callv (a := a) (rest := st) rfl rfl rfl rfl rfl rfl rfl ht hs
theorem s179_19 : Runs 179 19 [some (.ref a), x1, x2, x3] st h Q ↔ Runs 179 20 [some (.ref a), x1, x2, x3] (.ref a :: st) h Q := R_aldn rfl rfl
theorem s179_19q : Runs 179 19 [some (zrf r), x1, x2, x3] st h Q ↔ Runs 179 20 [some (zrf r), x1, x2, x3] (zrf r :: st) h Q := R_aldnq rfl rfl
theorem s179_20 : Runs 179 20 ls st h Q ↔ Runs 179 23 ls (.int 1080 :: st) h Q := R_sipush rfl (by decide)
theorem s179_23 : Runs 179 23 [x0, some (.int i), x2, x3] st h Q ↔ Runs 179 24 [x0, some (.int i), x2, x3] (.int i :: st) h Q := R_ildn rfl rfl
theorem s179_24 : Runs 179 24 [x0, x1, some (.int i), x3] st h Q ↔ Runs 179 25 [x0, x1, some (.int i), x3] (.int i :: st) h Q := R_ildn rfl rfl
theorem s179_25 : Runs 179 25 [x0, x1, x2, some (.int i)] st h Q ↔ Runs 179 26 [x0, x1, x2, some (.int i)] (.int i :: st) h Q := R_ildn rfl rfl
theorem s179_26 (ht : tg a = 10) (hs : zsumc st ≤ 8) : Runs 179 26 ls (.int i3 :: .int i2 :: .int i1 :: .int i0 :: .ref a :: st) (n, tg, ln, I, J, O) Q ↔ Runs 140 0 [some (.ref a), some (.int i0), some (.int i1), some (.int i2), some (.int i3), none] [] (n, tg, ln, I, J, O) (fun v h2 => Runs 179 29 ls (v.toList ++ st) h2 Q) := R_callv (a := a) (rest := st) rfl rfl rfl rfl rfl rfl rfl ht hs
theorem s179_29 : Runs 179 29 [some (.ref a), x1, x2, x3] st h Q ↔ Runs 179 30 [some (.ref a), x1, x2, x3] (.ref a :: st) h Q := R_aldn rfl rfl
theorem s179_29q : Runs 179 29 [some (zrf r), x1, x2, x3] st h Q ↔ Runs 179 30 [some (zrf r), x1, x2, x3] (zrf r :: st) h Q := R_aldnq rfl rfl
theorem s179_30 : Runs 179 30 [some (.ref a), x1, x2, x3] st h Q ↔ Runs 179 31 [some (.ref a), x1, x2, x3] (.ref a :: st) h Q := R_aldn rfl rfl
theorem s179_30q : Runs 179 30 [some (zrf r), x1, x2, x3] st h Q ↔ Runs 179 31 [some (zrf r), x1, x2, x3] (zrf r :: st) h Q := R_aldnq rfl rfl
theorem s179_31 (ht : tg a = 10) : Runs 179 31 ls (.ref a :: st) (n, tg, ln, I, J, O) Q ↔ Runs 179 34 ls (zrf (O a 0) :: st) (n, tg, ln, I, J, O) Q := R_getr rfl rfl rfl rfl ht
theorem s179_34 : Runs 179 34 ls st h Q ↔ Runs 179 35 ls (.int 0 :: st) h Q := R_iconst rfl rfl
theorem s179_35 (ht : tg a = 20) : Runs 179 35 ls (.int i :: .ref a :: st) (n, tg, ln, I, J, O) Q ↔ ((0 ≤ i ∧ i < Int32.ofNat (ln a)) ∧ Runs 179 36 ls (.int (I a i) :: st) (n, tg, ln, I, J, O) Q) := R_iald rfl ht
theorem s179_36 : Runs 179 36 ls st h Q ↔ Runs 179 38 ls (.int 60 :: st) h Q := R_bipush rfl (by decide)
theorem s179_38 (ht : tg a = 10) (hs : zsumc st ≤ 8) : Runs 179 38 ls (.int i1 :: .int i0 :: .ref a :: st) (n, tg, ln, I, J, O) Q ↔ Runs 175 0 [some (.ref a), some (.int i0), some (.int i1), none] [] (n, tg, ln, I, J, O) (fun v h2 => Runs 179 41 ls (v.toList ++ st) h2 Q) := R_callv (a := a) (rest := st) rfl rfl rfl rfl rfl rfl rfl ht hs
theorem s179_41 : Runs 179 41 ls [.int i] h Q ↔ Q (some (.int i)) h := R_iret rfl rfl
theorem s181_0 : Runs 181 0 [some (.ref a), x1, x2, x3, x4] st h Q ↔ Runs 181 1 [some (.ref a), x1, x2, x3, x4] (.ref a :: st) h Q := R_aldn rfl rfl
theorem s181_0q : Runs 181 0 [some (zrf r), x1, x2, x3, x4] st h Q ↔ Runs 181 1 [some (zrf r), x1, x2, x3, x4] (zrf r :: st) h Q := R_aldnq rfl rfl
theorem s181_1 (ht : tg a = 10) (hs : zsumc st ≤ 8) : Runs 181 1 ls (.ref a :: st) (n, tg, ln, I, J, O) Q ↔ Runs 174 0 [some (.ref a)] [] (n, tg, ln, I, J, O) (fun v h2 => Runs 181 4 ls (v.toList ++ st) h2 Q) := R_callv (a := a) (rest := st) rfl rfl rfl rfl rfl rfl rfl ht hs
theorem s181_4 : Runs 181 4 ls st h Q ↔ Runs 181 5 ls (.int 0 :: st) h Q := R_iconst rfl rfl
theorem s181_5 : Runs 181 5 [x0, x1, x2, x3, x4] (.int i :: st) h Q ↔ Runs 181 7 [x0, x1, x2, zdrop x3, some (.int i)] st h Q := R_ist rfl rfl rfl
theorem s181_7 : Runs 181 7 [x0, x1, x2, x3, some (.int i)] st h Q ↔ Runs 181 9 [x0, x1, x2, x3, some (.int i)] (.int i :: st) h Q := R_ild rfl rfl
theorem s181_9 : Runs 181 9 [some (.ref a), x1, x2, x3, x4] st h Q ↔ Runs 181 10 [some (.ref a), x1, x2, x3, x4] (.ref a :: st) h Q := R_aldn rfl rfl
theorem s181_9q : Runs 181 9 [some (zrf r), x1, x2, x3, x4] st h Q ↔ Runs 181 10 [some (zrf r), x1, x2, x3, x4] (zrf r :: st) h Q := R_aldnq rfl rfl
theorem s181_10 (ht : tg a = 10) : Runs 181 10 ls (.ref a :: st) (n, tg, ln, I, J, O) Q ↔ Runs 181 13 ls (zrf (O a 0) :: st) (n, tg, ln, I, J, O) Q := R_getr rfl rfl rfl rfl ht
theorem s181_13 : Runs 181 13 ls st h Q ↔ Runs 181 14 ls (.int 0 :: st) h Q := R_iconst rfl rfl
theorem s181_14 (ht : tg a = 20) : Runs 181 14 ls (.int i :: .ref a :: st) (n, tg, ln, I, J, O) Q ↔ ((0 ≤ i ∧ i < Int32.ofNat (ln a)) ∧ Runs 181 15 ls (.int (I a i) :: st) (n, tg, ln, I, J, O) Q) := R_iald rfl ht
theorem s181_15 : Runs 181 15 ls (.int j :: .int i :: st) h Q ↔ if j ≤ i then Runs 181 42 ls st h Q else Runs 181 18 ls st h Q := R_icge rfl rfl
theorem s181_18 : Runs 181 18 [x0, x1, x2, some (.int i), x4] st h Q ↔ Runs 181 19 [x0, x1, x2, some (.int i), x4] (.int i :: st) h Q := R_ildn rfl rfl
theorem s181_19 : Runs 181 19 [x0, x1, x2, x3, some (.int i)] st h Q ↔ Runs 181 21 [x0, x1, x2, x3, some (.int i)] (.int i :: st) h Q := R_ild rfl rfl
theorem s181_21 (hs : zsumc st ≤ 8) : Runs 181 21 ls (.int i1 :: .int i0 :: st) h Q ↔ Runs 127 0 [some (.int i0), some (.int i1)] [] h (fun v h2 => Runs 181 24 ls (v.toList ++ st) h2 Q) := R_calls (rest := st) rfl rfl rfl (by simp) rfl rfl rfl rfl hs
theorem s181_24 : Runs 181 24 ls (.int i :: st) h Q ↔ if i = 0 then Runs 181 36 ls st h Q else Runs 181 27 ls st h Q := R_ifeq rfl rfl
theorem s181_27 : Runs 181 27 [some (.ref a), x1, x2, x3, x4] st h Q ↔ Runs 181 28 [some (.ref a), x1, x2, x3, x4] (.ref a :: st) h Q := R_aldn rfl rfl
theorem s181_27q : Runs 181 27 [some (zrf r), x1, x2, x3, x4] st h Q ↔ Runs 181 28 [some (zrf r), x1, x2, x3, x4] (zrf r :: st) h Q := R_aldnq rfl rfl
theorem s181_28 : Runs 181 28 ls st h Q ↔ Runs 181 31 ls (.int 1080 :: st) h Q := R_sipush rfl (by decide)
theorem s181_31 : Runs 181 31 [x0, x1, x2, x3, some (.int i)] st h Q ↔ Runs 181 33 [x0, x1, x2, x3, some (.int i)] (.int i :: st) h Q := R_ild rfl rfl
theorem s181_33 (ht : tg a = 10) (hs : zsumc st ≤ 8) : Runs 181 33 ls (.int i1 :: .int i0 :: .ref a :: st) (n, tg, ln, I, J, O) Q ↔ Runs 166 0 [some (.ref a), some (.int i0), some (.int i1), none] [] (n, tg, ln, I, J, O) (fun v h2 => Runs 181 36 ls (v.toList ++ st) h2 Q) := R_callv (a := a) (rest := st) rfl rfl rfl rfl rfl rfl rfl ht hs
theorem s181_36 : Runs 181 36 [x0, x1, x2, x3, some (.int i)] st h Q ↔ Runs 181 39 [x0, x1, x2, zdrop x3, some (.int (i + 1))] st h Q := R_iinc rfl rfl rfl rfl rfl
theorem s181_39 : Runs 181 39 ls st h Q ↔ Runs 181 7 ls st h Q := R_goto rfl rfl
theorem s181_42 : Runs 181 42 [some (.ref a), x1, x2, x3, x4] st h Q ↔ Runs 181 43 [some (.ref a), x1, x2, x3, x4] (.ref a :: st) h Q := R_aldn rfl rfl
theorem s181_42q : Runs 181 42 [some (zrf r), x1, x2, x3, x4] st h Q ↔ Runs 181 43 [some (zrf r), x1, x2, x3, x4] (zrf r :: st) h Q := R_aldnq rfl rfl
theorem s181_43 : Runs 181 43 [x0, some (.int i), x2, x3, x4] st h Q ↔ Runs 181 44 [x0, some (.int i), x2, x3, x4] (.int i :: st) h Q := R_ildn rfl rfl
theorem s181_44 : Runs 181 44 [x0, x1, some (.int i), x3, x4] st h Q ↔ Runs 181 45 [x0, x1, some (.int i), x3, x4] (.int i :: st) h Q := R_ildn rfl rfl
theorem s181_45 (ht : tg a = 10) (hs : zsumc st ≤ 8) : Runs 181 45 ls (.int i1 :: .int i0 :: .ref a :: st) (n, tg, ln, I, J, O) Q ↔ Runs 175 0 [some (.ref a), some (.int i0), some (.int i1), none] [] (n, tg, ln, I, J, O) (fun v h2 => Runs 181 48 ls (v.toList ++ st) h2 Q) := R_callv (a := a) (rest := st) rfl rfl rfl rfl rfl rfl rfl ht hs
theorem s181_48 : Runs 181 48 ls st h Q ↔ Runs 181 49 ls (.int (-1) :: st) h Q := R_iconst rfl rfl
theorem s181_49 : Runs 181 49 ls (.int j :: .int i :: st) h Q ↔ if i = j then Runs 181 56 ls st h Q else Runs 181 52 ls st h Q := R_iceq rfl rfl
theorem s181_52 : Runs 181 52 ls st h Q ↔ Runs 181 53 ls (.int 1 :: st) h Q := R_iconst rfl rfl
theorem s181_53 : Runs 181 53 ls st h Q ↔ Runs 181 57 ls st h Q := R_goto rfl rfl
theorem s181_56 : Runs 181 56 ls st h Q ↔ Runs 181 57 ls (.int 0 :: st) h Q := R_iconst rfl rfl
theorem s181_57 (hx : i = 0 ∨ i = 1) : Runs 181 57 ls [.int i] h Q ↔ Q (some (.int i)) h := R_zret rfl rfl hx
theorem s186_0 : Runs 186 0 ls st h Q ↔ Runs 186 1 ls (.int 1 :: st) h Q := R_iconst rfl rfl
theorem s186_1 : Runs 186 1 [x0, x1, x2, x3, x4] (.int i :: st) h Q ↔ Runs 186 2 [zdrop x0, some (.int i), x2, x3, x4] st h Q := R_istn rfl rfl rfl
theorem s186_2 : Runs 186 2 ls st h Q ↔ Runs 186 3 ls (.int 0 :: st) h Q := R_iconst rfl rfl
theorem s186_3 : Runs 186 3 [x0, x1, x2, x3, x4] (.int i :: st) h Q ↔ Runs 186 4 [x0, zdrop x1, some (.int i), x3, x4] st h Q := R_istn rfl rfl rfl
theorem s186_4 : Runs 186 4 ls st h Q ↔ Runs 186 5 ls (.int 1 :: st) h Q := R_iconst rfl rfl
theorem s186_5 : Runs 186 5 [x0, x1, x2, x3, x4] (.int i :: st) h Q ↔ Runs 186 6 [x0, x1, zdrop x2, some (.int i), x4] st h Q := R_istn rfl rfl rfl
theorem s186_6 : Runs 186 6 [x0, x1, x2, some (.int i), x4] st h Q ↔ Runs 186 7 [x0, x1, x2, some (.int i), x4] (.int i :: st) h Q := R_ildn rfl rfl
theorem s186_7 : Runs 186 7 ls st h Q ↔ Runs 186 9 ls (.int 21 :: st) h Q := R_bipush rfl (by decide)
theorem s186_9 : Runs 186 9 ls (.int j :: .int i :: st) h Q ↔ if j ≤ i then Runs 186 88 ls st h Q else Runs 186 12 ls st h Q := R_icge rfl rfl
theorem s186_12 : Runs 186 12 [x0, x1, some (.int i), x3, x4] st h Q ↔ Runs 186 13 [x0, x1, some (.int i), x3, x4] (.int i :: st) h Q := R_ildn rfl rfl
theorem s186_13 : Runs 186 13 [some (.ref a), x1, x2, x3, x4] st h Q ↔ Runs 186 14 [some (.ref a), x1, x2, x3, x4] (.ref a :: st) h Q := R_aldn rfl rfl
theorem s186_13q : Runs 186 13 [some (zrf r), x1, x2, x3, x4] st h Q ↔ Runs 186 14 [some (zrf r), x1, x2, x3, x4] (zrf r :: st) h Q := R_aldnq rfl rfl
theorem s186_14 : Runs 186 14 ls st h Q ↔ Runs 186 17 ls (.int 1080 :: st) h Q := R_sipush rfl (by decide)
theorem s186_17 (ht : tg a = 10) (hs : zsumc st ≤ 8) : Runs 186 17 ls (.int i0 :: .ref a :: st) (n, tg, ln, I, J, O) Q ↔ Runs 162 0 [some (.ref a), some (.int i0), none, none] [] (n, tg, ln, I, J, O) (fun v h2 => Runs 186 20 ls (v.toList ++ st) h2 Q) := R_callv (a := a) (rest := st) rfl rfl rfl rfl rfl rfl rfl ht hs
theorem s186_20 : Runs 186 20 ls st h Q ↔ Runs 186 22 ls (.int 99 :: st) h Q := R_bipush rfl (by decide)
theorem s186_22 : Runs 186 22 ls (.int j :: .int i :: st) h Q ↔ if ¬ i = j then Runs 186 29 ls st h Q else Runs 186 25 ls st h Q := R_icne rfl rfl
theorem s186_25 : Runs 186 25 ls st h Q ↔ Runs 186 26 ls (.int 0 :: st) h Q := R_iconst rfl rfl
theorem s186_26 : Runs 186 26 ls st h Q ↔ Runs 186 30 ls st h Q := R_goto rfl rfl
theorem s186_29 : Runs 186 29 ls st h Q ↔ Runs 186 30 ls (.int 1 :: st) h Q := R_iconst rfl rfl
theorem s186_30 : Runs 186 30 ls (.int j :: .int i :: st) h Q ↔ Runs 186 31 ls (.int (i + j) :: st) h Q := R_iadd rfl
theorem s186_31 : Runs 186 31 [x0, x1, x2, x3, x4] (.int i :: st) h Q ↔ Runs 186 32 [x0, zdrop x1, some (.int i), x3, x4] st h Q := R_istn rfl rfl rfl
theorem s186_32 : Runs 186 32 ls st h Q ↔ Runs 186 33 ls (.int 0 :: st) h Q := R_iconst rfl rfl
theorem s186_33 : Runs 186 33 [x0, x1, x2, x3, x4] (.int i :: st) h Q ↔ Runs 186 35 [x0, x1, x2, zdrop x3, some (.int i)] st h Q := R_ist rfl rfl rfl
theorem s186_35 : Runs 186 35 [x0, x1, x2, x3, some (.int i)] st h Q ↔ Runs 186 37 [x0, x1, x2, x3, some (.int i)] (.int i :: st) h Q := R_ild rfl rfl
theorem s186_37 : Runs 186 37 [some (.ref a), x1, x2, x3, x4] st h Q ↔ Runs 186 38 [some (.ref a), x1, x2, x3, x4] (.ref a :: st) h Q := R_aldn rfl rfl
theorem s186_37q : Runs 186 37 [some (zrf r), x1, x2, x3, x4] st h Q ↔ Runs 186 38 [some (zrf r), x1, x2, x3, x4] (zrf r :: st) h Q := R_aldnq rfl rfl
theorem s186_38 (ht : tg a = 10) : Runs 186 38 ls (.ref a :: st) (n, tg, ln, I, J, O) Q ↔ Runs 186 41 ls (.int (I a 5) :: st) (n, tg, ln, I, J, O) Q := R_geti rfl rfl rfl rfl ht
theorem s186_41 : Runs 186 41 ls (.int j :: .int i :: st) h Q ↔ if j ≤ i then Runs 186 82 ls st h Q else Runs 186 44 ls st h Q := R_icge rfl rfl
theorem s186_44 : Runs 186 44 [x0, some (.int i), x2, x3, x4] st h Q ↔ Runs 186 45 [x0, some (.int i), x2, x3, x4] (.int i :: st) h Q := R_ildn rfl rfl
theorem s186_45 : Runs 186 45 ls (.int i :: st) h Q ↔ if i = 0 then Runs 186 74 ls st h Q else Runs 186 48 ls st h Q := R_ifeq rfl rfl
theorem s186_48 : Runs 186 48 [some (.ref a), x1, x2, x3, x4] st h Q ↔ Runs 186 49 [some (.ref a), x1, x2, x3, x4] (.ref a :: st) h Q := R_aldn rfl rfl
theorem s186_48q : Runs 186 48 [some (zrf r), x1, x2, x3, x4] st h Q ↔ Runs 186 49 [some (zrf r), x1, x2, x3, x4] (zrf r :: st) h Q := R_aldnq rfl rfl
theorem s186_49 (ht : tg a = 10) : Runs 186 49 ls (.ref a :: st) (n, tg, ln, I, J, O) Q ↔ Runs 186 52 ls (zrf (O a 6) :: st) (n, tg, ln, I, J, O) Q := R_getr rfl rfl rfl rfl ht
theorem s186_52 : Runs 186 52 [x0, x1, x2, x3, some (.int i)] st h Q ↔ Runs 186 54 [x0, x1, x2, x3, some (.int i)] (.int i :: st) h Q := R_ild rfl rfl
theorem s186_54 (ht : tg a = 20) : Runs 186 54 ls (.int i :: .ref a :: st) (n, tg, ln, I, J, O) Q ↔ ((0 ≤ i ∧ i < Int32.ofNat (ln a)) ∧ Runs 186 55 ls (.int (I a i) :: st) (n, tg, ln, I, J, O) Q) := R_iald rfl ht
theorem s186_55 : Runs 186 55 [x0, x1, x2, some (.int i), x4] st h Q ↔ Runs 186 56 [x0, x1, x2, some (.int i), x4] (.int i :: st) h Q := R_ildn rfl rfl
theorem s186_56 : Runs 186 56 ls (.int j :: .int i :: st) h Q ↔ if ¬ i = j then Runs 186 70 ls st h Q else Runs 186 59 ls st h Q := R_icne rfl rfl
theorem s186_59 : Runs 186 59 [some (.ref a), x1, x2, x3, x4] st h Q ↔ Runs 186 60 [some (.ref a), x1, x2, x3, x4] (.ref a :: st) h Q := R_aldn rfl rfl
theorem s186_59q : Runs 186 59 [some (zrf r), x1, x2, x3, x4] st h Q ↔ Runs 186 60 [some (zrf r), x1, x2, x3, x4] (zrf r :: st) h Q := R_aldnq rfl rfl
theorem s186_60 (ht : tg a = 10) : Runs 186 60 ls (.ref a :: st) (n, tg, ln, I, J, O) Q ↔ Runs 186 63 ls (zrf (O a 7) :: st) (n, tg, ln, I, J, O) Q := R_getr rfl rfl rfl rfl ht
theorem s186_63 : Runs 186 63 [x0, x1, x2, x3, some (.int i)] st h Q ↔ Runs 186 65 [x0, x1, x2, x3, some (.int i)] (.int i :: st) h Q := R_ild rfl rfl
theorem s186_65 (ht : tg a = 20) : Runs 186 65 ls (.int i :: .ref a :: st) (n, tg, ln, I, J, O) Q ↔ ((0 ≤ i ∧ i < Int32.ofNat (ln a)) ∧ Runs 186 66 ls (.int (I a i) :: st) (n, tg, ln, I, J, O) Q) := R_iald rfl ht
theorem s186_66 : Runs 186 66 [x0, x1, some (.int i), x3, x4] st h Q ↔ Runs 186 67 [x0, x1, some (.int i), x3, x4] (.int i :: st) h Q := R_ildn rfl rfl
theorem s186_67 : Runs 186 67 ls (.int j :: .int i :: st) h Q ↔ if ¬ i = j then Runs 186 74 ls st h Q else Runs 186 70 ls st h Q := R_icne rfl rfl
theorem s186_70 : Runs 186 70 ls st h Q ↔ Runs 186 71 ls (.int 1 :: st) h Q := R_iconst rfl rfl
theorem s186_71 : Runs 186 71 ls st h Q ↔ Runs 186 75 ls st h Q := R_goto rfl rfl
theorem s186_74 : Runs 186 74 ls st h Q ↔ Runs 186 75 ls (.int 0 :: st) h Q := R_iconst rfl rfl
theorem s186_75 : Runs 186 75 [x0, x1, x2, x3, x4] (.int i :: st) h Q ↔ Runs 186 76 [zdrop x0, some (.int i), x2, x3, x4] st h Q := R_istn rfl rfl rfl
theorem s186_76 : Runs 186 76 [x0, x1, x2, x3, some (.int i)] st h Q ↔ Runs 186 79 [x0, x1, x2, zdrop x3, some (.int (i + 1))] st h Q := R_iinc rfl rfl rfl rfl rfl
theorem s186_79 : Runs 186 79 ls st h Q ↔ Runs 186 35 ls st h Q := R_goto rfl rfl
theorem s186_82 : Runs 186 82 [x0, x1, x2, some (.int i), x4] st h Q ↔ Runs 186 85 [x0, x1, zdrop x2, some (.int (i + 1)), x4] st h Q := R_iinc rfl rfl rfl rfl rfl
theorem s186_85 : Runs 186 85 ls st h Q ↔ Runs 186 6 ls st h Q := R_goto rfl rfl
theorem s186_88 : Runs 186 88 [x0, some (.int i), x2, x3, x4] st h Q ↔ Runs 186 89 [x0, some (.int i), x2, x3, x4] (.int i :: st) h Q := R_ildn rfl rfl
theorem s186_89 (hx : i = 0 ∨ i = 1) : Runs 186 89 ls [.int i] h Q ↔ Q (some (.int i)) h := R_zret rfl rfl hx
theorem s201_0 : Runs 201 0 ls st h Q ↔ Runs 201 1 ls (.int 0 :: st) h Q := R_iconst rfl rfl
theorem s201_1 : Runs 201 1 [x0, x1, x2, x3] (.int i :: st) h Q ↔ Runs 201 2 [x0, zdrop x1, some (.int i), x3] st h Q := R_istn rfl rfl rfl
theorem s201_2 : Runs 201 2 ls st h Q ↔ Runs 201 3 ls (.int 0 :: st) h Q := R_iconst rfl rfl
theorem s201_3 : Runs 201 3 [x0, x1, x2, x3] (.int i :: st) h Q ↔ Runs 201 4 [x0, x1, zdrop x2, some (.int i)] st h Q := R_istn rfl rfl rfl
theorem s201_4 : Runs 201 4 [x0, x1, x2, some (.int i)] st h Q ↔ Runs 201 5 [x0, x1, x2, some (.int i)] (.int i :: st) h Q := R_ildn rfl rfl
theorem s201_5 : Runs 201 5 [some (.ref a), x1, x2, x3] st h Q ↔ Runs 201 6 [some (.ref a), x1, x2, x3] (.ref a :: st) h Q := R_aldn rfl rfl
theorem s201_5q : Runs 201 5 [some (zrf r), x1, x2, x3] st h Q ↔ Runs 201 6 [some (zrf r), x1, x2, x3] (zrf r :: st) h Q := R_aldnq rfl rfl
theorem s201_6 (ht : tg a = 10) : Runs 201 6 ls (.ref a :: st) (n, tg, ln, I, J, O) Q ↔ Runs 201 9 ls (zrf (O a 0) :: st) (n, tg, ln, I, J, O) Q := R_getr rfl rfl rfl rfl ht
theorem s201_9 : Runs 201 9 ls st h Q ↔ Runs 201 10 ls (.int 0 :: st) h Q := R_iconst rfl rfl
theorem s201_10 (ht : tg a = 20) : Runs 201 10 ls (.int i :: .ref a :: st) (n, tg, ln, I, J, O) Q ↔ ((0 ≤ i ∧ i < Int32.ofNat (ln a)) ∧ Runs 201 11 ls (.int (I a i) :: st) (n, tg, ln, I, J, O) Q) := R_iald rfl ht
theorem s201_11 : Runs 201 11 ls (.int j :: .int i :: st) h Q ↔ if j ≤ i then Runs 201 43 ls st h Q else Runs 201 14 ls st h Q := R_icge rfl rfl
theorem s201_14 : Runs 201 14 [x0, x1, some (.int i), x3] st h Q ↔ Runs 201 15 [x0, x1, some (.int i), x3] (.int i :: st) h Q := R_ildn rfl rfl
theorem s201_15 : Runs 201 15 [some (.ref a), x1, x2, x3] st h Q ↔ Runs 201 16 [some (.ref a), x1, x2, x3] (.ref a :: st) h Q := R_aldn rfl rfl
theorem s201_15q : Runs 201 15 [some (zrf r), x1, x2, x3] st h Q ↔ Runs 201 16 [some (zrf r), x1, x2, x3] (zrf r :: st) h Q := R_aldnq rfl rfl
theorem s201_16 (ht : tg a = 10) : Runs 201 16 ls (.ref a :: st) (n, tg, ln, I, J, O) Q ↔ Runs 201 19 ls (zrf (O a 0) :: st) (n, tg, ln, I, J, O) Q := R_getr rfl rfl rfl rfl ht
theorem s201_19 : Runs 201 19 ls st h Q ↔ Runs 201 21 ls (.int 54 :: st) h Q := R_bipush rfl (by decide)
theorem s201_21 : Runs 201 21 [x0, x1, x2, some (.int i)] st h Q ↔ Runs 201 22 [x0, x1, x2, some (.int i)] (.int i :: st) h Q := R_ildn rfl rfl
theorem s201_22 : Runs 201 22 ls (.int j :: .int i :: st) h Q ↔ Runs 201 23 ls (.int (i + j) :: st) h Q := R_iadd rfl
theorem s201_23 (ht : tg a = 20) : Runs 201 23 ls (.int i :: .ref a :: st) (n, tg, ln, I, J, O) Q ↔ ((0 ≤ i ∧ i < Int32.ofNat (ln a)) ∧ Runs 201 24 ls (.int (I a i) :: st) (n, tg, ln, I, J, O) Q) := R_iald rfl ht
theorem s201_24 : Runs 201 24 [x0, some (.int i), x2, x3] st h Q ↔ Runs 201 25 [x0, some (.int i), x2, x3] (.int i :: st) h Q := R_ildn rfl rfl
theorem s201_25 : Runs 201 25 ls (.int j :: .int i :: st) h Q ↔ if ¬ i = j then Runs 201 34 ls st h Q else Runs 201 28 ls st h Q := R_icne rfl rfl
theorem s201_28 : Runs 201 28 ls st h Q ↔ Runs 201 29 ls (.int 1 :: st) h Q := R_iconst rfl rfl
theorem s201_29 : Runs 201 29 [x0, x1, x2, some (.int i)] st h Q ↔ Runs 201 30 [x0, x1, x2, some (.int i)] (.int i :: st) h Q := R_ildn rfl rfl
theorem s201_30 : Runs 201 30 ls (.int j :: .int i :: st) h Q ↔ Runs 201 31 ls (.int (i <<< (j &&& 31)) :: st) h Q := R_ishl rfl
theorem s201_31 : Runs 201 31 ls st h Q ↔ Runs 201 35 ls st h Q := R_goto rfl rfl
theorem s201_34 : Runs 201 34 ls st h Q ↔ Runs 201 35 ls (.int 0 :: st) h Q := R_iconst rfl rfl
theorem s201_35 : Runs 201 35 ls (.int j :: .int i :: st) h Q ↔ Runs 201 36 ls (.int (i ||| j) :: st) h Q := R_ior rfl
theorem s201_36 : Runs 201 36 [x0, x1, x2, x3] (.int i :: st) h Q ↔ Runs 201 37 [x0, zdrop x1, some (.int i), x3] st h Q := R_istn rfl rfl rfl
theorem s201_37 : Runs 201 37 [x0, x1, x2, some (.int i)] st h Q ↔ Runs 201 40 [x0, x1, zdrop x2, some (.int (i + 1))] st h Q := R_iinc rfl rfl rfl rfl rfl
theorem s201_40 : Runs 201 40 ls st h Q ↔ Runs 201 4 ls st h Q := R_goto rfl rfl
theorem s201_43 : Runs 201 43 [x0, x1, some (.int i), x3] st h Q ↔ Runs 201 44 [x0, x1, some (.int i), x3] (.int i :: st) h Q := R_ildn rfl rfl
theorem s201_44 : Runs 201 44 ls [.int i] h Q ↔ Q (some (.int i)) h := R_iret rfl rfl
theorem s202_0 : Runs 202 0 ls st h Q ↔ Runs 202 1 ls (.int 0 :: st) h Q := R_iconst rfl rfl
theorem s202_1 : Runs 202 1 [x0, x1, x2] (.int i :: st) h Q ↔ Runs 202 2 [zdrop x0, some (.int i), x2] st h Q := R_istn rfl rfl rfl
theorem s202_2 : Runs 202 2 ls st h Q ↔ Runs 202 3 ls (.int 0 :: st) h Q := R_iconst rfl rfl
theorem s202_3 : Runs 202 3 [x0, x1, x2] (.int i :: st) h Q ↔ Runs 202 4 [x0, zdrop x1, some (.int i)] st h Q := R_istn rfl rfl rfl
theorem s202_4 : Runs 202 4 [x0, x1, some (.int i)] st h Q ↔ Runs 202 5 [x0, x1, some (.int i)] (.int i :: st) h Q := R_ildn rfl rfl
theorem s202_5 : Runs 202 5 ls st h Q ↔ Runs 202 6 ls (.int 3 :: st) h Q := R_iconst rfl rfl
theorem s202_6 : Runs 202 6 ls (.int j :: .int i :: st) h Q ↔ if j ≤ i then Runs 202 32 ls st h Q else Runs 202 9 ls st h Q := R_icge rfl rfl
theorem s202_9 : Runs 202 9 [x0, some (.int i), x2] st h Q ↔ Runs 202 10 [x0, some (.int i), x2] (.int i :: st) h Q := R_ildn rfl rfl
theorem s202_10 : Runs 202 10 [some (.ref a), x1, x2] st h Q ↔ Runs 202 11 [some (.ref a), x1, x2] (.ref a :: st) h Q := R_aldn rfl rfl
theorem s202_10q : Runs 202 10 [some (zrf r), x1, x2] st h Q ↔ Runs 202 11 [some (zrf r), x1, x2] (zrf r :: st) h Q := R_aldnq rfl rfl
theorem s202_11 (ht : tg a = 10) : Runs 202 11 ls (.ref a :: st) (n, tg, ln, I, J, O) Q ↔ Runs 202 14 ls (zrf (O a 8) :: st) (n, tg, ln, I, J, O) Q := R_getr rfl rfl rfl rfl ht
theorem s202_14 : Runs 202 14 [x0, x1, some (.int i)] st h Q ↔ Runs 202 15 [x0, x1, some (.int i)] (.int i :: st) h Q := R_ildn rfl rfl
theorem s202_15 (ht : tg a = 20) : Runs 202 15 ls (.int i :: .ref a :: st) (n, tg, ln, I, J, O) Q ↔ ((0 ≤ i ∧ i < Int32.ofNat (ln a)) ∧ Runs 202 16 ls (.int (I a i) :: st) (n, tg, ln, I, J, O) Q) := R_iald rfl ht
theorem s202_16 : Runs 202 16 ls (.int i :: st) h Q ↔ if 0 ≤ i then Runs 202 23 ls st h Q else Runs 202 19 ls st h Q := R_ifge rfl rfl
theorem s202_19 : Runs 202 19 ls st h Q ↔ Runs 202 20 ls (.int 0 :: st) h Q := R_iconst rfl rfl
theorem s202_20 : Runs 202 20 ls st h Q ↔ Runs 202 24 ls st h Q := R_goto rfl rfl
theorem s202_23 : Runs 202 23 ls st h Q ↔ Runs 202 24 ls (.int 1 :: st) h Q := R_iconst rfl rfl
theorem s202_24 : Runs 202 24 ls (.int j :: .int i :: st) h Q ↔ Runs 202 25 ls (.int (i + j) :: st) h Q := R_iadd rfl
theorem s202_25 : Runs 202 25 [x0, x1, x2] (.int i :: st) h Q ↔ Runs 202 26 [zdrop x0, some (.int i), x2] st h Q := R_istn rfl rfl rfl
theorem s202_26 : Runs 202 26 [x0, x1, some (.int i)] st h Q ↔ Runs 202 29 [x0, zdrop x1, some (.int (i + 1))] st h Q := R_iinc rfl rfl rfl rfl rfl
theorem s202_29 : Runs 202 29 ls st h Q ↔ Runs 202 4 ls st h Q := R_goto rfl rfl
theorem s202_32 : Runs 202 32 [x0, some (.int i), x2] st h Q ↔ Runs 202 33 [x0, some (.int i), x2] (.int i :: st) h Q := R_ildn rfl rfl
theorem s202_33 : Runs 202 33 ls [.int i] h Q ↔ Q (some (.int i)) h := R_iret rfl rfl
end ZROWS
