section ZROWS
variable {ls : List (Option Value)} {st : List Value} {h : ZH} {Q : Option Value → ZH → Prop} {n : Nat} {tg ln : Nat → Nat} {I : Nat → Int32 → Int32} {J : Nat → Int32 → Int64} {O : Nat → Int32 → Option Nat} {i j i0 i1 i2 i3 i4 : Int32} {u w u0 u1 u2 u3 : Int64} {a b b0 b1 b2 : Nat} {r r0 r1 r2 : Option Nat}
variable {x0 x1 x2 x3 x4 x5 x6 x7 x8 x9 x10 x11 x12 x13 x14 x15 x16 x17 x18 x19 : Option Value}
theorem s1_0 : Runs 1 0 [some (.ref a)] st h Q ↔ Runs 1 1 [some (.ref a)] (.ref a :: st) h Q := R_aldn rfl rfl
theorem s1_0q : Runs 1 0 [some (zrf r)] st h Q ↔ Runs 1 1 [some (zrf r)] (zrf r :: st) h Q := R_aldnq rfl rfl
theorem s1_1 (ht : tg a = 1) : Runs 1 1 ls (.ref a :: st) (n, tg, ln, I, J, O) Q ↔ Runs 1 4 ls (.int (I a 1) :: st) (n, tg, ln, I, J, O) Q := R_geti rfl rfl rfl rfl ht
theorem s1_4 : Runs 1 4 ls st h Q ↔ Runs 1 5 ls (.int (-1) :: st) h Q := R_iconst rfl rfl
theorem s1_5 : Runs 1 5 ls (.int j :: .int i :: st) h Q ↔ if ¬ i = j then Runs 1 12 ls st h Q else Runs 1 8 ls st h Q := R_icne rfl rfl
theorem s1_8 : Runs 1 8 ls st h Q ↔ Runs 1 9 ls (.int 1 :: st) h Q := R_iconst rfl rfl
theorem s1_9 : Runs 1 9 ls st h Q ↔ Runs 1 13 ls st h Q := R_goto rfl rfl
theorem s1_12 : Runs 1 12 ls st h Q ↔ Runs 1 13 ls (.int 0 :: st) h Q := R_iconst rfl rfl
theorem s1_13 (hx : i = 0 ∨ i = 1) : Runs 1 13 ls [.int i] h Q ↔ Q (some (.int i)) h := R_zret rfl rfl hx
theorem s2_0 : Runs 2 0 [some (.ref a)] st h Q ↔ Runs 2 1 [some (.ref a)] (.ref a :: st) h Q := R_aldn rfl rfl
theorem s2_0q : Runs 2 0 [some (zrf r)] st h Q ↔ Runs 2 1 [some (zrf r)] (zrf r :: st) h Q := R_aldnq rfl rfl
theorem s2_1 : Runs 2 1 ls st h Q ↔ Runs 2 2 ls (.int (-1) :: st) h Q := R_iconst rfl rfl
theorem s2_2 (ht : tg a = 1) : Runs 2 2 ls (.int i :: .ref a :: st) (n, tg, ln, I, J, O) Q ↔ Runs 2 5 ls st (n, tg, ln, zu I a 1 i, J, O) Q := R_puti rfl rfl rfl rfl rfl rfl ht
theorem s2_5 : Runs 2 5 ls [] h Q ↔ Q none h := R_vret rfl rfl
theorem s3_0 : Runs 3 0 ls st h Q ↔ Runs 3 1 ls (.int 0 :: st) h Q := R_iconst rfl rfl
theorem s3_1 : Runs 3 1 [x0, x1, x2] (.int i :: st) h Q ↔ Runs 3 2 [x0, zdrop x1, some (.int i)] st h Q := R_istn rfl rfl rfl
theorem s3_2 : Runs 3 2 [x0, x1, some (.int i)] st h Q ↔ Runs 3 3 [x0, x1, some (.int i)] (.int i :: st) h Q := R_ildn rfl rfl
theorem s3_3 : Runs 3 3 ls st h Q ↔ Runs 3 5 ls (.int 12 :: st) h Q := R_bipush rfl (by decide)
theorem s3_5 : Runs 3 5 ls (.int j :: .int i :: st) h Q ↔ if j ≤ i then Runs 3 21 ls st h Q else Runs 3 8 ls st h Q := R_icge rfl rfl
theorem s3_8 : Runs 3 8 [some (.ref a), x1, x2] st h Q ↔ Runs 3 9 [some (.ref a), x1, x2] (.ref a :: st) h Q := R_aldn rfl rfl
theorem s3_8q : Runs 3 8 [some (zrf r), x1, x2] st h Q ↔ Runs 3 9 [some (zrf r), x1, x2] (zrf r :: st) h Q := R_aldnq rfl rfl
theorem s3_9 (ht : tg a = 1) : Runs 3 9 ls (.ref a :: st) (n, tg, ln, I, J, O) Q ↔ Runs 3 12 ls (zrf (O a 0) :: st) (n, tg, ln, I, J, O) Q := R_getr rfl rfl rfl rfl ht
theorem s3_12 : Runs 3 12 [x0, x1, some (.int i)] st h Q ↔ Runs 3 13 [x0, x1, some (.int i)] (.int i :: st) h Q := R_ildn rfl rfl
theorem s3_13 : Runs 3 13 ls st h Q ↔ Runs 3 14 ls (zrf none :: st) h Q := R_null rfl
theorem s3_14 (ht : tg a = 25) (hx : ∀ q, r = some q → tg q = 3) : Runs 3 14 ls (zrf r :: .int i :: .ref a :: st) (n, tg, ln, I, J, O) Q ↔ ((0 ≤ i ∧ i < Int32.ofNat (ln a)) ∧ Runs 3 15 ls st (n, tg, ln, I, J, zu O a i r) Q) := R_aasth rfl ht hx
theorem s3_15 : Runs 3 15 [x0, x1, some (.int i)] st h Q ↔ Runs 3 18 [x0, zdrop x1, some (.int (i + 1))] st h Q := R_iinc rfl rfl rfl rfl rfl
theorem s3_18 : Runs 3 18 ls st h Q ↔ Runs 3 2 ls st h Q := R_goto rfl rfl
theorem s3_21 : Runs 3 21 [some (.ref a), x1, x2] st h Q ↔ Runs 3 22 [some (.ref a), x1, x2] (.ref a :: st) h Q := R_aldn rfl rfl
theorem s3_21q : Runs 3 21 [some (zrf r), x1, x2] st h Q ↔ Runs 3 22 [some (zrf r), x1, x2] (zrf r :: st) h Q := R_aldnq rfl rfl
theorem s3_22 : Runs 3 22 [x0, some (.int i), x2] st h Q ↔ Runs 3 23 [x0, some (.int i), x2] (.int i :: st) h Q := R_ildn rfl rfl
theorem s3_23 (ht : tg a = 1) : Runs 3 23 ls (.int i :: .ref a :: st) (n, tg, ln, I, J, O) Q ↔ Runs 3 26 ls st (n, tg, ln, zu I a 1 i, J, O) Q := R_puti rfl rfl rfl rfl rfl rfl ht
theorem s3_26 : Runs 3 26 ls [] h Q ↔ Q none h := R_vret rfl rfl
theorem s4_0 : Runs 4 0 [some (.ref a), x1] st h Q ↔ Runs 4 1 [some (.ref a), x1] (.ref a :: st) h Q := R_aldn rfl rfl
theorem s4_0q : Runs 4 0 [some (zrf r), x1] st h Q ↔ Runs 4 1 [some (zrf r), x1] (zrf r :: st) h Q := R_aldnq rfl rfl
theorem s4_1 (ht : tg a = 1) (hs : zsumc st ≤ 8) : Runs 4 1 ls (.ref a :: st) (n, tg, ln, I, J, O) Q ↔ Runs 1 0 [some (.ref a)] [] (n, tg, ln, I, J, O) (fun v h2 => Runs 4 4 ls (v.toList ++ st) h2 Q) := R_callv (a := a) (rest := st) rfl rfl rfl rfl rfl rfl rfl ht hs
theorem s4_4 : Runs 4 4 ls (.int i :: st) h Q ↔ if i = 0 then Runs 4 10 ls st h Q else Runs 4 7 ls st h Q := R_ifeq rfl rfl
theorem s4_7 : Runs 4 7 ls st h Q ↔ Runs 4 9 ls (.int (-11) :: st) h Q := R_bipush rfl (by decide)
theorem s4_9 : Runs 4 9 ls [.int i] h Q ↔ Q (some (.int i)) h := R_iret rfl rfl
theorem s4_10 : Runs 4 10 [x0, some (.int i)] st h Q ↔ Runs 4 11 [x0, some (.int i)] (.int i :: st) h Q := R_ildn rfl rfl
theorem s4_11 : Runs 4 11 ls (.int i :: st) h Q ↔ if i < 0 then Runs 4 26 ls st h Q else Runs 4 14 ls st h Q := R_iflt rfl rfl
theorem s4_14 : Runs 4 14 [x0, some (.int i)] st h Q ↔ Runs 4 15 [x0, some (.int i)] (.int i :: st) h Q := R_ildn rfl rfl
theorem s4_15 : Runs 4 15 [some (.ref a), x1] st h Q ↔ Runs 4 16 [some (.ref a), x1] (.ref a :: st) h Q := R_aldn rfl rfl
theorem s4_15q : Runs 4 15 [some (zrf r), x1] st h Q ↔ Runs 4 16 [some (zrf r), x1] (zrf r :: st) h Q := R_aldnq rfl rfl
theorem s4_16 (ht : tg a = 1) : Runs 4 16 ls (.ref a :: st) (n, tg, ln, I, J, O) Q ↔ Runs 4 19 ls (.int (I a 1) :: st) (n, tg, ln, I, J, O) Q := R_geti rfl rfl rfl rfl ht
theorem s4_19 : Runs 4 19 ls (.int j :: .int i :: st) h Q ↔ if j ≤ i then Runs 4 26 ls st h Q else Runs 4 22 ls st h Q := R_icge rfl rfl
theorem s4_22 : Runs 4 22 ls st h Q ↔ Runs 4 23 ls (.int 0 :: st) h Q := R_iconst rfl rfl
theorem s4_23 : Runs 4 23 ls st h Q ↔ Runs 4 28 ls st h Q := R_goto rfl rfl
theorem s4_26 : Runs 4 26 ls st h Q ↔ Runs 4 28 ls (.int (-12) :: st) h Q := R_bipush rfl (by decide)
theorem s4_28 : Runs 4 28 ls [.int i] h Q ↔ Q (some (.int i)) h := R_iret rfl rfl
theorem s5_0 : Runs 5 0 [some (.ref a), x1] st h Q ↔ Runs 5 1 [some (.ref a), x1] (.ref a :: st) h Q := R_aldn rfl rfl
theorem s5_0q : Runs 5 0 [some (zrf r), x1] st h Q ↔ Runs 5 1 [some (zrf r), x1] (zrf r :: st) h Q := R_aldnq rfl rfl
theorem s5_1 : Runs 5 1 [x0, some (.int i)] st h Q ↔ Runs 5 2 [x0, some (.int i)] (.int i :: st) h Q := R_ildn rfl rfl
theorem s5_2 (ht : tg a = 1) (hs : zsumc st ≤ 8) : Runs 5 2 ls (.int i0 :: .ref a :: st) (n, tg, ln, I, J, O) Q ↔ Runs 4 0 [some (.ref a), some (.int i0)] [] (n, tg, ln, I, J, O) (fun v h2 => Runs 5 5 ls (v.toList ++ st) h2 Q) := R_callv (a := a) (rest := st) rfl rfl rfl rfl rfl rfl rfl ht hs
theorem s5_5 : Runs 5 5 ls (.int i :: st) h Q ↔ if ¬ i = 0 then Runs 5 17 ls st h Q else Runs 5 8 ls st h Q := R_ifne rfl rfl
theorem s5_8 : Runs 5 8 [some (.ref a), x1] st h Q ↔ Runs 5 9 [some (.ref a), x1] (.ref a :: st) h Q := R_aldn rfl rfl
theorem s5_8q : Runs 5 8 [some (zrf r), x1] st h Q ↔ Runs 5 9 [some (zrf r), x1] (zrf r :: st) h Q := R_aldnq rfl rfl
theorem s5_9 (ht : tg a = 1) : Runs 5 9 ls (.ref a :: st) (n, tg, ln, I, J, O) Q ↔ Runs 5 12 ls (zrf (O a 0) :: st) (n, tg, ln, I, J, O) Q := R_getr rfl rfl rfl rfl ht
theorem s5_12 : Runs 5 12 [x0, some (.int i)] st h Q ↔ Runs 5 13 [x0, some (.int i)] (.int i :: st) h Q := R_ildn rfl rfl
theorem s5_13 (ht : tg a = 23) : Runs 5 13 ls (.int i :: .ref a :: st) (n, tg, ln, I, J, O) Q ↔ ((0 ≤ i ∧ i < Int32.ofNat (ln a)) ∧ Runs 5 14 ls (zrf (O a i) :: st) (n, tg, ln, I, J, O) Q) := R_aald rfl ht (by decide)
theorem s5_13q (ht : tg a = 24) : Runs 5 13 ls (.int i :: .ref a :: st) (n, tg, ln, I, J, O) Q ↔ ((0 ≤ i ∧ i < Int32.ofNat (ln a)) ∧ Runs 5 14 ls (zrf (O a i) :: st) (n, tg, ln, I, J, O) Q) := R_aald rfl ht (by decide)
theorem s5_13p (ht : tg a = 25) : Runs 5 13 ls (.int i :: .ref a :: st) (n, tg, ln, I, J, O) Q ↔ ((0 ≤ i ∧ i < Int32.ofNat (ln a)) ∧ Runs 5 14 ls (zrf (O a i) :: st) (n, tg, ln, I, J, O) Q) := R_aald rfl ht (by decide)
theorem s5_14 : Runs 5 14 ls st h Q ↔ Runs 5 18 ls st h Q := R_goto rfl rfl
theorem s5_17 : Runs 5 17 ls st h Q ↔ Runs 5 18 ls (zrf none :: st) h Q := R_null rfl
theorem s5_18 : Runs 5 18 ls [.ref a] h Q ↔ Q (some (.ref a)) h := R_aret rfl rfl
theorem s5_18q : Runs 5 18 ls [zrf r] h Q ↔ Q (some (zrf r)) h := R_aretq rfl rfl
theorem s6_0 : Runs 6 0 [some (.ref a), x1, x2] st h Q ↔ Runs 6 1 [some (.ref a), x1, x2] (.ref a :: st) h Q := R_aldn rfl rfl
theorem s6_0q : Runs 6 0 [some (zrf r), x1, x2] st h Q ↔ Runs 6 1 [some (zrf r), x1, x2] (zrf r :: st) h Q := R_aldnq rfl rfl
theorem s6_1 : Runs 6 1 [x0, some (.int i), x2] st h Q ↔ Runs 6 2 [x0, some (.int i), x2] (.int i :: st) h Q := R_ildn rfl rfl
theorem s6_2 (ht : tg a = 1) (hs : zsumc st ≤ 8) : Runs 6 2 ls (.int i0 :: .ref a :: st) (n, tg, ln, I, J, O) Q ↔ Runs 4 0 [some (.ref a), some (.int i0)] [] (n, tg, ln, I, J, O) (fun v h2 => Runs 6 5 ls (v.toList ++ st) h2 Q) := R_callv (a := a) (rest := st) rfl rfl rfl rfl rfl rfl rfl ht hs
theorem s6_5 : Runs 6 5 [x0, x1, x2] (.int i :: st) h Q ↔ Runs 6 6 [x0, zdrop x1, some (.int i)] st h Q := R_istn rfl rfl rfl
theorem s6_6 : Runs 6 6 [x0, x1, some (.int i)] st h Q ↔ Runs 6 7 [x0, x1, some (.int i)] (.int i :: st) h Q := R_ildn rfl rfl
theorem s6_7 : Runs 6 7 ls (.int i :: st) h Q ↔ if ¬ i = 0 then Runs 6 15 ls st h Q else Runs 6 10 ls st h Q := R_ifne rfl rfl
theorem s6_10 : Runs 6 10 ls st h Q ↔ Runs 6 12 ls (.int (-13) :: st) h Q := R_bipush rfl (by decide)
theorem s6_12 : Runs 6 12 ls st h Q ↔ Runs 6 16 ls st h Q := R_goto rfl rfl
theorem s6_15 : Runs 6 15 [x0, x1, some (.int i)] st h Q ↔ Runs 6 16 [x0, x1, some (.int i)] (.int i :: st) h Q := R_ildn rfl rfl
theorem s6_16 : Runs 6 16 ls [.int i] h Q ↔ Q (some (.int i)) h := R_iret rfl rfl
theorem s7_0 : Runs 7 0 [x0, some (.int i), x2] st h Q ↔ Runs 7 1 [x0, some (.int i), x2] (.int i :: st) h Q := R_ildn rfl rfl
theorem s7_1 : Runs 7 1 ls (.int i :: st) h Q ↔ if i < 0 then Runs 7 30 ls st h Q else Runs 7 4 ls st h Q := R_iflt rfl rfl
theorem s7_4 : Runs 7 4 [x0, x1, some (.int i)] st h Q ↔ Runs 7 5 [x0, x1, some (.int i)] (.int i :: st) h Q := R_ildn rfl rfl
theorem s7_5 : Runs 7 5 ls (.int i :: st) h Q ↔ if i < 0 then Runs 7 30 ls st h Q else Runs 7 8 ls st h Q := R_iflt rfl rfl
theorem s7_8 : Runs 7 8 [x0, some (.int i), x2] st h Q ↔ Runs 7 9 [x0, some (.int i), x2] (.int i :: st) h Q := R_ildn rfl rfl
theorem s7_9 : Runs 7 9 [some (.ref a), x1, x2] st h Q ↔ Runs 7 10 [some (.ref a), x1, x2] (.ref a :: st) h Q := R_aldn rfl rfl
theorem s7_9q : Runs 7 9 [some (zrf r), x1, x2] st h Q ↔ Runs 7 10 [some (zrf r), x1, x2] (zrf r :: st) h Q := R_aldnq rfl rfl
theorem s7_10 (ht : tg a = 1) : Runs 7 10 ls (.ref a :: st) (n, tg, ln, I, J, O) Q ↔ Runs 7 13 ls (.int (I a 1) :: st) (n, tg, ln, I, J, O) Q := R_geti rfl rfl rfl rfl ht
theorem s7_13 : Runs 7 13 ls (.int j :: .int i :: st) h Q ↔ if j < i then Runs 7 30 ls st h Q else Runs 7 16 ls st h Q := R_icgt rfl rfl
theorem s7_16 : Runs 7 16 [x0, x1, some (.int i)] st h Q ↔ Runs 7 17 [x0, x1, some (.int i)] (.int i :: st) h Q := R_ildn rfl rfl
theorem s7_17 : Runs 7 17 [some (.ref a), x1, x2] st h Q ↔ Runs 7 18 [some (.ref a), x1, x2] (.ref a :: st) h Q := R_aldn rfl rfl
theorem s7_17q : Runs 7 17 [some (zrf r), x1, x2] st h Q ↔ Runs 7 18 [some (zrf r), x1, x2] (zrf r :: st) h Q := R_aldnq rfl rfl
theorem s7_18 (ht : tg a = 1) : Runs 7 18 ls (.ref a :: st) (n, tg, ln, I, J, O) Q ↔ Runs 7 21 ls (.int (I a 1) :: st) (n, tg, ln, I, J, O) Q := R_geti rfl rfl rfl rfl ht
theorem s7_21 : Runs 7 21 [x0, some (.int i), x2] st h Q ↔ Runs 7 22 [x0, some (.int i), x2] (.int i :: st) h Q := R_ildn rfl rfl
theorem s7_22 : Runs 7 22 ls (.int j :: .int i :: st) h Q ↔ Runs 7 23 ls (.int (i - j) :: st) h Q := R_isub rfl
theorem s7_23 : Runs 7 23 ls (.int j :: .int i :: st) h Q ↔ if j < i then Runs 7 30 ls st h Q else Runs 7 26 ls st h Q := R_icgt rfl rfl
theorem s7_26 : Runs 7 26 ls st h Q ↔ Runs 7 27 ls (.int 1 :: st) h Q := R_iconst rfl rfl
theorem s7_27 : Runs 7 27 ls st h Q ↔ Runs 7 31 ls st h Q := R_goto rfl rfl
theorem s7_30 : Runs 7 30 ls st h Q ↔ Runs 7 31 ls (.int 0 :: st) h Q := R_iconst rfl rfl
theorem s7_31 (hx : i = 0 ∨ i = 1) : Runs 7 31 ls [.int i] h Q ↔ Q (some (.int i)) h := R_zret rfl rfl hx
theorem s8_0 : Runs 8 0 [some (.ref a), x1, x2, x3, x4, x5] st h Q ↔ Runs 8 1 [some (.ref a), x1, x2, x3, x4, x5] (.ref a :: st) h Q := R_aldn rfl rfl
theorem s8_0q : Runs 8 0 [some (zrf r), x1, x2, x3, x4, x5] st h Q ↔ Runs 8 1 [some (zrf r), x1, x2, x3, x4, x5] (zrf r :: st) h Q := R_aldnq rfl rfl
theorem s8_1 : Runs 8 1 [x0, some (.int i), x2, x3, x4, x5] st h Q ↔ Runs 8 2 [x0, some (.int i), x2, x3, x4, x5] (.int i :: st) h Q := R_ildn rfl rfl
theorem s8_2 : Runs 8 2 [x0, x1, x2, x3, some (.int i), x5] st h Q ↔ Runs 8 4 [x0, x1, x2, x3, some (.int i), x5] (.int i :: st) h Q := R_ild rfl rfl
theorem s8_4 (ht : tg a = 1) (hs : zsumc st ≤ 8) : Runs 8 4 ls (.int i1 :: .int i0 :: .ref a :: st) (n, tg, ln, I, J, O) Q ↔ Runs 7 0 [some (.ref a), some (.int i0), some (.int i1)] [] (n, tg, ln, I, J, O) (fun v h2 => Runs 8 7 ls (v.toList ++ st) h2 Q) := R_callv (a := a) (rest := st) rfl rfl rfl rfl rfl rfl rfl ht hs
theorem s8_7 : Runs 8 7 ls (.int i :: st) h Q ↔ if i = 0 then Runs 8 20 ls st h Q else Runs 8 10 ls st h Q := R_ifeq rfl rfl
theorem s8_10 : Runs 8 10 [x0, x1, some (.ref a), x3, x4, x5] st h Q ↔ Runs 8 11 [x0, x1, some (.ref a), x3, x4, x5] (.ref a :: st) h Q := R_aldn rfl rfl
theorem s8_10q : Runs 8 10 [x0, x1, some (zrf r), x3, x4, x5] st h Q ↔ Runs 8 11 [x0, x1, some (zrf r), x3, x4, x5] (zrf r :: st) h Q := R_aldnq rfl rfl
theorem s8_11 : Runs 8 11 [x0, x1, x2, some (.int i), x4, x5] st h Q ↔ Runs 8 12 [x0, x1, x2, some (.int i), x4, x5] (.int i :: st) h Q := R_ildn rfl rfl
theorem s8_12 : Runs 8 12 [x0, x1, x2, x3, some (.int i), x5] st h Q ↔ Runs 8 14 [x0, x1, x2, x3, some (.int i), x5] (.int i :: st) h Q := R_ild rfl rfl
theorem s8_14 (ht : tg a = 1) (hs : zsumc st ≤ 8) : Runs 8 14 ls (.int i1 :: .int i0 :: .ref a :: st) (n, tg, ln, I, J, O) Q ↔ Runs 7 0 [some (.ref a), some (.int i0), some (.int i1)] [] (n, tg, ln, I, J, O) (fun v h2 => Runs 8 17 ls (v.toList ++ st) h2 Q) := R_callv (a := a) (rest := st) rfl rfl rfl rfl rfl rfl rfl ht hs
theorem s8_17 : Runs 8 17 ls (.int i :: st) h Q ↔ if ¬ i = 0 then Runs 8 21 ls st h Q else Runs 8 20 ls st h Q := R_ifne rfl rfl
theorem s8_20 : Runs 8 20 ls [] h Q ↔ Q none h := R_vret rfl rfl
theorem s8_21 : Runs 8 21 [x0, some (.int i), x2, x3, x4, x5] st h Q ↔ Runs 8 22 [x0, some (.int i), x2, x3, x4, x5] (.int i :: st) h Q := R_ildn rfl rfl
theorem s8_22 : Runs 8 22 [x0, x1, x2, some (.int i), x4, x5] st h Q ↔ Runs 8 23 [x0, x1, x2, some (.int i), x4, x5] (.int i :: st) h Q := R_ildn rfl rfl
theorem s8_23 : Runs 8 23 ls (.int j :: .int i :: st) h Q ↔ if j < i then Runs 8 63 ls st h Q else Runs 8 26 ls st h Q := R_icgt rfl rfl
theorem s8_26 : Runs 8 26 ls st h Q ↔ Runs 8 27 ls (.int 0 :: st) h Q := R_iconst rfl rfl
theorem s8_27 : Runs 8 27 [x0, x1, x2, x3, x4, x5] (.int i :: st) h Q ↔ Runs 8 29 [x0, x1, x2, x3, zdrop x4, some (.int i)] st h Q := R_ist rfl rfl rfl
theorem s8_29 : Runs 8 29 [x0, x1, x2, x3, x4, some (.int i)] st h Q ↔ Runs 8 31 [x0, x1, x2, x3, x4, some (.int i)] (.int i :: st) h Q := R_ild rfl rfl
theorem s8_31 : Runs 8 31 [x0, x1, x2, x3, some (.int i), x5] st h Q ↔ Runs 8 33 [x0, x1, x2, x3, some (.int i), x5] (.int i :: st) h Q := R_ild rfl rfl
theorem s8_33 : Runs 8 33 ls (.int j :: .int i :: st) h Q ↔ if j ≤ i then Runs 8 60 ls st h Q else Runs 8 36 ls st h Q := R_icge rfl rfl
theorem s8_36 : Runs 8 36 [some (.ref a), x1, x2, x3, x4, x5] st h Q ↔ Runs 8 37 [some (.ref a), x1, x2, x3, x4, x5] (.ref a :: st) h Q := R_aldn rfl rfl
theorem s8_36q : Runs 8 36 [some (zrf r), x1, x2, x3, x4, x5] st h Q ↔ Runs 8 37 [some (zrf r), x1, x2, x3, x4, x5] (zrf r :: st) h Q := R_aldnq rfl rfl
theorem s8_37 (ht : tg a = 1) : Runs 8 37 ls (.ref a :: st) (n, tg, ln, I, J, O) Q ↔ Runs 8 40 ls (zrf (O a 0) :: st) (n, tg, ln, I, J, O) Q := R_getr rfl rfl rfl rfl ht
theorem s8_40 : Runs 8 40 [x0, some (.int i), x2, x3, x4, x5] st h Q ↔ Runs 8 41 [x0, some (.int i), x2, x3, x4, x5] (.int i :: st) h Q := R_ildn rfl rfl
theorem s8_41 : Runs 8 41 [x0, x1, x2, x3, x4, some (.int i)] st h Q ↔ Runs 8 43 [x0, x1, x2, x3, x4, some (.int i)] (.int i :: st) h Q := R_ild rfl rfl
theorem s8_43 : Runs 8 43 ls (.int j :: .int i :: st) h Q ↔ Runs 8 44 ls (.int (i + j) :: st) h Q := R_iadd rfl
theorem s8_44 : Runs 8 44 [x0, x1, some (.ref a), x3, x4, x5] st h Q ↔ Runs 8 45 [x0, x1, some (.ref a), x3, x4, x5] (.ref a :: st) h Q := R_aldn rfl rfl
theorem s8_44q : Runs 8 44 [x0, x1, some (zrf r), x3, x4, x5] st h Q ↔ Runs 8 45 [x0, x1, some (zrf r), x3, x4, x5] (zrf r :: st) h Q := R_aldnq rfl rfl
theorem s8_45 (ht : tg a = 1) : Runs 8 45 ls (.ref a :: st) (n, tg, ln, I, J, O) Q ↔ Runs 8 48 ls (zrf (O a 0) :: st) (n, tg, ln, I, J, O) Q := R_getr rfl rfl rfl rfl ht
theorem s8_48 : Runs 8 48 [x0, x1, x2, some (.int i), x4, x5] st h Q ↔ Runs 8 49 [x0, x1, x2, some (.int i), x4, x5] (.int i :: st) h Q := R_ildn rfl rfl
theorem s8_49 : Runs 8 49 [x0, x1, x2, x3, x4, some (.int i)] st h Q ↔ Runs 8 51 [x0, x1, x2, x3, x4, some (.int i)] (.int i :: st) h Q := R_ild rfl rfl
theorem s8_51 : Runs 8 51 ls (.int j :: .int i :: st) h Q ↔ Runs 8 52 ls (.int (i + j) :: st) h Q := R_iadd rfl
theorem s8_52 (ht : tg a = 23) : Runs 8 52 ls (.int i :: .ref a :: st) (n, tg, ln, I, J, O) Q ↔ ((0 ≤ i ∧ i < Int32.ofNat (ln a)) ∧ Runs 8 53 ls (zrf (O a i) :: st) (n, tg, ln, I, J, O) Q) := R_aald rfl ht (by decide)
theorem s8_52q (ht : tg a = 24) : Runs 8 52 ls (.int i :: .ref a :: st) (n, tg, ln, I, J, O) Q ↔ ((0 ≤ i ∧ i < Int32.ofNat (ln a)) ∧ Runs 8 53 ls (zrf (O a i) :: st) (n, tg, ln, I, J, O) Q) := R_aald rfl ht (by decide)
theorem s8_52p (ht : tg a = 25) : Runs 8 52 ls (.int i :: .ref a :: st) (n, tg, ln, I, J, O) Q ↔ ((0 ≤ i ∧ i < Int32.ofNat (ln a)) ∧ Runs 8 53 ls (zrf (O a i) :: st) (n, tg, ln, I, J, O) Q) := R_aald rfl ht (by decide)
theorem s8_53 (ht : tg a = 25) (hx : ∀ q, r = some q → tg q = 3) : Runs 8 53 ls (zrf r :: .int i :: .ref a :: st) (n, tg, ln, I, J, O) Q ↔ ((0 ≤ i ∧ i < Int32.ofNat (ln a)) ∧ Runs 8 54 ls st (n, tg, ln, I, J, zu O a i r) Q) := R_aasth rfl ht hx
theorem s8_54 : Runs 8 54 [x0, x1, x2, x3, x4, some (.int i)] st h Q ↔ Runs 8 57 [x0, x1, x2, x3, zdrop x4, some (.int (i + 1))] st h Q := R_iinc rfl rfl rfl rfl rfl
theorem s8_57 : Runs 8 57 ls st h Q ↔ Runs 8 29 ls st h Q := R_goto rfl rfl
theorem s8_60 : Runs 8 60 ls st h Q ↔ Runs 8 98 ls st h Q := R_goto rfl rfl
theorem s8_63 : Runs 8 63 [x0, x1, x2, x3, some (.int i), x5] st h Q ↔ Runs 8 65 [x0, x1, x2, x3, some (.int i), x5] (.int i :: st) h Q := R_ild rfl rfl
theorem s8_65 : Runs 8 65 ls st h Q ↔ Runs 8 66 ls (.int 1 :: st) h Q := R_iconst rfl rfl
theorem s8_66 : Runs 8 66 ls (.int j :: .int i :: st) h Q ↔ Runs 8 67 ls (.int (i - j) :: st) h Q := R_isub rfl
theorem s8_67 : Runs 8 67 [x0, x1, x2, x3, x4, x5] (.int i :: st) h Q ↔ Runs 8 69 [x0, x1, x2, x3, zdrop x4, some (.int i)] st h Q := R_ist rfl rfl rfl
theorem s8_69 : Runs 8 69 [x0, x1, x2, x3, x4, some (.int i)] st h Q ↔ Runs 8 71 [x0, x1, x2, x3, x4, some (.int i)] (.int i :: st) h Q := R_ild rfl rfl
theorem s8_71 : Runs 8 71 ls (.int i :: st) h Q ↔ if i < 0 then Runs 8 98 ls st h Q else Runs 8 74 ls st h Q := R_iflt rfl rfl
theorem s8_74 : Runs 8 74 [some (.ref a), x1, x2, x3, x4, x5] st h Q ↔ Runs 8 75 [some (.ref a), x1, x2, x3, x4, x5] (.ref a :: st) h Q := R_aldn rfl rfl
theorem s8_74q : Runs 8 74 [some (zrf r), x1, x2, x3, x4, x5] st h Q ↔ Runs 8 75 [some (zrf r), x1, x2, x3, x4, x5] (zrf r :: st) h Q := R_aldnq rfl rfl
theorem s8_75 (ht : tg a = 1) : Runs 8 75 ls (.ref a :: st) (n, tg, ln, I, J, O) Q ↔ Runs 8 78 ls (zrf (O a 0) :: st) (n, tg, ln, I, J, O) Q := R_getr rfl rfl rfl rfl ht
theorem s8_78 : Runs 8 78 [x0, some (.int i), x2, x3, x4, x5] st h Q ↔ Runs 8 79 [x0, some (.int i), x2, x3, x4, x5] (.int i :: st) h Q := R_ildn rfl rfl
theorem s8_79 : Runs 8 79 [x0, x1, x2, x3, x4, some (.int i)] st h Q ↔ Runs 8 81 [x0, x1, x2, x3, x4, some (.int i)] (.int i :: st) h Q := R_ild rfl rfl
theorem s8_81 : Runs 8 81 ls (.int j :: .int i :: st) h Q ↔ Runs 8 82 ls (.int (i + j) :: st) h Q := R_iadd rfl
theorem s8_82 : Runs 8 82 [x0, x1, some (.ref a), x3, x4, x5] st h Q ↔ Runs 8 83 [x0, x1, some (.ref a), x3, x4, x5] (.ref a :: st) h Q := R_aldn rfl rfl
theorem s8_82q : Runs 8 82 [x0, x1, some (zrf r), x3, x4, x5] st h Q ↔ Runs 8 83 [x0, x1, some (zrf r), x3, x4, x5] (zrf r :: st) h Q := R_aldnq rfl rfl
theorem s8_83 (ht : tg a = 1) : Runs 8 83 ls (.ref a :: st) (n, tg, ln, I, J, O) Q ↔ Runs 8 86 ls (zrf (O a 0) :: st) (n, tg, ln, I, J, O) Q := R_getr rfl rfl rfl rfl ht
theorem s8_86 : Runs 8 86 [x0, x1, x2, some (.int i), x4, x5] st h Q ↔ Runs 8 87 [x0, x1, x2, some (.int i), x4, x5] (.int i :: st) h Q := R_ildn rfl rfl
theorem s8_87 : Runs 8 87 [x0, x1, x2, x3, x4, some (.int i)] st h Q ↔ Runs 8 89 [x0, x1, x2, x3, x4, some (.int i)] (.int i :: st) h Q := R_ild rfl rfl
theorem s8_89 : Runs 8 89 ls (.int j :: .int i :: st) h Q ↔ Runs 8 90 ls (.int (i + j) :: st) h Q := R_iadd rfl
theorem s8_90 (ht : tg a = 23) : Runs 8 90 ls (.int i :: .ref a :: st) (n, tg, ln, I, J, O) Q ↔ ((0 ≤ i ∧ i < Int32.ofNat (ln a)) ∧ Runs 8 91 ls (zrf (O a i) :: st) (n, tg, ln, I, J, O) Q) := R_aald rfl ht (by decide)
theorem s8_90q (ht : tg a = 24) : Runs 8 90 ls (.int i :: .ref a :: st) (n, tg, ln, I, J, O) Q ↔ ((0 ≤ i ∧ i < Int32.ofNat (ln a)) ∧ Runs 8 91 ls (zrf (O a i) :: st) (n, tg, ln, I, J, O) Q) := R_aald rfl ht (by decide)
theorem s8_90p (ht : tg a = 25) : Runs 8 90 ls (.int i :: .ref a :: st) (n, tg, ln, I, J, O) Q ↔ ((0 ≤ i ∧ i < Int32.ofNat (ln a)) ∧ Runs 8 91 ls (zrf (O a i) :: st) (n, tg, ln, I, J, O) Q) := R_aald rfl ht (by decide)
theorem s8_91 (ht : tg a = 25) (hx : ∀ q, r = some q → tg q = 3) : Runs 8 91 ls (zrf r :: .int i :: .ref a :: st) (n, tg, ln, I, J, O) Q ↔ ((0 ≤ i ∧ i < Int32.ofNat (ln a)) ∧ Runs 8 92 ls st (n, tg, ln, I, J, zu O a i r) Q) := R_aasth rfl ht hx
theorem s8_92 : Runs 8 92 [x0, x1, x2, x3, x4, some (.int i)] st h Q ↔ Runs 8 95 [x0, x1, x2, x3, zdrop x4, some (.int (i + (-1)))] st h Q := R_iinc rfl rfl rfl rfl rfl
theorem s8_95 : Runs 8 95 ls st h Q ↔ Runs 8 69 ls st h Q := R_goto rfl rfl
theorem s8_98 : Runs 8 98 ls [] h Q ↔ Q none h := R_vret rfl rfl
theorem s9_0 : Runs 9 0 ls st h Q ↔ Runs 9 1 ls (.int 0 :: st) h Q := R_iconst rfl rfl
theorem s9_1 : Runs 9 1 [x0, x1, x2] (.int i :: st) h Q ↔ Runs 9 2 [zdrop x0, some (.int i), x2] st h Q := R_istn rfl rfl rfl
theorem s9_2 : Runs 9 2 ls st h Q ↔ Runs 9 3 ls (.int 0 :: st) h Q := R_iconst rfl rfl
theorem s9_3 : Runs 9 3 [x0, x1, x2] (.int i :: st) h Q ↔ Runs 9 4 [x0, zdrop x1, some (.int i)] st h Q := R_istn rfl rfl rfl
theorem s9_4 : Runs 9 4 [x0, x1, some (.int i)] st h Q ↔ Runs 9 5 [x0, x1, some (.int i)] (.int i :: st) h Q := R_ildn rfl rfl
theorem s9_5 : Runs 9 5 [some (.ref a), x1, x2] st h Q ↔ Runs 9 6 [some (.ref a), x1, x2] (.ref a :: st) h Q := R_aldn rfl rfl
theorem s9_5q : Runs 9 5 [some (zrf r), x1, x2] st h Q ↔ Runs 9 6 [some (zrf r), x1, x2] (zrf r :: st) h Q := R_aldnq rfl rfl
theorem s9_6 (ht : tg a = 1) : Runs 9 6 ls (.ref a :: st) (n, tg, ln, I, J, O) Q ↔ Runs 9 9 ls (.int (I a 1) :: st) (n, tg, ln, I, J, O) Q := R_geti rfl rfl rfl rfl ht
theorem s9_9 : Runs 9 9 ls (.int j :: .int i :: st) h Q ↔ if j ≤ i then Runs 9 30 ls st h Q else Runs 9 12 ls st h Q := R_icge rfl rfl
theorem s9_12 : Runs 9 12 [some (.ref a), x1, x2] st h Q ↔ Runs 9 13 [some (.ref a), x1, x2] (.ref a :: st) h Q := R_aldn rfl rfl
theorem s9_12q : Runs 9 12 [some (zrf r), x1, x2] st h Q ↔ Runs 9 13 [some (zrf r), x1, x2] (zrf r :: st) h Q := R_aldnq rfl rfl
theorem s9_13 (ht : tg a = 1) : Runs 9 13 ls (.ref a :: st) (n, tg, ln, I, J, O) Q ↔ Runs 9 16 ls (zrf (O a 0) :: st) (n, tg, ln, I, J, O) Q := R_getr rfl rfl rfl rfl ht
theorem s9_16 : Runs 9 16 [x0, x1, some (.int i)] st h Q ↔ Runs 9 17 [x0, x1, some (.int i)] (.int i :: st) h Q := R_ildn rfl rfl
theorem s9_17 (ht : tg a = 23) : Runs 9 17 ls (.int i :: .ref a :: st) (n, tg, ln, I, J, O) Q ↔ ((0 ≤ i ∧ i < Int32.ofNat (ln a)) ∧ Runs 9 18 ls (zrf (O a i) :: st) (n, tg, ln, I, J, O) Q) := R_aald rfl ht (by decide)
theorem s9_17q (ht : tg a = 24) : Runs 9 17 ls (.int i :: .ref a :: st) (n, tg, ln, I, J, O) Q ↔ ((0 ≤ i ∧ i < Int32.ofNat (ln a)) ∧ Runs 9 18 ls (zrf (O a i) :: st) (n, tg, ln, I, J, O) Q) := R_aald rfl ht (by decide)
theorem s9_17p (ht : tg a = 25) : Runs 9 17 ls (.int i :: .ref a :: st) (n, tg, ln, I, J, O) Q ↔ ((0 ≤ i ∧ i < Int32.ofNat (ln a)) ∧ Runs 9 18 ls (zrf (O a i) :: st) (n, tg, ln, I, J, O) Q) := R_aald rfl ht (by decide)
theorem s9_18 : Runs 9 18 ls (zrf r :: st) h Q ↔ if r = none then Runs 9 24 ls st h Q else Runs 9 21 ls st h Q := R_ifnull rfl rfl
theorem s9_21 : Runs 9 21 [x0, some (.int i), x2] st h Q ↔ Runs 9 24 [zdrop x0, some (.int (i + 1)), x2] st h Q := R_iinc rfl rfl rfl rfl rfl
theorem s9_24 : Runs 9 24 [x0, x1, some (.int i)] st h Q ↔ Runs 9 27 [x0, zdrop x1, some (.int (i + 1))] st h Q := R_iinc rfl rfl rfl rfl rfl
theorem s9_27 : Runs 9 27 ls st h Q ↔ Runs 9 4 ls st h Q := R_goto rfl rfl
theorem s9_30 : Runs 9 30 [x0, some (.int i), x2] st h Q ↔ Runs 9 31 [x0, some (.int i), x2] (.int i :: st) h Q := R_ildn rfl rfl
theorem s9_31 : Runs 9 31 ls [.int i] h Q ↔ Q (some (.int i)) h := R_iret rfl rfl
theorem s11_0 : Runs 11 0 [some (.ref a)] st h Q ↔ Runs 11 1 [some (.ref a)] (.ref a :: st) h Q := R_aldn rfl rfl
theorem s11_0q : Runs 11 0 [some (zrf r)] st h Q ↔ Runs 11 1 [some (zrf r)] (zrf r :: st) h Q := R_aldnq rfl rfl
theorem s11_1 : Runs 11 1 ls st h Q ↔ Runs 11 2 ls (.int 0 :: st) h Q := R_iconst rfl rfl
theorem s11_2 (ht : tg a = 2) : Runs 11 2 ls (.int i :: .ref a :: st) (n, tg, ln, I, J, O) Q ↔ Runs 11 5 ls st (n, tg, ln, zu I a 2 i, J, O) Q := R_puti rfl rfl rfl rfl rfl rfl ht
theorem s11_5 : Runs 11 5 ls [] h Q ↔ Q none h := R_vret rfl rfl
theorem s12_0 : Runs 12 0 [some (.ref a), x1] st h Q ↔ Runs 12 1 [some (.ref a), x1] (.ref a :: st) h Q := R_aldn rfl rfl
theorem s12_0q : Runs 12 0 [some (zrf r), x1] st h Q ↔ Runs 12 1 [some (zrf r), x1] (zrf r :: st) h Q := R_aldnq rfl rfl
theorem s12_1 (ht : tg a = 2) : Runs 12 1 ls (.ref a :: st) (n, tg, ln, I, J, O) Q ↔ Runs 12 4 ls (zrf (O a 0) :: st) (n, tg, ln, I, J, O) Q := R_getr rfl rfl rfl rfl ht
theorem s12_4 : Runs 12 4 [some (.ref a), x1] st h Q ↔ Runs 12 5 [some (.ref a), x1] (.ref a :: st) h Q := R_aldn rfl rfl
theorem s12_4q : Runs 12 4 [some (zrf r), x1] st h Q ↔ Runs 12 5 [some (zrf r), x1] (zrf r :: st) h Q := R_aldnq rfl rfl
theorem s12_5 (ht : tg a = 2) : Runs 12 5 ls (.ref a :: st) (n, tg, ln, I, J, O) Q ↔ Runs 12 8 ls (.int (I a 1) :: st) (n, tg, ln, I, J, O) Q := R_geti rfl rfl rfl rfl ht
theorem s12_8 (ht : tg a = 23) : Runs 12 8 ls (.int i :: .ref a :: st) (n, tg, ln, I, J, O) Q ↔ ((0 ≤ i ∧ i < Int32.ofNat (ln a)) ∧ Runs 12 9 ls (zrf (O a i) :: st) (n, tg, ln, I, J, O) Q) := R_aald rfl ht (by decide)
theorem s12_8q (ht : tg a = 24) : Runs 12 8 ls (.int i :: .ref a :: st) (n, tg, ln, I, J, O) Q ↔ ((0 ≤ i ∧ i < Int32.ofNat (ln a)) ∧ Runs 12 9 ls (zrf (O a i) :: st) (n, tg, ln, I, J, O) Q) := R_aald rfl ht (by decide)
theorem s12_8p (ht : tg a = 25) : Runs 12 8 ls (.int i :: .ref a :: st) (n, tg, ln, I, J, O) Q ↔ ((0 ≤ i ∧ i < Int32.ofNat (ln a)) ∧ Runs 12 9 ls (zrf (O a i) :: st) (n, tg, ln, I, J, O) Q) := R_aald rfl ht (by decide)
theorem s12_9 : Runs 12 9 [x0, some (.ref a)] st h Q ↔ Runs 12 10 [x0, some (.ref a)] (.ref a :: st) h Q := R_aldn rfl rfl
theorem s12_9q : Runs 12 9 [x0, some (zrf r)] st h Q ↔ Runs 12 10 [x0, some (zrf r)] (zrf r :: st) h Q := R_aldnq rfl rfl
theorem s12_10 (ht : tg a = 5) (hs : zsumc st ≤ 8) : Runs 12 10 ls (.ref b0 :: .ref a :: st) (n, tg, ln, I, J, O) Q ↔ Runs 38 0 [some (.ref a), some (.ref b0)] [] (n, tg, ln, I, J, O) (fun v h2 => Runs 12 13 ls (v.toList ++ st) h2 Q) := R_callv (a := a) (rest := st) rfl rfl rfl rfl rfl rfl rfl ht hs
theorem s12_10q (ht : tg a = 5) (hs : zsumc st ≤ 8) : Runs 12 10 ls (zrf r0 :: .ref a :: st) (n, tg, ln, I, J, O) Q ↔ Runs 38 0 [some (.ref a), some (zrf r0)] [] (n, tg, ln, I, J, O) (fun v h2 => Runs 12 13 ls (v.toList ++ st) h2 Q) := by cases r0 <;> exact R_callv (a := a) (rest := st) rfl rfl rfl rfl rfl rfl rfl ht hs
theorem s12_13 : Runs 12 13 [some (.ref a), x1] st h Q ↔ Runs 12 14 [some (.ref a), x1] (.ref a :: st) h Q := R_aldn rfl rfl
theorem s12_13q : Runs 12 13 [some (zrf r), x1] st h Q ↔ Runs 12 14 [some (zrf r), x1] (zrf r :: st) h Q := R_aldnq rfl rfl
theorem s12_14 : Runs 12 14 [some (.ref a), x1] st h Q ↔ Runs 12 15 [some (.ref a), x1] (.ref a :: st) h Q := R_aldn rfl rfl
theorem s12_14q : Runs 12 14 [some (zrf r), x1] st h Q ↔ Runs 12 15 [some (zrf r), x1] (zrf r :: st) h Q := R_aldnq rfl rfl
theorem s12_15 (ht : tg a = 2) : Runs 12 15 ls (.ref a :: st) (n, tg, ln, I, J, O) Q ↔ Runs 12 18 ls (.int (I a 1) :: st) (n, tg, ln, I, J, O) Q := R_geti rfl rfl rfl rfl ht
theorem s12_18 : Runs 12 18 ls st h Q ↔ Runs 12 19 ls (.int 1 :: st) h Q := R_iconst rfl rfl
theorem s12_19 : Runs 12 19 ls (.int j :: .int i :: st) h Q ↔ Runs 12 20 ls (.int (i + j) :: st) h Q := R_iadd rfl
theorem s12_20 : Runs 12 20 ls st h Q ↔ Runs 12 22 ls (.int 8 :: st) h Q := R_bipush rfl (by decide)
theorem s12_22 : Runs 12 22 ls (.int j :: .int i :: st) h Q ↔ if j ≤ i then Runs 12 34 ls st h Q else Runs 12 25 ls st h Q := R_icge rfl rfl
theorem s12_25 : Runs 12 25 [some (.ref a), x1] st h Q ↔ Runs 12 26 [some (.ref a), x1] (.ref a :: st) h Q := R_aldn rfl rfl
theorem s12_25q : Runs 12 25 [some (zrf r), x1] st h Q ↔ Runs 12 26 [some (zrf r), x1] (zrf r :: st) h Q := R_aldnq rfl rfl
theorem s12_26 (ht : tg a = 2) : Runs 12 26 ls (.ref a :: st) (n, tg, ln, I, J, O) Q ↔ Runs 12 29 ls (.int (I a 1) :: st) (n, tg, ln, I, J, O) Q := R_geti rfl rfl rfl rfl ht
theorem s12_29 : Runs 12 29 ls st h Q ↔ Runs 12 30 ls (.int 1 :: st) h Q := R_iconst rfl rfl
theorem s12_30 : Runs 12 30 ls (.int j :: .int i :: st) h Q ↔ Runs 12 31 ls (.int (i + j) :: st) h Q := R_iadd rfl
theorem s12_31 : Runs 12 31 ls st h Q ↔ Runs 12 35 ls st h Q := R_goto rfl rfl
theorem s12_34 : Runs 12 34 ls st h Q ↔ Runs 12 35 ls (.int 0 :: st) h Q := R_iconst rfl rfl
theorem s12_35 (ht : tg a = 2) : Runs 12 35 ls (.int i :: .ref a :: st) (n, tg, ln, I, J, O) Q ↔ Runs 12 38 ls st (n, tg, ln, zu I a 1 i, J, O) Q := R_puti rfl rfl rfl rfl rfl rfl ht
theorem s12_38 : Runs 12 38 [some (.ref a), x1] st h Q ↔ Runs 12 39 [some (.ref a), x1] (.ref a :: st) h Q := R_aldn rfl rfl
theorem s12_38q : Runs 12 38 [some (zrf r), x1] st h Q ↔ Runs 12 39 [some (zrf r), x1] (zrf r :: st) h Q := R_aldnq rfl rfl
theorem s12_39 (ht : tg a = 2) : Runs 12 39 ls (.ref a :: st) (n, tg, ln, I, J, O) Q ↔ Runs 12 42 ls (.int (I a 2) :: st) (n, tg, ln, I, J, O) Q := R_geti rfl rfl rfl rfl ht
theorem s12_42 : Runs 12 42 ls st h Q ↔ Runs 12 44 ls (.int 8 :: st) h Q := R_bipush rfl (by decide)
theorem s12_44 : Runs 12 44 ls (.int j :: .int i :: st) h Q ↔ if j ≤ i then Runs 12 57 ls st h Q else Runs 12 47 ls st h Q := R_icge rfl rfl
theorem s12_47 : Runs 12 47 [some (.ref a), x1] st h Q ↔ Runs 12 48 [some (.ref a), x1] (.ref a :: st) h Q := R_aldn rfl rfl
theorem s12_47q : Runs 12 47 [some (zrf r), x1] st h Q ↔ Runs 12 48 [some (zrf r), x1] (zrf r :: st) h Q := R_aldnq rfl rfl
theorem s12_48 : Runs 12 48 ls (.int i :: st) h Q ↔ Runs 12 49 ls (.int i :: .int i :: st) h Q := R_dupi rfl
theorem s12_48q : Runs 12 48 ls (.ref a :: st) h Q ↔ Runs 12 49 ls (.ref a :: .ref a :: st) h Q := R_dupr rfl
theorem s12_49 (ht : tg a = 2) : Runs 12 49 ls (.ref a :: st) (n, tg, ln, I, J, O) Q ↔ Runs 12 52 ls (.int (I a 2) :: st) (n, tg, ln, I, J, O) Q := R_geti rfl rfl rfl rfl ht
theorem s12_52 : Runs 12 52 ls st h Q ↔ Runs 12 53 ls (.int 1 :: st) h Q := R_iconst rfl rfl
theorem s12_53 : Runs 12 53 ls (.int j :: .int i :: st) h Q ↔ Runs 12 54 ls (.int (i + j) :: st) h Q := R_iadd rfl
theorem s12_54 (ht : tg a = 2) : Runs 12 54 ls (.int i :: .ref a :: st) (n, tg, ln, I, J, O) Q ↔ Runs 12 57 ls st (n, tg, ln, zu I a 2 i, J, O) Q := R_puti rfl rfl rfl rfl rfl rfl ht
theorem s12_57 : Runs 12 57 ls [] h Q ↔ Q none h := R_vret rfl rfl
theorem s13_0 : Runs 13 0 [some (.ref a), x1] st h Q ↔ Runs 13 1 [some (.ref a), x1] (.ref a :: st) h Q := R_aldn rfl rfl
theorem s13_0q : Runs 13 0 [some (zrf r), x1] st h Q ↔ Runs 13 1 [some (zrf r), x1] (zrf r :: st) h Q := R_aldnq rfl rfl
theorem s13_1 (ht : tg a = 2) : Runs 13 1 ls (.ref a :: st) (n, tg, ln, I, J, O) Q ↔ Runs 13 4 ls (.int (I a 2) :: st) (n, tg, ln, I, J, O) Q := R_geti rfl rfl rfl rfl ht
theorem s13_4 : Runs 13 4 ls (.int i :: st) h Q ↔ if ¬ i = 0 then Runs 13 9 ls st h Q else Runs 13 7 ls st h Q := R_ifne rfl rfl
theorem s13_7 : Runs 13 7 ls st h Q ↔ Runs 13 8 ls (.int 0 :: st) h Q := R_iconst rfl rfl
theorem s13_8 (hx : i = 0 ∨ i = 1) : Runs 13 8 ls [.int i] h Q ↔ Q (some (.int i)) h := R_zret rfl rfl hx
theorem s13_9 : Runs 13 9 [some (.ref a), x1] st h Q ↔ Runs 13 10 [some (.ref a), x1] (.ref a :: st) h Q := R_aldn rfl rfl
theorem s13_9q : Runs 13 9 [some (zrf r), x1] st h Q ↔ Runs 13 10 [some (zrf r), x1] (zrf r :: st) h Q := R_aldnq rfl rfl
theorem s13_10 : Runs 13 10 [some (.ref a), x1] st h Q ↔ Runs 13 11 [some (.ref a), x1] (.ref a :: st) h Q := R_aldn rfl rfl
theorem s13_10q : Runs 13 10 [some (zrf r), x1] st h Q ↔ Runs 13 11 [some (zrf r), x1] (zrf r :: st) h Q := R_aldnq rfl rfl
theorem s13_11 (ht : tg a = 2) : Runs 13 11 ls (.ref a :: st) (n, tg, ln, I, J, O) Q ↔ Runs 13 14 ls (.int (I a 1) :: st) (n, tg, ln, I, J, O) Q := R_geti rfl rfl rfl rfl ht
theorem s13_14 : Runs 13 14 ls (.int i :: st) h Q ↔ if i ≤ 0 then Runs 13 26 ls st h Q else Runs 13 17 ls st h Q := R_ifle rfl rfl
theorem s13_17 : Runs 13 17 [some (.ref a), x1] st h Q ↔ Runs 13 18 [some (.ref a), x1] (.ref a :: st) h Q := R_aldn rfl rfl
theorem s13_17q : Runs 13 17 [some (zrf r), x1] st h Q ↔ Runs 13 18 [some (zrf r), x1] (zrf r :: st) h Q := R_aldnq rfl rfl
theorem s13_18 (ht : tg a = 2) : Runs 13 18 ls (.ref a :: st) (n, tg, ln, I, J, O) Q ↔ Runs 13 21 ls (.int (I a 1) :: st) (n, tg, ln, I, J, O) Q := R_geti rfl rfl rfl rfl ht
theorem s13_21 : Runs 13 21 ls st h Q ↔ Runs 13 22 ls (.int 1 :: st) h Q := R_iconst rfl rfl
theorem s13_22 : Runs 13 22 ls (.int j :: .int i :: st) h Q ↔ Runs 13 23 ls (.int (i - j) :: st) h Q := R_isub rfl
theorem s13_23 : Runs 13 23 ls st h Q ↔ Runs 13 28 ls st h Q := R_goto rfl rfl
theorem s13_26 : Runs 13 26 ls st h Q ↔ Runs 13 28 ls (.int 7 :: st) h Q := R_bipush rfl (by decide)
theorem s13_28 (ht : tg a = 2) : Runs 13 28 ls (.int i :: .ref a :: st) (n, tg, ln, I, J, O) Q ↔ Runs 13 31 ls st (n, tg, ln, zu I a 1 i, J, O) Q := R_puti rfl rfl rfl rfl rfl rfl ht
theorem s13_31 : Runs 13 31 [some (.ref a), x1] st h Q ↔ Runs 13 32 [some (.ref a), x1] (.ref a :: st) h Q := R_aldn rfl rfl
theorem s13_31q : Runs 13 31 [some (zrf r), x1] st h Q ↔ Runs 13 32 [some (zrf r), x1] (zrf r :: st) h Q := R_aldnq rfl rfl
theorem s13_32 : Runs 13 32 ls (.int i :: st) h Q ↔ Runs 13 33 ls (.int i :: .int i :: st) h Q := R_dupi rfl
theorem s13_32q : Runs 13 32 ls (.ref a :: st) h Q ↔ Runs 13 33 ls (.ref a :: .ref a :: st) h Q := R_dupr rfl
theorem s13_33 (ht : tg a = 2) : Runs 13 33 ls (.ref a :: st) (n, tg, ln, I, J, O) Q ↔ Runs 13 36 ls (.int (I a 2) :: st) (n, tg, ln, I, J, O) Q := R_geti rfl rfl rfl rfl ht
theorem s13_36 : Runs 13 36 ls st h Q ↔ Runs 13 37 ls (.int 1 :: st) h Q := R_iconst rfl rfl
theorem s13_37 : Runs 13 37 ls (.int j :: .int i :: st) h Q ↔ Runs 13 38 ls (.int (i - j) :: st) h Q := R_isub rfl
theorem s13_38 (ht : tg a = 2) : Runs 13 38 ls (.int i :: .ref a :: st) (n, tg, ln, I, J, O) Q ↔ Runs 13 41 ls st (n, tg, ln, zu I a 2 i, J, O) Q := R_puti rfl rfl rfl rfl rfl rfl ht
theorem s13_41 : Runs 13 41 [x0, some (.ref a)] st h Q ↔ Runs 13 42 [x0, some (.ref a)] (.ref a :: st) h Q := R_aldn rfl rfl
theorem s13_41q : Runs 13 41 [x0, some (zrf r)] st h Q ↔ Runs 13 42 [x0, some (zrf r)] (zrf r :: st) h Q := R_aldnq rfl rfl
theorem s13_42 : Runs 13 42 [some (.ref a), x1] st h Q ↔ Runs 13 43 [some (.ref a), x1] (.ref a :: st) h Q := R_aldn rfl rfl
theorem s13_42q : Runs 13 42 [some (zrf r), x1] st h Q ↔ Runs 13 43 [some (zrf r), x1] (zrf r :: st) h Q := R_aldnq rfl rfl
theorem s13_43 (ht : tg a = 2) : Runs 13 43 ls (.ref a :: st) (n, tg, ln, I, J, O) Q ↔ Runs 13 46 ls (zrf (O a 0) :: st) (n, tg, ln, I, J, O) Q := R_getr rfl rfl rfl rfl ht
theorem s13_46 : Runs 13 46 [some (.ref a), x1] st h Q ↔ Runs 13 47 [some (.ref a), x1] (.ref a :: st) h Q := R_aldn rfl rfl
theorem s13_46q : Runs 13 46 [some (zrf r), x1] st h Q ↔ Runs 13 47 [some (zrf r), x1] (zrf r :: st) h Q := R_aldnq rfl rfl
theorem s13_47 (ht : tg a = 2) : Runs 13 47 ls (.ref a :: st) (n, tg, ln, I, J, O) Q ↔ Runs 13 50 ls (.int (I a 1) :: st) (n, tg, ln, I, J, O) Q := R_geti rfl rfl rfl rfl ht
theorem s13_50 (ht : tg a = 23) : Runs 13 50 ls (.int i :: .ref a :: st) (n, tg, ln, I, J, O) Q ↔ ((0 ≤ i ∧ i < Int32.ofNat (ln a)) ∧ Runs 13 51 ls (zrf (O a i) :: st) (n, tg, ln, I, J, O) Q) := R_aald rfl ht (by decide)
theorem s13_50q (ht : tg a = 24) : Runs 13 50 ls (.int i :: .ref a :: st) (n, tg, ln, I, J, O) Q ↔ ((0 ≤ i ∧ i < Int32.ofNat (ln a)) ∧ Runs 13 51 ls (zrf (O a i) :: st) (n, tg, ln, I, J, O) Q) := R_aald rfl ht (by decide)
theorem s13_50p (ht : tg a = 25) : Runs 13 50 ls (.int i :: .ref a :: st) (n, tg, ln, I, J, O) Q ↔ ((0 ≤ i ∧ i < Int32.ofNat (ln a)) ∧ Runs 13 51 ls (zrf (O a i) :: st) (n, tg, ln, I, J, O) Q) := R_aald rfl ht (by decide)
theorem s13_51 (ht : tg a = 5) (hs : zsumc st ≤ 8) : Runs 13 51 ls (.ref b0 :: .ref a :: st) (n, tg, ln, I, J, O) Q ↔ Runs 38 0 [some (.ref a), some (.ref b0)] [] (n, tg, ln, I, J, O) (fun v h2 => Runs 13 54 ls (v.toList ++ st) h2 Q) := R_callv (a := a) (rest := st) rfl rfl rfl rfl rfl rfl rfl ht hs
theorem s13_51q (ht : tg a = 5) (hs : zsumc st ≤ 8) : Runs 13 51 ls (zrf r0 :: .ref a :: st) (n, tg, ln, I, J, O) Q ↔ Runs 38 0 [some (.ref a), some (zrf r0)] [] (n, tg, ln, I, J, O) (fun v h2 => Runs 13 54 ls (v.toList ++ st) h2 Q) := by cases r0 <;> exact R_callv (a := a) (rest := st) rfl rfl rfl rfl rfl rfl rfl ht hs
theorem s13_54 : Runs 13 54 ls st h Q ↔ Runs 13 55 ls (.int 1 :: st) h Q := R_iconst rfl rfl
theorem s13_55 (hx : i = 0 ∨ i = 1) : Runs 13 55 ls [.int i] h Q ↔ Q (some (.int i)) h := R_zret rfl rfl hx
theorem s14_0 : Runs 14 0 [some (.ref a), x1, x2, x3, x4] st h Q ↔ Runs 14 1 [some (.ref a), x1, x2, x3, x4] (.ref a :: st) h Q := R_aldn rfl rfl
theorem s14_0q : Runs 14 0 [some (zrf r), x1, x2, x3, x4] st h Q ↔ Runs 14 1 [some (zrf r), x1, x2, x3, x4] (zrf r :: st) h Q := R_aldnq rfl rfl
theorem s14_1 (hs : zsumc st ≤ 8) : Runs 14 1 ls (.ref a :: st) h Q ↔ Runs 14 4 ls st h Q := R_objI rfl rfl hs
theorem s14_4 : Runs 14 4 [some (.ref a), x1, x2, x3, x4] st h Q ↔ Runs 14 5 [some (.ref a), x1, x2, x3, x4] (.ref a :: st) h Q := R_aldn rfl rfl
theorem s14_4q : Runs 14 4 [some (zrf r), x1, x2, x3, x4] st h Q ↔ Runs 14 5 [some (zrf r), x1, x2, x3, x4] (zrf r :: st) h Q := R_aldnq rfl rfl
theorem s14_5 : Runs 14 5 [x0, some (.int i), x2, x3, x4] st h Q ↔ Runs 14 6 [x0, some (.int i), x2, x3, x4] (.int i :: st) h Q := R_ildn rfl rfl
theorem s14_6 (ht : tg a = 3) : Runs 14 6 ls (.int i :: .ref a :: st) (n, tg, ln, I, J, O) Q ↔ Runs 14 9 ls st (n, tg, ln, zu I a 0 i, J, O) Q := R_puti rfl rfl rfl rfl rfl rfl ht
theorem s14_9 : Runs 14 9 [some (.ref a), x1, x2, x3, x4] st h Q ↔ Runs 14 10 [some (.ref a), x1, x2, x3, x4] (.ref a :: st) h Q := R_aldn rfl rfl
theorem s14_9q : Runs 14 9 [some (zrf r), x1, x2, x3, x4] st h Q ↔ Runs 14 10 [some (zrf r), x1, x2, x3, x4] (zrf r :: st) h Q := R_aldnq rfl rfl
theorem s14_10 : Runs 14 10 [x0, x1, some (.long u), x3, x4] st h Q ↔ Runs 14 11 [x0, x1, some (.long u), x3, x4] (.long u :: st) h Q := R_lldn rfl rfl
theorem s14_11 (ht : tg a = 3) : Runs 14 11 ls (.long u :: .ref a :: st) (n, tg, ln, I, J, O) Q ↔ Runs 14 14 ls st (n, tg, ln, I, zu J a 1 u, O) Q := R_putl rfl rfl rfl rfl rfl ht
theorem s14_14 : Runs 14 14 [some (.ref a), x1, x2, x3, x4] st h Q ↔ Runs 14 15 [some (.ref a), x1, x2, x3, x4] (.ref a :: st) h Q := R_aldn rfl rfl
theorem s14_14q : Runs 14 14 [some (zrf r), x1, x2, x3, x4] st h Q ↔ Runs 14 15 [some (zrf r), x1, x2, x3, x4] (zrf r :: st) h Q := R_aldnq rfl rfl
theorem s14_15 : Runs 14 15 [x0, x1, x2, x3, some (.ref a)] st h Q ↔ Runs 14 17 [x0, x1, x2, x3, some (.ref a)] (.ref a :: st) h Q := R_ald rfl rfl
theorem s14_15q : Runs 14 15 [x0, x1, x2, x3, some (zrf r)] st h Q ↔ Runs 14 17 [x0, x1, x2, x3, some (zrf r)] (zrf r :: st) h Q := R_aldq rfl rfl
theorem s14_17 (ht : tg a = 3) : Runs 14 17 ls (zrf r :: .ref a :: st) (n, tg, ln, I, J, O) Q ↔ Runs 14 20 ls st (n, tg, ln, I, J, zu O a 2 r) Q := R_putr rfl rfl rfl rfl rfl ht
theorem s14_17q (ht : tg a = 3) : Runs 14 17 ls (.ref b :: .ref a :: st) (n, tg, ln, I, J, O) Q ↔ Runs 14 20 ls st (n, tg, ln, I, J, zu O a 2 (some b)) Q := R_putr (x := some b) rfl rfl rfl rfl rfl ht
theorem s14_20 : Runs 14 20 [some (.ref a), x1, x2, x3, x4] st h Q ↔ Runs 14 21 [some (.ref a), x1, x2, x3, x4] (.ref a :: st) h Q := R_aldn rfl rfl
theorem s14_20q : Runs 14 20 [some (zrf r), x1, x2, x3, x4] st h Q ↔ Runs 14 21 [some (zrf r), x1, x2, x3, x4] (zrf r :: st) h Q := R_aldnq rfl rfl
theorem s14_21 : Runs 14 21 [x0, x1, x2, x3, some (.ref a)] st h Q ↔ Runs 14 23 [x0, x1, x2, x3, some (.ref a)] (.ref a :: st) h Q := R_ald rfl rfl
theorem s14_21q : Runs 14 21 [x0, x1, x2, x3, some (zrf r)] st h Q ↔ Runs 14 23 [x0, x1, x2, x3, some (zrf r)] (zrf r :: st) h Q := R_aldq rfl rfl
theorem s14_23 : Runs 14 23 ls (zrf r :: st) h Q ↔ if r = none then Runs 14 26 ls st h Q else Runs 14 30 ls st h Q := R_ifnn rfl rfl
theorem s14_26 : Runs 14 26 ls st h Q ↔ Runs 14 27 ls (.int 1 :: st) h Q := R_iconst rfl rfl
theorem s14_27 : Runs 14 27 ls st h Q ↔ Runs 14 37 ls st h Q := R_goto rfl rfl
theorem s14_30 : Runs 14 30 [x0, x1, x2, x3, some (.ref a)] st h Q ↔ Runs 14 32 [x0, x1, x2, x3, some (.ref a)] (.ref a :: st) h Q := R_ald rfl rfl
theorem s14_30q : Runs 14 30 [x0, x1, x2, x3, some (zrf r)] st h Q ↔ Runs 14 32 [x0, x1, x2, x3, some (zrf r)] (zrf r :: st) h Q := R_aldq rfl rfl
theorem s14_32 (ht : tg a = 3) : Runs 14 32 ls (.ref a :: st) (n, tg, ln, I, J, O) Q ↔ Runs 14 35 ls (.int (I a 3) :: st) (n, tg, ln, I, J, O) Q := R_geti rfl rfl rfl rfl ht
theorem s14_35 : Runs 14 35 ls st h Q ↔ Runs 14 36 ls (.int 1 :: st) h Q := R_iconst rfl rfl
theorem s14_36 : Runs 14 36 ls (.int j :: .int i :: st) h Q ↔ Runs 14 37 ls (.int (i + j) :: st) h Q := R_iadd rfl
theorem s14_37 (ht : tg a = 3) : Runs 14 37 ls (.int i :: .ref a :: st) (n, tg, ln, I, J, O) Q ↔ Runs 14 40 ls st (n, tg, ln, zu I a 3 i, J, O) Q := R_puti rfl rfl rfl rfl rfl rfl ht
theorem s14_40 : Runs 14 40 ls [] h Q ↔ Q none h := R_vret rfl rfl
theorem s15_0 : Runs 15 0 [x0, some (.int i)] st h Q ↔ Runs 15 1 [x0, some (.int i)] (.int i :: st) h Q := R_ildn rfl rfl
theorem s15_1 : Runs 15 1 [some (.ref a), x1] st h Q ↔ Runs 15 2 [some (.ref a), x1] (.ref a :: st) h Q := R_aldn rfl rfl
theorem s15_1q : Runs 15 1 [some (zrf r), x1] st h Q ↔ Runs 15 2 [some (zrf r), x1] (zrf r :: st) h Q := R_aldnq rfl rfl
theorem s15_2 (ht : tg a = 3) : Runs 15 2 ls (.ref a :: st) (n, tg, ln, I, J, O) Q ↔ Runs 15 5 ls (.int (I a 0) :: st) (n, tg, ln, I, J, O) Q := R_geti rfl rfl rfl rfl ht
theorem s15_5 : Runs 15 5 ls (.int j :: .int i :: st) h Q ↔ if i = j then Runs 15 11 ls st h Q else Runs 15 8 ls st h Q := R_iceq rfl rfl
theorem s15_8 : Runs 15 8 ls st h Q ↔ Runs 15 10 ls (.int (-14) :: st) h Q := R_bipush rfl (by decide)
theorem s15_10 : Runs 15 10 ls [.int i] h Q ↔ Q (some (.int i)) h := R_iret rfl rfl
theorem s15_11 : Runs 15 11 [some (.ref a), x1] st h Q ↔ Runs 15 12 [some (.ref a), x1] (.ref a :: st) h Q := R_aldn rfl rfl
theorem s15_11q : Runs 15 11 [some (zrf r), x1] st h Q ↔ Runs 15 12 [some (zrf r), x1] (zrf r :: st) h Q := R_aldnq rfl rfl
theorem s15_12 (ht : tg a = 3) : Runs 15 12 ls (.ref a :: st) (n, tg, ln, I, J, O) Q ↔ Runs 15 15 ls (zrf (O a 2) :: st) (n, tg, ln, I, J, O) Q := R_getr rfl rfl rfl rfl ht
theorem s15_15 : Runs 15 15 ls (zrf r :: st) h Q ↔ if r = none then Runs 15 26 ls st h Q else Runs 15 18 ls st h Q := R_ifnull rfl rfl
theorem s15_18 : Runs 15 18 [some (.ref a), x1] st h Q ↔ Runs 15 19 [some (.ref a), x1] (.ref a :: st) h Q := R_aldn rfl rfl
theorem s15_18q : Runs 15 18 [some (zrf r), x1] st h Q ↔ Runs 15 19 [some (zrf r), x1] (zrf r :: st) h Q := R_aldnq rfl rfl
theorem s15_19 (ht : tg a = 3) : Runs 15 19 ls (.ref a :: st) (n, tg, ln, I, J, O) Q ↔ Runs 15 22 ls (zrf (O a 2) :: st) (n, tg, ln, I, J, O) Q := R_getr rfl rfl rfl rfl ht
theorem s15_22 (ht : tg a = 3) : Runs 15 22 ls (.ref a :: st) (n, tg, ln, I, J, O) Q ↔ Runs 15 25 ls (.int (I a 3) :: st) (n, tg, ln, I, J, O) Q := R_geti rfl rfl rfl rfl ht
theorem s15_25 : Runs 15 25 ls [.int i] h Q ↔ Q (some (.int i)) h := R_iret rfl rfl
theorem s15_26 : Runs 15 26 [some (.ref a), x1] st h Q ↔ Runs 15 27 [some (.ref a), x1] (.ref a :: st) h Q := R_aldn rfl rfl
theorem s15_26q : Runs 15 26 [some (zrf r), x1] st h Q ↔ Runs 15 27 [some (zrf r), x1] (zrf r :: st) h Q := R_aldnq rfl rfl
theorem s15_27 (ht : tg a = 3) : Runs 15 27 ls (.ref a :: st) (n, tg, ln, I, J, O) Q ↔ Runs 15 30 ls (.int (I a 0) :: st) (n, tg, ln, I, J, O) Q := R_geti rfl rfl rfl rfl ht
theorem s15_30 : Runs 15 30 ls (.int i :: st) h Q ↔ if ¬ i = 0 then Runs 15 40 ls st h Q else Runs 15 33 ls st h Q := R_ifne rfl rfl
theorem s15_33 : Runs 15 33 [some (.ref a), x1] st h Q ↔ Runs 15 34 [some (.ref a), x1] (.ref a :: st) h Q := R_aldn rfl rfl
theorem s15_33q : Runs 15 33 [some (zrf r), x1] st h Q ↔ Runs 15 34 [some (zrf r), x1] (zrf r :: st) h Q := R_aldnq rfl rfl
theorem s15_34 (ht : tg a = 3) (hs : zsumc st ≤ 8) : Runs 15 34 ls (.ref a :: st) (n, tg, ln, I, J, O) Q ↔ Runs 16 0 [some (.ref a)] [] (n, tg, ln, I, J, O) (fun v h2 => Runs 15 37 ls (v.toList ++ st) h2 Q) := R_callv (a := a) (rest := st) rfl rfl rfl rfl rfl rfl rfl ht hs
theorem s15_37 : Runs 15 37 ls st h Q ↔ Runs 15 45 ls st h Q := R_goto rfl rfl
theorem s15_40 : Runs 15 40 [some (.ref a), x1] st h Q ↔ Runs 15 41 [some (.ref a), x1] (.ref a :: st) h Q := R_aldn rfl rfl
theorem s15_40q : Runs 15 40 [some (zrf r), x1] st h Q ↔ Runs 15 41 [some (zrf r), x1] (zrf r :: st) h Q := R_aldnq rfl rfl
theorem s15_41 (ht : tg a = 3) : Runs 15 41 ls (.ref a :: st) (n, tg, ln, I, J, O) Q ↔ Runs 15 44 ls (.long (J a 1) :: st) (n, tg, ln, I, J, O) Q := R_getl rfl rfl rfl rfl ht
theorem s15_44 : Runs 15 44 ls (.long u :: st) h Q ↔ Runs 15 45 ls (.int u.toInt32 :: st) h Q := R_l2i rfl
theorem s15_45 : Runs 15 45 ls [.int i] h Q ↔ Q (some (.int i)) h := R_iret rfl rfl
theorem s16_0 : Runs 16 0 [some (.ref a)] st h Q ↔ Runs 16 1 [some (.ref a)] (.ref a :: st) h Q := R_aldn rfl rfl
theorem s16_0q : Runs 16 0 [some (zrf r)] st h Q ↔ Runs 16 1 [some (zrf r)] (zrf r :: st) h Q := R_aldnq rfl rfl
theorem s16_1 (ht : tg a = 3) : Runs 16 1 ls (.ref a :: st) (n, tg, ln, I, J, O) Q ↔ Runs 16 4 ls (.long (J a 1) :: st) (n, tg, ln, I, J, O) Q := R_getl rfl rfl rfl rfl ht
theorem s16_4 : Runs 16 4 ls st h Q ↔ Runs 16 5 ls (.long 0 :: st) h Q := R_lconst rfl rfl
theorem s16_5 : Runs 16 5 ls (.long w :: .long u :: st) h Q ↔ Runs 16 6 ls (.int (lg_cmp u w) :: st) h Q := R_lcmp rfl
theorem s16_6 : Runs 16 6 ls (.int i :: st) h Q ↔ if i < 0 then Runs 16 21 ls st h Q else Runs 16 9 ls st h Q := R_iflt rfl rfl
theorem s16_9 : Runs 16 9 [some (.ref a)] st h Q ↔ Runs 16 10 [some (.ref a)] (.ref a :: st) h Q := R_aldn rfl rfl
theorem s16_9q : Runs 16 9 [some (zrf r)] st h Q ↔ Runs 16 10 [some (zrf r)] (zrf r :: st) h Q := R_aldnq rfl rfl
theorem s16_10 (ht : tg a = 3) : Runs 16 10 ls (.ref a :: st) (n, tg, ln, I, J, O) Q ↔ Runs 16 13 ls (.long (J a 1) :: st) (n, tg, ln, I, J, O) Q := R_getl rfl rfl rfl rfl ht
theorem s16_13 : Runs 16 13 ls st h Q ↔ Runs 16 16 ls (.long 1000003 :: st) h Q := R_ldc2 rfl rfl
theorem s16_16 : Runs 16 16 ls (.long w :: .long u :: st) h Q ↔ (¬ w = 0 ∧ Runs 16 17 ls (.long (u - u / w * w) :: st) h Q) := R_lrem rfl
theorem s16_17 : Runs 16 17 ls (.long u :: st) h Q ↔ Runs 16 18 ls (.int u.toInt32 :: st) h Q := R_l2i rfl
theorem s16_18 : Runs 16 18 ls st h Q ↔ Runs 16 37 ls st h Q := R_goto rfl rfl
theorem s16_21 : Runs 16 21 [some (.ref a)] st h Q ↔ Runs 16 22 [some (.ref a)] (.ref a :: st) h Q := R_aldn rfl rfl
theorem s16_21q : Runs 16 21 [some (zrf r)] st h Q ↔ Runs 16 22 [some (zrf r)] (zrf r :: st) h Q := R_aldnq rfl rfl
theorem s16_22 (ht : tg a = 3) : Runs 16 22 ls (.ref a :: st) (n, tg, ln, I, J, O) Q ↔ Runs 16 25 ls (.long (J a 1) :: st) (n, tg, ln, I, J, O) Q := R_getl rfl rfl rfl rfl ht
theorem s16_25 : Runs 16 25 ls st h Q ↔ Runs 16 28 ls (.long (-1) :: st) h Q := R_ldc2 rfl rfl
theorem s16_28 : Runs 16 28 ls (.long w :: .long u :: st) h Q ↔ Runs 16 29 ls (.long (u ^^^ w) :: st) h Q := R_lxor rfl
theorem s16_29 : Runs 16 29 ls st h Q ↔ Runs 16 32 ls (.long 1000003 :: st) h Q := R_ldc2 rfl rfl
theorem s16_32 : Runs 16 32 ls (.long w :: .long u :: st) h Q ↔ (¬ w = 0 ∧ Runs 16 33 ls (.long (u - u / w * w) :: st) h Q) := R_lrem rfl
theorem s16_33 : Runs 16 33 ls (.long u :: st) h Q ↔ Runs 16 34 ls (.int u.toInt32 :: st) h Q := R_l2i rfl
theorem s16_34 : Runs 16 34 ls st h Q ↔ Runs 16 36 ls (.int 2000000 :: st) h Q := R_ldc rfl rfl
theorem s16_36 : Runs 16 36 ls (.int j :: .int i :: st) h Q ↔ Runs 16 37 ls (.int (i + j) :: st) h Q := R_iadd rfl
theorem s16_37 : Runs 16 37 ls [.int i] h Q ↔ Q (some (.int i)) h := R_iret rfl rfl
theorem s32_0 : Runs 32 0 ls st h Q ↔ Runs 32 1 ls (.long 0 :: st) h Q := R_lconst rfl rfl
theorem s32_1 : Runs 32 1 [x0, x1, x2, x3, x4, x5, x6] (.long u :: st) h Q ↔ Runs 32 3 [x0, x1, x2, zdrop x3, some (.long u), none, x6] st h Q := R_lst rfl rfl rfl
theorem s32_3 : Runs 32 3 [some (.int i), x1, x2, x3, x4, x5, x6] st h Q ↔ Runs 32 4 [some (.int i), x1, x2, x3, x4, x5, x6] (.int i :: st) h Q := R_ildn rfl rfl
theorem s32_4 : Runs 32 4 [x0, x1, x2, x3, x4, x5, x6] (.int i :: st) h Q ↔ Runs 32 6 [x0, x1, x2, x3, x4, zdrop x5, some (.int i)] st h Q := R_ist rfl rfl rfl
theorem s32_6 : Runs 32 6 [x0, x1, x2, x3, x4, x5, some (.int i)] st h Q ↔ Runs 32 8 [x0, x1, x2, x3, x4, x5, some (.int i)] (.int i :: st) h Q := R_ild rfl rfl
theorem s32_8 : Runs 32 8 [x0, some (.int i), x2, x3, x4, x5, x6] st h Q ↔ Runs 32 9 [x0, some (.int i), x2, x3, x4, x5, x6] (.int i :: st) h Q := R_ildn rfl rfl
theorem s32_9 : Runs 32 9 ls (.int j :: .int i :: st) h Q ↔ if j < i then Runs 32 47 ls st h Q else Runs 32 12 ls st h Q := R_icgt rfl rfl
theorem s32_12 : Runs 32 12 [x0, x1, x2, x3, some (.long u), x5, x6] st h Q ↔ Runs 32 14 [x0, x1, x2, x3, some (.long u), x5, x6] (.long u :: st) h Q := R_lld rfl rfl
theorem s32_14 : Runs 32 14 [x0, some (.int i), x2, x3, x4, x5, x6] st h Q ↔ Runs 32 15 [x0, some (.int i), x2, x3, x4, x5, x6] (.int i :: st) h Q := R_ildn rfl rfl
theorem s32_15 : Runs 32 15 [x0, x1, x2, x3, x4, x5, some (.int i)] st h Q ↔ Runs 32 17 [x0, x1, x2, x3, x4, x5, some (.int i)] (.int i :: st) h Q := R_ild rfl rfl
theorem s32_17 (hs : zsumc st ≤ 8) : Runs 32 17 ls (.int i1 :: .int i0 :: st) h Q ↔ Runs 35 0 [some (.int i0), some (.int i1), none, none, none] [] h (fun v h2 => Runs 32 20 ls (v.toList ++ st) h2 Q) := R_calls (rest := st) rfl rfl rfl (by simp) rfl rfl rfl rfl hs
theorem s32_20 : Runs 32 20 [x0, x1, some (.int i), x3, x4, x5, x6] st h Q ↔ Runs 32 21 [x0, x1, some (.int i), x3, x4, x5, x6] (.int i :: st) h Q := R_ildn rfl rfl
theorem s32_21 : Runs 32 21 ls (.int i :: st) h Q ↔ Runs 32 22 ls (.long i.toInt64 :: st) h Q := R_i2l rfl
theorem s32_22 : Runs 32 22 [x0, x1, x2, x3, x4, x5, some (.int i)] st h Q ↔ Runs 32 24 [x0, x1, x2, x3, x4, x5, some (.int i)] (.int i :: st) h Q := R_ild rfl rfl
theorem s32_24 (hs : zsumc st ≤ 8) : Runs 32 24 ls (.int i1 :: .long u0 :: st) h Q ↔ Runs 33 0 [some (.long u0), none, some (.int i1), none, none, none] [] h (fun v h2 => Runs 32 27 ls (v.toList ++ st) h2 Q) := R_calls (rest := st) rfl rfl rfl (by simp) rfl rfl rfl rfl hs
theorem s32_27 : Runs 32 27 ls (.long w :: .long u :: st) h Q ↔ Runs 32 28 ls (.long (u * w) :: st) h Q := R_lmul rfl
theorem s32_28 : Runs 32 28 [x0, x1, x2, some (.int i), x4, x5, x6] st h Q ↔ Runs 32 29 [x0, x1, x2, some (.int i), x4, x5, x6] (.int i :: st) h Q := R_ildn rfl rfl
theorem s32_29 : Runs 32 29 ls (.int i :: st) h Q ↔ Runs 32 30 ls (.long i.toInt64 :: st) h Q := R_i2l rfl
theorem s32_30 : Runs 32 30 [x0, some (.int i), x2, x3, x4, x5, x6] st h Q ↔ Runs 32 31 [x0, some (.int i), x2, x3, x4, x5, x6] (.int i :: st) h Q := R_ildn rfl rfl
theorem s32_31 : Runs 32 31 [x0, x1, x2, x3, x4, x5, some (.int i)] st h Q ↔ Runs 32 33 [x0, x1, x2, x3, x4, x5, some (.int i)] (.int i :: st) h Q := R_ild rfl rfl
theorem s32_33 : Runs 32 33 ls (.int j :: .int i :: st) h Q ↔ Runs 32 34 ls (.int (i - j) :: st) h Q := R_isub rfl
theorem s32_34 (hs : zsumc st ≤ 8) : Runs 32 34 ls (.int i1 :: .long u0 :: st) h Q ↔ Runs 33 0 [some (.long u0), none, some (.int i1), none, none, none] [] h (fun v h2 => Runs 32 37 ls (v.toList ++ st) h2 Q) := R_calls (rest := st) rfl rfl rfl (by simp) rfl rfl rfl rfl hs
theorem s32_37 : Runs 32 37 ls (.long w :: .long u :: st) h Q ↔ Runs 32 38 ls (.long (u * w) :: st) h Q := R_lmul rfl
theorem s32_38 : Runs 32 38 ls (.long w :: .long u :: st) h Q ↔ Runs 32 39 ls (.long (u + w) :: st) h Q := R_ladd rfl
theorem s32_39 : Runs 32 39 [x0, x1, x2, x3, x4, x5, x6] (.long u :: st) h Q ↔ Runs 32 41 [x0, x1, x2, zdrop x3, some (.long u), none, x6] st h Q := R_lst rfl rfl rfl
theorem s32_41 : Runs 32 41 [x0, x1, x2, x3, x4, x5, some (.int i)] st h Q ↔ Runs 32 44 [x0, x1, x2, x3, x4, zdrop x5, some (.int (i + 1))] st h Q := R_iinc rfl rfl rfl rfl rfl
theorem s32_44 : Runs 32 44 ls st h Q ↔ Runs 32 6 ls st h Q := R_goto rfl rfl
theorem s32_47 : Runs 32 47 [x0, x1, x2, x3, some (.long u), x5, x6] st h Q ↔ Runs 32 49 [x0, x1, x2, x3, some (.long u), x5, x6] (.long u :: st) h Q := R_lld rfl rfl
theorem s32_49 : Runs 32 49 ls [.long u] h Q ↔ Q (some (.long u)) h := R_lret rfl rfl
theorem s33_0 : Runs 33 0 ls st h Q ↔ Runs 33 1 ls (.long 1 :: st) h Q := R_lconst rfl rfl
theorem s33_1 : Runs 33 1 [x0, x1, x2, x3, x4, x5] (.long u :: st) h Q ↔ Runs 33 2 [x0, x1, zdrop x2, some (.long u), none, x5] st h Q := R_lstn rfl rfl rfl
theorem s33_2 : Runs 33 2 ls st h Q ↔ Runs 33 3 ls (.int 0 :: st) h Q := R_iconst rfl rfl
theorem s33_3 : Runs 33 3 [x0, x1, x2, x3, x4, x5] (.int i :: st) h Q ↔ Runs 33 5 [x0, x1, x2, x3, zdrop x4, some (.int i)] st h Q := R_ist rfl rfl rfl
theorem s33_5 : Runs 33 5 [x0, x1, x2, x3, x4, some (.int i)] st h Q ↔ Runs 33 7 [x0, x1, x2, x3, x4, some (.int i)] (.int i :: st) h Q := R_ild rfl rfl
theorem s33_7 : Runs 33 7 [x0, x1, some (.int i), x3, x4, x5] st h Q ↔ Runs 33 8 [x0, x1, some (.int i), x3, x4, x5] (.int i :: st) h Q := R_ildn rfl rfl
theorem s33_8 : Runs 33 8 ls (.int j :: .int i :: st) h Q ↔ if j ≤ i then Runs 33 21 ls st h Q else Runs 33 11 ls st h Q := R_icge rfl rfl
theorem s33_11 : Runs 33 11 [x0, x1, x2, some (.long u), x4, x5] st h Q ↔ Runs 33 12 [x0, x1, x2, some (.long u), x4, x5] (.long u :: st) h Q := R_lldn rfl rfl
theorem s33_12 : Runs 33 12 [some (.long u), x1, x2, x3, x4, x5] st h Q ↔ Runs 33 13 [some (.long u), x1, x2, x3, x4, x5] (.long u :: st) h Q := R_lldn rfl rfl
theorem s33_13 : Runs 33 13 ls (.long w :: .long u :: st) h Q ↔ Runs 33 14 ls (.long (u * w) :: st) h Q := R_lmul rfl
theorem s33_14 : Runs 33 14 [x0, x1, x2, x3, x4, x5] (.long u :: st) h Q ↔ Runs 33 15 [x0, x1, zdrop x2, some (.long u), none, x5] st h Q := R_lstn rfl rfl rfl
theorem s33_15 : Runs 33 15 [x0, x1, x2, x3, x4, some (.int i)] st h Q ↔ Runs 33 18 [x0, x1, x2, x3, zdrop x4, some (.int (i + 1))] st h Q := R_iinc rfl rfl rfl rfl rfl
theorem s33_18 : Runs 33 18 ls st h Q ↔ Runs 33 5 ls st h Q := R_goto rfl rfl
theorem s33_21 : Runs 33 21 [x0, x1, x2, some (.long u), x4, x5] st h Q ↔ Runs 33 22 [x0, x1, x2, some (.long u), x4, x5] (.long u :: st) h Q := R_lldn rfl rfl
theorem s33_22 : Runs 33 22 ls [.long u] h Q ↔ Q (some (.long u)) h := R_lret rfl rfl
theorem s34_0 : Runs 34 0 [some (.long u), x1, x2, x3, x4, x5, x6, x7, x8, x9, x10] st h Q ↔ Runs 34 1 [some (.long u), x1, x2, x3, x4, x5, x6, x7, x8, x9, x10] (.long u :: st) h Q := R_lldn rfl rfl
theorem s34_1 : Runs 34 1 [x0, x1, x2, x3, x4, x5, x6, x7, x8, x9, x10] (.long u :: st) h Q ↔ Runs 34 3 [x0, x1, x2, zdrop x3, some (.long u), none, x6, x7, x8, x9, x10] st h Q := R_lst rfl rfl rfl
theorem s34_3 : Runs 34 3 [x0, x1, some (.long u), x3, x4, x5, x6, x7, x8, x9, x10] st h Q ↔ Runs 34 4 [x0, x1, some (.long u), x3, x4, x5, x6, x7, x8, x9, x10] (.long u :: st) h Q := R_lldn rfl rfl
theorem s34_4 : Runs 34 4 [x0, x1, x2, x3, x4, x5, x6, x7, x8, x9, x10] (.long u :: st) h Q ↔ Runs 34 6 [x0, x1, x2, x3, x4, zdrop x5, some (.long u), none, x8, x9, x10] st h Q := R_lst rfl rfl rfl
theorem s34_6 : Runs 34 6 ls st h Q ↔ Runs 34 7 ls (.int 0 :: st) h Q := R_iconst rfl rfl
theorem s34_7 : Runs 34 7 [x0, x1, x2, x3, x4, x5, x6, x7, x8, x9, x10] (.int i :: st) h Q ↔ Runs 34 9 [x0, x1, x2, x3, x4, x5, x6, zdrop x7, some (.int i), x9, x10] st h Q := R_ist rfl rfl rfl
theorem s34_9 : Runs 34 9 [x0, x1, x2, x3, x4, x5, x6, x7, some (.int i), x9, x10] st h Q ↔ Runs 34 11 [x0, x1, x2, x3, x4, x5, x6, x7, some (.int i), x9, x10] (.int i :: st) h Q := R_ild rfl rfl
theorem s34_11 : Runs 34 11 ls st h Q ↔ Runs 34 13 ls (.int 100 :: st) h Q := R_bipush rfl (by decide)
theorem s34_13 : Runs 34 13 ls (.int j :: .int i :: st) h Q ↔ if j ≤ i then Runs 34 44 ls st h Q else Runs 34 16 ls st h Q := R_icge rfl rfl
theorem s34_16 : Runs 34 16 [x0, x1, x2, x3, x4, x5, some (.long u), x7, x8, x9, x10] st h Q ↔ Runs 34 18 [x0, x1, x2, x3, x4, x5, some (.long u), x7, x8, x9, x10] (.long u :: st) h Q := R_lld rfl rfl
theorem s34_18 : Runs 34 18 ls st h Q ↔ Runs 34 19 ls (.long 0 :: st) h Q := R_lconst rfl rfl
theorem s34_19 : Runs 34 19 ls (.long w :: .long u :: st) h Q ↔ Runs 34 20 ls (.int (lg_cmp u w) :: st) h Q := R_lcmp rfl
theorem s34_20 : Runs 34 20 ls (.int i :: st) h Q ↔ if i = 0 then Runs 34 44 ls st h Q else Runs 34 23 ls st h Q := R_ifeq rfl rfl
theorem s34_23 : Runs 34 23 [x0, x1, x2, x3, some (.long u), x5, x6, x7, x8, x9, x10] st h Q ↔ Runs 34 25 [x0, x1, x2, x3, some (.long u), x5, x6, x7, x8, x9, x10] (.long u :: st) h Q := R_lld rfl rfl
theorem s34_25 : Runs 34 25 [x0, x1, x2, x3, x4, x5, some (.long u), x7, x8, x9, x10] st h Q ↔ Runs 34 27 [x0, x1, x2, x3, x4, x5, some (.long u), x7, x8, x9, x10] (.long u :: st) h Q := R_lld rfl rfl
theorem s34_27 : Runs 34 27 ls (.long w :: .long u :: st) h Q ↔ (¬ w = 0 ∧ Runs 34 28 ls (.long (u - u / w * w) :: st) h Q) := R_lrem rfl
theorem s34_28 : Runs 34 28 [x0, x1, x2, x3, x4, x5, x6, x7, x8, x9, x10] (.long u :: st) h Q ↔ Runs 34 30 [x0, x1, x2, x3, x4, x5, x6, x7, zdrop x8, some (.long u), none] st h Q := R_lst rfl rfl rfl
theorem s34_30 : Runs 34 30 [x0, x1, x2, x3, x4, x5, some (.long u), x7, x8, x9, x10] st h Q ↔ Runs 34 32 [x0, x1, x2, x3, x4, x5, some (.long u), x7, x8, x9, x10] (.long u :: st) h Q := R_lld rfl rfl
theorem s34_32 : Runs 34 32 [x0, x1, x2, x3, x4, x5, x6, x7, x8, x9, x10] (.long u :: st) h Q ↔ Runs 34 34 [x0, x1, x2, zdrop x3, some (.long u), none, x6, x7, x8, x9, x10] st h Q := R_lst rfl rfl rfl
theorem s34_34 : Runs 34 34 [x0, x1, x2, x3, x4, x5, x6, x7, x8, some (.long u), x10] st h Q ↔ Runs 34 36 [x0, x1, x2, x3, x4, x5, x6, x7, x8, some (.long u), x10] (.long u :: st) h Q := R_lld rfl rfl
theorem s34_36 : Runs 34 36 [x0, x1, x2, x3, x4, x5, x6, x7, x8, x9, x10] (.long u :: st) h Q ↔ Runs 34 38 [x0, x1, x2, x3, x4, zdrop x5, some (.long u), none, x8, x9, x10] st h Q := R_lst rfl rfl rfl
theorem s34_38 : Runs 34 38 [x0, x1, x2, x3, x4, x5, x6, x7, some (.int i), x9, x10] st h Q ↔ Runs 34 41 [x0, x1, x2, x3, x4, x5, x6, zdrop x7, some (.int (i + 1)), x9, x10] st h Q := R_iinc rfl rfl rfl rfl rfl
theorem s34_41 : Runs 34 41 ls st h Q ↔ Runs 34 9 ls st h Q := R_goto rfl rfl
theorem s34_44 : Runs 34 44 [x0, x1, x2, x3, some (.long u), x5, x6, x7, x8, x9, x10] st h Q ↔ Runs 34 46 [x0, x1, x2, x3, some (.long u), x5, x6, x7, x8, x9, x10] (.long u :: st) h Q := R_lld rfl rfl
theorem s34_46 : Runs 34 46 ls [.long u] h Q ↔ Q (some (.long u)) h := R_lret rfl rfl
theorem s35_0 : Runs 35 0 ls st h Q ↔ Runs 35 1 ls (.long 1 :: st) h Q := R_lconst rfl rfl
theorem s35_1 : Runs 35 1 [x0, x1, x2, x3, x4] (.long u :: st) h Q ↔ Runs 35 2 [x0, zdrop x1, some (.long u), none, x4] st h Q := R_lstn rfl rfl rfl
theorem s35_2 : Runs 35 2 ls st h Q ↔ Runs 35 3 ls (.int 1 :: st) h Q := R_iconst rfl rfl
theorem s35_3 : Runs 35 3 [x0, x1, x2, x3, x4] (.int i :: st) h Q ↔ Runs 35 5 [x0, x1, x2, zdrop x3, some (.int i)] st h Q := R_ist rfl rfl rfl
theorem s35_5 : Runs 35 5 [x0, x1, x2, x3, some (.int i)] st h Q ↔ Runs 35 7 [x0, x1, x2, x3, some (.int i)] (.int i :: st) h Q := R_ild rfl rfl
theorem s35_7 : Runs 35 7 [x0, some (.int i), x2, x3, x4] st h Q ↔ Runs 35 8 [x0, some (.int i), x2, x3, x4] (.int i :: st) h Q := R_ildn rfl rfl
theorem s35_8 : Runs 35 8 ls (.int j :: .int i :: st) h Q ↔ if j < i then Runs 35 31 ls st h Q else Runs 35 11 ls st h Q := R_icgt rfl rfl
theorem s35_11 : Runs 35 11 [x0, x1, some (.long u), x3, x4] st h Q ↔ Runs 35 12 [x0, x1, some (.long u), x3, x4] (.long u :: st) h Q := R_lldn rfl rfl
theorem s35_12 : Runs 35 12 [some (.int i), x1, x2, x3, x4] st h Q ↔ Runs 35 13 [some (.int i), x1, x2, x3, x4] (.int i :: st) h Q := R_ildn rfl rfl
theorem s35_13 : Runs 35 13 [x0, some (.int i), x2, x3, x4] st h Q ↔ Runs 35 14 [x0, some (.int i), x2, x3, x4] (.int i :: st) h Q := R_ildn rfl rfl
theorem s35_14 : Runs 35 14 ls (.int j :: .int i :: st) h Q ↔ Runs 35 15 ls (.int (i - j) :: st) h Q := R_isub rfl
theorem s35_15 : Runs 35 15 [x0, x1, x2, x3, some (.int i)] st h Q ↔ Runs 35 17 [x0, x1, x2, x3, some (.int i)] (.int i :: st) h Q := R_ild rfl rfl
theorem s35_17 : Runs 35 17 ls (.int j :: .int i :: st) h Q ↔ Runs 35 18 ls (.int (i + j) :: st) h Q := R_iadd rfl
theorem s35_18 : Runs 35 18 ls (.int i :: st) h Q ↔ Runs 35 19 ls (.long i.toInt64 :: st) h Q := R_i2l rfl
theorem s35_19 : Runs 35 19 ls (.long w :: .long u :: st) h Q ↔ Runs 35 20 ls (.long (u * w) :: st) h Q := R_lmul rfl
theorem s35_20 : Runs 35 20 [x0, x1, x2, x3, some (.int i)] st h Q ↔ Runs 35 22 [x0, x1, x2, x3, some (.int i)] (.int i :: st) h Q := R_ild rfl rfl
theorem s35_22 : Runs 35 22 ls (.int i :: st) h Q ↔ Runs 35 23 ls (.long i.toInt64 :: st) h Q := R_i2l rfl
theorem s35_23 : Runs 35 23 ls (.long w :: .long u :: st) h Q ↔ (¬ w = 0 ∧ Runs 35 24 ls (.long (u / w) :: st) h Q) := R_ldiv rfl
theorem s35_24 : Runs 35 24 [x0, x1, x2, x3, x4] (.long u :: st) h Q ↔ Runs 35 25 [x0, zdrop x1, some (.long u), none, x4] st h Q := R_lstn rfl rfl rfl
theorem s35_25 : Runs 35 25 [x0, x1, x2, x3, some (.int i)] st h Q ↔ Runs 35 28 [x0, x1, x2, zdrop x3, some (.int (i + 1))] st h Q := R_iinc rfl rfl rfl rfl rfl
theorem s35_28 : Runs 35 28 ls st h Q ↔ Runs 35 5 ls st h Q := R_goto rfl rfl
theorem s35_31 : Runs 35 31 [x0, x1, some (.long u), x3, x4] st h Q ↔ Runs 35 32 [x0, x1, some (.long u), x3, x4] (.long u :: st) h Q := R_lldn rfl rfl
theorem s35_32 : Runs 35 32 ls [.long u] h Q ↔ Q (some (.long u)) h := R_lret rfl rfl
theorem s59_0 : Runs 59 0 [some (.ref a), x1] st h Q ↔ Runs 59 1 [some (.ref a), x1] (.ref a :: st) h Q := R_aldn rfl rfl
theorem s59_0q : Runs 59 0 [some (zrf r), x1] st h Q ↔ Runs 59 1 [some (zrf r), x1] (zrf r :: st) h Q := R_aldnq rfl rfl
theorem s59_1 (ht : tg a = 6) : Runs 59 1 ls (.ref a :: st) (n, tg, ln, I, J, O) Q ↔ Runs 59 4 ls (zrf (O a 2) :: st) (n, tg, ln, I, J, O) Q := R_getr rfl rfl rfl rfl ht
theorem s59_4 : Runs 59 4 [some (.ref a), x1] st h Q ↔ Runs 59 5 [some (.ref a), x1] (.ref a :: st) h Q := R_aldn rfl rfl
theorem s59_4q : Runs 59 4 [some (zrf r), x1] st h Q ↔ Runs 59 5 [some (zrf r), x1] (zrf r :: st) h Q := R_aldnq rfl rfl
theorem s59_5 (ht : tg a = 6) : Runs 59 5 ls (.ref a :: st) (n, tg, ln, I, J, O) Q ↔ Runs 59 8 ls (zrf (O a 1) :: st) (n, tg, ln, I, J, O) Q := R_getr rfl rfl rfl rfl ht
theorem s59_8 (ht : tg a = 5) (hs : zsumc st ≤ 8) : Runs 59 8 ls (.ref b0 :: .ref a :: st) (n, tg, ln, I, J, O) Q ↔ Runs 38 0 [some (.ref a), some (.ref b0)] [] (n, tg, ln, I, J, O) (fun v h2 => Runs 59 11 ls (v.toList ++ st) h2 Q) := R_callv (a := a) (rest := st) rfl rfl rfl rfl rfl rfl rfl ht hs
theorem s59_8q (ht : tg a = 5) (hs : zsumc st ≤ 8) : Runs 59 8 ls (zrf r0 :: .ref a :: st) (n, tg, ln, I, J, O) Q ↔ Runs 38 0 [some (.ref a), some (zrf r0)] [] (n, tg, ln, I, J, O) (fun v h2 => Runs 59 11 ls (v.toList ++ st) h2 Q) := by cases r0 <;> exact R_callv (a := a) (rest := st) rfl rfl rfl rfl rfl rfl rfl ht hs
theorem s59_11 : Runs 59 11 [some (.ref a), x1] st h Q ↔ Runs 59 12 [some (.ref a), x1] (.ref a :: st) h Q := R_aldn rfl rfl
theorem s59_11q : Runs 59 11 [some (zrf r), x1] st h Q ↔ Runs 59 12 [some (zrf r), x1] (zrf r :: st) h Q := R_aldnq rfl rfl
theorem s59_12 : Runs 59 12 ls st h Q ↔ Runs 59 13 ls (.int 0 :: st) h Q := R_iconst rfl rfl
theorem s59_13 (ht : tg a = 6) : Runs 59 13 ls (.int i :: .ref a :: st) (n, tg, ln, I, J, O) Q ↔ Runs 59 16 ls st (n, tg, ln, zu I a 4 i, J, O) Q := R_puti rfl rfl rfl rfl rfl rfl ht
theorem s59_16 : Runs 59 16 [some (.ref a), x1] st h Q ↔ Runs 59 17 [some (.ref a), x1] (.ref a :: st) h Q := R_aldn rfl rfl
theorem s59_16q : Runs 59 16 [some (zrf r), x1] st h Q ↔ Runs 59 17 [some (zrf r), x1] (zrf r :: st) h Q := R_aldnq rfl rfl
theorem s59_17 : Runs 59 17 ls st h Q ↔ Runs 59 18 ls (.int 0 :: st) h Q := R_iconst rfl rfl
theorem s59_18 (ht : tg a = 6) : Runs 59 18 ls (.int i :: .ref a :: st) (n, tg, ln, I, J, O) Q ↔ Runs 59 21 ls st (n, tg, ln, zu I a 7 i, J, O) Q := R_puti rfl rfl rfl rfl rfl rfl ht
theorem s59_21 : Runs 59 21 ls st h Q ↔ Runs 59 22 ls (.int 0 :: st) h Q := R_iconst rfl rfl
theorem s59_22 : Runs 59 22 [x0, x1] (.int i :: st) h Q ↔ Runs 59 23 [zdrop x0, some (.int i)] st h Q := R_istn rfl rfl rfl
theorem s59_23 : Runs 59 23 [x0, some (.int i)] st h Q ↔ Runs 59 24 [x0, some (.int i)] (.int i :: st) h Q := R_ildn rfl rfl
theorem s59_24 : Runs 59 24 ls st h Q ↔ Runs 59 26 ls (.int 20 :: st) h Q := R_bipush rfl (by decide)
theorem s59_26 : Runs 59 26 ls (.int j :: .int i :: st) h Q ↔ if j ≤ i then Runs 59 99 ls st h Q else Runs 59 29 ls st h Q := R_icge rfl rfl
theorem s59_29 : Runs 59 29 [some (.ref a), x1] st h Q ↔ Runs 59 30 [some (.ref a), x1] (.ref a :: st) h Q := R_aldn rfl rfl
theorem s59_29q : Runs 59 29 [some (zrf r), x1] st h Q ↔ Runs 59 30 [some (zrf r), x1] (zrf r :: st) h Q := R_aldnq rfl rfl
theorem s59_30 (ht : tg a = 6) (hs : zsumc st ≤ 8) : Runs 59 30 ls (.ref a :: st) (n, tg, ln, I, J, O) Q ↔ Runs 69 0 [some (.ref a)] [] (n, tg, ln, I, J, O) (fun v h2 => Runs 59 33 ls (v.toList ++ st) h2 Q) := R_callv (a := a) (rest := st) rfl rfl rfl rfl rfl rfl rfl ht hs
theorem s59_33 : Runs 59 33 [some (.ref a), x1] st h Q ↔ Runs 59 34 [some (.ref a), x1] (.ref a :: st) h Q := R_aldn rfl rfl
theorem s59_33q : Runs 59 33 [some (zrf r), x1] st h Q ↔ Runs 59 34 [some (zrf r), x1] (zrf r :: st) h Q := R_aldnq rfl rfl
theorem s59_34 (ht : tg a = 6) (hs : zsumc st ≤ 8) : Runs 59 34 ls (.ref a :: st) (n, tg, ln, I, J, O) Q ↔ Runs 61 0 [some (.ref a), none] [] (n, tg, ln, I, J, O) (fun v h2 => Runs 59 37 ls (v.toList ++ st) h2 Q) := R_callv (a := a) (rest := st) rfl rfl rfl rfl rfl rfl rfl ht hs
theorem s59_37 : Runs 59 37 ls (.int i :: st) h Q ↔ if ¬ i = 0 then Runs 59 45 ls st h Q else Runs 59 40 ls st h Q := R_ifne rfl rfl
theorem s59_40 : Runs 59 40 [some (.ref a), x1] st h Q ↔ Runs 59 41 [some (.ref a), x1] (.ref a :: st) h Q := R_aldn rfl rfl
theorem s59_40q : Runs 59 40 [some (zrf r), x1] st h Q ↔ Runs 59 41 [some (zrf r), x1] (zrf r :: st) h Q := R_aldnq rfl rfl
theorem s59_41 (ht : tg a = 6) : Runs 59 41 ls (.ref a :: st) (n, tg, ln, I, J, O) Q ↔ Runs 59 44 ls (.int (I a 3) :: st) (n, tg, ln, I, J, O) Q := R_geti rfl rfl rfl rfl ht
theorem s59_44 : Runs 59 44 ls [.int i] h Q ↔ Q (some (.int i)) h := R_iret rfl rfl
theorem s59_45 : Runs 59 45 [some (.ref a), x1] st h Q ↔ Runs 59 46 [some (.ref a), x1] (.ref a :: st) h Q := R_aldn rfl rfl
theorem s59_45q : Runs 59 45 [some (zrf r), x1] st h Q ↔ Runs 59 46 [some (zrf r), x1] (zrf r :: st) h Q := R_aldnq rfl rfl
theorem s59_46 : Runs 59 46 ls (.int i :: st) h Q ↔ Runs 59 47 ls (.int i :: .int i :: st) h Q := R_dupi rfl
theorem s59_46q : Runs 59 46 ls (.ref a :: st) h Q ↔ Runs 59 47 ls (.ref a :: .ref a :: st) h Q := R_dupr rfl
theorem s59_47 (ht : tg a = 6) : Runs 59 47 ls (.ref a :: st) (n, tg, ln, I, J, O) Q ↔ Runs 59 50 ls (.int (I a 7) :: st) (n, tg, ln, I, J, O) Q := R_geti rfl rfl rfl rfl ht
theorem s59_50 : Runs 59 50 ls st h Q ↔ Runs 59 51 ls (.int 1 :: st) h Q := R_iconst rfl rfl
theorem s59_51 : Runs 59 51 ls (.int j :: .int i :: st) h Q ↔ Runs 59 52 ls (.int (i + j) :: st) h Q := R_iadd rfl
theorem s59_52 (ht : tg a = 6) : Runs 59 52 ls (.int i :: .ref a :: st) (n, tg, ln, I, J, O) Q ↔ Runs 59 55 ls st (n, tg, ln, zu I a 7 i, J, O) Q := R_puti rfl rfl rfl rfl rfl rfl ht
theorem s59_55 : Runs 59 55 [some (.ref a), x1] st h Q ↔ Runs 59 56 [some (.ref a), x1] (.ref a :: st) h Q := R_aldn rfl rfl
theorem s59_55q : Runs 59 55 [some (zrf r), x1] st h Q ↔ Runs 59 56 [some (zrf r), x1] (zrf r :: st) h Q := R_aldnq rfl rfl
theorem s59_56 (ht : tg a = 6) : Runs 59 56 ls (.ref a :: st) (n, tg, ln, I, J, O) Q ↔ Runs 59 59 ls (.int (I a 5) :: st) (n, tg, ln, I, J, O) Q := R_geti rfl rfl rfl rfl ht
theorem s59_59 : Runs 59 59 ls (.int i :: st) h Q ↔ if ¬ i = 0 then Runs 59 64 ls st h Q else Runs 59 62 ls st h Q := R_ifne rfl rfl
theorem s59_62 : Runs 59 62 ls st h Q ↔ Runs 59 63 ls (.int (-1) :: st) h Q := R_iconst rfl rfl
theorem s59_63 : Runs 59 63 ls [.int i] h Q ↔ Q (some (.int i)) h := R_iret rfl rfl
theorem s59_64 : Runs 59 64 [some (.ref a), x1] st h Q ↔ Runs 59 65 [some (.ref a), x1] (.ref a :: st) h Q := R_aldn rfl rfl
theorem s59_64q : Runs 59 64 [some (zrf r), x1] st h Q ↔ Runs 59 65 [some (zrf r), x1] (zrf r :: st) h Q := R_aldnq rfl rfl
theorem s59_65 (ht : tg a = 6) : Runs 59 65 ls (.ref a :: st) (n, tg, ln, I, J, O) Q ↔ Runs 59 68 ls (.int (I a 5) :: st) (n, tg, ln, I, J, O) Q := R_geti rfl rfl rfl rfl ht
theorem s59_68 : Runs 59 68 ls st h Q ↔ Runs 59 69 ls (.int 3 :: st) h Q := R_iconst rfl rfl
theorem s59_69 : Runs 59 69 ls (.int j :: .int i :: st) h Q ↔ if ¬ i = j then Runs 59 88 ls st h Q else Runs 59 72 ls st h Q := R_icne rfl rfl
theorem s59_72 : Runs 59 72 [some (.ref a), x1] st h Q ↔ Runs 59 73 [some (.ref a), x1] (.ref a :: st) h Q := R_aldn rfl rfl
theorem s59_72q : Runs 59 72 [some (zrf r), x1] st h Q ↔ Runs 59 73 [some (zrf r), x1] (zrf r :: st) h Q := R_aldnq rfl rfl
theorem s59_73 (ht : tg a = 6) : Runs 59 73 ls (.ref a :: st) (n, tg, ln, I, J, O) Q ↔ Runs 59 76 ls (zrf (O a 0) :: st) (n, tg, ln, I, J, O) Q := R_getr rfl rfl rfl rfl ht
theorem s59_76 : Runs 59 76 [some (.ref a), x1] st h Q ↔ Runs 59 77 [some (.ref a), x1] (.ref a :: st) h Q := R_aldn rfl rfl
theorem s59_76q : Runs 59 76 [some (zrf r), x1] st h Q ↔ Runs 59 77 [some (zrf r), x1] (zrf r :: st) h Q := R_aldnq rfl rfl
theorem s59_77 (ht : tg a = 6) : Runs 59 77 ls (.ref a :: st) (n, tg, ln, I, J, O) Q ↔ Runs 59 80 ls (.int (I a 3) :: st) (n, tg, ln, I, J, O) Q := R_geti rfl rfl rfl rfl ht
theorem s59_80 (ht : tg a = 8) (hs : zsumc st ≤ 8) : Runs 59 80 ls (.int i0 :: .ref a :: st) (n, tg, ln, I, J, O) Q ↔ Runs 79 0 [some (.ref a), some (.int i0)] [] (n, tg, ln, I, J, O) (fun v h2 => Runs 59 83 ls (v.toList ++ st) h2 Q) := R_callv (a := a) (rest := st) rfl rfl rfl rfl rfl rfl rfl ht hs
theorem s59_83 : Runs 59 83 ls st h Q ↔ Runs 59 85 ls (.int 59 :: st) h Q := R_bipush rfl (by decide)
theorem s59_85 : Runs 59 85 ls (.int j :: .int i :: st) h Q ↔ if i = j then Runs 59 93 ls st h Q else Runs 59 88 ls st h Q := R_iceq rfl rfl
theorem s59_88 : Runs 59 88 [some (.ref a), x1] st h Q ↔ Runs 59 89 [some (.ref a), x1] (.ref a :: st) h Q := R_aldn rfl rfl
theorem s59_88q : Runs 59 88 [some (zrf r), x1] st h Q ↔ Runs 59 89 [some (zrf r), x1] (zrf r :: st) h Q := R_aldnq rfl rfl
theorem s59_89 (ht : tg a = 6) : Runs 59 89 ls (.ref a :: st) (n, tg, ln, I, J, O) Q ↔ Runs 59 92 ls (.int (I a 3) :: st) (n, tg, ln, I, J, O) Q := R_geti rfl rfl rfl rfl ht
theorem s59_92 : Runs 59 92 ls [.int i] h Q ↔ Q (some (.int i)) h := R_iret rfl rfl
theorem s59_93 : Runs 59 93 [x0, some (.int i)] st h Q ↔ Runs 59 96 [zdrop x0, some (.int (i + 1))] st h Q := R_iinc rfl rfl rfl rfl rfl
theorem s59_96 : Runs 59 96 ls st h Q ↔ Runs 59 23 ls st h Q := R_goto rfl rfl
theorem s59_99 : Runs 59 99 [some (.ref a), x1] st h Q ↔ Runs 59 100 [some (.ref a), x1] (.ref a :: st) h Q := R_aldn rfl rfl
theorem s59_99q : Runs 59 99 [some (zrf r), x1] st h Q ↔ Runs 59 100 [some (zrf r), x1] (zrf r :: st) h Q := R_aldnq rfl rfl
theorem s59_100 (ht : tg a = 6) : Runs 59 100 ls (.ref a :: st) (n, tg, ln, I, J, O) Q ↔ Runs 59 103 ls (.int (I a 3) :: st) (n, tg, ln, I, J, O) Q := R_geti rfl rfl rfl rfl ht
theorem s59_103 : Runs 59 103 ls [.int i] h Q ↔ Q (some (.int i)) h := R_iret rfl rfl
theorem s60_0 : Runs 60 0 [some (.ref a)] st h Q ↔ Runs 60 1 [some (.ref a)] (.ref a :: st) h Q := R_aldn rfl rfl
theorem s60_0q : Runs 60 0 [some (zrf r)] st h Q ↔ Runs 60 1 [some (zrf r)] (zrf r :: st) h Q := R_aldnq rfl rfl
theorem s60_1 (ht : tg a = 6) : Runs 60 1 ls (.ref a :: st) (n, tg, ln, I, J, O) Q ↔ Runs 60 4 ls (zrf (O a 1) :: st) (n, tg, ln, I, J, O) Q := R_getr rfl rfl rfl rfl ht
theorem s60_4 : Runs 60 4 [some (.ref a)] st h Q ↔ Runs 60 5 [some (.ref a)] (.ref a :: st) h Q := R_aldn rfl rfl
theorem s60_4q : Runs 60 4 [some (zrf r)] st h Q ↔ Runs 60 5 [some (zrf r)] (zrf r :: st) h Q := R_aldnq rfl rfl
theorem s60_5 (ht : tg a = 6) : Runs 60 5 ls (.ref a :: st) (n, tg, ln, I, J, O) Q ↔ Runs 60 8 ls (zrf (O a 2) :: st) (n, tg, ln, I, J, O) Q := R_getr rfl rfl rfl rfl ht
theorem s60_8 (ht : tg a = 5) (hs : zsumc st ≤ 8) : Runs 60 8 ls (.ref b0 :: .ref a :: st) (n, tg, ln, I, J, O) Q ↔ Runs 38 0 [some (.ref a), some (.ref b0)] [] (n, tg, ln, I, J, O) (fun v h2 => Runs 60 11 ls (v.toList ++ st) h2 Q) := R_callv (a := a) (rest := st) rfl rfl rfl rfl rfl rfl rfl ht hs
theorem s60_8q (ht : tg a = 5) (hs : zsumc st ≤ 8) : Runs 60 8 ls (zrf r0 :: .ref a :: st) (n, tg, ln, I, J, O) Q ↔ Runs 38 0 [some (.ref a), some (zrf r0)] [] (n, tg, ln, I, J, O) (fun v h2 => Runs 60 11 ls (v.toList ++ st) h2 Q) := by cases r0 <;> exact R_callv (a := a) (rest := st) rfl rfl rfl rfl rfl rfl rfl ht hs
theorem s60_11 : Runs 60 11 [some (.ref a)] st h Q ↔ Runs 60 12 [some (.ref a)] (.ref a :: st) h Q := R_aldn rfl rfl
theorem s60_11q : Runs 60 11 [some (zrf r)] st h Q ↔ Runs 60 12 [some (zrf r)] (zrf r :: st) h Q := R_aldnq rfl rfl
theorem s60_12 (ht : tg a = 6) : Runs 60 12 ls (.ref a :: st) (n, tg, ln, I, J, O) Q ↔ Runs 60 15 ls (zrf (O a 0) :: st) (n, tg, ln, I, J, O) Q := R_getr rfl rfl rfl rfl ht
theorem s60_15 (ht : tg a = 8) (hs : zsumc st ≤ 8) : Runs 60 15 ls (.ref a :: st) (n, tg, ln, I, J, O) Q ↔ Runs 77 0 [some (.ref a)] [] (n, tg, ln, I, J, O) (fun v h2 => Runs 60 18 ls (v.toList ++ st) h2 Q) := R_callv (a := a) (rest := st) rfl rfl rfl rfl rfl rfl rfl ht hs
theorem s60_18 : Runs 60 18 ls [] h Q ↔ Q none h := R_vret rfl rfl
theorem s61_0 : Runs 61 0 [some (.ref a), x1] st h Q ↔ Runs 61 1 [some (.ref a), x1] (.ref a :: st) h Q := R_aldn rfl rfl
theorem s61_0q : Runs 61 0 [some (zrf r), x1] st h Q ↔ Runs 61 1 [some (zrf r), x1] (zrf r :: st) h Q := R_aldnq rfl rfl
theorem s61_1 : Runs 61 1 ls st h Q ↔ Runs 61 3 ls (.ref 1 :: st) h Q := R_ldc rfl rfl
theorem s61_3 (ht : tg a = 6) (hs : zsumc st ≤ 8) : Runs 61 3 ls (.ref b0 :: .ref a :: st) (n, tg, ln, I, J, O) Q ↔ Runs 67 0 [some (.ref a), some (.ref b0), none] [] (n, tg, ln, I, J, O) (fun v h2 => Runs 61 6 ls (v.toList ++ st) h2 Q) := R_callv (a := a) (rest := st) rfl rfl rfl rfl rfl rfl rfl ht hs
theorem s61_3q (ht : tg a = 6) (hs : zsumc st ≤ 8) : Runs 61 3 ls (zrf r0 :: .ref a :: st) (n, tg, ln, I, J, O) Q ↔ Runs 67 0 [some (.ref a), some (zrf r0), none] [] (n, tg, ln, I, J, O) (fun v h2 => Runs 61 6 ls (v.toList ++ st) h2 Q) := by cases r0 <;> exact R_callv (a := a) (rest := st) rfl rfl rfl rfl rfl rfl rfl ht hs
theorem s61_6 : Runs 61 6 ls (.int i :: st) h Q ↔ if i = 0 then Runs 61 22 ls st h Q else Runs 61 9 ls st h Q := R_ifeq rfl rfl
theorem s61_9 : Runs 61 9 [some (.ref a), x1] st h Q ↔ Runs 61 10 [some (.ref a), x1] (.ref a :: st) h Q := R_aldn rfl rfl
theorem s61_9q : Runs 61 9 [some (zrf r), x1] st h Q ↔ Runs 61 10 [some (zrf r), x1] (zrf r :: st) h Q := R_aldnq rfl rfl
theorem s61_10 (ht : tg a = 6) : Runs 61 10 ls (.ref a :: st) (n, tg, ln, I, J, O) Q ↔ Runs 61 13 ls (zrf (O a 2) :: st) (n, tg, ln, I, J, O) Q := R_getr rfl rfl rfl rfl ht
theorem s61_13 (ht : tg a = 5) (hs : zsumc st ≤ 8) : Runs 61 13 ls (.ref a :: st) (n, tg, ln, I, J, O) Q ↔ Runs 37 0 [some (.ref a)] [] (n, tg, ln, I, J, O) (fun v h2 => Runs 61 16 ls (v.toList ++ st) h2 Q) := R_callv (a := a) (rest := st) rfl rfl rfl rfl rfl rfl rfl ht hs
theorem s61_16 : Runs 61 16 [some (.ref a), x1] st h Q ↔ Runs 61 17 [some (.ref a), x1] (.ref a :: st) h Q := R_aldn rfl rfl
theorem s61_16q : Runs 61 16 [some (zrf r), x1] st h Q ↔ Runs 61 17 [some (zrf r), x1] (zrf r :: st) h Q := R_aldnq rfl rfl
theorem s61_17 (ht : tg a = 6) (hs : zsumc st ≤ 8) : Runs 61 17 ls (.ref a :: st) (n, tg, ln, I, J, O) Q ↔ Runs 69 0 [some (.ref a)] [] (n, tg, ln, I, J, O) (fun v h2 => Runs 61 20 ls (v.toList ++ st) h2 Q) := R_callv (a := a) (rest := st) rfl rfl rfl rfl rfl rfl rfl ht hs
theorem s61_20 : Runs 61 20 ls st h Q ↔ Runs 61 21 ls (.int 1 :: st) h Q := R_iconst rfl rfl
theorem s61_21 (hx : i = 0 ∨ i = 1) : Runs 61 21 ls [.int i] h Q ↔ Q (some (.int i)) h := R_zret rfl rfl hx
theorem s61_22 : Runs 61 22 [some (.ref a), x1] st h Q ↔ Runs 61 23 [some (.ref a), x1] (.ref a :: st) h Q := R_aldn rfl rfl
theorem s61_22q : Runs 61 22 [some (zrf r), x1] st h Q ↔ Runs 61 23 [some (zrf r), x1] (zrf r :: st) h Q := R_aldnq rfl rfl
theorem s61_23 : Runs 61 23 ls st h Q ↔ Runs 61 25 ls (.ref 2 :: st) h Q := R_ldc rfl rfl
theorem s61_25 (ht : tg a = 6) (hs : zsumc st ≤ 8) : Runs 61 25 ls (.ref b0 :: .ref a :: st) (n, tg, ln, I, J, O) Q ↔ Runs 67 0 [some (.ref a), some (.ref b0), none] [] (n, tg, ln, I, J, O) (fun v h2 => Runs 61 28 ls (v.toList ++ st) h2 Q) := R_callv (a := a) (rest := st) rfl rfl rfl rfl rfl rfl rfl ht hs
theorem s61_25q (ht : tg a = 6) (hs : zsumc st ≤ 8) : Runs 61 25 ls (zrf r0 :: .ref a :: st) (n, tg, ln, I, J, O) Q ↔ Runs 67 0 [some (.ref a), some (zrf r0), none] [] (n, tg, ln, I, J, O) (fun v h2 => Runs 61 28 ls (v.toList ++ st) h2 Q) := by cases r0 <;> exact R_callv (a := a) (rest := st) rfl rfl rfl rfl rfl rfl rfl ht hs
theorem s61_28 : Runs 61 28 ls (.int i :: st) h Q ↔ if i = 0 then Runs 61 40 ls st h Q else Runs 61 31 ls st h Q := R_ifeq rfl rfl
theorem s61_31 : Runs 61 31 [some (.ref a), x1] st h Q ↔ Runs 61 32 [some (.ref a), x1] (.ref a :: st) h Q := R_aldn rfl rfl
theorem s61_31q : Runs 61 31 [some (zrf r), x1] st h Q ↔ Runs 61 32 [some (zrf r), x1] (zrf r :: st) h Q := R_aldnq rfl rfl
theorem s61_32 (ht : tg a = 6) (hs : zsumc st ≤ 8) : Runs 61 32 ls (.ref a :: st) (n, tg, ln, I, J, O) Q ↔ Runs 69 0 [some (.ref a)] [] (n, tg, ln, I, J, O) (fun v h2 => Runs 61 35 ls (v.toList ++ st) h2 Q) := R_callv (a := a) (rest := st) rfl rfl rfl rfl rfl rfl rfl ht hs
theorem s61_35 : Runs 61 35 [some (.ref a), x1] st h Q ↔ Runs 61 36 [some (.ref a), x1] (.ref a :: st) h Q := R_aldn rfl rfl
theorem s61_35q : Runs 61 35 [some (zrf r), x1] st h Q ↔ Runs 61 36 [some (zrf r), x1] (zrf r :: st) h Q := R_aldnq rfl rfl
theorem s61_36 (ht : tg a = 6) (hs : zsumc st ≤ 8) : Runs 61 36 ls (.ref a :: st) (n, tg, ln, I, J, O) Q ↔ Runs 62 0 [some (.ref a)] [] (n, tg, ln, I, J, O) (fun v h2 => Runs 61 39 ls (v.toList ++ st) h2 Q) := R_callv (a := a) (rest := st) rfl rfl rfl rfl rfl rfl rfl ht hs
theorem s61_39 (hx : i = 0 ∨ i = 1) : Runs 61 39 ls [.int i] h Q ↔ Q (some (.int i)) h := R_zret rfl rfl hx
theorem s61_40 : Runs 61 40 [some (.ref a), x1] st h Q ↔ Runs 61 41 [some (.ref a), x1] (.ref a :: st) h Q := R_aldn rfl rfl
theorem s61_40q : Runs 61 40 [some (zrf r), x1] st h Q ↔ Runs 61 41 [some (zrf r), x1] (zrf r :: st) h Q := R_aldnq rfl rfl
theorem s61_41 : Runs 61 41 ls st h Q ↔ Runs 61 43 ls (.ref 3 :: st) h Q := R_ldc rfl rfl
theorem s61_43 (ht : tg a = 6) (hs : zsumc st ≤ 8) : Runs 61 43 ls (.ref b0 :: .ref a :: st) (n, tg, ln, I, J, O) Q ↔ Runs 67 0 [some (.ref a), some (.ref b0), none] [] (n, tg, ln, I, J, O) (fun v h2 => Runs 61 46 ls (v.toList ++ st) h2 Q) := R_callv (a := a) (rest := st) rfl rfl rfl rfl rfl rfl rfl ht hs
theorem s61_43q (ht : tg a = 6) (hs : zsumc st ≤ 8) : Runs 61 43 ls (zrf r0 :: .ref a :: st) (n, tg, ln, I, J, O) Q ↔ Runs 67 0 [some (.ref a), some (zrf r0), none] [] (n, tg, ln, I, J, O) (fun v h2 => Runs 61 46 ls (v.toList ++ st) h2 Q) := by cases r0 <;> exact R_callv (a := a) (rest := st) rfl rfl rfl rfl rfl rfl rfl ht hs
theorem s61_46 : Runs 61 46 ls (.int i :: st) h Q ↔ if i = 0 then Runs 61 58 ls st h Q else Runs 61 49 ls st h Q := R_ifeq rfl rfl
theorem s61_49 : Runs 61 49 [some (.ref a), x1] st h Q ↔ Runs 61 50 [some (.ref a), x1] (.ref a :: st) h Q := R_aldn rfl rfl
theorem s61_49q : Runs 61 49 [some (zrf r), x1] st h Q ↔ Runs 61 50 [some (zrf r), x1] (zrf r :: st) h Q := R_aldnq rfl rfl
theorem s61_50 (ht : tg a = 6) (hs : zsumc st ≤ 8) : Runs 61 50 ls (.ref a :: st) (n, tg, ln, I, J, O) Q ↔ Runs 69 0 [some (.ref a)] [] (n, tg, ln, I, J, O) (fun v h2 => Runs 61 53 ls (v.toList ++ st) h2 Q) := R_callv (a := a) (rest := st) rfl rfl rfl rfl rfl rfl rfl ht hs
theorem s61_53 : Runs 61 53 [some (.ref a), x1] st h Q ↔ Runs 61 54 [some (.ref a), x1] (.ref a :: st) h Q := R_aldn rfl rfl
theorem s61_53q : Runs 61 53 [some (zrf r), x1] st h Q ↔ Runs 61 54 [some (zrf r), x1] (zrf r :: st) h Q := R_aldnq rfl rfl
theorem s61_54 (ht : tg a = 6) (hs : zsumc st ≤ 8) : Runs 61 54 ls (.ref a :: st) (n, tg, ln, I, J, O) Q ↔ Runs 63 0 [some (.ref a)] [] (n, tg, ln, I, J, O) (fun v h2 => Runs 61 57 ls (v.toList ++ st) h2 Q) := R_callv (a := a) (rest := st) rfl rfl rfl rfl rfl rfl rfl ht hs
theorem s61_57 (hx : i = 0 ∨ i = 1) : Runs 61 57 ls [.int i] h Q ↔ Q (some (.int i)) h := R_zret rfl rfl hx
theorem s61_58 : Runs 61 58 [some (.ref a), x1] st h Q ↔ Runs 61 59 [some (.ref a), x1] (.ref a :: st) h Q := R_aldn rfl rfl
theorem s61_58q : Runs 61 58 [some (zrf r), x1] st h Q ↔ Runs 61 59 [some (zrf r), x1] (zrf r :: st) h Q := R_aldnq rfl rfl
theorem s61_59 (ht : tg a = 6) (hs : zsumc st ≤ 8) : Runs 61 59 ls (.ref a :: st) (n, tg, ln, I, J, O) Q ↔ Runs 66 0 [some (.ref a)] [] (n, tg, ln, I, J, O) (fun v h2 => Runs 61 62 ls (v.toList ++ st) h2 Q) := R_callv (a := a) (rest := st) rfl rfl rfl rfl rfl rfl rfl ht hs
theorem s61_62 : Runs 61 62 [x0, x1] (.int i :: st) h Q ↔ Runs 61 63 [zdrop x0, some (.int i)] st h Q := R_istn rfl rfl rfl
theorem s61_63 : Runs 61 63 [x0, some (.int i)] st h Q ↔ Runs 61 64 [x0, some (.int i)] (.int i :: st) h Q := R_ildn rfl rfl
theorem s61_64 : Runs 61 64 ls st h Q ↔ Runs 61 65 ls (.int (-1) :: st) h Q := R_iconst rfl rfl
theorem s61_65 : Runs 61 65 ls (.int j :: .int i :: st) h Q ↔ if i = j then Runs 61 80 ls st h Q else Runs 61 68 ls st h Q := R_iceq rfl rfl
theorem s61_68 : Runs 61 68 [some (.ref a), x1] st h Q ↔ Runs 61 69 [some (.ref a), x1] (.ref a :: st) h Q := R_aldn rfl rfl
theorem s61_68q : Runs 61 68 [some (zrf r), x1] st h Q ↔ Runs 61 69 [some (zrf r), x1] (zrf r :: st) h Q := R_aldnq rfl rfl
theorem s61_69 (ht : tg a = 6) : Runs 61 69 ls (.ref a :: st) (n, tg, ln, I, J, O) Q ↔ Runs 61 72 ls (zrf (O a 2) :: st) (n, tg, ln, I, J, O) Q := R_getr rfl rfl rfl rfl ht
theorem s61_72 (ht : tg a = 5) : Runs 61 72 ls (.ref a :: st) (n, tg, ln, I, J, O) Q ↔ Runs 61 75 ls (.int (I a 5) :: st) (n, tg, ln, I, J, O) Q := R_geti rfl rfl rfl rfl ht
theorem s61_75 : Runs 61 75 ls st h Q ↔ Runs 61 77 ls (.int 12 :: st) h Q := R_bipush rfl (by decide)
theorem s61_77 : Runs 61 77 ls (.int j :: .int i :: st) h Q ↔ if i < j then Runs 61 82 ls st h Q else Runs 61 80 ls st h Q := R_iclt rfl rfl
theorem s61_80 : Runs 61 80 ls st h Q ↔ Runs 61 81 ls (.int 0 :: st) h Q := R_iconst rfl rfl
theorem s61_81 (hx : i = 0 ∨ i = 1) : Runs 61 81 ls [.int i] h Q ↔ Q (some (.int i)) h := R_zret rfl rfl hx
theorem s61_82 : Runs 61 82 [some (.ref a), x1] st h Q ↔ Runs 61 83 [some (.ref a), x1] (.ref a :: st) h Q := R_aldn rfl rfl
theorem s61_82q : Runs 61 82 [some (zrf r), x1] st h Q ↔ Runs 61 83 [some (zrf r), x1] (zrf r :: st) h Q := R_aldnq rfl rfl
theorem s61_83 (ht : tg a = 6) (hs : zsumc st ≤ 8) : Runs 61 83 ls (.ref a :: st) (n, tg, ln, I, J, O) Q ↔ Runs 69 0 [some (.ref a)] [] (n, tg, ln, I, J, O) (fun v h2 => Runs 61 86 ls (v.toList ++ st) h2 Q) := R_callv (a := a) (rest := st) rfl rfl rfl rfl rfl rfl rfl ht hs
theorem s61_86 : Runs 61 86 [some (.ref a), x1] st h Q ↔ Runs 61 87 [some (.ref a), x1] (.ref a :: st) h Q := R_aldn rfl rfl
theorem s61_86q : Runs 61 86 [some (zrf r), x1] st h Q ↔ Runs 61 87 [some (zrf r), x1] (zrf r :: st) h Q := R_aldnq rfl rfl
theorem s61_87 : Runs 61 87 [x0, some (.int i)] st h Q ↔ Runs 61 88 [x0, some (.int i)] (.int i :: st) h Q := R_ildn rfl rfl
theorem s61_88 (ht : tg a = 6) (hs : zsumc st ≤ 8) : Runs 61 88 ls (.int i0 :: .ref a :: st) (n, tg, ln, I, J, O) Q ↔ Runs 64 0 [some (.ref a), some (.int i0), none] [] (n, tg, ln, I, J, O) (fun v h2 => Runs 61 91 ls (v.toList ++ st) h2 Q) := R_callv (a := a) (rest := st) rfl rfl rfl rfl rfl rfl rfl ht hs
theorem s61_91 (hx : i = 0 ∨ i = 1) : Runs 61 91 ls [.int i] h Q ↔ Q (some (.int i)) h := R_zret rfl rfl hx
theorem s62_0 : Runs 62 0 [some (.ref a)] st h Q ↔ Runs 62 1 [some (.ref a)] (.ref a :: st) h Q := R_aldn rfl rfl
theorem s62_0q : Runs 62 0 [some (zrf r)] st h Q ↔ Runs 62 1 [some (zrf r)] (zrf r :: st) h Q := R_aldnq rfl rfl
theorem s62_1 : Runs 62 1 ls st h Q ↔ Runs 62 2 ls (.int 2 :: st) h Q := R_iconst rfl rfl
theorem s62_2 (ht : tg a = 6) (hs : zsumc st ≤ 8) : Runs 62 2 ls (.int i0 :: .ref a :: st) (n, tg, ln, I, J, O) Q ↔ Runs 68 0 [some (.ref a), some (.int i0)] [] (n, tg, ln, I, J, O) (fun v h2 => Runs 62 5 ls (v.toList ++ st) h2 Q) := R_callv (a := a) (rest := st) rfl rfl rfl rfl rfl rfl rfl ht hs
theorem s62_5 : Runs 62 5 ls (.int i :: st) h Q ↔ if ¬ i = 0 then Runs 62 10 ls st h Q else Runs 62 8 ls st h Q := R_ifne rfl rfl
theorem s62_8 : Runs 62 8 ls st h Q ↔ Runs 62 9 ls (.int 0 :: st) h Q := R_iconst rfl rfl
theorem s62_9 (hx : i = 0 ∨ i = 1) : Runs 62 9 ls [.int i] h Q ↔ Q (some (.int i)) h := R_zret rfl rfl hx
theorem s62_10 : Runs 62 10 [some (.ref a)] st h Q ↔ Runs 62 11 [some (.ref a)] (.ref a :: st) h Q := R_aldn rfl rfl
theorem s62_10q : Runs 62 10 [some (zrf r)] st h Q ↔ Runs 62 11 [some (zrf r)] (zrf r :: st) h Q := R_aldnq rfl rfl
theorem s62_11 (ht : tg a = 6) : Runs 62 11 ls (.ref a :: st) (n, tg, ln, I, J, O) Q ↔ Runs 62 14 ls (zrf (O a 2) :: st) (n, tg, ln, I, J, O) Q := R_getr rfl rfl rfl rfl ht
theorem s62_14 : Runs 62 14 [some (.ref a)] st h Q ↔ Runs 62 15 [some (.ref a)] (.ref a :: st) h Q := R_aldn rfl rfl
theorem s62_14q : Runs 62 14 [some (zrf r)] st h Q ↔ Runs 62 15 [some (zrf r)] (zrf r :: st) h Q := R_aldnq rfl rfl
theorem s62_15 (ht : tg a = 6) : Runs 62 15 ls (.ref a :: st) (n, tg, ln, I, J, O) Q ↔ Runs 62 18 ls (.int (I a 6) :: st) (n, tg, ln, I, J, O) Q := R_geti rfl rfl rfl rfl ht
theorem s62_18 (ht : tg a = 5) : Runs 62 18 ls (.int i :: .ref a :: st) (n, tg, ln, I, J, O) Q ↔ Runs 62 21 ls st (n, tg, ln, zu I a 6 i, J, O) Q := R_puti rfl rfl rfl rfl rfl rfl ht
theorem s62_21 : Runs 62 21 [some (.ref a)] st h Q ↔ Runs 62 22 [some (.ref a)] (.ref a :: st) h Q := R_aldn rfl rfl
theorem s62_21q : Runs 62 21 [some (zrf r)] st h Q ↔ Runs 62 22 [some (zrf r)] (zrf r :: st) h Q := R_aldnq rfl rfl
theorem s62_22 (ht : tg a = 6) (hs : zsumc st ≤ 8) : Runs 62 22 ls (.ref a :: st) (n, tg, ln, I, J, O) Q ↔ Runs 69 0 [some (.ref a)] [] (n, tg, ln, I, J, O) (fun v h2 => Runs 62 25 ls (v.toList ++ st) h2 Q) := R_callv (a := a) (rest := st) rfl rfl rfl rfl rfl rfl rfl ht hs
theorem s62_25 : Runs 62 25 ls st h Q ↔ Runs 62 26 ls (.int 1 :: st) h Q := R_iconst rfl rfl
theorem s62_26 (hx : i = 0 ∨ i = 1) : Runs 62 26 ls [.int i] h Q ↔ Q (some (.int i)) h := R_zret rfl rfl hx
theorem s63_0 : Runs 63 0 [some (.ref a)] st h Q ↔ Runs 63 1 [some (.ref a)] (.ref a :: st) h Q := R_aldn rfl rfl
theorem s63_0q : Runs 63 0 [some (zrf r)] st h Q ↔ Runs 63 1 [some (zrf r)] (zrf r :: st) h Q := R_aldnq rfl rfl
theorem s63_1 (ht : tg a = 6) (hs : zsumc st ≤ 8) : Runs 63 1 ls (.ref a :: st) (n, tg, ln, I, J, O) Q ↔ Runs 65 0 [some (.ref a)] [] (n, tg, ln, I, J, O) (fun v h2 => Runs 63 4 ls (v.toList ++ st) h2 Q) := R_callv (a := a) (rest := st) rfl rfl rfl rfl rfl rfl rfl ht hs
theorem s63_4 : Runs 63 4 ls (.int i :: st) h Q ↔ if ¬ i = 0 then Runs 63 9 ls st h Q else Runs 63 7 ls st h Q := R_ifne rfl rfl
theorem s63_7 : Runs 63 7 ls st h Q ↔ Runs 63 8 ls (.int 0 :: st) h Q := R_iconst rfl rfl
theorem s63_8 (hx : i = 0 ∨ i = 1) : Runs 63 8 ls [.int i] h Q ↔ Q (some (.int i)) h := R_zret rfl rfl hx
theorem s63_9 : Runs 63 9 [some (.ref a)] st h Q ↔ Runs 63 10 [some (.ref a)] (.ref a :: st) h Q := R_aldn rfl rfl
theorem s63_9q : Runs 63 9 [some (zrf r)] st h Q ↔ Runs 63 10 [some (zrf r)] (zrf r :: st) h Q := R_aldnq rfl rfl
theorem s63_10 (ht : tg a = 6) : Runs 63 10 ls (.ref a :: st) (n, tg, ln, I, J, O) Q ↔ Runs 63 13 ls (zrf (O a 2) :: st) (n, tg, ln, I, J, O) Q := R_getr rfl rfl rfl rfl ht
theorem s63_13 : Runs 63 13 [some (.ref a)] st h Q ↔ Runs 63 14 [some (.ref a)] (.ref a :: st) h Q := R_aldn rfl rfl
theorem s63_13q : Runs 63 13 [some (zrf r)] st h Q ↔ Runs 63 14 [some (zrf r)] (zrf r :: st) h Q := R_aldnq rfl rfl
theorem s63_14 (ht : tg a = 6) : Runs 63 14 ls (.ref a :: st) (n, tg, ln, I, J, O) Q ↔ Runs 63 17 ls (.int (I a 6) :: st) (n, tg, ln, I, J, O) Q := R_geti rfl rfl rfl rfl ht
theorem s63_17 (ht : tg a = 5) (hs : zsumc st ≤ 8) : Runs 63 17 ls (.int i0 :: .ref a :: st) (n, tg, ln, I, J, O) Q ↔ Runs 41 0 [some (.ref a), some (.int i0)] [] (n, tg, ln, I, J, O) (fun v h2 => Runs 63 20 ls (v.toList ++ st) h2 Q) := R_callv (a := a) (rest := st) rfl rfl rfl rfl rfl rfl rfl ht hs
theorem s63_20 : Runs 63 20 ls st h Q ↔ Runs 63 22 ls (.int 90 :: st) h Q := R_bipush rfl (by decide)
theorem s63_22 (ht : tg a = 4) (hs : zsumc st ≤ 8) : Runs 63 22 ls (.int i0 :: .ref a :: st) (n, tg, ln, I, J, O) Q ↔ Runs 28 0 [some (.ref a), some (.int i0)] [] (n, tg, ln, I, J, O) (fun v h2 => Runs 63 25 ls (v.toList ++ st) h2 Q) := R_callv (a := a) (rest := st) rfl rfl rfl rfl rfl rfl rfl ht hs
theorem s63_25 : Runs 63 25 [some (.ref a)] st h Q ↔ Runs 63 26 [some (.ref a)] (.ref a :: st) h Q := R_aldn rfl rfl
theorem s63_25q : Runs 63 25 [some (zrf r)] st h Q ↔ Runs 63 26 [some (zrf r)] (zrf r :: st) h Q := R_aldnq rfl rfl
theorem s63_26 (ht : tg a = 6) (hs : zsumc st ≤ 8) : Runs 63 26 ls (.ref a :: st) (n, tg, ln, I, J, O) Q ↔ Runs 69 0 [some (.ref a)] [] (n, tg, ln, I, J, O) (fun v h2 => Runs 63 29 ls (v.toList ++ st) h2 Q) := R_callv (a := a) (rest := st) rfl rfl rfl rfl rfl rfl rfl ht hs
theorem s63_29 : Runs 63 29 ls st h Q ↔ Runs 63 30 ls (.int 1 :: st) h Q := R_iconst rfl rfl
theorem s63_30 (hx : i = 0 ∨ i = 1) : Runs 63 30 ls [.int i] h Q ↔ Q (some (.int i)) h := R_zret rfl rfl hx
theorem s64_0 : Runs 64 0 [some (.ref a), x1, x2] st h Q ↔ Runs 64 1 [some (.ref a), x1, x2] (.ref a :: st) h Q := R_aldn rfl rfl
theorem s64_0q : Runs 64 0 [some (zrf r), x1, x2] st h Q ↔ Runs 64 1 [some (zrf r), x1, x2] (zrf r :: st) h Q := R_aldnq rfl rfl
theorem s64_1 (ht : tg a = 6) (hs : zsumc st ≤ 8) : Runs 64 1 ls (.ref a :: st) (n, tg, ln, I, J, O) Q ↔ Runs 65 0 [some (.ref a)] [] (n, tg, ln, I, J, O) (fun v h2 => Runs 64 4 ls (v.toList ++ st) h2 Q) := R_callv (a := a) (rest := st) rfl rfl rfl rfl rfl rfl rfl ht hs
theorem s64_4 : Runs 64 4 ls (.int i :: st) h Q ↔ if ¬ i = 0 then Runs 64 9 ls st h Q else Runs 64 7 ls st h Q := R_ifne rfl rfl
theorem s64_7 : Runs 64 7 ls st h Q ↔ Runs 64 8 ls (.int 0 :: st) h Q := R_iconst rfl rfl
theorem s64_8 (hx : i = 0 ∨ i = 1) : Runs 64 8 ls [.int i] h Q ↔ Q (some (.int i)) h := R_zret rfl rfl hx
theorem s64_9 : Runs 64 9 [some (.ref a), x1, x2] st h Q ↔ Runs 64 10 [some (.ref a), x1, x2] (.ref a :: st) h Q := R_aldn rfl rfl
theorem s64_9q : Runs 64 9 [some (zrf r), x1, x2] st h Q ↔ Runs 64 10 [some (zrf r), x1, x2] (zrf r :: st) h Q := R_aldnq rfl rfl
theorem s64_10 (ht : tg a = 6) : Runs 64 10 ls (.ref a :: st) (n, tg, ln, I, J, O) Q ↔ Runs 64 13 ls (.int (I a 6) :: st) (n, tg, ln, I, J, O) Q := R_geti rfl rfl rfl rfl ht
theorem s64_13 : Runs 64 13 [x0, x1, x2] (.int i :: st) h Q ↔ Runs 64 14 [x0, zdrop x1, some (.int i)] st h Q := R_istn rfl rfl rfl
theorem s64_14 : Runs 64 14 [some (.ref a), x1, x2] st h Q ↔ Runs 64 15 [some (.ref a), x1, x2] (.ref a :: st) h Q := R_aldn rfl rfl
theorem s64_14q : Runs 64 14 [some (zrf r), x1, x2] st h Q ↔ Runs 64 15 [some (zrf r), x1, x2] (zrf r :: st) h Q := R_aldnq rfl rfl
theorem s64_15 (ht : tg a = 6) (hs : zsumc st ≤ 8) : Runs 64 15 ls (.ref a :: st) (n, tg, ln, I, J, O) Q ↔ Runs 69 0 [some (.ref a)] [] (n, tg, ln, I, J, O) (fun v h2 => Runs 64 18 ls (v.toList ++ st) h2 Q) := R_callv (a := a) (rest := st) rfl rfl rfl rfl rfl rfl rfl ht hs
theorem s64_18 : Runs 64 18 [some (.ref a), x1, x2] st h Q ↔ Runs 64 19 [some (.ref a), x1, x2] (.ref a :: st) h Q := R_aldn rfl rfl
theorem s64_18q : Runs 64 18 [some (zrf r), x1, x2] st h Q ↔ Runs 64 19 [some (zrf r), x1, x2] (zrf r :: st) h Q := R_aldnq rfl rfl
theorem s64_19 : Runs 64 19 ls st h Q ↔ Runs 64 21 ls (.int 99 :: st) h Q := R_bipush rfl (by decide)
theorem s64_21 (ht : tg a = 6) (hs : zsumc st ≤ 8) : Runs 64 21 ls (.int i0 :: .ref a :: st) (n, tg, ln, I, J, O) Q ↔ Runs 68 0 [some (.ref a), some (.int i0)] [] (n, tg, ln, I, J, O) (fun v h2 => Runs 64 24 ls (v.toList ++ st) h2 Q) := R_callv (a := a) (rest := st) rfl rfl rfl rfl rfl rfl rfl ht hs
theorem s64_24 : Runs 64 24 ls (.int i :: st) h Q ↔ if ¬ i = 0 then Runs 64 29 ls st h Q else Runs 64 27 ls st h Q := R_ifne rfl rfl
theorem s64_27 : Runs 64 27 ls st h Q ↔ Runs 64 28 ls (.int 0 :: st) h Q := R_iconst rfl rfl
theorem s64_28 (hx : i = 0 ∨ i = 1) : Runs 64 28 ls [.int i] h Q ↔ Q (some (.int i)) h := R_zret rfl rfl hx
theorem s64_29 : Runs 64 29 [some (.ref a), x1, x2] st h Q ↔ Runs 64 30 [some (.ref a), x1, x2] (.ref a :: st) h Q := R_aldn rfl rfl
theorem s64_29q : Runs 64 29 [some (zrf r), x1, x2] st h Q ↔ Runs 64 30 [some (zrf r), x1, x2] (zrf r :: st) h Q := R_aldnq rfl rfl
theorem s64_30 (ht : tg a = 6) : Runs 64 30 ls (.ref a :: st) (n, tg, ln, I, J, O) Q ↔ Runs 64 33 ls (zrf (O a 2) :: st) (n, tg, ln, I, J, O) Q := R_getr rfl rfl rfl rfl ht
theorem s64_33 : Runs 64 33 [x0, x1, some (.int i)] st h Q ↔ Runs 64 34 [x0, x1, some (.int i)] (.int i :: st) h Q := R_ildn rfl rfl
theorem s64_34 : Runs 64 34 [x0, some (.int i), x2] st h Q ↔ Runs 64 35 [x0, some (.int i), x2] (.int i :: st) h Q := R_ildn rfl rfl
theorem s64_35 : Runs 64 35 [some (.ref a), x1, x2] st h Q ↔ Runs 64 36 [some (.ref a), x1, x2] (.ref a :: st) h Q := R_aldn rfl rfl
theorem s64_35q : Runs 64 35 [some (zrf r), x1, x2] st h Q ↔ Runs 64 36 [some (zrf r), x1, x2] (zrf r :: st) h Q := R_aldnq rfl rfl
theorem s64_36 (ht : tg a = 6) : Runs 64 36 ls (.ref a :: st) (n, tg, ln, I, J, O) Q ↔ Runs 64 39 ls (.int (I a 6) :: st) (n, tg, ln, I, J, O) Q := R_geti rfl rfl rfl rfl ht
theorem s64_39 (ht : tg a = 5) (hs : zsumc st ≤ 8) : Runs 64 39 ls (.int i2 :: .int i1 :: .int i0 :: .ref a :: st) (n, tg, ln, I, J, O) Q ↔ Runs 46 0 [some (.ref a), some (.int i0), some (.int i1), some (.int i2), none] [] (n, tg, ln, I, J, O) (fun v h2 => Runs 64 42 ls (v.toList ++ st) h2 Q) := R_callv (a := a) (rest := st) rfl rfl rfl rfl rfl rfl rfl ht hs
theorem s64_42 : Runs 64 42 ls (.int i :: st) h Q ↔ Runs 64 43 ls st h Q := R_pop rfl
theorem s64_43 : Runs 64 43 [some (.ref a), x1, x2] st h Q ↔ Runs 64 44 [some (.ref a), x1, x2] (.ref a :: st) h Q := R_aldn rfl rfl
theorem s64_43q : Runs 64 43 [some (zrf r), x1, x2] st h Q ↔ Runs 64 44 [some (zrf r), x1, x2] (zrf r :: st) h Q := R_aldnq rfl rfl
theorem s64_44 (ht : tg a = 6) (hs : zsumc st ≤ 8) : Runs 64 44 ls (.ref a :: st) (n, tg, ln, I, J, O) Q ↔ Runs 69 0 [some (.ref a)] [] (n, tg, ln, I, J, O) (fun v h2 => Runs 64 47 ls (v.toList ++ st) h2 Q) := R_callv (a := a) (rest := st) rfl rfl rfl rfl rfl rfl rfl ht hs
theorem s64_47 : Runs 64 47 ls st h Q ↔ Runs 64 48 ls (.int 1 :: st) h Q := R_iconst rfl rfl
theorem s64_48 (hx : i = 0 ∨ i = 1) : Runs 64 48 ls [.int i] h Q ↔ Q (some (.int i)) h := R_zret rfl rfl hx
theorem s65_0 : Runs 65 0 [some (.ref a)] st h Q ↔ Runs 65 1 [some (.ref a)] (.ref a :: st) h Q := R_aldn rfl rfl
theorem s65_0q : Runs 65 0 [some (zrf r)] st h Q ↔ Runs 65 1 [some (zrf r)] (zrf r :: st) h Q := R_aldnq rfl rfl
theorem s65_1 : Runs 65 1 ls st h Q ↔ Runs 65 2 ls (.int 1 :: st) h Q := R_iconst rfl rfl
theorem s65_2 (ht : tg a = 6) (hs : zsumc st ≤ 8) : Runs 65 2 ls (.int i0 :: .ref a :: st) (n, tg, ln, I, J, O) Q ↔ Runs 68 0 [some (.ref a), some (.int i0)] [] (n, tg, ln, I, J, O) (fun v h2 => Runs 65 5 ls (v.toList ++ st) h2 Q) := R_callv (a := a) (rest := st) rfl rfl rfl rfl rfl rfl rfl ht hs
theorem s65_5 : Runs 65 5 ls (.int i :: st) h Q ↔ if i = 0 then Runs 65 29 ls st h Q else Runs 65 8 ls st h Q := R_ifeq rfl rfl
theorem s65_8 : Runs 65 8 [some (.ref a)] st h Q ↔ Runs 65 9 [some (.ref a)] (.ref a :: st) h Q := R_aldn rfl rfl
theorem s65_8q : Runs 65 8 [some (zrf r)] st h Q ↔ Runs 65 9 [some (zrf r)] (zrf r :: st) h Q := R_aldnq rfl rfl
theorem s65_9 (ht : tg a = 6) : Runs 65 9 ls (.ref a :: st) (n, tg, ln, I, J, O) Q ↔ Runs 65 12 ls (zrf (O a 2) :: st) (n, tg, ln, I, J, O) Q := R_getr rfl rfl rfl rfl ht
theorem s65_12 : Runs 65 12 [some (.ref a)] st h Q ↔ Runs 65 13 [some (.ref a)] (.ref a :: st) h Q := R_aldn rfl rfl
theorem s65_12q : Runs 65 12 [some (zrf r)] st h Q ↔ Runs 65 13 [some (zrf r)] (zrf r :: st) h Q := R_aldnq rfl rfl
theorem s65_13 (ht : tg a = 6) : Runs 65 13 ls (.ref a :: st) (n, tg, ln, I, J, O) Q ↔ Runs 65 16 ls (.int (I a 6) :: st) (n, tg, ln, I, J, O) Q := R_geti rfl rfl rfl rfl ht
theorem s65_16 (ht : tg a = 5) (hs : zsumc st ≤ 8) : Runs 65 16 ls (.int i0 :: .ref a :: st) (n, tg, ln, I, J, O) Q ↔ Runs 41 0 [some (.ref a), some (.int i0)] [] (n, tg, ln, I, J, O) (fun v h2 => Runs 65 19 ls (v.toList ++ st) h2 Q) := R_callv (a := a) (rest := st) rfl rfl rfl rfl rfl rfl rfl ht hs
theorem s65_19 (ht : tg a = 4) (hs : zsumc st ≤ 8) : Runs 65 19 ls (.ref a :: st) (n, tg, ln, I, J, O) Q ↔ Runs 25 0 [some (.ref a)] [] (n, tg, ln, I, J, O) (fun v h2 => Runs 65 22 ls (v.toList ++ st) h2 Q) := R_callv (a := a) (rest := st) rfl rfl rfl rfl rfl rfl rfl ht hs
theorem s65_22 : Runs 65 22 ls (.int i :: st) h Q ↔ if ¬ i = 0 then Runs 65 29 ls st h Q else Runs 65 25 ls st h Q := R_ifne rfl rfl
theorem s65_25 : Runs 65 25 ls st h Q ↔ Runs 65 26 ls (.int 1 :: st) h Q := R_iconst rfl rfl
theorem s65_26 : Runs 65 26 ls st h Q ↔ Runs 65 30 ls st h Q := R_goto rfl rfl
theorem s65_29 : Runs 65 29 ls st h Q ↔ Runs 65 30 ls (.int 0 :: st) h Q := R_iconst rfl rfl
theorem s65_30 (hx : i = 0 ∨ i = 1) : Runs 65 30 ls [.int i] h Q ↔ Q (some (.int i)) h := R_zret rfl rfl hx
theorem s66_0 : Runs 66 0 [some (.ref a)] st h Q ↔ Runs 66 1 [some (.ref a)] (.ref a :: st) h Q := R_aldn rfl rfl
theorem s66_0q : Runs 66 0 [some (zrf r)] st h Q ↔ Runs 66 1 [some (zrf r)] (zrf r :: st) h Q := R_aldnq rfl rfl
theorem s66_1 : Runs 66 1 ls st h Q ↔ Runs 66 3 ls (.ref 4 :: st) h Q := R_ldc rfl rfl
theorem s66_3 (ht : tg a = 6) (hs : zsumc st ≤ 8) : Runs 66 3 ls (.ref b0 :: .ref a :: st) (n, tg, ln, I, J, O) Q ↔ Runs 67 0 [some (.ref a), some (.ref b0), none] [] (n, tg, ln, I, J, O) (fun v h2 => Runs 66 6 ls (v.toList ++ st) h2 Q) := R_callv (a := a) (rest := st) rfl rfl rfl rfl rfl rfl rfl ht hs
theorem s66_3q (ht : tg a = 6) (hs : zsumc st ≤ 8) : Runs 66 3 ls (zrf r0 :: .ref a :: st) (n, tg, ln, I, J, O) Q ↔ Runs 67 0 [some (.ref a), some (zrf r0), none] [] (n, tg, ln, I, J, O) (fun v h2 => Runs 66 6 ls (v.toList ++ st) h2 Q) := by cases r0 <;> exact R_callv (a := a) (rest := st) rfl rfl rfl rfl rfl rfl rfl ht hs
theorem s66_6 : Runs 66 6 ls (.int i :: st) h Q ↔ if i = 0 then Runs 66 11 ls st h Q else Runs 66 9 ls st h Q := R_ifeq rfl rfl
theorem s66_9 : Runs 66 9 ls st h Q ↔ Runs 66 10 ls (.int 0 :: st) h Q := R_iconst rfl rfl
theorem s66_10 : Runs 66 10 ls [.int i] h Q ↔ Q (some (.int i)) h := R_iret rfl rfl
theorem s66_11 : Runs 66 11 [some (.ref a)] st h Q ↔ Runs 66 12 [some (.ref a)] (.ref a :: st) h Q := R_aldn rfl rfl
theorem s66_11q : Runs 66 11 [some (zrf r)] st h Q ↔ Runs 66 12 [some (zrf r)] (zrf r :: st) h Q := R_aldnq rfl rfl
theorem s66_12 : Runs 66 12 ls st h Q ↔ Runs 66 14 ls (.ref 5 :: st) h Q := R_ldc rfl rfl
theorem s66_14 (ht : tg a = 6) (hs : zsumc st ≤ 8) : Runs 66 14 ls (.ref b0 :: .ref a :: st) (n, tg, ln, I, J, O) Q ↔ Runs 67 0 [some (.ref a), some (.ref b0), none] [] (n, tg, ln, I, J, O) (fun v h2 => Runs 66 17 ls (v.toList ++ st) h2 Q) := R_callv (a := a) (rest := st) rfl rfl rfl rfl rfl rfl rfl ht hs
theorem s66_14q (ht : tg a = 6) (hs : zsumc st ≤ 8) : Runs 66 14 ls (zrf r0 :: .ref a :: st) (n, tg, ln, I, J, O) Q ↔ Runs 67 0 [some (.ref a), some (zrf r0), none] [] (n, tg, ln, I, J, O) (fun v h2 => Runs 66 17 ls (v.toList ++ st) h2 Q) := by cases r0 <;> exact R_callv (a := a) (rest := st) rfl rfl rfl rfl rfl rfl rfl ht hs
theorem s66_17 : Runs 66 17 ls (.int i :: st) h Q ↔ if i = 0 then Runs 66 22 ls st h Q else Runs 66 20 ls st h Q := R_ifeq rfl rfl
theorem s66_20 : Runs 66 20 ls st h Q ↔ Runs 66 21 ls (.int 1 :: st) h Q := R_iconst rfl rfl
theorem s66_21 : Runs 66 21 ls [.int i] h Q ↔ Q (some (.int i)) h := R_iret rfl rfl
theorem s66_22 : Runs 66 22 [some (.ref a)] st h Q ↔ Runs 66 23 [some (.ref a)] (.ref a :: st) h Q := R_aldn rfl rfl
theorem s66_22q : Runs 66 22 [some (zrf r)] st h Q ↔ Runs 66 23 [some (zrf r)] (zrf r :: st) h Q := R_aldnq rfl rfl
theorem s66_23 : Runs 66 23 ls st h Q ↔ Runs 66 25 ls (.ref 6 :: st) h Q := R_ldc rfl rfl
theorem s66_25 (ht : tg a = 6) (hs : zsumc st ≤ 8) : Runs 66 25 ls (.ref b0 :: .ref a :: st) (n, tg, ln, I, J, O) Q ↔ Runs 67 0 [some (.ref a), some (.ref b0), none] [] (n, tg, ln, I, J, O) (fun v h2 => Runs 66 28 ls (v.toList ++ st) h2 Q) := R_callv (a := a) (rest := st) rfl rfl rfl rfl rfl rfl rfl ht hs
theorem s66_25q (ht : tg a = 6) (hs : zsumc st ≤ 8) : Runs 66 25 ls (zrf r0 :: .ref a :: st) (n, tg, ln, I, J, O) Q ↔ Runs 67 0 [some (.ref a), some (zrf r0), none] [] (n, tg, ln, I, J, O) (fun v h2 => Runs 66 28 ls (v.toList ++ st) h2 Q) := by cases r0 <;> exact R_callv (a := a) (rest := st) rfl rfl rfl rfl rfl rfl rfl ht hs
theorem s66_28 : Runs 66 28 ls (.int i :: st) h Q ↔ if i = 0 then Runs 66 33 ls st h Q else Runs 66 31 ls st h Q := R_ifeq rfl rfl
theorem s66_31 : Runs 66 31 ls st h Q ↔ Runs 66 32 ls (.int 2 :: st) h Q := R_iconst rfl rfl
theorem s66_32 : Runs 66 32 ls [.int i] h Q ↔ Q (some (.int i)) h := R_iret rfl rfl
theorem s66_33 : Runs 66 33 [some (.ref a)] st h Q ↔ Runs 66 34 [some (.ref a)] (.ref a :: st) h Q := R_aldn rfl rfl
theorem s66_33q : Runs 66 33 [some (zrf r)] st h Q ↔ Runs 66 34 [some (zrf r)] (zrf r :: st) h Q := R_aldnq rfl rfl
theorem s66_34 : Runs 66 34 ls st h Q ↔ Runs 66 36 ls (.ref 7 :: st) h Q := R_ldc rfl rfl
theorem s66_36 (ht : tg a = 6) (hs : zsumc st ≤ 8) : Runs 66 36 ls (.ref b0 :: .ref a :: st) (n, tg, ln, I, J, O) Q ↔ Runs 67 0 [some (.ref a), some (.ref b0), none] [] (n, tg, ln, I, J, O) (fun v h2 => Runs 66 39 ls (v.toList ++ st) h2 Q) := R_callv (a := a) (rest := st) rfl rfl rfl rfl rfl rfl rfl ht hs
theorem s66_36q (ht : tg a = 6) (hs : zsumc st ≤ 8) : Runs 66 36 ls (zrf r0 :: .ref a :: st) (n, tg, ln, I, J, O) Q ↔ Runs 67 0 [some (.ref a), some (zrf r0), none] [] (n, tg, ln, I, J, O) (fun v h2 => Runs 66 39 ls (v.toList ++ st) h2 Q) := by cases r0 <;> exact R_callv (a := a) (rest := st) rfl rfl rfl rfl rfl rfl rfl ht hs
theorem s66_39 : Runs 66 39 ls (.int i :: st) h Q ↔ if i = 0 then Runs 66 46 ls st h Q else Runs 66 42 ls st h Q := R_ifeq rfl rfl
theorem s66_42 : Runs 66 42 ls st h Q ↔ Runs 66 43 ls (.int 3 :: st) h Q := R_iconst rfl rfl
theorem s66_43 : Runs 66 43 ls st h Q ↔ Runs 66 47 ls st h Q := R_goto rfl rfl
theorem s66_46 : Runs 66 46 ls st h Q ↔ Runs 66 47 ls (.int (-1) :: st) h Q := R_iconst rfl rfl
theorem s66_47 : Runs 66 47 ls [.int i] h Q ↔ Q (some (.int i)) h := R_iret rfl rfl
theorem s67_0 : Runs 67 0 [some (.ref a), x1, x2] st h Q ↔ Runs 67 1 [some (.ref a), x1, x2] (.ref a :: st) h Q := R_aldn rfl rfl
theorem s67_0q : Runs 67 0 [some (zrf r), x1, x2] st h Q ↔ Runs 67 1 [some (zrf r), x1, x2] (zrf r :: st) h Q := R_aldnq rfl rfl
theorem s67_1 (ht : tg a = 6) : Runs 67 1 ls (.ref a :: st) (n, tg, ln, I, J, O) Q ↔ Runs 67 4 ls (.int (I a 5) :: st) (n, tg, ln, I, J, O) Q := R_geti rfl rfl rfl rfl ht
theorem s67_4 : Runs 67 4 ls st h Q ↔ Runs 67 5 ls (.int 1 :: st) h Q := R_iconst rfl rfl
theorem s67_5 : Runs 67 5 ls (.int j :: .int i :: st) h Q ↔ if ¬ i = j then Runs 67 24 ls st h Q else Runs 67 8 ls st h Q := R_icne rfl rfl
theorem s67_8 : Runs 67 8 [some (.ref a), x1, x2] st h Q ↔ Runs 67 9 [some (.ref a), x1, x2] (.ref a :: st) h Q := R_aldn rfl rfl
theorem s67_8q : Runs 67 8 [some (zrf r), x1, x2] st h Q ↔ Runs 67 9 [some (zrf r), x1, x2] (zrf r :: st) h Q := R_aldnq rfl rfl
theorem s67_9 (ht : tg a = 6) : Runs 67 9 ls (.ref a :: st) (n, tg, ln, I, J, O) Q ↔ Runs 67 12 ls (.int (I a 4) :: st) (n, tg, ln, I, J, O) Q := R_geti rfl rfl rfl rfl ht
theorem s67_12 : Runs 67 12 [some (.ref a), x1, x2] st h Q ↔ Runs 67 13 [some (.ref a), x1, x2] (.ref a :: st) h Q := R_aldn rfl rfl
theorem s67_12q : Runs 67 12 [some (zrf r), x1, x2] st h Q ↔ Runs 67 13 [some (zrf r), x1, x2] (zrf r :: st) h Q := R_aldnq rfl rfl
theorem s67_13 (ht : tg a = 6) : Runs 67 13 ls (.ref a :: st) (n, tg, ln, I, J, O) Q ↔ Runs 67 16 ls (.int (I a 3) :: st) (n, tg, ln, I, J, O) Q := R_geti rfl rfl rfl rfl ht
theorem s67_16 : Runs 67 16 ls (.int j :: .int i :: st) h Q ↔ Runs 67 17 ls (.int (i - j) :: st) h Q := R_isub rfl
theorem s67_17 : Runs 67 17 [x0, some (.ref a), x2] st h Q ↔ Runs 67 18 [x0, some (.ref a), x2] (.ref a :: st) h Q := R_aldn rfl rfl
theorem s67_17q : Runs 67 17 [x0, some (zrf r), x2] st h Q ↔ Runs 67 18 [x0, some (zrf r), x2] (zrf r :: st) h Q := R_aldnq rfl rfl
theorem s67_18 (ht : tg a = 31) (hs : zsumc st ≤ 8) : Runs 67 18 ls (.ref a :: st) (n, tg, ln, I, J, O) Q ↔ Runs 67 21 ls (.int (Int32.ofNat (ln a)) :: st) (n, tg, ln, I, J, O) Q := R_slen rfl rfl ht hs
theorem s67_21 : Runs 67 21 ls (.int j :: .int i :: st) h Q ↔ if i = j then Runs 67 26 ls st h Q else Runs 67 24 ls st h Q := R_iceq rfl rfl
theorem s67_24 : Runs 67 24 ls st h Q ↔ Runs 67 25 ls (.int 0 :: st) h Q := R_iconst rfl rfl
theorem s67_25 (hx : i = 0 ∨ i = 1) : Runs 67 25 ls [.int i] h Q ↔ Q (some (.int i)) h := R_zret rfl rfl hx
theorem s67_26 : Runs 67 26 ls st h Q ↔ Runs 67 27 ls (.int 0 :: st) h Q := R_iconst rfl rfl
theorem s67_27 : Runs 67 27 [x0, x1, x2] (.int i :: st) h Q ↔ Runs 67 28 [x0, zdrop x1, some (.int i)] st h Q := R_istn rfl rfl rfl
theorem s67_28 : Runs 67 28 [x0, x1, some (.int i)] st h Q ↔ Runs 67 29 [x0, x1, some (.int i)] (.int i :: st) h Q := R_ildn rfl rfl
theorem s67_29 : Runs 67 29 [x0, some (.ref a), x2] st h Q ↔ Runs 67 30 [x0, some (.ref a), x2] (.ref a :: st) h Q := R_aldn rfl rfl
theorem s67_29q : Runs 67 29 [x0, some (zrf r), x2] st h Q ↔ Runs 67 30 [x0, some (zrf r), x2] (zrf r :: st) h Q := R_aldnq rfl rfl
theorem s67_30 (ht : tg a = 31) (hs : zsumc st ≤ 8) : Runs 67 30 ls (.ref a :: st) (n, tg, ln, I, J, O) Q ↔ Runs 67 33 ls (.int (Int32.ofNat (ln a)) :: st) (n, tg, ln, I, J, O) Q := R_slen rfl rfl ht hs
theorem s67_33 : Runs 67 33 ls (.int j :: .int i :: st) h Q ↔ if j ≤ i then Runs 67 65 ls st h Q else Runs 67 36 ls st h Q := R_icge rfl rfl
theorem s67_36 : Runs 67 36 [some (.ref a), x1, x2] st h Q ↔ Runs 67 37 [some (.ref a), x1, x2] (.ref a :: st) h Q := R_aldn rfl rfl
theorem s67_36q : Runs 67 36 [some (zrf r), x1, x2] st h Q ↔ Runs 67 37 [some (zrf r), x1, x2] (zrf r :: st) h Q := R_aldnq rfl rfl
theorem s67_37 (ht : tg a = 6) : Runs 67 37 ls (.ref a :: st) (n, tg, ln, I, J, O) Q ↔ Runs 67 40 ls (zrf (O a 0) :: st) (n, tg, ln, I, J, O) Q := R_getr rfl rfl rfl rfl ht
theorem s67_40 : Runs 67 40 [some (.ref a), x1, x2] st h Q ↔ Runs 67 41 [some (.ref a), x1, x2] (.ref a :: st) h Q := R_aldn rfl rfl
theorem s67_40q : Runs 67 40 [some (zrf r), x1, x2] st h Q ↔ Runs 67 41 [some (zrf r), x1, x2] (zrf r :: st) h Q := R_aldnq rfl rfl
theorem s67_41 (ht : tg a = 6) : Runs 67 41 ls (.ref a :: st) (n, tg, ln, I, J, O) Q ↔ Runs 67 44 ls (.int (I a 3) :: st) (n, tg, ln, I, J, O) Q := R_geti rfl rfl rfl rfl ht
theorem s67_44 : Runs 67 44 [x0, x1, some (.int i)] st h Q ↔ Runs 67 45 [x0, x1, some (.int i)] (.int i :: st) h Q := R_ildn rfl rfl
theorem s67_45 : Runs 67 45 ls (.int j :: .int i :: st) h Q ↔ Runs 67 46 ls (.int (i + j) :: st) h Q := R_iadd rfl
theorem s67_46 (ht : tg a = 8) (hs : zsumc st ≤ 8) : Runs 67 46 ls (.int i0 :: .ref a :: st) (n, tg, ln, I, J, O) Q ↔ Runs 79 0 [some (.ref a), some (.int i0)] [] (n, tg, ln, I, J, O) (fun v h2 => Runs 67 49 ls (v.toList ++ st) h2 Q) := R_callv (a := a) (rest := st) rfl rfl rfl rfl rfl rfl rfl ht hs
theorem s67_49 : Runs 67 49 [x0, some (.ref a), x2] st h Q ↔ Runs 67 50 [x0, some (.ref a), x2] (.ref a :: st) h Q := R_aldn rfl rfl
theorem s67_49q : Runs 67 49 [x0, some (zrf r), x2] st h Q ↔ Runs 67 50 [x0, some (zrf r), x2] (zrf r :: st) h Q := R_aldnq rfl rfl
theorem s67_50 : Runs 67 50 [x0, x1, some (.int i)] st h Q ↔ Runs 67 51 [x0, x1, some (.int i)] (.int i :: st) h Q := R_ildn rfl rfl
theorem s67_51 (ht : tg a = 31) (hs : zsumc st ≤ 8) : Runs 67 51 ls (.int i :: .ref a :: st) (n, tg, ln, I, J, O) Q ↔ ((0 ≤ i ∧ i < Int32.ofNat (ln a)) ∧ Runs 67 54 ls (.int (I a i) :: st) (n, tg, ln, I, J, O) Q) := R_sch rfl rfl ht hs
theorem s67_54 : Runs 67 54 ls (.int j :: .int i :: st) h Q ↔ if i = j then Runs 67 59 ls st h Q else Runs 67 57 ls st h Q := R_iceq rfl rfl
theorem s67_57 : Runs 67 57 ls st h Q ↔ Runs 67 58 ls (.int 0 :: st) h Q := R_iconst rfl rfl
theorem s67_58 (hx : i = 0 ∨ i = 1) : Runs 67 58 ls [.int i] h Q ↔ Q (some (.int i)) h := R_zret rfl rfl hx
theorem s67_59 : Runs 67 59 [x0, x1, some (.int i)] st h Q ↔ Runs 67 62 [x0, zdrop x1, some (.int (i + 1))] st h Q := R_iinc rfl rfl rfl rfl rfl
theorem s67_62 : Runs 67 62 ls st h Q ↔ Runs 67 28 ls st h Q := R_goto rfl rfl
theorem s67_65 : Runs 67 65 ls st h Q ↔ Runs 67 66 ls (.int 1 :: st) h Q := R_iconst rfl rfl
theorem s67_66 (hx : i = 0 ∨ i = 1) : Runs 67 66 ls [.int i] h Q ↔ Q (some (.int i)) h := R_zret rfl rfl hx
theorem s68_0 : Runs 68 0 [some (.ref a), x1] st h Q ↔ Runs 68 1 [some (.ref a), x1] (.ref a :: st) h Q := R_aldn rfl rfl
theorem s68_0q : Runs 68 0 [some (zrf r), x1] st h Q ↔ Runs 68 1 [some (zrf r), x1] (zrf r :: st) h Q := R_aldnq rfl rfl
theorem s68_1 (ht : tg a = 6) : Runs 68 1 ls (.ref a :: st) (n, tg, ln, I, J, O) Q ↔ Runs 68 4 ls (.int (I a 6) :: st) (n, tg, ln, I, J, O) Q := R_geti rfl rfl rfl rfl ht
theorem s68_4 : Runs 68 4 ls st h Q ↔ Runs 68 5 ls (.int (-1) :: st) h Q := R_iconst rfl rfl
theorem s68_5 : Runs 68 5 ls (.int j :: .int i :: st) h Q ↔ if i = j then Runs 68 20 ls st h Q else Runs 68 8 ls st h Q := R_iceq rfl rfl
theorem s68_8 : Runs 68 8 [some (.ref a), x1] st h Q ↔ Runs 68 9 [some (.ref a), x1] (.ref a :: st) h Q := R_aldn rfl rfl
theorem s68_8q : Runs 68 8 [some (zrf r), x1] st h Q ↔ Runs 68 9 [some (zrf r), x1] (zrf r :: st) h Q := R_aldnq rfl rfl
theorem s68_9 (ht : tg a = 6) : Runs 68 9 ls (.ref a :: st) (n, tg, ln, I, J, O) Q ↔ Runs 68 12 ls (.int (I a 6) :: st) (n, tg, ln, I, J, O) Q := R_geti rfl rfl rfl rfl ht
theorem s68_12 : Runs 68 12 [x0, some (.int i)] st h Q ↔ Runs 68 13 [x0, some (.int i)] (.int i :: st) h Q := R_ildn rfl rfl
theorem s68_13 : Runs 68 13 ls (.int j :: .int i :: st) h Q ↔ if j < i then Runs 68 20 ls st h Q else Runs 68 16 ls st h Q := R_icgt rfl rfl
theorem s68_16 : Runs 68 16 ls st h Q ↔ Runs 68 17 ls (.int 1 :: st) h Q := R_iconst rfl rfl
theorem s68_17 : Runs 68 17 ls st h Q ↔ Runs 68 21 ls st h Q := R_goto rfl rfl
theorem s68_20 : Runs 68 20 ls st h Q ↔ Runs 68 21 ls (.int 0 :: st) h Q := R_iconst rfl rfl
theorem s68_21 (hx : i = 0 ∨ i = 1) : Runs 68 21 ls [.int i] h Q ↔ Q (some (.int i)) h := R_zret rfl rfl hx
theorem s69_0 : Runs 69 0 [some (.ref a)] st h Q ↔ Runs 69 1 [some (.ref a)] (.ref a :: st) h Q := R_aldn rfl rfl
theorem s69_0q : Runs 69 0 [some (zrf r)] st h Q ↔ Runs 69 1 [some (zrf r)] (zrf r :: st) h Q := R_aldnq rfl rfl
theorem s69_1 : Runs 69 1 [some (.ref a)] st h Q ↔ Runs 69 2 [some (.ref a)] (.ref a :: st) h Q := R_aldn rfl rfl
theorem s69_1q : Runs 69 1 [some (zrf r)] st h Q ↔ Runs 69 2 [some (zrf r)] (zrf r :: st) h Q := R_aldnq rfl rfl
theorem s69_2 (ht : tg a = 6) : Runs 69 2 ls (.ref a :: st) (n, tg, ln, I, J, O) Q ↔ Runs 69 5 ls (.int (I a 4) :: st) (n, tg, ln, I, J, O) Q := R_geti rfl rfl rfl rfl ht
theorem s69_5 (ht : tg a = 6) : Runs 69 5 ls (.int i :: .ref a :: st) (n, tg, ln, I, J, O) Q ↔ Runs 69 8 ls st (n, tg, ln, zu I a 3 i, J, O) Q := R_puti rfl rfl rfl rfl rfl rfl ht
theorem s69_8 : Runs 69 8 [some (.ref a)] st h Q ↔ Runs 69 9 [some (.ref a)] (.ref a :: st) h Q := R_aldn rfl rfl
theorem s69_8q : Runs 69 8 [some (zrf r)] st h Q ↔ Runs 69 9 [some (zrf r)] (zrf r :: st) h Q := R_aldnq rfl rfl
theorem s69_9 (ht : tg a = 6) : Runs 69 9 ls (.ref a :: st) (n, tg, ln, I, J, O) Q ↔ Runs 69 12 ls (.int (I a 3) :: st) (n, tg, ln, I, J, O) Q := R_geti rfl rfl rfl rfl ht
theorem s69_12 : Runs 69 12 [some (.ref a)] st h Q ↔ Runs 69 13 [some (.ref a)] (.ref a :: st) h Q := R_aldn rfl rfl
theorem s69_12q : Runs 69 12 [some (zrf r)] st h Q ↔ Runs 69 13 [some (zrf r)] (zrf r :: st) h Q := R_aldnq rfl rfl
theorem s69_13 (ht : tg a = 6) : Runs 69 13 ls (.ref a :: st) (n, tg, ln, I, J, O) Q ↔ Runs 69 16 ls (zrf (O a 0) :: st) (n, tg, ln, I, J, O) Q := R_getr rfl rfl rfl rfl ht
theorem s69_16 (ht : tg a = 8) : Runs 69 16 ls (.ref a :: st) (n, tg, ln, I, J, O) Q ↔ Runs 69 19 ls (.int (I a 1) :: st) (n, tg, ln, I, J, O) Q := R_geti rfl rfl rfl rfl ht
theorem s69_19 : Runs 69 19 ls (.int j :: .int i :: st) h Q ↔ if j ≤ i then Runs 69 51 ls st h Q else Runs 69 22 ls st h Q := R_icge rfl rfl
theorem s69_22 : Runs 69 22 [some (.ref a)] st h Q ↔ Runs 69 23 [some (.ref a)] (.ref a :: st) h Q := R_aldn rfl rfl
theorem s69_22q : Runs 69 22 [some (zrf r)] st h Q ↔ Runs 69 23 [some (zrf r)] (zrf r :: st) h Q := R_aldnq rfl rfl
theorem s69_23 (ht : tg a = 6) : Runs 69 23 ls (.ref a :: st) (n, tg, ln, I, J, O) Q ↔ Runs 69 26 ls (zrf (O a 0) :: st) (n, tg, ln, I, J, O) Q := R_getr rfl rfl rfl rfl ht
theorem s69_26 : Runs 69 26 [some (.ref a)] st h Q ↔ Runs 69 27 [some (.ref a)] (.ref a :: st) h Q := R_aldn rfl rfl
theorem s69_26q : Runs 69 26 [some (zrf r)] st h Q ↔ Runs 69 27 [some (zrf r)] (zrf r :: st) h Q := R_aldnq rfl rfl
theorem s69_27 (ht : tg a = 6) : Runs 69 27 ls (.ref a :: st) (n, tg, ln, I, J, O) Q ↔ Runs 69 30 ls (.int (I a 3) :: st) (n, tg, ln, I, J, O) Q := R_geti rfl rfl rfl rfl ht
theorem s69_30 (ht : tg a = 8) (hs : zsumc st ≤ 8) : Runs 69 30 ls (.int i0 :: .ref a :: st) (n, tg, ln, I, J, O) Q ↔ Runs 79 0 [some (.ref a), some (.int i0)] [] (n, tg, ln, I, J, O) (fun v h2 => Runs 69 33 ls (v.toList ++ st) h2 Q) := R_callv (a := a) (rest := st) rfl rfl rfl rfl rfl rfl rfl ht hs
theorem s69_33 : Runs 69 33 ls st h Q ↔ Runs 69 35 ls (.int 32 :: st) h Q := R_bipush rfl (by decide)
theorem s69_35 : Runs 69 35 ls (.int j :: .int i :: st) h Q ↔ if ¬ i = j then Runs 69 51 ls st h Q else Runs 69 38 ls st h Q := R_icne rfl rfl
theorem s69_38 : Runs 69 38 [some (.ref a)] st h Q ↔ Runs 69 39 [some (.ref a)] (.ref a :: st) h Q := R_aldn rfl rfl
theorem s69_38q : Runs 69 38 [some (zrf r)] st h Q ↔ Runs 69 39 [some (zrf r)] (zrf r :: st) h Q := R_aldnq rfl rfl
theorem s69_39 : Runs 69 39 ls (.int i :: st) h Q ↔ Runs 69 40 ls (.int i :: .int i :: st) h Q := R_dupi rfl
theorem s69_39q : Runs 69 39 ls (.ref a :: st) h Q ↔ Runs 69 40 ls (.ref a :: .ref a :: st) h Q := R_dupr rfl
theorem s69_40 (ht : tg a = 6) : Runs 69 40 ls (.ref a :: st) (n, tg, ln, I, J, O) Q ↔ Runs 69 43 ls (.int (I a 3) :: st) (n, tg, ln, I, J, O) Q := R_geti rfl rfl rfl rfl ht
theorem s69_43 : Runs 69 43 ls st h Q ↔ Runs 69 44 ls (.int 1 :: st) h Q := R_iconst rfl rfl
theorem s69_44 : Runs 69 44 ls (.int j :: .int i :: st) h Q ↔ Runs 69 45 ls (.int (i + j) :: st) h Q := R_iadd rfl
theorem s69_45 (ht : tg a = 6) : Runs 69 45 ls (.int i :: .ref a :: st) (n, tg, ln, I, J, O) Q ↔ Runs 69 48 ls st (n, tg, ln, zu I a 3 i, J, O) Q := R_puti rfl rfl rfl rfl rfl rfl ht
theorem s69_48 : Runs 69 48 ls st h Q ↔ Runs 69 8 ls st h Q := R_goto rfl rfl
theorem s69_51 : Runs 69 51 [some (.ref a)] st h Q ↔ Runs 69 52 [some (.ref a)] (.ref a :: st) h Q := R_aldn rfl rfl
theorem s69_51q : Runs 69 51 [some (zrf r)] st h Q ↔ Runs 69 52 [some (zrf r)] (zrf r :: st) h Q := R_aldnq rfl rfl
theorem s69_52 : Runs 69 52 [some (.ref a)] st h Q ↔ Runs 69 53 [some (.ref a)] (.ref a :: st) h Q := R_aldn rfl rfl
theorem s69_52q : Runs 69 52 [some (zrf r)] st h Q ↔ Runs 69 53 [some (zrf r)] (zrf r :: st) h Q := R_aldnq rfl rfl
theorem s69_53 : Runs 69 53 [some (.ref a)] st h Q ↔ Runs 69 54 [some (.ref a)] (.ref a :: st) h Q := R_aldn rfl rfl
theorem s69_53q : Runs 69 53 [some (zrf r)] st h Q ↔ Runs 69 54 [some (zrf r)] (zrf r :: st) h Q := R_aldnq rfl rfl
theorem s69_54 (ht : tg a = 6) : Runs 69 54 ls (.ref a :: st) (n, tg, ln, I, J, O) Q ↔ Runs 69 57 ls (.int (I a 3) :: st) (n, tg, ln, I, J, O) Q := R_geti rfl rfl rfl rfl ht
theorem s69_57 (ht : tg a = 6) (hs : zsumc st ≤ 8) : Runs 69 57 ls (.int i0 :: .ref a :: st) (n, tg, ln, I, J, O) Q ↔ Runs 71 0 [some (.ref a), some (.int i0), none] [] (n, tg, ln, I, J, O) (fun v h2 => Runs 69 60 ls (v.toList ++ st) h2 Q) := R_callv (a := a) (rest := st) rfl rfl rfl rfl rfl rfl rfl ht hs
theorem s69_60 (ht : tg a = 6) : Runs 69 60 ls (.int i :: .ref a :: st) (n, tg, ln, I, J, O) Q ↔ Runs 69 63 ls st (n, tg, ln, zu I a 5 i, J, O) Q := R_puti rfl rfl rfl rfl rfl rfl ht
theorem s69_63 : Runs 69 63 [some (.ref a)] st h Q ↔ Runs 69 64 [some (.ref a)] (.ref a :: st) h Q := R_aldn rfl rfl
theorem s69_63q : Runs 69 63 [some (zrf r)] st h Q ↔ Runs 69 64 [some (zrf r)] (zrf r :: st) h Q := R_aldnq rfl rfl
theorem s69_64 : Runs 69 64 [some (.ref a)] st h Q ↔ Runs 69 65 [some (.ref a)] (.ref a :: st) h Q := R_aldn rfl rfl
theorem s69_64q : Runs 69 64 [some (zrf r)] st h Q ↔ Runs 69 65 [some (zrf r)] (zrf r :: st) h Q := R_aldnq rfl rfl
theorem s69_65 (ht : tg a = 6) : Runs 69 65 ls (.ref a :: st) (n, tg, ln, I, J, O) Q ↔ Runs 69 68 ls (.int (I a 5) :: st) (n, tg, ln, I, J, O) Q := R_geti rfl rfl rfl rfl ht
theorem s69_68 : Runs 69 68 ls (.int i :: st) h Q ↔ if ¬ i = 0 then Runs 69 78 ls st h Q else Runs 69 71 ls st h Q := R_ifne rfl rfl
theorem s69_71 : Runs 69 71 [some (.ref a)] st h Q ↔ Runs 69 72 [some (.ref a)] (.ref a :: st) h Q := R_aldn rfl rfl
theorem s69_71q : Runs 69 71 [some (zrf r)] st h Q ↔ Runs 69 72 [some (zrf r)] (zrf r :: st) h Q := R_aldnq rfl rfl
theorem s69_72 (ht : tg a = 6) : Runs 69 72 ls (.ref a :: st) (n, tg, ln, I, J, O) Q ↔ Runs 69 75 ls (.int (I a 3) :: st) (n, tg, ln, I, J, O) Q := R_geti rfl rfl rfl rfl ht
theorem s69_75 : Runs 69 75 ls st h Q ↔ Runs 69 84 ls st h Q := R_goto rfl rfl
theorem s69_78 : Runs 69 78 [some (.ref a)] st h Q ↔ Runs 69 79 [some (.ref a)] (.ref a :: st) h Q := R_aldn rfl rfl
theorem s69_78q : Runs 69 78 [some (zrf r)] st h Q ↔ Runs 69 79 [some (zrf r)] (zrf r :: st) h Q := R_aldnq rfl rfl
theorem s69_79 (ht : tg a = 6) : Runs 69 79 ls (.ref a :: st) (n, tg, ln, I, J, O) Q ↔ Runs 69 82 ls (.int (I a 3) :: st) (n, tg, ln, I, J, O) Q := R_geti rfl rfl rfl rfl ht
theorem s69_82 : Runs 69 82 ls st h Q ↔ Runs 69 83 ls (.int 1 :: st) h Q := R_iconst rfl rfl
theorem s69_83 : Runs 69 83 ls (.int j :: .int i :: st) h Q ↔ Runs 69 84 ls (.int (i + j) :: st) h Q := R_iadd rfl
theorem s69_84 (ht : tg a = 6) : Runs 69 84 ls (.int i :: .ref a :: st) (n, tg, ln, I, J, O) Q ↔ Runs 69 87 ls st (n, tg, ln, zu I a 4 i, J, O) Q := R_puti rfl rfl rfl rfl rfl rfl ht
theorem s69_87 : Runs 69 87 [some (.ref a)] st h Q ↔ Runs 69 88 [some (.ref a)] (.ref a :: st) h Q := R_aldn rfl rfl
theorem s69_87q : Runs 69 87 [some (zrf r)] st h Q ↔ Runs 69 88 [some (zrf r)] (zrf r :: st) h Q := R_aldnq rfl rfl
theorem s69_88 (ht : tg a = 6) : Runs 69 88 ls (.ref a :: st) (n, tg, ln, I, J, O) Q ↔ Runs 69 91 ls (.int (I a 4) :: st) (n, tg, ln, I, J, O) Q := R_geti rfl rfl rfl rfl ht
theorem s69_91 : Runs 69 91 [some (.ref a)] st h Q ↔ Runs 69 92 [some (.ref a)] (.ref a :: st) h Q := R_aldn rfl rfl
theorem s69_91q : Runs 69 91 [some (zrf r)] st h Q ↔ Runs 69 92 [some (zrf r)] (zrf r :: st) h Q := R_aldnq rfl rfl
theorem s69_92 (ht : tg a = 6) : Runs 69 92 ls (.ref a :: st) (n, tg, ln, I, J, O) Q ↔ Runs 69 95 ls (zrf (O a 0) :: st) (n, tg, ln, I, J, O) Q := R_getr rfl rfl rfl rfl ht
theorem s69_95 (ht : tg a = 8) : Runs 69 95 ls (.ref a :: st) (n, tg, ln, I, J, O) Q ↔ Runs 69 98 ls (.int (I a 1) :: st) (n, tg, ln, I, J, O) Q := R_geti rfl rfl rfl rfl ht
theorem s69_98 : Runs 69 98 ls (.int j :: .int i :: st) h Q ↔ if j ≤ i then Runs 69 137 ls st h Q else Runs 69 101 ls st h Q := R_icge rfl rfl
theorem s69_101 : Runs 69 101 [some (.ref a)] st h Q ↔ Runs 69 102 [some (.ref a)] (.ref a :: st) h Q := R_aldn rfl rfl
theorem s69_101q : Runs 69 101 [some (zrf r)] st h Q ↔ Runs 69 102 [some (zrf r)] (zrf r :: st) h Q := R_aldnq rfl rfl
theorem s69_102 (ht : tg a = 6) : Runs 69 102 ls (.ref a :: st) (n, tg, ln, I, J, O) Q ↔ Runs 69 105 ls (.int (I a 5) :: st) (n, tg, ln, I, J, O) Q := R_geti rfl rfl rfl rfl ht
theorem s69_105 : Runs 69 105 ls st h Q ↔ Runs 69 106 ls (.int 3 :: st) h Q := R_iconst rfl rfl
theorem s69_106 : Runs 69 106 ls (.int j :: .int i :: st) h Q ↔ if i = j then Runs 69 137 ls st h Q else Runs 69 109 ls st h Q := R_iceq rfl rfl
theorem s69_109 : Runs 69 109 [some (.ref a)] st h Q ↔ Runs 69 110 [some (.ref a)] (.ref a :: st) h Q := R_aldn rfl rfl
theorem s69_109q : Runs 69 109 [some (zrf r)] st h Q ↔ Runs 69 110 [some (zrf r)] (zrf r :: st) h Q := R_aldnq rfl rfl
theorem s69_110 : Runs 69 110 [some (.ref a)] st h Q ↔ Runs 69 111 [some (.ref a)] (.ref a :: st) h Q := R_aldn rfl rfl
theorem s69_110q : Runs 69 110 [some (zrf r)] st h Q ↔ Runs 69 111 [some (zrf r)] (zrf r :: st) h Q := R_aldnq rfl rfl
theorem s69_111 (ht : tg a = 6) : Runs 69 111 ls (.ref a :: st) (n, tg, ln, I, J, O) Q ↔ Runs 69 114 ls (.int (I a 4) :: st) (n, tg, ln, I, J, O) Q := R_geti rfl rfl rfl rfl ht
theorem s69_114 (ht : tg a = 6) (hs : zsumc st ≤ 8) : Runs 69 114 ls (.int i0 :: .ref a :: st) (n, tg, ln, I, J, O) Q ↔ Runs 71 0 [some (.ref a), some (.int i0), none] [] (n, tg, ln, I, J, O) (fun v h2 => Runs 69 117 ls (v.toList ++ st) h2 Q) := R_callv (a := a) (rest := st) rfl rfl rfl rfl rfl rfl rfl ht hs
theorem s69_117 : Runs 69 117 [some (.ref a)] st h Q ↔ Runs 69 118 [some (.ref a)] (.ref a :: st) h Q := R_aldn rfl rfl
theorem s69_117q : Runs 69 117 [some (zrf r)] st h Q ↔ Runs 69 118 [some (zrf r)] (zrf r :: st) h Q := R_aldnq rfl rfl
theorem s69_118 (ht : tg a = 6) : Runs 69 118 ls (.ref a :: st) (n, tg, ln, I, J, O) Q ↔ Runs 69 121 ls (.int (I a 5) :: st) (n, tg, ln, I, J, O) Q := R_geti rfl rfl rfl rfl ht
theorem s69_121 : Runs 69 121 ls (.int j :: .int i :: st) h Q ↔ if ¬ i = j then Runs 69 137 ls st h Q else Runs 69 124 ls st h Q := R_icne rfl rfl
theorem s69_124 : Runs 69 124 [some (.ref a)] st h Q ↔ Runs 69 125 [some (.ref a)] (.ref a :: st) h Q := R_aldn rfl rfl
theorem s69_124q : Runs 69 124 [some (zrf r)] st h Q ↔ Runs 69 125 [some (zrf r)] (zrf r :: st) h Q := R_aldnq rfl rfl
theorem s69_125 : Runs 69 125 ls (.int i :: st) h Q ↔ Runs 69 126 ls (.int i :: .int i :: st) h Q := R_dupi rfl
theorem s69_125q : Runs 69 125 ls (.ref a :: st) h Q ↔ Runs 69 126 ls (.ref a :: .ref a :: st) h Q := R_dupr rfl
theorem s69_126 (ht : tg a = 6) : Runs 69 126 ls (.ref a :: st) (n, tg, ln, I, J, O) Q ↔ Runs 69 129 ls (.int (I a 4) :: st) (n, tg, ln, I, J, O) Q := R_geti rfl rfl rfl rfl ht
theorem s69_129 : Runs 69 129 ls st h Q ↔ Runs 69 130 ls (.int 1 :: st) h Q := R_iconst rfl rfl
theorem s69_130 : Runs 69 130 ls (.int j :: .int i :: st) h Q ↔ Runs 69 131 ls (.int (i + j) :: st) h Q := R_iadd rfl
theorem s69_131 (ht : tg a = 6) : Runs 69 131 ls (.int i :: .ref a :: st) (n, tg, ln, I, J, O) Q ↔ Runs 69 134 ls st (n, tg, ln, zu I a 4 i, J, O) Q := R_puti rfl rfl rfl rfl rfl rfl ht
theorem s69_134 : Runs 69 134 ls st h Q ↔ Runs 69 87 ls st h Q := R_goto rfl rfl
theorem s69_137 : Runs 69 137 [some (.ref a)] st h Q ↔ Runs 69 138 [some (.ref a)] (.ref a :: st) h Q := R_aldn rfl rfl
theorem s69_137q : Runs 69 137 [some (zrf r)] st h Q ↔ Runs 69 138 [some (zrf r)] (zrf r :: st) h Q := R_aldnq rfl rfl
theorem s69_138 : Runs 69 138 [some (.ref a)] st h Q ↔ Runs 69 139 [some (.ref a)] (.ref a :: st) h Q := R_aldn rfl rfl
theorem s69_138q : Runs 69 138 [some (zrf r)] st h Q ↔ Runs 69 139 [some (zrf r)] (zrf r :: st) h Q := R_aldnq rfl rfl
theorem s69_139 (ht : tg a = 6) : Runs 69 139 ls (.ref a :: st) (n, tg, ln, I, J, O) Q ↔ Runs 69 142 ls (.int (I a 5) :: st) (n, tg, ln, I, J, O) Q := R_geti rfl rfl rfl rfl ht
theorem s69_142 : Runs 69 142 ls st h Q ↔ Runs 69 143 ls (.int 2 :: st) h Q := R_iconst rfl rfl
theorem s69_143 : Runs 69 143 ls (.int j :: .int i :: st) h Q ↔ if ¬ i = j then Runs 69 166 ls st h Q else Runs 69 146 ls st h Q := R_icne rfl rfl
theorem s69_146 : Runs 69 146 [some (.ref a)] st h Q ↔ Runs 69 147 [some (.ref a)] (.ref a :: st) h Q := R_aldn rfl rfl
theorem s69_146q : Runs 69 146 [some (zrf r)] st h Q ↔ Runs 69 147 [some (zrf r)] (zrf r :: st) h Q := R_aldnq rfl rfl
theorem s69_147 (ht : tg a = 6) : Runs 69 147 ls (.ref a :: st) (n, tg, ln, I, J, O) Q ↔ Runs 69 150 ls (.int (I a 4) :: st) (n, tg, ln, I, J, O) Q := R_geti rfl rfl rfl rfl ht
theorem s69_150 : Runs 69 150 [some (.ref a)] st h Q ↔ Runs 69 151 [some (.ref a)] (.ref a :: st) h Q := R_aldn rfl rfl
theorem s69_150q : Runs 69 150 [some (zrf r)] st h Q ↔ Runs 69 151 [some (zrf r)] (zrf r :: st) h Q := R_aldnq rfl rfl
theorem s69_151 (ht : tg a = 6) : Runs 69 151 ls (.ref a :: st) (n, tg, ln, I, J, O) Q ↔ Runs 69 154 ls (.int (I a 3) :: st) (n, tg, ln, I, J, O) Q := R_geti rfl rfl rfl rfl ht
theorem s69_154 : Runs 69 154 ls (.int j :: .int i :: st) h Q ↔ Runs 69 155 ls (.int (i - j) :: st) h Q := R_isub rfl
theorem s69_155 : Runs 69 155 ls st h Q ↔ Runs 69 156 ls (.int 2 :: st) h Q := R_iconst rfl rfl
theorem s69_156 : Runs 69 156 ls (.int j :: .int i :: st) h Q ↔ if j < i then Runs 69 166 ls st h Q else Runs 69 159 ls st h Q := R_icgt rfl rfl
theorem s69_159 : Runs 69 159 [some (.ref a)] st h Q ↔ Runs 69 160 [some (.ref a)] (.ref a :: st) h Q := R_aldn rfl rfl
theorem s69_159q : Runs 69 159 [some (zrf r)] st h Q ↔ Runs 69 160 [some (zrf r)] (zrf r :: st) h Q := R_aldnq rfl rfl
theorem s69_160 (ht : tg a = 6) (hs : zsumc st ≤ 8) : Runs 69 160 ls (.ref a :: st) (n, tg, ln, I, J, O) Q ↔ Runs 70 0 [some (.ref a), none, none] [] (n, tg, ln, I, J, O) (fun v h2 => Runs 69 163 ls (v.toList ++ st) h2 Q) := R_callv (a := a) (rest := st) rfl rfl rfl rfl rfl rfl rfl ht hs
theorem s69_163 : Runs 69 163 ls st h Q ↔ Runs 69 167 ls st h Q := R_goto rfl rfl
theorem s69_166 : Runs 69 166 ls st h Q ↔ Runs 69 167 ls (.int (-1) :: st) h Q := R_iconst rfl rfl
theorem s69_167 (ht : tg a = 6) : Runs 69 167 ls (.int i :: .ref a :: st) (n, tg, ln, I, J, O) Q ↔ Runs 69 170 ls st (n, tg, ln, zu I a 6 i, J, O) Q := R_puti rfl rfl rfl rfl rfl rfl ht
theorem s69_170 : Runs 69 170 ls [] h Q ↔ Q none h := R_vret rfl rfl
theorem s70_0 : Runs 70 0 ls st h Q ↔ Runs 70 1 ls (.int 0 :: st) h Q := R_iconst rfl rfl
theorem s70_1 : Runs 70 1 [x0, x1, x2] (.int i :: st) h Q ↔ Runs 70 2 [zdrop x0, some (.int i), x2] st h Q := R_istn rfl rfl rfl
theorem s70_2 : Runs 70 2 [some (.ref a), x1, x2] st h Q ↔ Runs 70 3 [some (.ref a), x1, x2] (.ref a :: st) h Q := R_aldn rfl rfl
theorem s70_2q : Runs 70 2 [some (zrf r), x1, x2] st h Q ↔ Runs 70 3 [some (zrf r), x1, x2] (zrf r :: st) h Q := R_aldnq rfl rfl
theorem s70_3 (ht : tg a = 6) : Runs 70 3 ls (.ref a :: st) (n, tg, ln, I, J, O) Q ↔ Runs 70 6 ls (.int (I a 3) :: st) (n, tg, ln, I, J, O) Q := R_geti rfl rfl rfl rfl ht
theorem s70_6 : Runs 70 6 [x0, x1, x2] (.int i :: st) h Q ↔ Runs 70 7 [x0, zdrop x1, some (.int i)] st h Q := R_istn rfl rfl rfl
theorem s70_7 : Runs 70 7 [x0, x1, some (.int i)] st h Q ↔ Runs 70 8 [x0, x1, some (.int i)] (.int i :: st) h Q := R_ildn rfl rfl
theorem s70_8 : Runs 70 8 [some (.ref a), x1, x2] st h Q ↔ Runs 70 9 [some (.ref a), x1, x2] (.ref a :: st) h Q := R_aldn rfl rfl
theorem s70_8q : Runs 70 8 [some (zrf r), x1, x2] st h Q ↔ Runs 70 9 [some (zrf r), x1, x2] (zrf r :: st) h Q := R_aldnq rfl rfl
theorem s70_9 (ht : tg a = 6) : Runs 70 9 ls (.ref a :: st) (n, tg, ln, I, J, O) Q ↔ Runs 70 12 ls (.int (I a 4) :: st) (n, tg, ln, I, J, O) Q := R_geti rfl rfl rfl rfl ht
theorem s70_12 : Runs 70 12 ls (.int j :: .int i :: st) h Q ↔ if j ≤ i then Runs 70 38 ls st h Q else Runs 70 15 ls st h Q := R_icge rfl rfl
theorem s70_15 : Runs 70 15 ls st h Q ↔ Runs 70 17 ls (.int 10 :: st) h Q := R_bipush rfl (by decide)
theorem s70_17 : Runs 70 17 [x0, some (.int i), x2] st h Q ↔ Runs 70 18 [x0, some (.int i), x2] (.int i :: st) h Q := R_ildn rfl rfl
theorem s70_18 : Runs 70 18 ls (.int j :: .int i :: st) h Q ↔ Runs 70 19 ls (.int (i * j) :: st) h Q := R_imul rfl
theorem s70_19 : Runs 70 19 [some (.ref a), x1, x2] st h Q ↔ Runs 70 20 [some (.ref a), x1, x2] (.ref a :: st) h Q := R_aldn rfl rfl
theorem s70_19q : Runs 70 19 [some (zrf r), x1, x2] st h Q ↔ Runs 70 20 [some (zrf r), x1, x2] (zrf r :: st) h Q := R_aldnq rfl rfl
theorem s70_20 (ht : tg a = 6) : Runs 70 20 ls (.ref a :: st) (n, tg, ln, I, J, O) Q ↔ Runs 70 23 ls (zrf (O a 0) :: st) (n, tg, ln, I, J, O) Q := R_getr rfl rfl rfl rfl ht
theorem s70_23 : Runs 70 23 [x0, x1, some (.int i)] st h Q ↔ Runs 70 24 [x0, x1, some (.int i)] (.int i :: st) h Q := R_ildn rfl rfl
theorem s70_24 (ht : tg a = 8) (hs : zsumc st ≤ 8) : Runs 70 24 ls (.int i0 :: .ref a :: st) (n, tg, ln, I, J, O) Q ↔ Runs 79 0 [some (.ref a), some (.int i0)] [] (n, tg, ln, I, J, O) (fun v h2 => Runs 70 27 ls (v.toList ++ st) h2 Q) := R_callv (a := a) (rest := st) rfl rfl rfl rfl rfl rfl rfl ht hs
theorem s70_27 : Runs 70 27 ls (.int j :: .int i :: st) h Q ↔ Runs 70 28 ls (.int (i + j) :: st) h Q := R_iadd rfl
theorem s70_28 : Runs 70 28 ls st h Q ↔ Runs 70 30 ls (.int 48 :: st) h Q := R_bipush rfl (by decide)
theorem s70_30 : Runs 70 30 ls (.int j :: .int i :: st) h Q ↔ Runs 70 31 ls (.int (i - j) :: st) h Q := R_isub rfl
theorem s70_31 : Runs 70 31 [x0, x1, x2] (.int i :: st) h Q ↔ Runs 70 32 [zdrop x0, some (.int i), x2] st h Q := R_istn rfl rfl rfl
theorem s70_32 : Runs 70 32 [x0, x1, some (.int i)] st h Q ↔ Runs 70 35 [x0, zdrop x1, some (.int (i + 1))] st h Q := R_iinc rfl rfl rfl rfl rfl
theorem s70_35 : Runs 70 35 ls st h Q ↔ Runs 70 7 ls st h Q := R_goto rfl rfl
theorem s70_38 : Runs 70 38 [x0, some (.int i), x2] st h Q ↔ Runs 70 39 [x0, some (.int i), x2] (.int i :: st) h Q := R_ildn rfl rfl
theorem s70_39 : Runs 70 39 ls [.int i] h Q ↔ Q (some (.int i)) h := R_iret rfl rfl
theorem s71_0 : Runs 71 0 [some (.ref a), x1, x2] st h Q ↔ Runs 71 1 [some (.ref a), x1, x2] (.ref a :: st) h Q := R_aldn rfl rfl
theorem s71_0q : Runs 71 0 [some (zrf r), x1, x2] st h Q ↔ Runs 71 1 [some (zrf r), x1, x2] (zrf r :: st) h Q := R_aldnq rfl rfl
theorem s71_1 (ht : tg a = 6) : Runs 71 1 ls (.ref a :: st) (n, tg, ln, I, J, O) Q ↔ Runs 71 4 ls (zrf (O a 0) :: st) (n, tg, ln, I, J, O) Q := R_getr rfl rfl rfl rfl ht
theorem s71_4 : Runs 71 4 [x0, some (.int i), x2] st h Q ↔ Runs 71 5 [x0, some (.int i), x2] (.int i :: st) h Q := R_ildn rfl rfl
theorem s71_5 (ht : tg a = 8) (hs : zsumc st ≤ 8) : Runs 71 5 ls (.int i0 :: .ref a :: st) (n, tg, ln, I, J, O) Q ↔ Runs 79 0 [some (.ref a), some (.int i0)] [] (n, tg, ln, I, J, O) (fun v h2 => Runs 71 8 ls (v.toList ++ st) h2 Q) := R_callv (a := a) (rest := st) rfl rfl rfl rfl rfl rfl rfl ht hs
theorem s71_8 : Runs 71 8 [x0, x1, x2] (.int i :: st) h Q ↔ Runs 71 9 [x0, zdrop x1, some (.int i)] st h Q := R_istn rfl rfl rfl
theorem s71_9 : Runs 71 9 [x0, x1, some (.int i)] st h Q ↔ Runs 71 10 [x0, x1, some (.int i)] (.int i :: st) h Q := R_ildn rfl rfl
theorem s71_10 : Runs 71 10 ls st h Q ↔ Runs 71 11 ls (.int (-1) :: st) h Q := R_iconst rfl rfl
theorem s71_11 : Runs 71 11 ls (.int j :: .int i :: st) h Q ↔ if ¬ i = j then Runs 71 16 ls st h Q else Runs 71 14 ls st h Q := R_icne rfl rfl
theorem s71_14 : Runs 71 14 ls st h Q ↔ Runs 71 15 ls (.int 0 :: st) h Q := R_iconst rfl rfl
theorem s71_15 : Runs 71 15 ls [.int i] h Q ↔ Q (some (.int i)) h := R_iret rfl rfl
theorem s71_16 : Runs 71 16 [x0, x1, some (.int i)] st h Q ↔ Runs 71 17 [x0, x1, some (.int i)] (.int i :: st) h Q := R_ildn rfl rfl
theorem s71_17 : Runs 71 17 ls st h Q ↔ Runs 71 19 ls (.int 97 :: st) h Q := R_bipush rfl (by decide)
theorem s71_19 : Runs 71 19 ls (.int j :: .int i :: st) h Q ↔ if i < j then Runs 71 30 ls st h Q else Runs 71 22 ls st h Q := R_iclt rfl rfl
theorem s71_22 : Runs 71 22 [x0, x1, some (.int i)] st h Q ↔ Runs 71 23 [x0, x1, some (.int i)] (.int i :: st) h Q := R_ildn rfl rfl
theorem s71_23 : Runs 71 23 ls st h Q ↔ Runs 71 25 ls (.int 122 :: st) h Q := R_bipush rfl (by decide)
theorem s71_25 : Runs 71 25 ls (.int j :: .int i :: st) h Q ↔ if j < i then Runs 71 30 ls st h Q else Runs 71 28 ls st h Q := R_icgt rfl rfl
theorem s71_28 : Runs 71 28 ls st h Q ↔ Runs 71 29 ls (.int 1 :: st) h Q := R_iconst rfl rfl
theorem s71_29 : Runs 71 29 ls [.int i] h Q ↔ Q (some (.int i)) h := R_iret rfl rfl
theorem s71_30 : Runs 71 30 [x0, x1, some (.int i)] st h Q ↔ Runs 71 31 [x0, x1, some (.int i)] (.int i :: st) h Q := R_ildn rfl rfl
theorem s71_31 : Runs 71 31 ls st h Q ↔ Runs 71 33 ls (.int 48 :: st) h Q := R_bipush rfl (by decide)
theorem s71_33 : Runs 71 33 ls (.int j :: .int i :: st) h Q ↔ if i < j then Runs 71 46 ls st h Q else Runs 71 36 ls st h Q := R_iclt rfl rfl
theorem s71_36 : Runs 71 36 [x0, x1, some (.int i)] st h Q ↔ Runs 71 37 [x0, x1, some (.int i)] (.int i :: st) h Q := R_ildn rfl rfl
theorem s71_37 : Runs 71 37 ls st h Q ↔ Runs 71 39 ls (.int 57 :: st) h Q := R_bipush rfl (by decide)
theorem s71_39 : Runs 71 39 ls (.int j :: .int i :: st) h Q ↔ if j < i then Runs 71 46 ls st h Q else Runs 71 42 ls st h Q := R_icgt rfl rfl
theorem s71_42 : Runs 71 42 ls st h Q ↔ Runs 71 43 ls (.int 2 :: st) h Q := R_iconst rfl rfl
theorem s71_43 : Runs 71 43 ls st h Q ↔ Runs 71 47 ls st h Q := R_goto rfl rfl
theorem s71_46 : Runs 71 46 ls st h Q ↔ Runs 71 47 ls (.int 3 :: st) h Q := R_iconst rfl rfl
theorem s71_47 : Runs 71 47 ls [.int i] h Q ↔ Q (some (.int i)) h := R_iret rfl rfl
theorem s73_0 : Runs 73 0 [some (.ref a)] st h Q ↔ Runs 73 1 [some (.ref a)] (.ref a :: st) h Q := R_aldn rfl rfl
theorem s73_0q : Runs 73 0 [some (zrf r)] st h Q ↔ Runs 73 1 [some (zrf r)] (zrf r :: st) h Q := R_aldnq rfl rfl
theorem s73_1 : Runs 73 1 ls st h Q ↔ Runs 73 2 ls (.int 0 :: st) h Q := R_iconst rfl rfl
theorem s73_2 (ht : tg a = 7) : Runs 73 2 ls (.int i :: .ref a :: st) (n, tg, ln, I, J, O) Q ↔ Runs 73 5 ls st (n, tg, ln, zu I a 2 i, J, O) Q := R_puti rfl rfl rfl rfl rfl rfl ht
theorem s73_5 : Runs 73 5 ls [] h Q ↔ Q none h := R_vret rfl rfl
theorem s74_0 : Runs 74 0 [some (.ref a), x1, x2] st h Q ↔ Runs 74 1 [some (.ref a), x1, x2] (.ref a :: st) h Q := R_aldn rfl rfl
theorem s74_0q : Runs 74 0 [some (zrf r), x1, x2] st h Q ↔ Runs 74 1 [some (zrf r), x1, x2] (zrf r :: st) h Q := R_aldnq rfl rfl
theorem s74_1 (ht : tg a = 7) : Runs 74 1 ls (.ref a :: st) (n, tg, ln, I, J, O) Q ↔ Runs 74 4 ls (.int (I a 2) :: st) (n, tg, ln, I, J, O) Q := R_geti rfl rfl rfl rfl ht
theorem s74_4 : Runs 74 4 ls st h Q ↔ Runs 74 6 ls (.int 6 :: st) h Q := R_bipush rfl (by decide)
theorem s74_6 : Runs 74 6 ls (.int j :: .int i :: st) h Q ↔ if i < j then Runs 74 11 ls st h Q else Runs 74 9 ls st h Q := R_iclt rfl rfl
theorem s74_9 : Runs 74 9 ls st h Q ↔ Runs 74 10 ls (.int 0 :: st) h Q := R_iconst rfl rfl
theorem s74_10 (hx : i = 0 ∨ i = 1) : Runs 74 10 ls [.int i] h Q ↔ Q (some (.int i)) h := R_zret rfl rfl hx
theorem s74_11 : Runs 74 11 [some (.ref a), x1, x2] st h Q ↔ Runs 74 12 [some (.ref a), x1, x2] (.ref a :: st) h Q := R_aldn rfl rfl
theorem s74_11q : Runs 74 11 [some (zrf r), x1, x2] st h Q ↔ Runs 74 12 [some (zrf r), x1, x2] (zrf r :: st) h Q := R_aldnq rfl rfl
theorem s74_12 (ht : tg a = 7) : Runs 74 12 ls (.ref a :: st) (n, tg, ln, I, J, O) Q ↔ Runs 74 15 ls (zrf (O a 0) :: st) (n, tg, ln, I, J, O) Q := R_getr rfl rfl rfl rfl ht
theorem s74_15 : Runs 74 15 [some (.ref a), x1, x2] st h Q ↔ Runs 74 16 [some (.ref a), x1, x2] (.ref a :: st) h Q := R_aldn rfl rfl
theorem s74_15q : Runs 74 15 [some (zrf r), x1, x2] st h Q ↔ Runs 74 16 [some (zrf r), x1, x2] (zrf r :: st) h Q := R_aldnq rfl rfl
theorem s74_16 (ht : tg a = 7) : Runs 74 16 ls (.ref a :: st) (n, tg, ln, I, J, O) Q ↔ Runs 74 19 ls (.int (I a 2) :: st) (n, tg, ln, I, J, O) Q := R_geti rfl rfl rfl rfl ht
theorem s74_19 : Runs 74 19 [x0, some (.int i), x2] st h Q ↔ Runs 74 20 [x0, some (.int i), x2] (.int i :: st) h Q := R_ildn rfl rfl
theorem s74_20 (ht : tg a = 20) : Runs 74 20 ls (.int j :: .int i :: .ref a :: st) (n, tg, ln, I, J, O) Q ↔ ((0 ≤ i ∧ i < Int32.ofNat (ln a)) ∧ Runs 74 21 ls st (n, tg, ln, zu I a i j, J, O) Q) := R_iast rfl ht
theorem s74_21 : Runs 74 21 [some (.ref a), x1, x2] st h Q ↔ Runs 74 22 [some (.ref a), x1, x2] (.ref a :: st) h Q := R_aldn rfl rfl
theorem s74_21q : Runs 74 21 [some (zrf r), x1, x2] st h Q ↔ Runs 74 22 [some (zrf r), x1, x2] (zrf r :: st) h Q := R_aldnq rfl rfl
theorem s74_22 (ht : tg a = 7) : Runs 74 22 ls (.ref a :: st) (n, tg, ln, I, J, O) Q ↔ Runs 74 25 ls (zrf (O a 1) :: st) (n, tg, ln, I, J, O) Q := R_getr rfl rfl rfl rfl ht
theorem s74_25 : Runs 74 25 [some (.ref a), x1, x2] st h Q ↔ Runs 74 26 [some (.ref a), x1, x2] (.ref a :: st) h Q := R_aldn rfl rfl
theorem s74_25q : Runs 74 25 [some (zrf r), x1, x2] st h Q ↔ Runs 74 26 [some (zrf r), x1, x2] (zrf r :: st) h Q := R_aldnq rfl rfl
theorem s74_26 (ht : tg a = 7) : Runs 74 26 ls (.ref a :: st) (n, tg, ln, I, J, O) Q ↔ Runs 74 29 ls (.int (I a 2) :: st) (n, tg, ln, I, J, O) Q := R_geti rfl rfl rfl rfl ht
theorem s74_29 : Runs 74 29 [x0, x1, some (.int i)] st h Q ↔ Runs 74 30 [x0, x1, some (.int i)] (.int i :: st) h Q := R_ildn rfl rfl
theorem s74_30 (ht : tg a = 20) : Runs 74 30 ls (.int j :: .int i :: .ref a :: st) (n, tg, ln, I, J, O) Q ↔ ((0 ≤ i ∧ i < Int32.ofNat (ln a)) ∧ Runs 74 31 ls st (n, tg, ln, zu I a i j, J, O) Q) := R_iast rfl ht
theorem s74_31 : Runs 74 31 [some (.ref a), x1, x2] st h Q ↔ Runs 74 32 [some (.ref a), x1, x2] (.ref a :: st) h Q := R_aldn rfl rfl
theorem s74_31q : Runs 74 31 [some (zrf r), x1, x2] st h Q ↔ Runs 74 32 [some (zrf r), x1, x2] (zrf r :: st) h Q := R_aldnq rfl rfl
theorem s74_32 : Runs 74 32 ls (.int i :: st) h Q ↔ Runs 74 33 ls (.int i :: .int i :: st) h Q := R_dupi rfl
theorem s74_32q : Runs 74 32 ls (.ref a :: st) h Q ↔ Runs 74 33 ls (.ref a :: .ref a :: st) h Q := R_dupr rfl
theorem s74_33 (ht : tg a = 7) : Runs 74 33 ls (.ref a :: st) (n, tg, ln, I, J, O) Q ↔ Runs 74 36 ls (.int (I a 2) :: st) (n, tg, ln, I, J, O) Q := R_geti rfl rfl rfl rfl ht
theorem s74_36 : Runs 74 36 ls st h Q ↔ Runs 74 37 ls (.int 1 :: st) h Q := R_iconst rfl rfl
theorem s74_37 : Runs 74 37 ls (.int j :: .int i :: st) h Q ↔ Runs 74 38 ls (.int (i + j) :: st) h Q := R_iadd rfl
theorem s74_38 (ht : tg a = 7) : Runs 74 38 ls (.int i :: .ref a :: st) (n, tg, ln, I, J, O) Q ↔ Runs 74 41 ls st (n, tg, ln, zu I a 2 i, J, O) Q := R_puti rfl rfl rfl rfl rfl rfl ht
theorem s74_41 : Runs 74 41 ls st h Q ↔ Runs 74 42 ls (.int 1 :: st) h Q := R_iconst rfl rfl
theorem s74_42 (hx : i = 0 ∨ i = 1) : Runs 74 42 ls [.int i] h Q ↔ Q (some (.int i)) h := R_zret rfl rfl hx
theorem s75_0 : Runs 75 0 ls st h Q ↔ Runs 75 1 ls (.int 0 :: st) h Q := R_iconst rfl rfl
theorem s75_1 : Runs 75 1 [x0, x1, x2, x3] (.int i :: st) h Q ↔ Runs 75 2 [x0, x1, zdrop x2, some (.int i)] st h Q := R_istn rfl rfl rfl
theorem s75_2 : Runs 75 2 [x0, x1, x2, some (.int i)] st h Q ↔ Runs 75 3 [x0, x1, x2, some (.int i)] (.int i :: st) h Q := R_ildn rfl rfl
theorem s75_3 : Runs 75 3 [some (.ref a), x1, x2, x3] st h Q ↔ Runs 75 4 [some (.ref a), x1, x2, x3] (.ref a :: st) h Q := R_aldn rfl rfl
theorem s75_3q : Runs 75 3 [some (zrf r), x1, x2, x3] st h Q ↔ Runs 75 4 [some (zrf r), x1, x2, x3] (zrf r :: st) h Q := R_aldnq rfl rfl
theorem s75_4 (ht : tg a = 7) : Runs 75 4 ls (.ref a :: st) (n, tg, ln, I, J, O) Q ↔ Runs 75 7 ls (.int (I a 2) :: st) (n, tg, ln, I, J, O) Q := R_geti rfl rfl rfl rfl ht
theorem s75_7 : Runs 75 7 ls (.int j :: .int i :: st) h Q ↔ if j ≤ i then Runs 75 38 ls st h Q else Runs 75 10 ls st h Q := R_icge rfl rfl
theorem s75_10 : Runs 75 10 [some (.ref a), x1, x2, x3] st h Q ↔ Runs 75 11 [some (.ref a), x1, x2, x3] (.ref a :: st) h Q := R_aldn rfl rfl
theorem s75_10q : Runs 75 10 [some (zrf r), x1, x2, x3] st h Q ↔ Runs 75 11 [some (zrf r), x1, x2, x3] (zrf r :: st) h Q := R_aldnq rfl rfl
theorem s75_11 (ht : tg a = 7) : Runs 75 11 ls (.ref a :: st) (n, tg, ln, I, J, O) Q ↔ Runs 75 14 ls (zrf (O a 0) :: st) (n, tg, ln, I, J, O) Q := R_getr rfl rfl rfl rfl ht
theorem s75_14 : Runs 75 14 [x0, x1, x2, some (.int i)] st h Q ↔ Runs 75 15 [x0, x1, x2, some (.int i)] (.int i :: st) h Q := R_ildn rfl rfl
theorem s75_15 (ht : tg a = 20) : Runs 75 15 ls (.int i :: .ref a :: st) (n, tg, ln, I, J, O) Q ↔ ((0 ≤ i ∧ i < Int32.ofNat (ln a)) ∧ Runs 75 16 ls (.int (I a i) :: st) (n, tg, ln, I, J, O) Q) := R_iald rfl ht
theorem s75_16 : Runs 75 16 [x0, some (.int i), x2, x3] st h Q ↔ Runs 75 17 [x0, some (.int i), x2, x3] (.int i :: st) h Q := R_ildn rfl rfl
theorem s75_17 : Runs 75 17 ls (.int j :: .int i :: st) h Q ↔ if ¬ i = j then Runs 75 32 ls st h Q else Runs 75 20 ls st h Q := R_icne rfl rfl
theorem s75_20 : Runs 75 20 [some (.ref a), x1, x2, x3] st h Q ↔ Runs 75 21 [some (.ref a), x1, x2, x3] (.ref a :: st) h Q := R_aldn rfl rfl
theorem s75_20q : Runs 75 20 [some (zrf r), x1, x2, x3] st h Q ↔ Runs 75 21 [some (zrf r), x1, x2, x3] (zrf r :: st) h Q := R_aldnq rfl rfl
theorem s75_21 (ht : tg a = 7) : Runs 75 21 ls (.ref a :: st) (n, tg, ln, I, J, O) Q ↔ Runs 75 24 ls (zrf (O a 1) :: st) (n, tg, ln, I, J, O) Q := R_getr rfl rfl rfl rfl ht
theorem s75_24 : Runs 75 24 [x0, x1, x2, some (.int i)] st h Q ↔ Runs 75 25 [x0, x1, x2, some (.int i)] (.int i :: st) h Q := R_ildn rfl rfl
theorem s75_25 (ht : tg a = 20) : Runs 75 25 ls (.int i :: .ref a :: st) (n, tg, ln, I, J, O) Q ↔ ((0 ≤ i ∧ i < Int32.ofNat (ln a)) ∧ Runs 75 26 ls (.int (I a i) :: st) (n, tg, ln, I, J, O) Q) := R_iald rfl ht
theorem s75_26 : Runs 75 26 [x0, x1, some (.int i), x3] st h Q ↔ Runs 75 27 [x0, x1, some (.int i), x3] (.int i :: st) h Q := R_ildn rfl rfl
theorem s75_27 : Runs 75 27 ls (.int j :: .int i :: st) h Q ↔ if i = j then Runs 75 32 ls st h Q else Runs 75 30 ls st h Q := R_iceq rfl rfl
theorem s75_30 : Runs 75 30 ls st h Q ↔ Runs 75 31 ls (.int 0 :: st) h Q := R_iconst rfl rfl
theorem s75_31 (hx : i = 0 ∨ i = 1) : Runs 75 31 ls [.int i] h Q ↔ Q (some (.int i)) h := R_zret rfl rfl hx
theorem s75_32 : Runs 75 32 [x0, x1, x2, some (.int i)] st h Q ↔ Runs 75 35 [x0, x1, zdrop x2, some (.int (i + 1))] st h Q := R_iinc rfl rfl rfl rfl rfl
theorem s75_35 : Runs 75 35 ls st h Q ↔ Runs 75 2 ls st h Q := R_goto rfl rfl
theorem s75_38 : Runs 75 38 ls st h Q ↔ Runs 75 39 ls (.int 1 :: st) h Q := R_iconst rfl rfl
theorem s75_39 (hx : i = 0 ∨ i = 1) : Runs 75 39 ls [.int i] h Q ↔ Q (some (.int i)) h := R_zret rfl rfl hx
theorem s77_0 : Runs 77 0 [some (.ref a)] st h Q ↔ Runs 77 1 [some (.ref a)] (.ref a :: st) h Q := R_aldn rfl rfl
theorem s77_0q : Runs 77 0 [some (zrf r)] st h Q ↔ Runs 77 1 [some (zrf r)] (zrf r :: st) h Q := R_aldnq rfl rfl
theorem s77_1 : Runs 77 1 ls st h Q ↔ Runs 77 2 ls (.int 0 :: st) h Q := R_iconst rfl rfl
theorem s77_2 (ht : tg a = 8) : Runs 77 2 ls (.int i :: .ref a :: st) (n, tg, ln, I, J, O) Q ↔ Runs 77 5 ls st (n, tg, ln, zu I a 1 i, J, O) Q := R_puti rfl rfl rfl rfl rfl rfl ht
theorem s77_5 : Runs 77 5 ls [] h Q ↔ Q none h := R_vret rfl rfl
theorem s78_0 : Runs 78 0 [some (.ref a), x1] st h Q ↔ Runs 78 1 [some (.ref a), x1] (.ref a :: st) h Q := R_aldn rfl rfl
theorem s78_0q : Runs 78 0 [some (zrf r), x1] st h Q ↔ Runs 78 1 [some (zrf r), x1] (zrf r :: st) h Q := R_aldnq rfl rfl
theorem s78_1 (ht : tg a = 8) : Runs 78 1 ls (.ref a :: st) (n, tg, ln, I, J, O) Q ↔ Runs 78 4 ls (.int (I a 1) :: st) (n, tg, ln, I, J, O) Q := R_geti rfl rfl rfl rfl ht
theorem s78_4 : Runs 78 4 ls st h Q ↔ Runs 78 7 ls (.int 200 :: st) h Q := R_sipush rfl (by decide)
theorem s78_7 : Runs 78 7 ls (.int j :: .int i :: st) h Q ↔ if i < j then Runs 78 12 ls st h Q else Runs 78 10 ls st h Q := R_iclt rfl rfl
theorem s78_10 : Runs 78 10 ls st h Q ↔ Runs 78 11 ls (.int 0 :: st) h Q := R_iconst rfl rfl
theorem s78_11 (hx : i = 0 ∨ i = 1) : Runs 78 11 ls [.int i] h Q ↔ Q (some (.int i)) h := R_zret rfl rfl hx
theorem s78_12 : Runs 78 12 [some (.ref a), x1] st h Q ↔ Runs 78 13 [some (.ref a), x1] (.ref a :: st) h Q := R_aldn rfl rfl
theorem s78_12q : Runs 78 12 [some (zrf r), x1] st h Q ↔ Runs 78 13 [some (zrf r), x1] (zrf r :: st) h Q := R_aldnq rfl rfl
theorem s78_13 (ht : tg a = 8) : Runs 78 13 ls (.ref a :: st) (n, tg, ln, I, J, O) Q ↔ Runs 78 16 ls (zrf (O a 0) :: st) (n, tg, ln, I, J, O) Q := R_getr rfl rfl rfl rfl ht
theorem s78_16 : Runs 78 16 [some (.ref a), x1] st h Q ↔ Runs 78 17 [some (.ref a), x1] (.ref a :: st) h Q := R_aldn rfl rfl
theorem s78_16q : Runs 78 16 [some (zrf r), x1] st h Q ↔ Runs 78 17 [some (zrf r), x1] (zrf r :: st) h Q := R_aldnq rfl rfl
theorem s78_17 (ht : tg a = 8) : Runs 78 17 ls (.ref a :: st) (n, tg, ln, I, J, O) Q ↔ Runs 78 20 ls (.int (I a 1) :: st) (n, tg, ln, I, J, O) Q := R_geti rfl rfl rfl rfl ht
theorem s78_20 : Runs 78 20 [x0, some (.int i)] st h Q ↔ Runs 78 21 [x0, some (.int i)] (.int i :: st) h Q := R_ildn rfl rfl
theorem s78_21 (ht : tg a = 20) : Runs 78 21 ls (.int j :: .int i :: .ref a :: st) (n, tg, ln, I, J, O) Q ↔ ((0 ≤ i ∧ i < Int32.ofNat (ln a)) ∧ Runs 78 22 ls st (n, tg, ln, zu I a i j, J, O) Q) := R_iast rfl ht
theorem s78_22 : Runs 78 22 [some (.ref a), x1] st h Q ↔ Runs 78 23 [some (.ref a), x1] (.ref a :: st) h Q := R_aldn rfl rfl
theorem s78_22q : Runs 78 22 [some (zrf r), x1] st h Q ↔ Runs 78 23 [some (zrf r), x1] (zrf r :: st) h Q := R_aldnq rfl rfl
theorem s78_23 : Runs 78 23 ls (.int i :: st) h Q ↔ Runs 78 24 ls (.int i :: .int i :: st) h Q := R_dupi rfl
theorem s78_23q : Runs 78 23 ls (.ref a :: st) h Q ↔ Runs 78 24 ls (.ref a :: .ref a :: st) h Q := R_dupr rfl
theorem s78_24 (ht : tg a = 8) : Runs 78 24 ls (.ref a :: st) (n, tg, ln, I, J, O) Q ↔ Runs 78 27 ls (.int (I a 1) :: st) (n, tg, ln, I, J, O) Q := R_geti rfl rfl rfl rfl ht
theorem s78_27 : Runs 78 27 ls st h Q ↔ Runs 78 28 ls (.int 1 :: st) h Q := R_iconst rfl rfl
theorem s78_28 : Runs 78 28 ls (.int j :: .int i :: st) h Q ↔ Runs 78 29 ls (.int (i + j) :: st) h Q := R_iadd rfl
theorem s78_29 (ht : tg a = 8) : Runs 78 29 ls (.int i :: .ref a :: st) (n, tg, ln, I, J, O) Q ↔ Runs 78 32 ls st (n, tg, ln, zu I a 1 i, J, O) Q := R_puti rfl rfl rfl rfl rfl rfl ht
theorem s78_32 : Runs 78 32 ls st h Q ↔ Runs 78 33 ls (.int 1 :: st) h Q := R_iconst rfl rfl
theorem s78_33 (hx : i = 0 ∨ i = 1) : Runs 78 33 ls [.int i] h Q ↔ Q (some (.int i)) h := R_zret rfl rfl hx
theorem s79_0 : Runs 79 0 [x0, some (.int i)] st h Q ↔ Runs 79 1 [x0, some (.int i)] (.int i :: st) h Q := R_ildn rfl rfl
theorem s79_1 : Runs 79 1 ls (.int i :: st) h Q ↔ if i < 0 then Runs 79 21 ls st h Q else Runs 79 4 ls st h Q := R_iflt rfl rfl
theorem s79_4 : Runs 79 4 [x0, some (.int i)] st h Q ↔ Runs 79 5 [x0, some (.int i)] (.int i :: st) h Q := R_ildn rfl rfl
theorem s79_5 : Runs 79 5 [some (.ref a), x1] st h Q ↔ Runs 79 6 [some (.ref a), x1] (.ref a :: st) h Q := R_aldn rfl rfl
theorem s79_5q : Runs 79 5 [some (zrf r), x1] st h Q ↔ Runs 79 6 [some (zrf r), x1] (zrf r :: st) h Q := R_aldnq rfl rfl
theorem s79_6 (ht : tg a = 8) : Runs 79 6 ls (.ref a :: st) (n, tg, ln, I, J, O) Q ↔ Runs 79 9 ls (.int (I a 1) :: st) (n, tg, ln, I, J, O) Q := R_geti rfl rfl rfl rfl ht
theorem s79_9 : Runs 79 9 ls (.int j :: .int i :: st) h Q ↔ if j ≤ i then Runs 79 21 ls st h Q else Runs 79 12 ls st h Q := R_icge rfl rfl
theorem s79_12 : Runs 79 12 [some (.ref a), x1] st h Q ↔ Runs 79 13 [some (.ref a), x1] (.ref a :: st) h Q := R_aldn rfl rfl
theorem s79_12q : Runs 79 12 [some (zrf r), x1] st h Q ↔ Runs 79 13 [some (zrf r), x1] (zrf r :: st) h Q := R_aldnq rfl rfl
theorem s79_13 (ht : tg a = 8) : Runs 79 13 ls (.ref a :: st) (n, tg, ln, I, J, O) Q ↔ Runs 79 16 ls (zrf (O a 0) :: st) (n, tg, ln, I, J, O) Q := R_getr rfl rfl rfl rfl ht
theorem s79_16 : Runs 79 16 [x0, some (.int i)] st h Q ↔ Runs 79 17 [x0, some (.int i)] (.int i :: st) h Q := R_ildn rfl rfl
theorem s79_17 (ht : tg a = 20) : Runs 79 17 ls (.int i :: .ref a :: st) (n, tg, ln, I, J, O) Q ↔ ((0 ≤ i ∧ i < Int32.ofNat (ln a)) ∧ Runs 79 18 ls (.int (I a i) :: st) (n, tg, ln, I, J, O) Q) := R_iald rfl ht
theorem s79_18 : Runs 79 18 ls st h Q ↔ Runs 79 22 ls st h Q := R_goto rfl rfl
theorem s79_21 : Runs 79 21 ls st h Q ↔ Runs 79 22 ls (.int (-1) :: st) h Q := R_iconst rfl rfl
theorem s79_22 : Runs 79 22 ls [.int i] h Q ↔ Q (some (.int i)) h := R_iret rfl rfl
theorem s205_0 : Runs 205 0 [some (.int i)] st h Q ↔ Runs 205 1 [some (.int i)] (.int i :: st) h Q := R_ildn rfl rfl
theorem s205_1 : Runs 205 1 [some (.int i)] st h Q ↔ Runs 205 2 [some (.int i)] (.int i :: st) h Q := R_ildn rfl rfl
theorem s205_2 : Runs 205 2 ls st h Q ↔ Runs 205 3 ls (.int 1 :: st) h Q := R_iconst rfl rfl
theorem s205_3 : Runs 205 3 ls (.int j :: .int i :: st) h Q ↔ Runs 205 4 ls (.int ((i.toUInt32 >>> (j.toUInt32 &&& Int32.toUInt32 31)).toInt32) :: st) h Q := R_iushr rfl
theorem s205_4 : Runs 205 4 ls st h Q ↔ Runs 205 7 ls (.int 1431655765 :: st) h Q := R_ldcw rfl rfl
theorem s205_7 : Runs 205 7 ls (.int j :: .int i :: st) h Q ↔ Runs 205 8 ls (.int (i &&& j) :: st) h Q := R_iand rfl
theorem s205_8 : Runs 205 8 ls (.int j :: .int i :: st) h Q ↔ Runs 205 9 ls (.int (i - j) :: st) h Q := R_isub rfl
theorem s205_9 : Runs 205 9 [x0] (.int i :: st) h Q ↔ Runs 205 10 [some (.int i)] st h Q := R_istn rfl rfl rfl
theorem s205_10 : Runs 205 10 [some (.int i)] st h Q ↔ Runs 205 11 [some (.int i)] (.int i :: st) h Q := R_ildn rfl rfl
theorem s205_11 : Runs 205 11 ls st h Q ↔ Runs 205 14 ls (.int 858993459 :: st) h Q := R_ldcw rfl rfl
theorem s205_14 : Runs 205 14 ls (.int j :: .int i :: st) h Q ↔ Runs 205 15 ls (.int (i &&& j) :: st) h Q := R_iand rfl
theorem s205_15 : Runs 205 15 [some (.int i)] st h Q ↔ Runs 205 16 [some (.int i)] (.int i :: st) h Q := R_ildn rfl rfl
theorem s205_16 : Runs 205 16 ls st h Q ↔ Runs 205 17 ls (.int 2 :: st) h Q := R_iconst rfl rfl
theorem s205_17 : Runs 205 17 ls (.int j :: .int i :: st) h Q ↔ Runs 205 18 ls (.int ((i.toUInt32 >>> (j.toUInt32 &&& Int32.toUInt32 31)).toInt32) :: st) h Q := R_iushr rfl
theorem s205_18 : Runs 205 18 ls st h Q ↔ Runs 205 21 ls (.int 858993459 :: st) h Q := R_ldcw rfl rfl
theorem s205_21 : Runs 205 21 ls (.int j :: .int i :: st) h Q ↔ Runs 205 22 ls (.int (i &&& j) :: st) h Q := R_iand rfl
theorem s205_22 : Runs 205 22 ls (.int j :: .int i :: st) h Q ↔ Runs 205 23 ls (.int (i + j) :: st) h Q := R_iadd rfl
theorem s205_23 : Runs 205 23 [x0] (.int i :: st) h Q ↔ Runs 205 24 [some (.int i)] st h Q := R_istn rfl rfl rfl
theorem s205_24 : Runs 205 24 [some (.int i)] st h Q ↔ Runs 205 25 [some (.int i)] (.int i :: st) h Q := R_ildn rfl rfl
theorem s205_25 : Runs 205 25 [some (.int i)] st h Q ↔ Runs 205 26 [some (.int i)] (.int i :: st) h Q := R_ildn rfl rfl
theorem s205_26 : Runs 205 26 ls st h Q ↔ Runs 205 27 ls (.int 4 :: st) h Q := R_iconst rfl rfl
theorem s205_27 : Runs 205 27 ls (.int j :: .int i :: st) h Q ↔ Runs 205 28 ls (.int ((i.toUInt32 >>> (j.toUInt32 &&& Int32.toUInt32 31)).toInt32) :: st) h Q := R_iushr rfl
theorem s205_28 : Runs 205 28 ls (.int j :: .int i :: st) h Q ↔ Runs 205 29 ls (.int (i + j) :: st) h Q := R_iadd rfl
theorem s205_29 : Runs 205 29 ls st h Q ↔ Runs 205 32 ls (.int 252645135 :: st) h Q := R_ldcw rfl rfl
theorem s205_32 : Runs 205 32 ls (.int j :: .int i :: st) h Q ↔ Runs 205 33 ls (.int (i &&& j) :: st) h Q := R_iand rfl
theorem s205_33 : Runs 205 33 [x0] (.int i :: st) h Q ↔ Runs 205 34 [some (.int i)] st h Q := R_istn rfl rfl rfl
theorem s205_34 : Runs 205 34 [some (.int i)] st h Q ↔ Runs 205 35 [some (.int i)] (.int i :: st) h Q := R_ildn rfl rfl
theorem s205_35 : Runs 205 35 [some (.int i)] st h Q ↔ Runs 205 36 [some (.int i)] (.int i :: st) h Q := R_ildn rfl rfl
theorem s205_36 : Runs 205 36 ls st h Q ↔ Runs 205 38 ls (.int 8 :: st) h Q := R_bipush rfl (by decide)
theorem s205_38 : Runs 205 38 ls (.int j :: .int i :: st) h Q ↔ Runs 205 39 ls (.int ((i.toUInt32 >>> (j.toUInt32 &&& Int32.toUInt32 31)).toInt32) :: st) h Q := R_iushr rfl
theorem s205_39 : Runs 205 39 ls (.int j :: .int i :: st) h Q ↔ Runs 205 40 ls (.int (i + j) :: st) h Q := R_iadd rfl
theorem s205_40 : Runs 205 40 [x0] (.int i :: st) h Q ↔ Runs 205 41 [some (.int i)] st h Q := R_istn rfl rfl rfl
theorem s205_41 : Runs 205 41 [some (.int i)] st h Q ↔ Runs 205 42 [some (.int i)] (.int i :: st) h Q := R_ildn rfl rfl
theorem s205_42 : Runs 205 42 [some (.int i)] st h Q ↔ Runs 205 43 [some (.int i)] (.int i :: st) h Q := R_ildn rfl rfl
theorem s205_43 : Runs 205 43 ls st h Q ↔ Runs 205 45 ls (.int 16 :: st) h Q := R_bipush rfl (by decide)
theorem s205_45 : Runs 205 45 ls (.int j :: .int i :: st) h Q ↔ Runs 205 46 ls (.int ((i.toUInt32 >>> (j.toUInt32 &&& Int32.toUInt32 31)).toInt32) :: st) h Q := R_iushr rfl
theorem s205_46 : Runs 205 46 ls (.int j :: .int i :: st) h Q ↔ Runs 205 47 ls (.int (i + j) :: st) h Q := R_iadd rfl
theorem s205_47 : Runs 205 47 [x0] (.int i :: st) h Q ↔ Runs 205 48 [some (.int i)] st h Q := R_istn rfl rfl rfl
theorem s205_48 : Runs 205 48 [some (.int i)] st h Q ↔ Runs 205 49 [some (.int i)] (.int i :: st) h Q := R_ildn rfl rfl
theorem s205_49 : Runs 205 49 ls st h Q ↔ Runs 205 51 ls (.int 63 :: st) h Q := R_bipush rfl (by decide)
theorem s205_51 : Runs 205 51 ls (.int j :: .int i :: st) h Q ↔ Runs 205 52 ls (.int (i &&& j) :: st) h Q := R_iand rfl
theorem s205_52 : Runs 205 52 ls [.int i] h Q ↔ Q (some (.int i)) h := R_iret rfl rfl
end ZROWS
