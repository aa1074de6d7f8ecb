section ZROWS
variable {ls : List (Option Value)} {st : List Value} {h : ZH} {Q : Option Value → ZH → Prop} {n : Nat} {tg ln : Nat → Nat} {I : Nat → Int32 → Int32} {J : Nat → Int32 → Int64} {O : Nat → Int32 → Option Nat} {i j i0 i1 i2 i3 i4 : Int32} {u w u0 u1 u2 u3 : Int64} {a b b0 b1 b2 : Nat} {r r0 r1 r2 : Option Nat}
variable {x0 x1 x2 x3 x4 x5 x6 x7 x8 x9 x10 x11 x12 x13 x14 x15 x16 x17 x18 x19 : Option Value}
theorem s1_0 : Runs 1 0 [some (.ref a)] st h Q ↔ Runs 1 1 [some (.ref a)] (.ref a :: st) h Q := R_aldn rfl rfl
theorem s1_0q : Runs 1 0 [some (zrf r)] st h Q ↔ Runs 1 1 [some (zrf r)] (zrf r :: st) h Q := R_aldnq rfl rfl
theorem s1_1 (ht : tg a = 1) : Runs 1 1 ls (.ref a :: st) (n, tg, ln, I, J, O) Q ↔ Runs 1 4 ls (.int (I a 1) :: st) (n, tg, ln, I, J, O) Q := R_geti rfl rfl rfl rfl ht
theorem s1_4 : Runs 1 4 ls st h Q ↔ Runs 1 5 ls (.int (-1) :: st) h Q := R_iconst rfl rfl
theorem s1_5 : Runs 1 5 ls (.int j :: .int i :: st) h Q ↔ if ¬ i = j then Runs 1 12 ls st h Q else Runs 1 8 ls st h Q := R_icne rfl rfl
theorem s1_8 : Runs 1 8 ls st h Q ↔ Runs 1 9 ls (.int 1 :: st) h Q := R_iconst rfl rfl
theorem s1_9 : Runs 1 9 ls st h Q ↔ Runs 1 13 ls st h Q := R_goto rfl rfl
theorem s1_12 : Runs 1 12 ls st h Q ↔ Runs 1 13 ls (.int 0 :: st) h Q := R_iconst rfl rfl
theorem s1_13 (hx : i = 0 ∨ i = 1) : Runs 1 13 ls [.int i] h Q ↔ Q (some (.int i)) h := R_zret rfl rfl hx
theorem s2_0 : Runs 2 0 [some (.ref a)] st h Q ↔ Runs 2 1 [some (.ref a)] (.ref a :: st) h Q := R_aldn rfl rfl
theorem s2_0q : Runs 2 0 [some (zrf r)] st h Q ↔ Runs 2 1 [some (zrf r)] (zrf r :: st) h Q := R_aldnq rfl rfl
theorem s2_1 : Runs 2 1 ls st h Q ↔ Runs 2 2 ls (.int (-1) :: st) h Q := R_iconst rfl rfl
theorem s2_2 (ht : tg a = 1) : Runs 2 2 ls (.int i :: .ref a :: st) (n, tg, ln, I, J, O) Q ↔ Runs 2 5 ls st (n, tg, ln, zu I a 1 i, J, O) Q := R_puti rfl rfl rfl rfl rfl rfl ht
theorem s2_5 : Runs 2 5 ls [] h Q ↔ Q none h := R_vret rfl rfl
theorem s3_0 : Runs 3 0 ls st h Q ↔ Runs 3 1 ls (.int 0 :: st) h Q := R_iconst rfl rfl
theorem s3_1 : Runs 3 1 [x0, x1, x2] (.int i :: st) h Q ↔ Runs 3 2 [x0, zdrop x1, some (.int i)] st h Q := R_istn rfl rfl rfl
theorem s3_2 : Runs 3 2 [x0, x1, some (.int i)] st h Q ↔ Runs 3 3 [x0, x1, some (.int i)] (.int i :: st) h Q := R_ildn rfl rfl
theorem s3_3 : Runs 3 3 ls st h Q ↔ Runs 3 5 ls (.int 12 :: st) h Q := R_bipush rfl (by decide)
theorem s3_5 : Runs 3 5 ls (.int j :: .int i :: st) h Q ↔ if j ≤ i then Runs 3 21 ls st h Q else Runs 3 8 ls st h Q := R_icge rfl rfl
theorem s3_8 : Runs 3 8 [some (.ref a), x1, x2] st h Q ↔ Runs 3 9 [some (.ref a), x1, x2] (.ref a :: st) h Q := R_aldn rfl rfl
theorem s3_8q : Runs 3 8 [some (zrf r), x1, x2] st h Q ↔ Runs 3 9 [some (zrf r), x1, x2] (zrf r :: st) h Q := R_aldnq rfl rfl
theorem s3_9 (ht : tg a = 1) : Runs 3 9 ls (.ref a :: st) (n, tg, ln, I, J, O) Q ↔ Runs 3 12 ls (zrf (O a 0) :: st) (n, tg, ln, I, J, O) Q := R_getr rfl rfl rfl rfl ht
theorem s3_12 : Runs 3 12 [x0, x1, some (.int i)] st h Q ↔ Runs 3 13 [x0, x1, some (.int i)] (.int i :: st) h Q := R_ildn rfl rfl
theorem s3_13 : Runs 3 13 ls st h Q ↔ Runs 3 14 ls (zrf none :: st) h Q := R_null rfl
theorem s3_14 (ht : tg a = 25) (hx : ∀ q, r = some q → tg q = 3) : Runs 3 14 ls (zrf r :: .int i :: .ref a :: st) (n, tg, ln, I, J, O) Q ↔ ((0 ≤ i ∧ i < Int32.ofNat (ln a)) ∧ Runs 3 15 ls st (n, tg, ln, I, J, zu O a i r) Q) := R_aasth rfl ht hx
theorem s3_15 : Runs 3 15 [x0, x1, some (.int i)] st h Q ↔ Runs 3 18 [x0, zdrop x1, some (.int (i + 1))] st h Q := R_iinc rfl rfl rfl rfl rfl
theorem s3_18 : Runs 3 18 ls st h Q ↔ Runs 3 2 ls st h Q := R_goto rfl rfl
theorem s3_21 : Runs 3 21 [some (.ref a), x1, x2] st h Q ↔ Runs 3 22 [some (.ref a), x1, x2] (.ref a :: st) h Q := R_aldn rfl rfl
theorem s3_21q : Runs 3 21 [some (zrf r), x1, x2] st h Q ↔ Runs 3 22 [some (zrf r), x1, x2] (zrf r :: st) h Q := R_aldnq rfl rfl
theorem s3_22 : Runs 3 22 [x0, some (.int i), x2] st h Q ↔ Runs 3 23 [x0, some (.int i), x2] (.int i :: st) h Q := R_ildn rfl rfl
theorem s3_23 (ht : tg a = 1) : Runs 3 23 ls (.int i :: .ref a :: st) (n, tg, ln, I, J, O) Q ↔ Runs 3 26 ls st (n, tg, ln, zu I a 1 i, J, O) Q := R_puti rfl rfl rfl rfl rfl rfl ht
theorem s3_26 : Runs 3 26 ls [] h Q ↔ Q none h := R_vret rfl rfl
theorem s4_0 : Runs 4 0 [some (.ref a), x1] st h Q ↔ Runs 4 1 [some (.ref a), x1] (.ref a :: st) h Q := R_aldn rfl rfl
theorem s4_0q : Runs 4 0 [some (zrf r), x1] st h Q ↔ Runs 4 1 [some (zrf r), x1] (zrf r :: st) h Q := R_aldnq rfl rfl
theorem s4_1 (ht : tg a = 1) (hs : zsumc st ≤ 8) : Runs 4 1 ls (.ref a :: st) (n, tg, ln, I, J, O) Q ↔ Runs 1 0 [some (.ref a)] [] (n, tg, ln, I, J, O) (fun v h2 => Runs 4 4 ls (v.toList ++ st) h2 Q) := R_callv (a := a) (rest := st) rfl rfl rfl rfl rfl rfl rfl ht hs
theorem s4_4 : Runs 4 4 ls (.int i :: st) h Q ↔ if i = 0 then Runs 4 10 ls st h Q else Runs 4 7 ls st h Q := R_ifeq rfl rfl
theorem s4_7 : Runs 4 7 ls st h Q ↔ Runs 4 9 ls (.int (-11) :: st) h Q := R_bipush rfl (by decide)
theorem s4_9 : Runs 4 9 ls [.int i] h Q ↔ Q (some (.int i)) h := R_iret rfl rfl
theorem s4_10 : Runs 4 10 [x0, some (.int i)] st h Q ↔ Runs 4 11 [x0, some (.int i)] (.int i :: st) h Q := R_ildn rfl rfl
theorem s4_11 : Runs 4 11 ls (.int i :: st) h Q ↔ if i < 0 then Runs 4 26 ls st h Q else Runs 4 14 ls st h Q := R_iflt rfl rfl
theorem s4_14 : Runs 4 14 [x0, some (.int i)] st h Q ↔ Runs 4 15 [x0, some (.int i)] (.int i :: st) h Q := R_ildn rfl rfl
theorem s4_15 : Runs 4 15 [some (.ref a), x1] st h Q ↔ Runs 4 16 [some (.ref a), x1] (.ref a :: st) h Q := R_aldn rfl rfl
theorem s4_15q : Runs 4 15 [some (zrf r), x1] st h Q ↔ Runs 4 16 [some (zrf r), x1] (zrf r :: st) h Q := R_aldnq rfl rfl
theorem s4_16 (ht : tg a = 1) : Runs 4 16 ls (.ref a :: st) (n, tg, ln, I, J, O) Q ↔ Runs 4 19 ls (.int (I a 1) :: st) (n, tg, ln, I, J, O) Q := R_geti rfl rfl rfl rfl ht
theorem s4_19 : Runs 4 19 ls (.int j :: .int i :: st) h Q ↔ if j ≤ i then Runs 4 26 ls st h Q else Runs 4 22 ls st h Q := R_icge rfl rfl
theorem s4_22 : Runs 4 22 ls st h Q ↔ Runs 4 23 ls (.int 0 :: st) h Q := R_iconst rfl rfl
theorem s4_23 : Runs 4 23 ls st h Q ↔ Runs 4 28 ls st h Q := R_goto rfl rfl
theorem s4_26 : Runs 4 26 ls st h Q ↔ Runs 4 28 ls (.int (-12) :: st) h Q := R_bipush rfl (by decide)
theorem s4_28 : Runs 4 28 ls [.int i] h Q ↔ Q (some (.int i)) h := R_iret rfl rfl
theorem s5_0 : Runs 5 0 [some (.ref a), x1] st h Q ↔ Runs 5 1 [some (.ref a), x1] (.ref a :: st) h Q := R_aldn rfl rfl
theorem s5_0q : Runs 5 0 [some (zrf r), x1] st h Q ↔ Runs 5 1 [some (zrf r), x1] (zrf r :: st) h Q := R_aldnq rfl rfl
theorem s5_1 : Runs 5 1 [x0, some (.int i)] st h Q ↔ Runs 5 2 [x0, some (.int i)] (.int i :: st) h Q := R_ildn rfl rfl
theorem s5_2 (ht : tg a = 1) (hs : zsumc st ≤ 8) : Runs 5 2 ls (.int i0 :: .ref a :: st) (n, tg, ln, I, J, O) Q ↔ Runs 4 0 [some (.ref a), some (.int i0)] [] (n, tg, ln, I, J, O) (fun v h2 => Runs 5 5 ls (v.toList ++ st) h2 Q) := R_callv (a := a) (rest := st) rfl rfl rfl rfl rfl rfl rfl ht hs
theorem s5_5 : Runs 5 5 ls (.int i :: st) h Q ↔ if ¬ i = 0 then Runs 5 17 ls st h Q else Runs 5 8 ls st h Q := R_ifne rfl rfl
theorem s5_8 : Runs 5 8 [some (.ref a), x1] st h Q ↔ Runs 5 9 [some (.ref a), x1] (.ref a :: st) h Q := R_aldn rfl rfl
theorem s5_8q : Runs 5 8 [some (zrf r), x1] st h Q ↔ Runs 5 9 [some (zrf r), x1] (zrf r :: st) h Q := R_aldnq rfl rfl
theorem s5_9 (ht : tg a = 1) : Runs 5 9 ls (.ref a :: st) (n, tg, ln, I, J, O) Q ↔ Runs 5 12 ls (zrf (O a 0) :: st) (n, tg, ln, I, J, O) Q := R_getr rfl rfl rfl rfl ht
theorem s5_12 : Runs 5 12 [x0, some (.int i)] st h Q ↔ Runs 5 13 [x0, some (.int i)] (.int i :: st) h Q := R_ildn rfl rfl
theorem s5_13 (ht : tg a = 23) : Runs 5 13 ls (.int i :: .ref a :: st) (n, tg, ln, I, J, O) Q ↔ ((0 ≤ i ∧ i < Int32.ofNat (ln a)) ∧ Runs 5 14 ls (zrf (O a i) :: st) (n, tg, ln, I, J, O) Q) := R_aald rfl ht (by decide)
theorem s5_13q (ht : tg a = 24) : Runs 5 13 ls (.int i :: .ref a :: st) (n, tg, ln, I, J, O) Q ↔ ((0 ≤ i ∧ i < Int32.ofNat (ln a)) ∧ Runs 5 14 ls (zrf (O a i) :: st) (n, tg, ln, I, J, O) Q) := R_aald rfl ht (by decide)
theorem s5_13p (ht : tg a = 25) : Runs 5 13 ls (.int i :: .ref a :: st) (n, tg, ln, I, J, O) Q ↔ ((0 ≤ i ∧ i < Int32.ofNat (ln a)) ∧ Runs 5 14 ls (zrf (O a i) :: st) (n, tg, ln, I, J, O) Q) := R_aald rfl ht (by decide)
theorem s5_14 : Runs 5 14 ls st h Q ↔ Runs 5 18 ls st h Q := R_goto rfl rfl
theorem s5_17 : Runs 5 17 ls st h Q ↔ Runs 5 18 ls (zrf none :: st) h Q := R_null rfl
theorem s5_18 : Runs 5 18 ls [.ref a] h Q ↔ Q (some (.ref a)) h := R_aret rfl rfl
theorem s5_18q : Runs 5 18 ls [zrf r] h Q ↔ Q (some (zrf r)) h := R_aretq rfl rfl
theorem s6_0 : Runs 6 0 [some (.ref a), x1, x2] st h Q ↔ Runs 6 1 [some (.ref a), x1, x2] (.ref a :: st) h Q := R_aldn rfl rfl
theorem s6_0q : Runs 6 0 [some (zrf r), x1, x2] st h Q ↔ Runs 6 1 [some (zrf r), x1, x2] (zrf r :: st) h Q := R_aldnq rfl rfl
theorem s6_1 : Runs 6 1 [x0, some (.int i), x2] st h Q ↔ Runs 6 2 [x0, some (.int i), x2] (.int i :: st) h Q := R_ildn rfl rfl
theorem s6_2 (ht : tg a = 1) (hs : zsumc st ≤ 8) : Runs 6 2 ls (.int i0 :: .ref a :: st) (n, tg, ln, I, J, O) Q ↔ Runs 4 0 [some (.ref a), some (.int i0)] [] (n, tg, ln, I, J, O) (fun v h2 => Runs 6 5 ls (v.toList ++ st) h2 Q) := R_callv (a := a) (rest := st) rfl rfl rfl rfl rfl rfl rfl ht hs
theorem s6_5 : Runs 6 5 [x0, x1, x2] (.int i :: st) h Q ↔ Runs 6 6 [x0, zdrop x1, some (.int i)] st h Q := R_istn rfl rfl rfl
theorem s6_6 : Runs 6 6 [x0, x1, some (.int i)] st h Q ↔ Runs 6 7 [x0, x1, some (.int i)] (.int i :: st) h Q := R_ildn rfl rfl
theorem s6_7 : Runs 6 7 ls (.int i :: st) h Q ↔ if ¬ i = 0 then Runs 6 15 ls st h Q else Runs 6 10 ls st h Q := R_ifne rfl rfl
theorem s6_10 : Runs 6 10 ls st h Q ↔ Runs 6 12 ls (.int (-13) :: st) h Q := R_bipush rfl (by decide)
theorem s6_12 : Runs 6 12 ls st h Q ↔ Runs 6 16 ls st h Q := R_goto rfl rfl
theorem s6_15 : Runs 6 15 [x0, x1, some (.int i)] st h Q ↔ Runs 6 16 [x0, x1, some (.int i)] (.int i :: st) h Q := R_ildn rfl rfl
theorem s6_16 : Runs 6 16 ls [.int i] h Q ↔ Q (some (.int i)) h := R_iret rfl rfl
theorem s7_0 : Runs 7 0 [x0, some (.int i), x2] st h Q ↔ Runs 7 1 [x0, some (.int i), x2] (.int i :: st) h Q := R_ildn rfl rfl
theorem s7_1 : Runs 7 1 ls (.int i :: st) h Q ↔ if i < 0 then Runs 7 30 ls st h Q else Runs 7 4 ls st h Q := R_iflt rfl rfl
theorem s7_4 : Runs 7 4 [x0, x1, some (.int i)] st h Q ↔ Runs 7 5 [x0, x1, some (.int i)] (.int i :: st) h Q := R_ildn rfl rfl
theorem s7_5 : Runs 7 5 ls (.int i :: st) h Q ↔ if i < 0 then Runs 7 30 ls st h Q else Runs 7 8 ls st h Q := R_iflt rfl rfl
theorem s7_8 : Runs 7 8 [x0, some (.int i), x2] st h Q ↔ Runs 7 9 [x0, some (.int i), x2] (.int i :: st) h Q := R_ildn rfl rfl
theorem s7_9 : Runs 7 9 [some (.ref a), x1, x2] st h Q ↔ Runs 7 10 [some (.ref a), x1, x2] (.ref a :: st) h Q := R_aldn rfl rfl
theorem s7_9q : Runs 7 9 [some (zrf r), x1, x2] st h Q ↔ Runs 7 10 [some (zrf r), x1, x2] (zrf r :: st) h Q := R_aldnq rfl rfl
theorem s7_10 (ht : tg a = 1) : Runs 7 10 ls (.ref a :: st) (n, tg, ln, I, J, O) Q ↔ Runs 7 13 ls (.int (I a 1) :: st) (n, tg, ln, I, J, O) Q := R_geti rfl rfl rfl rfl ht
theorem s7_13 : Runs 7 13 ls (.int j :: .int i :: st) h Q ↔ if j < i then Runs 7 30 ls st h Q else Runs 7 16 ls st h Q := R_icgt rfl rfl
theorem s7_16 : Runs 7 16 [x0, x1, some (.int i)] st h Q ↔ Runs 7 17 [x0, x1, some (.int i)] (.int i :: st) h Q := R_ildn rfl rfl
theorem s7_17 : Runs 7 17 [some (.ref a), x1, x2] st h Q ↔ Runs 7 18 [some (.ref a), x1, x2] (.ref a :: st) h Q := R_aldn rfl rfl
theorem s7_17q : Runs 7 17 [some (zrf r), x1, x2] st h Q ↔ Runs 7 18 [some (zrf r), x1, x2] (zrf r :: st) h Q := R_aldnq rfl rfl
theorem s7_18 (ht : tg a = 1) : Runs 7 18 ls (.ref a :: st) (n, tg, ln, I, J, O) Q ↔ Runs 7 21 ls (.int (I a 1) :: st) (n, tg, ln, I, J, O) Q := R_geti rfl rfl rfl rfl ht
theorem s7_21 : Runs 7 21 [x0, some (.int i), x2] st h Q ↔ Runs 7 22 [x0, some (.int i), x2] (.int i :: st) h Q := R_ildn rfl rfl
theorem s7_22 : Runs 7 22 ls (.int j :: .int i :: st) h Q ↔ Runs 7 23 ls (.int (i - j) :: st) h Q := R_isub rfl
theorem s7_23 : Runs 7 23 ls (.int j :: .int i :: st) h Q ↔ if j < i then Runs 7 30 ls st h Q else Runs 7 26 ls st h Q := R_icgt rfl rfl
theorem s7_26 : Runs 7 26 ls st h Q ↔ Runs 7 27 ls (.int 1 :: st) h Q := R_iconst rfl rfl
theorem s7_27 : Runs 7 27 ls st h Q ↔ Runs 7 31 ls st h Q := R_goto rfl rfl
theorem s7_30 : Runs 7 30 ls st h Q ↔ Runs 7 31 ls (.int 0 :: st) h Q := R_iconst rfl rfl
theorem s7_31 (hx : i = 0 ∨ i = 1) : Runs 7 31 ls [.int i] h Q ↔ Q (some (.int i)) h := R_zret rfl rfl hx
theorem s8_0 : Runs 8 0 [some (.ref a), x1, x2, x3, x4, x5] st h Q ↔ Runs 8 1 [some (.ref a), x1, x2, x3, x4, x5] (.ref a :: st) h Q := R_aldn rfl rfl
theorem s8_0q : Runs 8 0 [some (zrf r), x1, x2, x3, x4, x5] st h Q ↔ Runs 8 1 [some (zrf r), x1, x2, x3, x4, x5] (zrf r :: st) h Q := R_aldnq rfl rfl
theorem s8_1 : Runs 8 1 [x0, some (.int i), x2, x3, x4, x5] st h Q ↔ Runs 8 2 [x0, some (.int i), x2, x3, x4, x5] (.int i :: st) h Q := R_ildn rfl rfl
theorem s8_2 : Runs 8 2 [x0, x1, x2, x3, some (.int i), x5] st h Q ↔ Runs 8 4 [x0, x1, x2, x3, some (.int i), x5] (.int i :: st) h Q := R_ild rfl rfl
theorem s8_4 (ht : tg a = 1) (hs : zsumc st ≤ 8) : Runs 8 4 ls (.int i1 :: .int i0 :: .ref a :: st) (n, tg, ln, I, J, O) Q ↔ Runs 7 0 [some (.ref a), some (.int i0), some (.int i1)] [] (n, tg, ln, I, J, O) (fun v h2 => Runs 8 7 ls (v.toList ++ st) h2 Q) := R_callv (a := a) (rest := st) rfl rfl rfl rfl rfl rfl rfl ht hs
theorem s8_7 : Runs 8 7 ls (.int i :: st) h Q ↔ if i = 0 then Runs 8 20 ls st h Q else Runs 8 10 ls st h Q := R_ifeq rfl rfl
theorem s8_10 : Runs 8 10 [x0, x1, some (.ref a), x3, x4, x5] st h Q ↔ Runs 8 11 [x0, x1, some (.ref a), x3, x4, x5] (.ref a :: st) h Q := R_aldn rfl rfl
theorem s8_10q : Runs 8 10 [x0, x1, some (zrf r), x3, x4, x5] st h Q ↔ Runs 8 11 [x0, x1, some (zrf r), x3, x4, x5] (zrf r :: st) h Q := R_aldnq rfl rfl
theorem s8_11 : Runs 8 11 [x0, x1, x2, some (.int i), x4, x5] st h Q ↔ Runs 8 12 [x0, x1, x2, some (.int i), x4, x5] (.int i :: st) h Q := R_ildn rfl rfl
theorem s8_12 : Runs 8 12 [x0, x1, x2, x3, some (.int i), x5] st h Q ↔ Runs 8 14 [x0, x1, x2, x3, some (.int i), x5] (.int i :: st) h Q := R_ild rfl rfl
theorem s8_14 (ht : tg a = 1) (hs : zsumc st ≤ 8) : Runs 8 14 ls (.int i1 :: .int i0 :: .ref a :: st) (n, tg, ln, I, J, O) Q ↔ Runs 7 0 [some (.ref a), some (.int i0), some (.int i1)] [] (n, tg, ln, I, J, O) (fun v h2 => Runs 8 17 ls (v.toList ++ st) h2 Q) := R_callv (a := a) (rest := st) rfl rfl rfl rfl rfl rfl rfl ht hs
theorem s8_17 : Runs 8 17 ls (.int i :: st) h Q ↔ if ¬ i = 0 then Runs 8 21 ls st h Q else Runs 8 20 ls st h Q := R_ifne rfl rfl
theorem s8_20 : Runs 8 20 ls [] h Q ↔ Q none h := R_vret rfl rfl
theorem s8_21 : Runs 8 21 [x0, some (.int i), x2, x3, x4, x5] st h Q ↔ Runs 8 22 [x0, some (.int i), x2, x3, x4, x5] (.int i :: st) h Q := R_ildn rfl rfl
theorem s8_22 : Runs 8 22 [x0, x1, x2, some (.int i), x4, x5] st h Q ↔ Runs 8 23 [x0, x1, x2, some (.int i), x4, x5] (.int i :: st) h Q := R_ildn rfl rfl
theorem s8_23 : Runs 8 23 ls (.int j :: .int i :: st) h Q ↔ if j < i then Runs 8 63 ls st h Q else Runs 8 26 ls st h Q := R_icgt rfl rfl
theorem s8_26 : Runs 8 26 ls st h Q ↔ Runs 8 27 ls (.int 0 :: st) h Q := R_iconst rfl rfl
theorem s8_27 : Runs 8 27 [x0, x1, x2, x3, x4, x5] (.int i :: st) h Q ↔ Runs 8 29 [x0, x1, x2, x3, zdrop x4, some (.int i)] st h Q := R_ist rfl rfl rfl
theorem s8_29 : Runs 8 29 [x0, x1, x2, x3, x4, some (.int i)] st h Q ↔ Runs 8 31 [x0, x1, x2, x3, x4, some (.int i)] (.int i :: st) h Q := R_ild rfl rfl
theorem s8_31 : Runs 8 31 [x0, x1, x2, x3, some (.int i), x5] st h Q ↔ Runs 8 33 [x0, x1, x2, x3, some (.int i), x5] (.int i :: st) h Q := R_ild rfl rfl
theorem s8_33 : Runs 8 33 ls (.int j :: .int i :: st) h Q ↔ if j ≤ i then Runs 8 60 ls st h Q else Runs 8 36 ls st h Q := R_icge rfl rfl
theorem s8_36 : Runs 8 36 [some (.ref a), x1, x2, x3, x4, x5] st h Q ↔ Runs 8 37 [some (.ref a), x1, x2, x3, x4, x5] (.ref a :: st) h Q := R_aldn rfl rfl
theorem s8_36q : Runs 8 36 [some (zrf r), x1, x2, x3, x4, x5] st h Q ↔ Runs 8 37 [some (zrf r), x1, x2, x3, x4, x5] (zrf r :: st) h Q := R_aldnq rfl rfl
theorem s8_37 (ht : tg a = 1) : Runs 8 37 ls (.ref a :: st) (n, tg, ln, I, J, O) Q ↔ Runs 8 40 ls (zrf (O a 0) :: st) (n, tg, ln, I, J, O) Q := R_getr rfl rfl rfl rfl ht
theorem s8_40 : Runs 8 40 [x0, some (.int i), x2, x3, x4, x5] st h Q ↔ Runs 8 41 [x0, some (.int i), x2, x3, x4, x5] (.int i :: st) h Q := R_ildn rfl rfl
theorem s8_41 : Runs 8 41 [x0, x1, x2, x3, x4, some (.int i)] st h Q ↔ Runs 8 43 [x0, x1, x2, x3, x4, some (.int i)] (.int i :: st) h Q := R_ild rfl rfl
theorem s8_43 : Runs 8 43 ls (.int j :: .int i :: st) h Q ↔ Runs 8 44 ls (.int (i + j) :: st) h Q := R_iadd rfl
theorem s8_44 : Runs 8 44 [x0, x1, some (.ref a), x3, x4, x5] st h Q ↔ Runs 8 45 [x0, x1, some (.ref a), x3, x4, x5] (.ref a :: st) h Q := R_aldn rfl rfl
theorem s8_44q : Runs 8 44 [x0, x1, some (zrf r), x3, x4, x5] st h Q ↔ Runs 8 45 [x0, x1, some (zrf r), x3, x4, x5] (zrf r :: st) h Q := R_aldnq rfl rfl
theorem s8_45 (ht : tg a = 1) : Runs 8 45 ls (.ref a :: st) (n, tg, ln, I, J, O) Q ↔ Runs 8 48 ls (zrf (O a 0) :: st) (n, tg, ln, I, J, O) Q := R_getr rfl rfl rfl rfl ht
theorem s8_48 : Runs 8 48 [x0, x1, x2, some (.int i), x4, x5] st h Q ↔ Runs 8 49 [x0, x1, x2, some (.int i), x4, x5] (.int i :: st) h Q := R_ildn rfl rfl
theorem s8_49 : Runs 8 49 [x0, x1, x2, x3, x4, some (.int i)] st h Q ↔ Runs 8 51 [x0, x1, x2, x3, x4, some (.int i)] (.int i :: st) h Q := R_ild rfl rfl
theorem s8_51 : Runs 8 51 ls (.int j :: .int i :: st) h Q ↔ Runs 8 52 ls (.int (i + j) :: st) h Q := R_iadd rfl
theorem s8_52 (ht : tg a = 23) : Runs 8 52 ls (.int i :: .ref a :: st) (n, tg, ln, I, J, O) Q ↔ ((0 ≤ i ∧ i < Int32.ofNat (ln a)) ∧ Runs 8 53 ls (zrf (O a i) :: st) (n, tg, ln, I, J, O) Q) := R_aald rfl ht (by decide)
theorem s8_52q (ht : tg a = 24) : Runs 8 52 ls (.int i :: .ref a :: st) (n, tg, ln, I, J, O) Q ↔ ((0 ≤ i ∧ i < Int32.ofNat (ln a)) ∧ Runs 8 53 ls (zrf (O a i) :: st) (n, tg, ln, I, J, O) Q) := R_aald rfl ht (by decide)
theorem s8_52p (ht : tg a = 25) : Runs 8 52 ls (.int i :: .ref a :: st) (n, tg, ln, I, J, O) Q ↔ ((0 ≤ i ∧ i < Int32.ofNat (ln a)) ∧ Runs 8 53 ls (zrf (O a i) :: st) (n, tg, ln, I, J, O) Q) := R_aald rfl ht (by decide)
theorem s8_53 (ht : tg a = 25) (hx : ∀ q, r = some q → tg q = 3) : Runs 8 53 ls (zrf r :: .int i :: .ref a :: st) (n, tg, ln, I, J, O) Q ↔ ((0 ≤ i ∧ i < Int32.ofNat (ln a)) ∧ Runs 8 54 ls st (n, tg, ln, I, J, zu O a i r) Q) := R_aasth rfl ht hx
theorem s8_54 : Runs 8 54 [x0, x1, x2, x3, x4, some (.int i)] st h Q ↔ Runs 8 57 [x0, x1, x2, x3, zdrop x4, some (.int (i + 1))] st h Q := R_iinc rfl rfl rfl rfl rfl
theorem s8_57 : Runs 8 57 ls st h Q ↔ Runs 8 29 ls st h Q := R_goto rfl rfl
theorem s8_60 : Runs 8 60 ls st h Q ↔ Runs 8 98 ls st h Q := R_goto rfl rfl
theorem s8_63 : Runs 8 63 [x0, x1, x2, x3, some (.int i), x5] st h Q ↔ Runs 8 65 [x0, x1, x2, x3, some (.int i), x5] (.int i :: st) h Q := R_ild rfl rfl
theorem s8_65 : Runs 8 65 ls st h Q ↔ Runs 8 66 ls (.int 1 :: st) h Q := R_iconst rfl rfl
theorem s8_66 : Runs 8 66 ls (.int j :: .int i :: st) h Q ↔ Runs 8 67 ls (.int (i - j) :: st) h Q := R_isub rfl
theorem s8_67 : Runs 8 67 [x0, x1, x2, x3, x4, x5] (.int i :: st) h Q ↔ Runs 8 69 [x0, x1, x2, x3, zdrop x4, some (.int i)] st h Q := R_ist rfl rfl rfl
theorem s8_69 : Runs 8 69 [x0, x1, x2, x3, x4, some (.int i)] st h Q ↔ Runs 8 71 [x0, x1, x2, x3, x4, some (.int i)] (.int i :: st) h Q := R_ild rfl rfl
theorem s8_71 : Runs 8 71 ls (.int i :: st) h Q ↔ if i < 0 then Runs 8 98 ls st h Q else Runs 8 74 ls st h Q := R_iflt rfl rfl
theorem s8_74 : Runs 8 74 [some (.ref a), x1, x2, x3, x4, x5] st h Q ↔ Runs 8 75 [some (.ref a), x1, x2, x3, x4, x5] (.ref a :: st) h Q := R_aldn rfl rfl
theorem s8_74q : Runs 8 74 [some (zrf r), x1, x2, x3, x4, x5] st h Q ↔ Runs 8 75 [some (zrf r), x1, x2, x3, x4, x5] (zrf r :: st) h Q := R_aldnq rfl rfl
theorem s8_75 (ht : tg a = 1) : Runs 8 75 ls (.ref a :: st) (n, tg, ln, I, J, O) Q ↔ Runs 8 78 ls (zrf (O a 0) :: st) (n, tg, ln, I, J, O) Q := R_getr rfl rfl rfl rfl ht
theorem s8_78 : Runs 8 78 [x0, some (.int i), x2, x3, x4, x5] st h Q ↔ Runs 8 79 [x0, some (.int i), x2, x3, x4, x5] (.int i :: st) h Q := R_ildn rfl rfl
theorem s8_79 : Runs 8 79 [x0, x1, x2, x3, x4, some (.int i)] st h Q ↔ Runs 8 81 [x0, x1, x2, x3, x4, some (.int i)] (.int i :: st) h Q := R_ild rfl rfl
theorem s8_81 : Runs 8 81 ls (.int j :: .int i :: st) h Q ↔ Runs 8 82 ls (.int (i + j) :: st) h Q := R_iadd rfl
theorem s8_82 : Runs 8 82 [x0, x1, some (.ref a), x3, x4, x5] st h Q ↔ Runs 8 83 [x0, x1, some (.ref a), x3, x4, x5] (.ref a :: st) h Q := R_aldn rfl rfl
theorem s8_82q : Runs 8 82 [x0, x1, some (zrf r), x3, x4, x5] st h Q ↔ Runs 8 83 [x0, x1, some (zrf r), x3, x4, x5] (zrf r :: st) h Q := R_aldnq rfl rfl
theorem s8_83 (ht : tg a = 1) : Runs 8 83 ls (.ref a :: st) (n, tg, ln, I, J, O) Q ↔ Runs 8 86 ls (zrf (O a 0) :: st) (n, tg, ln, I, J, O) Q := R_getr rfl rfl rfl rfl ht
theorem s8_86 : Runs 8 86 [x0, x1, x2, some (.int i), x4, x5] st h Q ↔ Runs 8 87 [x0, x1, x2, some (.int i), x4, x5] (.int i :: st) h Q := R_ildn rfl rfl
theorem s8_87 : Runs 8 87 [x0, x1, x2, x3, x4, some (.int i)] st h Q ↔ Runs 8 89 [x0, x1, x2, x3, x4, some (.int i)] (.int i :: st) h Q := R_ild rfl rfl
theorem s8_89 : Runs 8 89 ls (.int j :: .int i :: st) h Q ↔ Runs 8 90 ls (.int (i + j) :: st) h Q := R_iadd rfl
theorem s8_90 (ht : tg a = 23) : Runs 8 90 ls (.int i :: .ref a :: st) (n, tg, ln, I, J, O) Q ↔ ((0 ≤ i ∧ i < Int32.ofNat (ln a)) ∧ Runs 8 91 ls (zrf (O a i) :: st) (n, tg, ln, I, J, O) Q) := R_aald rfl ht (by decide)
theorem s8_90q (ht : tg a = 24) : Runs 8 90 ls (.int i :: .ref a :: st) (n, tg, ln, I, J, O) Q ↔ ((0 ≤ i ∧ i < Int32.ofNat (ln a)) ∧ Runs 8 91 ls (zrf (O a i) :: st) (n, tg, ln, I, J, O) Q) := R_aald rfl ht (by decide)
theorem s8_90p (ht : tg a = 25) : Runs 8 90 ls (.int i :: .ref a :: st) (n, tg, ln, I, J, O) Q ↔ ((0 ≤ i ∧ i < Int32.ofNat (ln a)) ∧ Runs 8 91 ls (zrf (O a i) :: st) (n, tg, ln, I, J, O) Q) := R_aald rfl ht (by decide)
theorem s8_91 (ht : tg a = 25) (hx : ∀ q, r = some q → tg q = 3) : Runs 8 91 ls (zrf r :: .int i :: .ref a :: st) (n, tg, ln, I, J, O) Q ↔ ((0 ≤ i ∧ i < Int32.ofNat (ln a)) ∧ Runs 8 92 ls st (n, tg, ln, I, J, zu O a i r) Q) := R_aasth rfl ht hx
theorem s8_92 : Runs 8 92 [x0, x1, x2, x3, x4, some (.int i)] st h Q ↔ Runs 8 95 [x0, x1, x2, x3, zdrop x4, some (.int (i + (-1)))] st h Q := R_iinc rfl rfl rfl rfl rfl
theorem s8_95 : Runs 8 95 ls st h Q ↔ Runs 8 69 ls st h Q := R_goto rfl rfl
theorem s8_98 : Runs 8 98 ls [] h Q ↔ Q none h := R_vret rfl rfl
theorem s9_0 : Runs 9 0 ls st h Q ↔ Runs 9 1 ls (.int 0 :: st) h Q := R_iconst rfl rfl
theorem s9_1 : Runs 9 1 [x0, x1, x2] (.int i :: st) h Q ↔ Runs 9 2 [zdrop x0, some (.int i), x2] st h Q := R_istn rfl rfl rfl
theorem s9_2 : Runs 9 2 ls st h Q ↔ Runs 9 3 ls (.int 0 :: st) h Q := R_iconst rfl rfl
theorem s9_3 : Runs 9 3 [x0, x1, x2] (.int i :: st) h Q ↔ Runs 9 4 [x0, zdrop x1, some (.int i)] st h Q := R_istn rfl rfl rfl
theorem s9_4 : Runs 9 4 [x0, x1, some (.int i)] st h Q ↔ Runs 9 5 [x0, x1, some (.int i)] (.int i :: st) h Q := R_ildn rfl rfl
theorem s9_5 : Runs 9 5 [some (.ref a), x1, x2] st h Q ↔ Runs 9 6 [some (.ref a), x1, x2] (.ref a :: st) h Q := R_aldn rfl rfl
theorem s9_5q : Runs 9 5 [some (zrf r), x1, x2] st h Q ↔ Runs 9 6 [some (zrf r), x1, x2] (zrf r :: st) h Q := R_aldnq rfl rfl
theorem s9_6 (ht : tg a = 1) : Runs 9 6 ls (.ref a :: st) (n, tg, ln, I, J, O) Q ↔ Runs 9 9 ls (.int (I a 1) :: st) (n, tg, ln, I, J, O) Q := R_geti rfl rfl rfl rfl ht
theorem s9_9 : Runs 9 9 ls (.int j :: .int i :: st) h Q ↔ if j ≤ i then Runs 9 30 ls st h Q else Runs 9 12 ls st h Q := R_icge rfl rfl
theorem s9_12 : Runs 9 12 [some (.ref a), x1, x2] st h Q ↔ Runs 9 13 [some (.ref a), x1, x2] (.ref a :: st) h Q := R_aldn rfl rfl
theorem s9_12q : Runs 9 12 [some (zrf r), x1, x2] st h Q ↔ Runs 9 13 [some (zrf r), x1, x2] (zrf r :: st) h Q := R_aldnq rfl rfl
theorem s9_13 (ht : tg a = 1) : Runs 9 13 ls (.ref a :: st) (n, tg, ln, I, J, O) Q ↔ Runs 9 16 ls (zrf (O a 0) :: st) (n, tg, ln, I, J, O) Q := R_getr rfl rfl rfl rfl ht
theorem s9_16 : Runs 9 16 [x0, x1, some (.int i)] st h Q ↔ Runs 9 17 [x0, x1, some (.int i)] (.int i :: st) h Q := R_ildn rfl rfl
theorem s9_17 (ht : tg a = 23) : Runs 9 17 ls (.int i :: .ref a :: st) (n, tg, ln, I, J, O) Q ↔ ((0 ≤ i ∧ i < Int32.ofNat (ln a)) ∧ Runs 9 18 ls (zrf (O a i) :: st) (n, tg, ln, I, J, O) Q) := R_aald rfl ht (by decide)
theorem s9_17q (ht : tg a = 24) : Runs 9 17 ls (.int i :: .ref a :: st) (n, tg, ln, I, J, O) Q ↔ ((0 ≤ i ∧ i < Int32.ofNat (ln a)) ∧ Runs 9 18 ls (zrf (O a i) :: st) (n, tg, ln, I, J, O) Q) := R_aald rfl ht (by decide)
theorem s9_17p (ht : tg a = 25) : Runs 9 17 ls (.int i :: .ref a :: st) (n, tg, ln, I, J, O) Q ↔ ((0 ≤ i ∧ i < Int32.ofNat (ln a)) ∧ Runs 9 18 ls (zrf (O a i) :: st) (n, tg, ln, I, J, O) Q) := R_aald rfl ht (by decide)
theorem s9_18 : Runs 9 18 ls (zrf r :: st) h Q ↔ if r = none then Runs 9 24 ls st h Q else Runs 9 21 ls st h Q := R_ifnull rfl rfl
theorem s9_21 : Runs 9 21 [x0, some (.int i), x2] st h Q ↔ Runs 9 24 [zdrop x0, some (.int (i + 1)), x2] st h Q := R_iinc rfl rfl rfl rfl rfl
theorem s9_24 : Runs 9 24 [x0, x1, some (.int i)] st h Q ↔ Runs 9 27 [x0, zdrop x1, some (.int (i + 1))] st h Q := R_iinc rfl rfl rfl rfl rfl
theorem s9_27 : Runs 9 27 ls st h Q ↔ Runs 9 4 ls st h Q := R_goto rfl rfl
theorem s9_30 : Runs 9 30 [x0, some (.int i), x2] st h Q ↔ Runs 9 31 [x0, some (.int i), x2] (.int i :: st) h Q := R_ildn rfl rfl
theorem s9_31 : Runs 9 31 ls [.int i] h Q ↔ Q (some (.int i)) h := R_iret rfl rfl
theorem s11_0 : Runs 11 0 [some (.ref a)] st h Q ↔ Runs 11 1 [some (.ref a)] (.ref a :: st) h Q := R_aldn rfl rfl
theorem s11_0q : Runs 11 0 [some (zrf r)] st h Q ↔ Runs 11 1 [some (zrf r)] (zrf r :: st) h Q := R_aldnq rfl rfl
theorem s11_1 : Runs 11 1 ls st h Q ↔ Runs 11 2 ls (.int 0 :: st) h Q := R_iconst rfl rfl
theorem s11_2 (ht : tg a = 2) : Runs 11 2 ls (.int i :: .ref a :: st) (n, tg, ln, I, J, O) Q ↔ Runs 11 5 ls st (n, tg, ln, zu I a 2 i, J, O) Q := R_puti rfl rfl rfl rfl rfl rfl ht
theorem s11_5 : Runs 11 5 ls [] h Q ↔ Q none h := R_vret rfl rfl
theorem s12_0 : Runs 12 0 [some (.ref a), x1] st h Q ↔ Runs 12 1 [some (.ref a), x1] (.ref a :: st) h Q := R_aldn rfl rfl
theorem s12_0q : Runs 12 0 [some (zrf r), x1] st h Q ↔ Runs 12 1 [some (zrf r), x1] (zrf r :: st) h Q := R_aldnq rfl rfl
theorem s12_1 (ht : tg a = 2) : Runs 12 1 ls (.ref a :: st) (n, tg, ln, I, J, O) Q ↔ Runs 12 4 ls (zrf (O a 0) :: st) (n, tg, ln, I, J, O) Q := R_getr rfl rfl rfl rfl ht
theorem s12_4 : Runs 12 4 [some (.ref a), x1] st h Q ↔ Runs 12 5 [some (.ref a), x1] (.ref a :: st) h Q := R_aldn rfl rfl
theorem s12_4q : Runs 12 4 [some (zrf r), x1] st h Q ↔ Runs 12 5 [some (zrf r), x1] (zrf r :: st) h Q := R_aldnq rfl rfl
theorem s12_5 (ht : tg a = 2) : Runs 12 5 ls (.ref a :: st) (n, tg, ln, I, J, O) Q ↔ Runs 12 8 ls (.int (I a 1) :: st) (n, tg, ln, I, J, O) Q := R_geti rfl rfl rfl rfl ht
theorem s12_8 (ht : tg a = 23) : Runs 12 8 ls (.int i :: .ref a :: st) (n, tg, ln, I, J, O) Q ↔ ((0 ≤ i ∧ i < Int32.ofNat (ln a)) ∧ Runs 12 9 ls (zrf (O a i) :: st) (n, tg, ln, I, J, O) Q) := R_aald rfl ht (by decide)
theorem s12_8q (ht : tg a = 24) : Runs 12 8 ls (.int i :: .ref a :: st) (n, tg, ln, I, J, O) Q ↔ ((0 ≤ i ∧ i < Int32.ofNat (ln a)) ∧ Runs 12 9 ls (zrf (O a i) :: st) (n, tg, ln, I, J, O) Q) := R_aald rfl ht (by decide)
theorem s12_8p (ht : tg a = 25) : Runs 12 8 ls (.int i :: .ref a :: st) (n, tg, ln, I, J, O) Q ↔ ((0 ≤ i ∧ i < Int32.ofNat (ln a)) ∧ Runs 12 9 ls (zrf (O a i) :: st) (n, tg, ln, I, J, O) Q) := R_aald rfl ht (by decide)
theorem s12_9 : Runs 12 9 [x0, some (.ref a)] st h Q ↔ Runs 12 10 [x0, some (.ref a)] (.ref a :: st) h Q := R_aldn rfl rfl
theorem s12_9q : Runs 12 9 [x0, some (zrf r)] st h Q ↔ Runs 12 10 [x0, some (zrf r)] (zrf r :: st) h Q := R_aldnq rfl rfl
theorem s12_10 (ht : tg a = 5) (hs : zsumc st ≤ 8) : Runs 12 10 ls (.ref b0 :: .ref a :: st) (n, tg, ln, I, J, O) Q ↔ Runs 38 0 [some (.ref a), some (.ref b0)] [] (n, tg, ln, I, J, O) (fun v h2 => Runs 12 13 ls (v.toList ++ st) h2 Q) := R_callv (a := a) (rest := st) rfl rfl rfl rfl rfl rfl rfl ht hs
theorem s12_10q (ht : tg a = 5) (hs : zsumc st ≤ 8) : Runs 12 10 ls (zrf r0 :: .ref a :: st) (n, tg, ln, I, J, O) Q ↔ Runs 38 0 [some (.ref a), some (zrf r0)] [] (n, tg, ln, I, J, O) (fun v h2 => Runs 12 13 ls (v.toList ++ st) h2 Q) := by cases r0 <;> exact R_callv (a := a) (rest := st) rfl rfl rfl rfl rfl rfl rfl ht hs
theorem s12_13 : Runs 12 13 [some (.ref a), x1] st h Q ↔ Runs 12 14 [some (.ref a), x1] (.ref a :: st) h Q := R_aldn rfl rfl
theorem s12_13q : Runs 12 13 [some (zrf r), x1] st h Q ↔ Runs 12 14 [some (zrf r), x1] (zrf r :: st) h Q := R_aldnq rfl rfl
theorem s12_14 : Runs 12 14 [some (.ref a), x1] st h Q ↔ Runs 12 15 [some (.ref a), x1] (.ref a :: st) h Q := R_aldn rfl rfl
theorem s12_14q : Runs 12 14 [some (zrf r), x1] st h Q ↔ Runs 12 15 [some (zrf r), x1] (zrf r :: st) h Q := R_aldnq rfl rfl
theorem s12_15 (ht : tg a = 2) : Runs 12 15 ls (.ref a :: st) (n, tg, ln, I, J, O) Q ↔ Runs 12 18 ls (.int (I a 1) :: st) (n, tg, ln, I, J, O) Q := R_geti rfl rfl rfl rfl ht
theorem s12_18 : Runs 12 18 ls st h Q ↔ Runs 12 19 ls (.int 1 :: st) h Q := R_iconst rfl rfl
theorem s12_19 : Runs 12 19 ls (.int j :: .int i :: st) h Q ↔ Runs 12 20 ls (.int (i + j) :: st) h Q := R_iadd rfl
theorem s12_20 : Runs 12 20 ls st h Q ↔ Runs 12 22 ls (.int 8 :: st) h Q := R_bipush rfl (by decide)
theorem s12_22 : Runs 12 22 ls (.int j :: .int i :: st) h Q ↔ if j ≤ i then Runs 12 34 ls st h Q else Runs 12 25 ls st h Q := R_icge rfl rfl
theorem s12_25 : Runs 12 25 [some (.ref a), x1] st h Q ↔ Runs 12 26 [some (.ref a), x1] (.ref a :: st) h Q := R_aldn rfl rfl
theorem s12_25q : Runs 12 25 [some (zrf r), x1] st h Q ↔ Runs 12 26 [some (zrf r), x1] (zrf r :: st) h Q := R_aldnq rfl rfl
theorem s12_26 (ht : tg a = 2) : Runs 12 26 ls (.ref a :: st) (n, tg, ln, I, J, O) Q ↔ Runs 12 29 ls (.int (I a 1) :: st) (n, tg, ln, I, J, O) Q := R_geti rfl rfl rfl rfl ht
theorem s12_29 : Runs 12 29 ls st h Q ↔ Runs 12 30 ls (.int 1 :: st) h Q := R_iconst rfl rfl
theorem s12_30 : Runs 12 30 ls (.int j :: .int i :: st) h Q ↔ Runs 12 31 ls (.int (i + j) :: st) h Q := R_iadd rfl
theorem s12_31 : Runs 12 31 ls st h Q ↔ Runs 12 35 ls st h Q := R_goto rfl rfl
theorem s12_34 : Runs 12 34 ls st h Q ↔ Runs 12 35 ls (.int 0 :: st) h Q := R_iconst rfl rfl
theorem s12_35 (ht : tg a = 2) : Runs 12 35 ls (.int i :: .ref a :: st) (n, tg, ln, I, J, O) Q ↔ Runs 12 38 ls st (n, tg, ln, zu I a 1 i, J, O) Q := R_puti rfl rfl rfl rfl rfl rfl ht
theorem s12_38 : Runs 12 38 [some (.ref a), x1] st h Q ↔ Runs 12 39 [some (.ref a), x1] (.ref a :: st) h Q := R_aldn rfl rfl
theorem s12_38q : Runs 12 38 [some (zrf r), x1] st h Q ↔ Runs 12 39 [some (zrf r), x1] (zrf r :: st) h Q := R_aldnq rfl rfl
theorem s12_39 (ht : tg a = 2) : Runs 12 39 ls (.ref a :: st) (n, tg, ln, I, J, O) Q ↔ Runs 12 42 ls (.int (I a 2) :: st) (n, tg, ln, I, J, O) Q := R_geti rfl rfl rfl rfl ht
theorem s12_42 : Runs 12 42 ls st h Q ↔ Runs 12 44 ls (.int 8 :: st) h Q := R_bipush rfl (by decide)
theorem s12_44 : Runs 12 44 ls (.int j :: .int i :: st) h Q ↔ if j ≤ i then Runs 12 57 ls st h Q else Runs 12 47 ls st h Q := R_icge rfl rfl
theorem s12_47 : Runs 12 47 [some (.ref a), x1] st h Q ↔ Runs 12 48 [some (.ref a), x1] (.ref a :: st) h Q := R_aldn rfl rfl
theorem s12_47q : Runs 12 47 [some (zrf r), x1] st h Q ↔ Runs 12 48 [some (zrf r), x1] (zrf r :: st) h Q := R_aldnq rfl rfl
theorem s12_48 : Runs 12 48 ls (.int i :: st) h Q ↔ Runs 12 49 ls (.int i :: .int i :: st) h Q := R_dupi rfl
theorem s12_48q : Runs 12 48 ls (.ref a :: st) h Q ↔ Runs 12 49 ls (.ref a :: .ref a :: st) h Q := R_dupr rfl
theorem s12_49 (ht : tg a = 2) : Runs 12 49 ls (.ref a :: st) (n, tg, ln, I, J, O) Q ↔ Runs 12 52 ls (.int (I a 2) :: st) (n, tg, ln, I, J, O) Q := R_geti rfl rfl rfl rfl ht
theorem s12_52 : Runs 12 52 ls st h Q ↔ Runs 12 53 ls (.int 1 :: st) h Q := R_iconst rfl rfl
theorem s12_53 : Runs 12 53 ls (.int j :: .int i :: st) h Q ↔ Runs 12 54 ls (.int (i + j) :: st) h Q := R_iadd rfl
theorem s12_54 (ht : tg a = 2) : Runs 12 54 ls (.int i :: .ref a :: st) (n, tg, ln, I, J, O) Q ↔ Runs 12 57 ls st (n, tg, ln, zu I a 2 i, J, O) Q := R_puti rfl rfl rfl rfl rfl rfl ht
theorem s12_57 : Runs 12 57 ls [] h Q ↔ Q none h := R_vret rfl rfl
theorem s13_0 : Runs 13 0 [some (.ref a), x1] st h Q ↔ Runs 13 1 [some (.ref a), x1] (.ref a :: st) h Q := R_aldn rfl rfl
theorem s13_0q : Runs 13 0 [some (zrf r), x1] st h Q ↔ Runs 13 1 [some (zrf r), x1] (zrf r :: st) h Q := R_aldnq rfl rfl
theorem s13_1 (ht : tg a = 2) : Runs 13 1 ls (.ref a :: st) (n, tg, ln, I, J, O) Q ↔ Runs 13 4 ls (.int (I a 2) :: st) (n, tg, ln, I, J, O) Q := R_geti rfl rfl rfl rfl ht
theorem s13_4 : Runs 13 4 ls (.int i :: st) h Q ↔ if ¬ i = 0 then Runs 13 9 ls st h Q else Runs 13 7 ls st h Q := R_ifne rfl rfl
theorem s13_7 : Runs 13 7 ls st h Q ↔ Runs 13 8 ls (.int 0 :: st) h Q := R_iconst rfl rfl
theorem s13_8 (hx : i = 0 ∨ i = 1) : Runs 13 8 ls [.int i] h Q ↔ Q (some (.int i)) h := R_zret rfl rfl hx
theorem s13_9 : Runs 13 9 [some (.ref a), x1] st h Q ↔ Runs 13 10 [some (.ref a), x1] (.ref a :: st) h Q := R_aldn rfl rfl
theorem s13_9q : Runs 13 9 [some (zrf r), x1] st h Q ↔ Runs 13 10 [some (zrf r), x1] (zrf r :: st) h Q := R_aldnq rfl rfl
theorem s13_10 : Runs 13 10 [some (.ref a), x1] st h Q ↔ Runs 13 11 [some (.ref a), x1] (.ref a :: st) h Q := R_aldn rfl rfl
theorem s13_10q : Runs 13 10 [some (zrf r), x1] st h Q ↔ Runs 13 11 [some (zrf r), x1] (zrf r :: st) h Q := R_aldnq rfl rfl
theorem s13_11 (ht : tg a = 2) : Runs 13 11 ls (.ref a :: st) (n, tg, ln, I, J, O) Q ↔ Runs 13 14 ls (.int (I a 1) :: st) (n, tg, ln, I, J, O) Q := R_geti rfl rfl rfl rfl ht
theorem s13_14 : Runs 13 14 ls (.int i :: st) h Q ↔ if i ≤ 0 then Runs 13 26 ls st h Q else Runs 13 17 ls st h Q := R_ifle rfl rfl
theorem s13_17 : Runs 13 17 [some (.ref a), x1] st h Q ↔ Runs 13 18 [some (.ref a), x1] (.ref a :: st) h Q := R_aldn rfl rfl
theorem s13_17q : Runs 13 17 [some (zrf r), x1] st h Q ↔ Runs 13 18 [some (zrf r), x1] (zrf r :: st) h Q := R_aldnq rfl rfl
theorem s13_18 (ht : tg a = 2) : Runs 13 18 ls (.ref a :: st) (n, tg, ln, I, J, O) Q ↔ Runs 13 21 ls (.int (I a 1) :: st) (n, tg, ln, I, J, O) Q := R_geti rfl rfl rfl rfl ht
theorem s13_21 : Runs 13 21 ls st h Q ↔ Runs 13 22 ls (.int 1 :: st) h Q := R_iconst rfl rfl
theorem s13_22 : Runs 13 22 ls (.int j :: .int i :: st) h Q ↔ Runs 13 23 ls (.int (i - j) :: st) h Q := R_isub rfl
theorem s13_23 : Runs 13 23 ls st h Q ↔ Runs 13 28 ls st h Q := R_goto rfl rfl
theorem s13_26 : Runs 13 26 ls st h Q ↔ Runs 13 28 ls (.int 7 :: st) h Q := R_bipush rfl (by decide)
theorem s13_28 (ht : tg a = 2) : Runs 13 28 ls (.int i :: .ref a :: st) (n, tg, ln, I, J, O) Q ↔ Runs 13 31 ls st (n, tg, ln, zu I a 1 i, J, O) Q := R_puti rfl rfl rfl rfl rfl rfl ht
theorem s13_31 : Runs 13 31 [some (.ref a), x1] st h Q ↔ Runs 13 32 [some (.ref a), x1] (.ref a :: st) h Q := R_aldn rfl rfl
theorem s13_31q : Runs 13 31 [some (zrf r), x1] st h Q ↔ Runs 13 32 [some (zrf r), x1] (zrf r :: st) h Q := R_aldnq rfl rfl
theorem s13_32 : Runs 13 32 ls (.int i :: st) h Q ↔ Runs 13 33 ls (.int i :: .int i :: st) h Q := R_dupi rfl
theorem s13_32q : Runs 13 32 ls (.ref a :: st) h Q ↔ Runs 13 33 ls (.ref a :: .ref a :: st) h Q := R_dupr rfl
theorem s13_33 (ht : tg a = 2) : Runs 13 33 ls (.ref a :: st) (n, tg, ln, I, J, O) Q ↔ Runs 13 36 ls (.int (I a 2) :: st) (n, tg, ln, I, J, O) Q := R_geti rfl rfl rfl rfl ht
theorem s13_36 : Runs 13 36 ls st h Q ↔ Runs 13 37 ls (.int 1 :: st) h Q := R_iconst rfl rfl
theorem s13_37 : Runs 13 37 ls (.int j :: .int i :: st) h Q ↔ Runs 13 38 ls (.int (i - j) :: st) h Q := R_isub rfl
theorem s13_38 (ht : tg a = 2) : Runs 13 38 ls (.int i :: .ref a :: st) (n, tg, ln, I, J, O) Q ↔ Runs 13 41 ls st (n, tg, ln, zu I a 2 i, J, O) Q := R_puti rfl rfl rfl rfl rfl rfl ht
theorem s13_41 : Runs 13 41 [x0, some (.ref a)] st h Q ↔ Runs 13 42 [x0, some (.ref a)] (.ref a :: st) h Q := R_aldn rfl rfl
theorem s13_41q : Runs 13 41 [x0, some (zrf r)] st h Q ↔ Runs 13 42 [x0, some (zrf r)] (zrf r :: st) h Q := R_aldnq rfl rfl
theorem s13_42 : Runs 13 42 [some (.ref a), x1] st h Q ↔ Runs 13 43 [some (.ref a), x1] (.ref a :: st) h Q := R_aldn rfl rfl
theorem s13_42q : Runs 13 42 [some (zrf r), x1] st h Q ↔ Runs 13 43 [some (zrf r), x1] (zrf r :: st) h Q := R_aldnq rfl rfl
theorem s13_43 (ht : tg a = 2) : Runs 13 43 ls (.ref a :: st) (n, tg, ln, I, J, O) Q ↔ Runs 13 46 ls (zrf (O a 0) :: st) (n, tg, ln, I, J, O) Q := R_getr rfl rfl rfl rfl ht
theorem s13_46 : Runs 13 46 [some (.ref a), x1] st h Q ↔ Runs 13 47 [some (.ref a), x1] (.ref a :: st) h Q := R_aldn rfl rfl
theorem s13_46q : Runs 13 46 [some (zrf r), x1] st h Q ↔ Runs 13 47 [some (zrf r), x1] (zrf r :: st) h Q := R_aldnq rfl rfl
theorem s13_47 (ht : tg a = 2) : Runs 13 47 ls (.ref a :: st) (n, tg, ln, I, J, O) Q ↔ Runs 13 50 ls (.int (I a 1) :: st) (n, tg, ln, I, J, O) Q := R_geti rfl rfl rfl rfl ht
theorem s13_50 (ht : tg a = 23) : Runs 13 50 ls (.int i :: .ref a :: st) (n, tg, ln, I, J, O) Q ↔ ((0 ≤ i ∧ i < Int32.ofNat (ln a)) ∧ Runs 13 51 ls (zrf (O a i) :: st) (n, tg, ln, I, J, O) Q) := R_aald rfl ht (by decide)
theorem s13_50q (ht : tg a = 24) : Runs 13 50 ls (.int i :: .ref a :: st) (n, tg, ln, I, J, O) Q ↔ ((0 ≤ i ∧ i < Int32.ofNat (ln a)) ∧ Runs 13 51 ls (zrf (O a i) :: st) (n, tg, ln, I, J, O) Q) := R_aald rfl ht (by decide)
theorem s13_50p (ht : tg a = 25) : Runs 13 50 ls (.int i :: .ref a :: st) (n, tg, ln, I, J, O) Q ↔ ((0 ≤ i ∧ i < Int32.ofNat (ln a)) ∧ Runs 13 51 ls (zrf (O a i) :: st) (n, tg, ln, I, J, O) Q) := R_aald rfl ht (by decide)
theorem s13_51 (ht : tg a = 5) (hs : zsumc st ≤ 8) : Runs 13 51 ls (.ref b0 :: .ref a :: st) (n, tg, ln, I, J, O) Q ↔ Runs 38 0 [some (.ref a), some (.ref b0)] [] (n, tg, ln, I, J, O) (fun v h2 => Runs 13 54 ls (v.toList ++ st) h2 Q) := R_callv (a := a) (rest := st) rfl rfl rfl rfl rfl rfl rfl ht hs
theorem s13_51q (ht : tg a = 5) (hs : zsumc st ≤ 8) : Runs 13 51 ls (zrf r0 :: .ref a :: st) (n, tg, ln, I, J, O) Q ↔ Runs 38 0 [some (.ref a), some (zrf r0)] [] (n, tg, ln, I, J, O) (fun v h2 => Runs 13 54 ls (v.toList ++ st) h2 Q) := by cases r0 <;> exact R_callv (a := a) (rest := st) rfl rfl rfl rfl rfl rfl rfl ht hs
theorem s13_54 : Runs 13 54 ls st h Q ↔ Runs 13 55 ls (.int 1 :: st) h Q := R_iconst rfl rfl
theorem s13_55 (hx : i = 0 ∨ i = 1) : Runs 13 55 ls [.int i] h Q ↔ Q (some (.int i)) h := R_zret rfl rfl hx
theorem s14_0 : Runs 14 0 [some (.ref a), x1, x2, x3, x4] st h Q ↔ Runs 14 1 [some (.ref a), x1, x2, x3, x4] (.ref a :: st) h Q := R_aldn rfl rfl
theorem s14_0q : Runs 14 0 [some (zrf r), x1, x2, x3, x4] st h Q ↔ Runs 14 1 [some (zrf r), x1, x2, x3, x4] (zrf r :: st) h Q := R_aldnq rfl rfl
theorem s14_1 (hs : zsumc st ≤ 8) : Runs 14 1 ls (.ref a :: st) h Q ↔ Runs 14 4 ls st h Q := R_objI rfl rfl hs
theorem s14_4 : Runs 14 4 [some (.ref a), x1, x2, x3, x4] st h Q ↔ Runs 14 5 [some (.ref a), x1, x2, x3, x4] (.ref a :: st) h Q := R_aldn rfl rfl
theorem s14_4q : Runs 14 4 [some (zrf r), x1, x2, x3, x4] st h Q ↔ Runs 14 5 [some (zrf r), x1, x2, x3, x4] (zrf r :: st) h Q := R_aldnq rfl rfl
theorem s14_5 : Runs 14 5 [x0, some (.int i), x2, x3, x4] st h Q ↔ Runs 14 6 [x0, some (.int i), x2, x3, x4] (.int i :: st) h Q := R_ildn rfl rfl
theorem s14_6 (ht : tg a = 3) : Runs 14 6 ls (.int i :: .ref a :: st) (n, tg, ln, I, J, O) Q ↔ Runs 14 9 ls st (n, tg, ln, zu I a 0 i, J, O) Q := R_puti rfl rfl rfl rfl rfl rfl ht
theorem s14_9 : Runs 14 9 [some (.ref a), x1, x2, x3, x4] st h Q ↔ Runs 14 10 [some (.ref a), x1, x2, x3, x4] (.ref a :: st) h Q := R_aldn rfl rfl
theorem s14_9q : Runs 14 9 [some (zrf r), x1, x2, x3, x4] st h Q ↔ Runs 14 10 [some (zrf r), x1, x2, x3, x4] (zrf r :: st) h Q := R_aldnq rfl rfl
theorem s14_10 : Runs 14 10 [x0, x1, some (.long u), x3, x4] st h Q ↔ Runs 14 11 [x0, x1, some (.long u), x3, x4] (.long u :: st) h Q := R_lldn rfl rfl
theorem s14_11 (ht : tg a = 3) : Runs 14 11 ls (.long u :: .ref a :: st) (n, tg, ln, I, J, O) Q ↔ Runs 14 14 ls st (n, tg, ln, I, zu J a 1 u, O) Q := R_putl rfl rfl rfl rfl rfl ht
theorem s14_14 : Runs 14 14 [some (.ref a), x1, x2, x3, x4] st h Q ↔ Runs 14 15 [some (.ref a), x1, x2, x3, x4] (.ref a :: st) h Q := R_aldn rfl rfl
theorem s14_14q : Runs 14 14 [some (zrf r), x1, x2, x3, x4] st h Q ↔ Runs 14 15 [some (zrf r), x1, x2, x3, x4] (zrf r :: st) h Q := R_aldnq rfl rfl
theorem s14_15 : Runs 14 15 [x0, x1, x2, x3, some (.ref a)] st h Q ↔ Runs 14 17 [x0, x1, x2, x3, some (.ref a)] (.ref a :: st) h Q := R_ald rfl rfl
theorem s14_15q : Runs 14 15 [x0, x1, x2, x3, some (zrf r)] st h Q ↔ Runs 14 17 [x0, x1, x2, x3, some (zrf r)] (zrf r :: st) h Q := R_aldq rfl rfl
theorem s14_17 (ht : tg a = 3) : Runs 14 17 ls (zrf r :: .ref a :: st) (n, tg, ln, I, J, O) Q ↔ Runs 14 20 ls st (n, tg, ln, I, J, zu O a 2 r) Q := R_putr rfl rfl rfl rfl rfl ht
theorem s14_17q (ht : tg a = 3) : Runs 14 17 ls (.ref b :: .ref a :: st) (n, tg, ln, I, J, O) Q ↔ Runs 14 20 ls st (n, tg, ln, I, J, zu O a 2 (some b)) Q := R_putr (x := some b) rfl rfl rfl rfl rfl ht
theorem s14_20 : Runs 14 20 [some (.ref a), x1, x2, x3, x4] st h Q ↔ Runs 14 21 [some (.ref a), x1, x2, x3, x4] (.ref a :: st) h Q := R_aldn rfl rfl
theorem s14_20q : Runs 14 20 [some (zrf r), x1, x2, x3, x4] st h Q ↔ Runs 14 21 [some (zrf r), x1, x2, x3, x4] (zrf r :: st) h Q := R_aldnq rfl rfl
theorem s14_21 : Runs 14 21 [x0, x1, x2, x3, some (.ref a)] st h Q ↔ Runs 14 23 [x0, x1, x2, x3, some (.ref a)] (.ref a :: st) h Q := R_ald rfl rfl
theorem s14_21q : Runs 14 21 [x0, x1, x2, x3, some (zrf r)] st h Q ↔ Runs 14 23 [x0, x1, x2, x3, some (zrf r)] (zrf r :: st) h Q := R_aldq rfl rfl
theorem s14_23 : Runs 14 23 ls (zrf r :: st) h Q ↔ if r = none then Runs 14 26 ls st h Q else Runs 14 30 ls st h Q := R_ifnn rfl rfl
theorem s14_26 : Runs 14 26 ls st h Q ↔ Runs 14 27 ls (.int 1 :: st) h Q := R_iconst rfl rfl
theorem s14_27 : Runs 14 27 ls st h Q ↔ Runs 14 37 ls st h Q := R_goto rfl rfl
theorem s14_30 : Runs 14 30 [x0, x1, x2, x3, some (.ref a)] st h Q ↔ Runs 14 32 [x0, x1, x2, x3, some (.ref a)] (.ref a :: st) h Q := R_ald rfl rfl
theorem s14_30q : Runs 14 30 [x0, x1, x2, x3, some (zrf r)] st h Q ↔ Runs 14 32 [x0, x1, x2, x3, some (zrf r)] (zrf r :: st) h Q := R_aldq rfl rfl
theorem s14_32 (ht : tg a = 3) : Runs 14 32 ls (.ref a :: st) (n, tg, ln, I, J, O) Q ↔ Runs 14 35 ls (.int (I a 3) :: st) (n, tg, ln, I, J, O) Q := R_geti rfl rfl rfl rfl ht
theorem s14_35 : Runs 14 35 ls st h Q ↔ Runs 14 36 ls (.int 1 :: st) h Q := R_iconst rfl rfl
theorem s14_36 : Runs 14 36 ls (.int j :: .int i :: st) h Q ↔ Runs 14 37 ls (.int (i + j) :: st) h Q := R_iadd rfl
theorem s14_37 (ht : tg a = 3) : Runs 14 37 ls (.int i :: .ref a :: st) (n, tg, ln, I, J, O) Q ↔ Runs 14 40 ls st (n, tg, ln, zu I a 3 i, J, O) Q := R_puti rfl rfl rfl rfl rfl rfl ht
theorem s14_40 : Runs 14 40 ls [] h Q ↔ Q none h := R_vret rfl rfl
theorem s15_0 : Runs 15 0 [x0, some (.int i)] st h Q ↔ Runs 15 1 [x0, some (.int i)] (.int i :: st) h Q := R_ildn rfl rfl
theorem s15_1 : Runs 15 1 [some (.ref a), x1] st h Q ↔ Runs 15 2 [some (.ref a), x1] (.ref a :: st) h Q := R_aldn rfl rfl
theorem s15_1q : Runs 15 1 [some (zrf r), x1] st h Q ↔ Runs 15 2 [some (zrf r), x1] (zrf r :: st) h Q := R_aldnq rfl rfl
theorem s15_2 (ht : tg a = 3) : Runs 15 2 ls (.ref a :: st) (n, tg, ln, I, J, O) Q ↔ Runs 15 5 ls (.int (I a 0) :: st) (n, tg, ln, I, J, O) Q := R_geti rfl rfl rfl rfl ht
theorem s15_5 : Runs 15 5 ls (.int j :: .int i :: st) h Q ↔ if i = j then Runs 15 11 ls st h Q else Runs 15 8 ls st h Q := R_iceq rfl rfl
theorem s15_8 : Runs 15 8 ls st h Q ↔ Runs 15 10 ls (.int (-14) :: st) h Q := R_bipush rfl (by decide)
theorem s15_10 : Runs 15 10 ls [.int i] h Q ↔ Q (some (.int i)) h := R_iret rfl rfl
theorem s15_11 : Runs 15 11 [some (.ref a), x1] st h Q ↔ Runs 15 12 [some (.ref a), x1] (.ref a :: st) h Q := R_aldn rfl rfl
theorem s15_11q : Runs 15 11 [some (zrf r), x1] st h Q ↔ Runs 15 12 [some (zrf r), x1] (zrf r :: st) h Q := R_aldnq rfl rfl
theorem s15_12 (ht : tg a = 3) : Runs 15 12 ls (.ref a :: st) (n, tg, ln, I, J, O) Q ↔ Runs 15 15 ls (zrf (O a 2) :: st) (n, tg, ln, I, J, O) Q := R_getr rfl rfl rfl rfl ht
theorem s15_15 : Runs 15 15 ls (zrf r :: st) h Q ↔ if r = none then Runs 15 26 ls st h Q else Runs 15 18 ls st h Q := R_ifnull rfl rfl
theorem s15_18 : Runs 15 18 [some (.ref a), x1] st h Q ↔ Runs 15 19 [some (.ref a), x1] (.ref a :: st) h Q := R_aldn rfl rfl
theorem s15_18q : Runs 15 18 [some (zrf r), x1] st h Q ↔ Runs 15 19 [some (zrf r), x1] (zrf r :: st) h Q := R_aldnq rfl rfl
theorem s15_19 (ht : tg a = 3) : Runs 15 19 ls (.ref a :: st) (n, tg, ln, I, J, O) Q ↔ Runs 15 22 ls (zrf (O a 2) :: st) (n, tg, ln, I, J, O) Q := R_getr rfl rfl rfl rfl ht
theorem s15_22 (ht : tg a = 3) : Runs 15 22 ls (.ref a :: st) (n, tg, ln, I, J, O) Q ↔ Runs 15 25 ls (.int (I a 3) :: st) (n, tg, ln, I, J, O) Q := R_geti rfl rfl rfl rfl ht
theorem s15_25 : Runs 15 25 ls [.int i] h Q ↔ Q (some (.int i)) h := R_iret rfl rfl
theorem s15_26 : Runs 15 26 [some (.ref a), x1] st h Q ↔ Runs 15 27 [some (.ref a), x1] (.ref a :: st) h Q := R_aldn rfl rfl
theorem s15_26q : Runs 15 26 [some (zrf r), x1] st h Q ↔ Runs 15 27 [some (zrf r), x1] (zrf r :: st) h Q := R_aldnq rfl rfl
theorem s15_27 (ht : tg a = 3) : Runs 15 27 ls (.ref a :: st) (n, tg, ln, I, J, O) Q ↔ Runs 15 30 ls (.int (I a 0) :: st) (n, tg, ln, I, J, O) Q := R_geti rfl rfl rfl rfl ht
theorem s15_30 : Runs 15 30 ls (.int i :: st) h Q ↔ if ¬ i = 0 then Runs 15 40 ls st h Q else Runs 15 33 ls st h Q := R_ifne rfl rfl
theorem s15_33 : Runs 15 33 [some (.ref a), x1] st h Q ↔ Runs 15 34 [some (.ref a), x1] (.ref a :: st) h Q := R_aldn rfl rfl
theorem s15_33q : Runs 15 33 [some (zrf r), x1] st h Q ↔ Runs 15 34 [some (zrf r), x1] (zrf r :: st) h Q := R_aldnq rfl rfl
theorem s15_34 (ht : tg a = 3) (hs : zsumc st ≤ 8) : Runs 15 34 ls (.ref a :: st) (n, tg, ln, I, J, O) Q ↔ Runs 16 0 [some (.ref a)] [] (n, tg, ln, I, J, O) (fun v h2 => Runs 15 37 ls (v.toList ++ st) h2 Q) := R_callv (a := a) (rest := st) rfl rfl rfl rfl rfl rfl rfl ht hs
theorem s15_37 : Runs 15 37 ls st h Q ↔ Runs 15 45 ls st h Q := R_goto rfl rfl
theorem s15_40 : Runs 15 40 [some (.ref a), x1] st h Q ↔ Runs 15 41 [some (.ref a), x1] (.ref a :: st) h Q := R_aldn rfl rfl
theorem s15_40q : Runs 15 40 [some (zrf r), x1] st h Q ↔ Runs 15 41 [some (zrf r), x1] (zrf r :: st) h Q := R_aldnq rfl rfl
theorem s15_41 (ht : tg a = 3) : Runs 15 41 ls (.ref a :: st) (n, tg, ln, I, J, O) Q ↔ Runs 15 44 ls (.long (J a 1) :: st) (n, tg, ln, I, J, O) Q := R_getl rfl rfl rfl rfl ht
theorem s15_44 : Runs 15 44 ls (.long u :: st) h Q ↔ Runs 15 45 ls (.int u.toInt32 :: st) h Q := R_l2i rfl
theorem s15_45 : Runs 15 45 ls [.int i] h Q ↔ Q (some (.int i)) h := R_iret rfl rfl
theorem s16_0 : Runs 16 0 [some (.ref a)] st h Q ↔ Runs 16 1 [some (.ref a)] (.ref a :: st) h Q := R_aldn rfl rfl
theorem s16_0q : Runs 16 0 [some (zrf r)] st h Q ↔ Runs 16 1 [some (zrf r)] (zrf r :: st) h Q := R_aldnq rfl rfl
theorem s16_1 (ht : tg a = 3) : Runs 16 1 ls (.ref a :: st) (n, tg, ln, I, J, O) Q ↔ Runs 16 4 ls (.long (J a 1) :: st) (n, tg, ln, I, J, O) Q := R_getl rfl rfl rfl rfl ht
theorem s16_4 : Runs 16 4 ls st h Q ↔ Runs 16 5 ls (.long 0 :: st) h Q := R_lconst rfl rfl
theorem s16_5 : Runs 16 5 ls (.long w :: .long u :: st) h Q ↔ Runs 16 6 ls (.int (lg_cmp u w) :: st) h Q := R_lcmp rfl
theorem s16_6 : Runs 16 6 ls (.int i :: st) h Q ↔ if i < 0 then Runs 16 21 ls st h Q else Runs 16 9 ls st h Q := R_iflt rfl rfl
theorem s16_9 : Runs 16 9 [some (.ref a)] st h Q ↔ Runs 16 10 [some (.ref a)] (.ref a :: st) h Q := R_aldn rfl rfl
theorem s16_9q : Runs 16 9 [some (zrf r)] st h Q ↔ Runs 16 10 [some (zrf r)] (zrf r :: st) h Q := R_aldnq rfl rfl
theorem s16_10 (ht : tg a = 3) : Runs 16 10 ls (.ref a :: st) (n, tg, ln, I, J, O) Q ↔ Runs 16 13 ls (.long (J a 1) :: st) (n, tg, ln, I, J, O) Q := R_getl rfl rfl rfl rfl ht
theorem s16_13 : Runs 16 13 ls st h Q ↔ Runs 16 16 ls (.long 1000003 :: st) h Q := R_ldc2 rfl rfl
theorem s16_16 : Runs 16 16 ls (.long w :: .long u :: st) h Q ↔ (¬ w = 0 ∧ Runs 16 17 ls (.long (u - u / w * w) :: st) h Q) := R_lrem rfl
theorem s16_17 : Runs 16 17 ls (.long u :: st) h Q ↔ Runs 16 18 ls (.int u.toInt32 :: st) h Q := R_l2i rfl
theorem s16_18 : Runs 16 18 ls st h Q ↔ Runs 16 37 ls st h Q := R_goto rfl rfl
theorem s16_21 : Runs 16 21 [some (.ref a)] st h Q ↔ Runs 16 22 [some (.ref a)] (.ref a :: st) h Q := R_aldn rfl rfl
theorem s16_21q : Runs 16 21 [some (zrf r)] st h Q ↔ Runs 16 22 [some (zrf r)] (zrf r :: st) h Q := R_aldnq rfl rfl
theorem s16_22 (ht : tg a = 3) : Runs 16 22 ls (.ref a :: st) (n, tg, ln, I, J, O) Q ↔ Runs 16 25 ls (.long (J a 1) :: st) (n, tg, ln, I, J, O) Q := R_getl rfl rfl rfl rfl ht
theorem s16_25 : Runs 16 25 ls st h Q ↔ Runs 16 28 ls (.long (-1) :: st) h Q := R_ldc2 rfl rfl
theorem s16_28 : Runs 16 28 ls (.long w :: .long u :: st) h Q ↔ Runs 16 29 ls (.long (u ^^^ w) :: st) h Q := R_lxor rfl
theorem s16_29 : Runs 16 29 ls st h Q ↔ Runs 16 32 ls (.long 1000003 :: st) h Q := R_ldc2 rfl rfl
theorem s16_32 : Runs 16 32 ls (.long w :: .long u :: st) h Q ↔ (¬ w = 0 ∧ Runs 16 33 ls (.long (u - u / w * w) :: st) h Q) := R_lrem rfl
theorem s16_33 : Runs 16 33 ls (.long u :: st) h Q ↔ Runs 16 34 ls (.int u.toInt32 :: st) h Q := R_l2i rfl
theorem s16_34 : Runs 16 34 ls st h Q ↔ Runs 16 36 ls (.int 2000000 :: st) h Q := R_ldc rfl rfl
theorem s16_36 : Runs 16 36 ls (.int j :: .int i :: st) h Q ↔ Runs 16 37 ls (.int (i + j) :: st) h Q := R_iadd rfl
theorem s16_37 : Runs 16 37 ls [.int i] h Q ↔ Q (some (.int i)) h := R_iret rfl rfl
theorem s32_0 : Runs 32 0 ls st h Q ↔ Runs 32 1 ls (.long 0 :: st) h Q := R_lconst rfl rfl
theorem s32_1 : Runs 32 1 [x0, x1, x2, x3, x4, x5, x6] (.long u :: st) h Q ↔ Runs 32 3 [x0, x1, x2, zdrop x3, some (.long u), none, x6] st h Q := R_lst rfl rfl rfl
theorem s32_3 : Runs 32 3 [some (.int i), x1, x2, x3, x4, x5, x6] st h Q ↔ Runs 32 4 [some (.int i), x1, x2, x3, x4, x5, x6] (.int i :: st) h Q := R_ildn rfl rfl
theorem s32_4 : Runs 32 4 [x0, x1, x2, x3, x4, x5, x6] (.int i :: st) h Q ↔ Runs 32 6 [x0, x1, x2, x3, x4, zdrop x5, some (.int i)] st h Q := R_ist rfl rfl rfl
theorem s32_6 : Runs 32 6 [x0, x1, x2, x3, x4, x5, some (.int i)] st h Q ↔ Runs 32 8 [x0, x1, x2, x3, x4, x5, some (.int i)] (.int i :: st) h Q := R_ild rfl rfl
theorem s32_8 : Runs 32 8 [x0, some (.int i), x2, x3, x4, x5, x6] st h Q ↔ Runs 32 9 [x0, some (.int i), x2, x3, x4, x5, x6] (.int i :: st) h Q := R_ildn rfl rfl
theorem s32_9 : Runs 32 9 ls (.int j :: .int i :: st) h Q ↔ if j < i then Runs 32 47 ls st h Q else Runs 32 12 ls st h Q := R_icgt rfl rfl
theorem s32_12 : Runs 32 12 [x0, x1, x2, x3, some (.long u), x5, x6] st h Q ↔ Runs 32 14 [x0, x1, x2, x3, some (.long u), x5, x6] (.long u :: st) h Q := R_lld rfl rfl
theorem s32_14 : Runs 32 14 [x0, some (.int i), x2, x3, x4, x5, x6] st h Q ↔ Runs 32 15 [x0, some (.int i), x2, x3, x4, x5, x6] (.int i :: st) h Q := R_ildn rfl rfl
theorem s32_15 : Runs 32 15 [x0, x1, x2, x3, x4, x5, some (.int i)] st h Q ↔ Runs 32 17 [x0, x1, x2, x3, x4, x5, some (.int i)] (.int i :: st) h Q := R_ild rfl rfl
theorem s32_17 (hs : zsumc st ≤ 8) : Runs 32 17 ls (.int i1 :: .int i0 :: st) h Q ↔ Runs 35 0 [some (.int i0), some (.int i1), none, none, none] [] h (fun v h2 => Runs 32 20 ls (v.toList ++ st) h2 Q) := R_calls (rest := st) rfl rfl rfl (by simp) rfl rfl rfl rfl hs
theorem s32_20 : Runs 32 20 [x0, x1, some (.int i), x3, x4, x5, x6] st h Q ↔ Runs 32 21 [x0, x1, some (.int i), x3, x4, x5, x6] (.int i :: st) h Q := R_ildn rfl rfl
theorem s32_21 : Runs 32 21 ls (.int i :: st) h Q ↔ Runs 32 22 ls (.long i.toInt64 :: st) h Q := R_i2l rfl
theorem s32_22 : Runs 32 22 [x0, x1, x2, x3, x4, x5, some (.int i)] st h Q ↔ Runs 32 24 [x0, x1, x2, x3, x4, x5, some (.int i)] (.int i :: st) h Q := R_ild rfl rfl
theorem s32_24 (hs : zsumc st ≤ 8) : Runs 32 24 ls (.int i1 :: .long u0 :: st) h Q ↔ Runs 33 0 [some (.long u0), none, some (.int i1), none, none, none] [] h (fun v h2 => Runs 32 27 ls (v.toList ++ st) h2 Q) := R_calls (rest := st) rfl rfl rfl (by simp) rfl rfl rfl rfl hs
theorem s32_27 : Runs 32 27 ls (.long w :: .long u :: st) h Q ↔ Runs 32 28 ls (.long (u * w) :: st) h Q := R_lmul rfl
theorem s32_28 : Runs 32 28 [x0, x1, x2, some (.int i), x4, x5, x6] st h Q ↔ Runs 32 29 [x0, x1, x2, some (.int i), x4, x5, x6] (.int i :: st) h Q := R_ildn rfl rfl
theorem s32_29 : Runs 32 29 ls (.int i :: st) h Q ↔ Runs 32 30 ls (.long i.toInt64 :: st) h Q := R_i2l rfl
theorem s32_30 : Runs 32 30 [x0, some (.int i), x2, x3, x4, x5, x6] st h Q ↔ Runs 32 31 [x0, some (.int i), x2, x3, x4, x5, x6] (.int i :: st) h Q := R_ildn rfl rfl
theorem s32_31 : Runs 32 31 [x0, x1, x2, x3, x4, x5, some (.int i)] st h Q ↔ Runs 32 33 [x0, x1, x2, x3, x4, x5, some (.int i)] (.int i :: st) h Q := R_ild rfl rfl
theorem s32_33 : Runs 32 33 ls (.int j :: .int i :: st) h Q ↔ Runs 32 34 ls (.int (i - j) :: st) h Q := R_isub rfl
theorem s32_34 (hs : zsumc st ≤ 8) : Runs 32 34 ls (.int i1 :: .long u0 :: st) h Q ↔ Runs 33 0 [some (.long u0), none, some (.int i1), none, none, none] [] h (fun v h2 => Runs 32 37 ls (v.toList ++ st) h2 Q) := R_calls (rest := st) rfl rfl rfl (by simp) rfl rfl rfl rfl hs
theorem s32_37 : Runs 32 37 ls (.long w :: .long u :: st) h Q ↔ Runs 32 38 ls (.long (u * w) :: st) h Q := R_lmul rfl
theorem s32_38 : Runs 32 38 ls (.long w :: .long u :: st) h Q ↔ Runs 32 39 ls (.long (u + w) :: st) h Q := R_ladd rfl
theorem s32_39 : Runs 32 39 [x0, x1, x2, x3, x4, x5, x6] (.long u :: st) h Q ↔ Runs 32 41 [x0, x1, x2, zdrop x3, some (.long u), none, x6] st h Q := R_lst rfl rfl rfl
theorem s32_41 : Runs 32 41 [x0, x1, x2, x3, x4, x5, some (.int i)] st h Q ↔ Runs 32 44 [x0, x1, x2, x3, x4, zdrop x5, some (.int (i + 1))] st h Q := R_iinc rfl rfl rfl rfl rfl
theorem s32_44 : Runs 32 44 ls st h Q ↔ Runs 32 6 ls st h Q := R_goto rfl rfl
theorem s32_47 : Runs 32 47 [x0, x1, x2, x3, some (.long u), x5, x6] st h Q ↔ Runs 32 49 [x0, x1, x2, x3, some (.long u), x5, x6] (.long u :: st) h Q := R_lld rfl rfl
theorem s32_49 : Runs 32 49 ls [.long u] h Q ↔ Q (some (.long u)) h := R_lret rfl rfl
theorem s33_0 : Runs 33 0 ls st h Q ↔ Runs 33 1 ls (.long 1 :: st) h Q := R_lconst rfl rfl
theorem s33_1 : Runs 33 1 [x0, x1, x2, x3, x4, x5] (.long u :: st) h Q ↔ Runs 33 2 [x0, x1, zdrop x2, some (.long u), none, x5] st h Q := R_lstn rfl rfl rfl
theorem s33_2 : Runs 33 2 ls st h Q ↔ Runs 33 3 ls (.int 0 :: st) h Q := R_iconst rfl rfl
theorem s33_3 : Runs 33 3 [x0, x1, x2, x3, x4, x5] (.int i :: st) h Q ↔ Runs 33 5 [x0, x1, x2, x3, zdrop x4, some (.int i)] st h Q := R_ist rfl rfl rfl
theorem s33_5 : Runs 33 5 [x0, x1, x2, x3, x4, some (.int i)] st h Q ↔ Runs 33 7 [x0, x1, x2, x3, x4, some (.int i)] (.int i :: st) h Q := R_ild rfl rfl
theorem s33_7 : Runs 33 7 [x0, x1, some (.int i), x3, x4, x5] st h Q ↔ Runs 33 8 [x0, x1, some (.int i), x3, x4, x5] (.int i :: st) h Q := R_ildn rfl rfl
theorem s33_8 : Runs 33 8 ls (.int j :: .int i :: st) h Q ↔ if j ≤ i then Runs 33 21 ls st h Q else Runs 33 11 ls st h Q := R_icge rfl rfl
theorem s33_11 : Runs 33 11 [x0, x1, x2, some (.long u), x4, x5] st h Q ↔ Runs 33 12 [x0, x1, x2, some (.long u), x4, x5] (.long u :: st) h Q := R_lldn rfl rfl
theorem s33_12 : Runs 33 12 [some (.long u), x1, x2, x3, x4, x5] st h Q ↔ Runs 33 13 [some (.long u), x1, x2, x3, x4, x5] (.long u :: st) h Q := R_lldn rfl rfl
theorem s33_13 : Runs 33 13 ls (.long w :: .long u :: st) h Q ↔ Runs 33 14 ls (.long (u * w) :: st) h Q := R_lmul rfl
theorem s33_14 : Runs 33 14 [x0, x1, x2, x3, x4, x5] (.long u :: st) h Q ↔ Runs 33 15 [x0, x1, zdrop x2, some (.long u), none, x5] st h Q := R_lstn rfl rfl rfl
theorem s33_15 : Runs 33 15 [x0, x1, x2, x3, x4, some (.int i)] st h Q ↔ Runs 33 18 [x0, x1, x2, x3, zdrop x4, some (.int (i + 1))] st h Q := R_iinc rfl rfl rfl rfl rfl
theorem s33_18 : Runs 33 18 ls st h Q ↔ Runs 33 5 ls st h Q := R_goto rfl rfl
theorem s33_21 : Runs 33 21 [x0, x1, x2, some (.long u), x4, x5] st h Q ↔ Runs 33 22 [x0, x1, x2, some (.long u), x4, x5] (.long u :: st) h Q := R_lldn rfl rfl
theorem s33_22 : Runs 33 22 ls [.long u] h Q ↔ Q (some (.long u)) h := R_lret rfl rfl
theorem s34_0 : Runs 34 0 [some (.long u), x1, x2, x3, x4, x5, x6, x7, x8, x9, x10] st h Q ↔ Runs 34 1 [some (.long u), x1, x2, x3, x4, x5, x6, x7, x8, x9, x10] (.long u :: st) h Q := R_lldn rfl rfl
theorem s34_1 : Runs 34 1 [x0, x1, x2, x3, x4, x5, x6, x7, x8, x9, x10] (.long u :: st) h Q ↔ Runs 34 3 [x0, x1, x2, zdrop x3, some (.long u), none, x6, x7, x8, x9, x10] st h Q := R_lst rfl rfl rfl
theorem s34_3 : Runs 34 3 [x0, x1, some (.long u), x3, x4, x5, x6, x7, x8, x9, x10] st h Q ↔ Runs 34 4 [x0, x1, some (.long u), x3, x4, x5, x6, x7, x8, x9, x10] (.long u :: st) h Q := R_lldn rfl rfl
theorem s34_4 : Runs 34 4 [x0, x1, x2, x3, x4, x5, x6, x7, x8, x9, x10] (.long u :: st) h Q ↔ Runs 34 6 [x0, x1, x2, x3, x4, zdrop x5, some (.long u), none, x8, x9, x10] st h Q := R_lst rfl rfl rfl
theorem s34_6 : Runs 34 6 ls st h Q ↔ Runs 34 7 ls (.int 0 :: st) h Q := R_iconst rfl rfl
theorem s34_7 : Runs 34 7 [x0, x1, x2, x3, x4, x5, x6, x7, x8, x9, x10] (.int i :: st) h Q ↔ Runs 34 9 [x0, x1, x2, x3, x4, x5, x6, zdrop x7, some (.int i), x9, x10] st h Q := R_ist rfl rfl rfl
theorem s34_9 : Runs 34 9 [x0, x1, x2, x3, x4, x5, x6, x7, some (.int i), x9, x10] st h Q ↔ Runs 34 11 [x0, x1, x2, x3, x4, x5, x6, x7, some (.int i), x9, x10] (.int i :: st) h Q := R_ild rfl rfl
theorem s34_11 : Runs 34 11 ls st h Q ↔ Runs 34 13 ls (.int 100 :: st) h Q := R_bipush rfl (by decide)
theorem s34_13 : Runs 34 13 ls (.int j :: .int i :: st) h Q ↔ if j ≤ i then Runs 34 44 ls st h Q else Runs 34 16 ls st h Q := R_icge rfl rfl
theorem s34_16 : Runs 34 16 [x0, x1, x2, x3, x4, x5, some (.long u), x7, x8, x9, x10] st h Q ↔ Runs 34 18 [x0, x1, x2, x3, x4, x5, some (.long u), x7, x8, x9, x10] (.long u :: st) h Q := R_lld rfl rfl
theorem s34_18 : Runs 34 18 ls st h Q ↔ Runs 34 19 ls (.long 0 :: st) h Q := R_lconst rfl rfl
theorem s34_19 : Runs 34 19 ls (.long w :: .long u :: st) h Q ↔ Runs 34 20 ls (.int (lg_cmp u w) :: st) h Q := R_lcmp rfl
theorem s34_20 : Runs 34 20 ls (.int i :: st) h Q ↔ if i = 0 then Runs 34 44 ls st h Q else Runs 34 23 ls st h Q := R_ifeq rfl rfl
theorem s34_23 : Runs 34 23 [x0, x1, x2, x3, some (.long u), x5, x6, x7, x8, x9, x10] st h Q ↔ Runs 34 25 [x0, x1, x2, x3, some (.long u), x5, x6, x7, x8, x9, x10] (.long u :: st) h Q := R_lld rfl rfl
theorem s34_25 : Runs 34 25 [x0, x1, x2, x3, x4, x5, some (.long u), x7, x8, x9, x10] st h Q ↔ Runs 34 27 [x0, x1, x2, x3, x4, x5, some (.long u), x7, x8, x9, x10] (.long u :: st) h Q := R_lld rfl rfl
theorem s34_27 : Runs 34 27 ls (.long w :: .long u :: st) h Q ↔ (¬ w = 0 ∧ Runs 34 28 ls (.long (u - u / w * w) :: st) h Q) := R_lrem rfl
theorem s34_28 : Runs 34 28 [x0, x1, x2, x3, x4, x5, x6, x7, x8, x9, x10] (.long u :: st) h Q ↔ Runs 34 30 [x0, x1, x2, x3, x4, x5, x6, x7, zdrop x8, some (.long u), none] st h Q := R_lst rfl rfl rfl
theorem s34_30 : Runs 34 30 [x0, x1, x2, x3, x4, x5, some (.long u), x7, x8, x9, x10] st h Q ↔ Runs 34 32 [x0, x1, x2, x3, x4, x5, some (.long u), x7, x8, x9, x10] (.long u :: st) h Q := R_lld rfl rfl
theorem s34_32 : Runs 34 32 [x0, x1, x2, x3, x4, x5, x6, x7, x8, x9, x10] (.long u :: st) h Q ↔ Runs 34 34 [x0, x1, x2, zdrop x3, some (.long u), none, x6, x7, x8, x9, x10] st h Q := R_lst rfl rfl rfl
theorem s34_34 : Runs 34 34 [x0, x1, x2, x3, x4, x5, x6, x7, x8, some (.long u), x10] st h Q ↔ Runs 34 36 [x0, x1, x2, x3, x4, x5, x6, x7, x8, some (.long u), x10] (.long u :: st) h Q := R_lld rfl rfl
theorem s34_36 : Runs 34 36 [x0, x1, x2, x3, x4, x5, x6, x7, x8, x9, x10] (.long u :: st) h Q ↔ Runs 34 38 [x0, x1, x2, x3, x4, zdrop x5, some (.long u), none, x8, x9, x10] st h Q := R_lst rfl rfl rfl
theorem s34_38 : Runs 34 38 [x0, x1, x2, x3, x4, x5, x6, x7, some (.int i), x9, x10] st h Q ↔ Runs 34 41 [x0, x1, x2, x3, x4, x5, x6, zdrop x7, some (.int (i + 1)), x9, x10] st h Q := R_iinc rfl rfl rfl rfl rfl
theorem s34_41 : Runs 34 41 ls st h Q ↔ Runs 34 9 ls st h Q := R_goto rfl rfl
theorem s34_44 : Runs 34 44 [x0, x1, x2, x3, some (.long u), x5, x6, x7, x8, x9, x10] st h Q ↔ Runs 34 46 [x0, x1, x2, x3, some (.long u), x5, x6, x7, x8, x9, x10] (.long u :: st) h Q := R_lld rfl rfl
theorem s34_46 : Runs 34 46 ls [.long u] h Q ↔ Q (some (.long u)) h := R_lret rfl rfl
theorem s35_0 : Runs 35 0 ls st h Q ↔ Runs 35 1 ls (.long 1 :: st) h Q := R_lconst rfl rfl
theorem s35_1 : Runs 35 1 [x0, x1, x2, x3, x4] (.long u :: st) h Q ↔ Runs 35 2 [x0, zdrop x1, some (.long u), none, x4] st h Q := R_lstn rfl rfl rfl
theorem s35_2 : Runs 35 2 ls st h Q ↔ Runs 35 3 ls (.int 1 :: st) h Q := R_iconst rfl rfl
theorem s35_3 : Runs 35 3 [x0, x1, x2, x3, x4] (.int i :: st) h Q ↔ Runs 35 5 [x0, x1, x2, zdrop x3, some (.int i)] st h Q := R_ist rfl rfl rfl
theorem s35_5 : Runs 35 5 [x0, x1, x2, x3, some (.int i)] st h Q ↔ Runs 35 7 [x0, x1, x2, x3, some (.int i)] (.int i :: st) h Q := R_ild rfl rfl
theorem s35_7 : Runs 35 7 [x0, some (.int i), x2, x3, x4] st h Q ↔ Runs 35 8 [x0, some (.int i), x2, x3, x4] (.int i :: st) h Q := R_ildn rfl rfl
theorem s35_8 : Runs 35 8 ls (.int j :: .int i :: st) h Q ↔ if j < i then Runs 35 31 ls st h Q else Runs 35 11 ls st h Q := R_icgt rfl rfl
theorem s35_11 : Runs 35 11 [x0, x1, some (.long u), x3, x4] st h Q ↔ Runs 35 12 [x0, x1, some (.long u), x3, x4] (.long u :: st) h Q := R_lldn rfl rfl
theorem s35_12 : Runs 35 12 [some (.int i), x1, x2, x3, x4] st h Q ↔ Runs 35 13 [some (.int i), x1, x2, x3, x4] (.int i :: st) h Q := R_ildn rfl rfl
theorem s35_13 : Runs 35 13 [x0, some (.int i), x2, x3, x4] st h Q ↔ Runs 35 14 [x0, some (.int i), x2, x3, x4] (.int i :: st) h Q := R_ildn rfl rfl
theorem s35_14 : Runs 35 14 ls (.int j :: .int i :: st) h Q ↔ Runs 35 15 ls (.int (i - j) :: st) h Q := R_isub rfl
theorem s35_15 : Runs 35 15 [x0, x1, x2, x3, some (.int i)] st h Q ↔ Runs 35 17 [x0, x1, x2, x3, some (.int i)] (.int i :: st) h Q := R_ild rfl rfl
theorem s35_17 : Runs 35 17 ls (.int j :: .int i :: st) h Q ↔ Runs 35 18 ls (.int (i + j) :: st) h Q := R_iadd rfl
theorem s35_18 : Runs 35 18 ls (.int i :: st) h Q ↔ Runs 35 19 ls (.long i.toInt64 :: st) h Q := R_i2l rfl
theorem s35_19 : Runs 35 19 ls (.long w :: .long u :: st) h Q ↔ Runs 35 20 ls (.long (u * w) :: st) h Q := R_lmul rfl
theorem s35_20 : Runs 35 20 [x0, x1, x2, x3, some (.int i)] st h Q ↔ Runs 35 22 [x0, x1, x2, x3, some (.int i)] (.int i :: st) h Q := R_ild rfl rfl
theorem s35_22 : Runs 35 22 ls (.int i :: st) h Q ↔ Runs 35 23 ls (.long i.toInt64 :: st) h Q := R_i2l rfl
theorem s35_23 : Runs 35 23 ls (.long w :: .long u :: st) h Q ↔ (¬ w = 0 ∧ Runs 35 24 ls (.long (u / w) :: st) h Q) := R_ldiv rfl
theorem s35_24 : Runs 35 24 [x0, x1, x2, x3, x4] (.long u :: st) h Q ↔ Runs 35 25 [x0, zdrop x1, some (.long u), none, x4] st h Q := R_lstn rfl rfl rfl
theorem s35_25 : Runs 35 25 [x0, x1, x2, x3, some (.int i)] st h Q ↔ Runs 35 28 [x0, x1, x2, zdrop x3, some (.int (i + 1))] st h Q := R_iinc rfl rfl rfl rfl rfl
theorem s35_28 : Runs 35 28 ls st h Q ↔ Runs 35 5 ls st h Q := R_goto rfl rfl
theorem s35_31 : Runs 35 31 [x0, x1, some (.long u), x3, x4] st h Q ↔ Runs 35 32 [x0, x1, some (.long u), x3, x4] (.long u :: st) h Q := R_lldn rfl rfl
theorem s35_32 : Runs 35 32 ls [.long u] h Q ↔ Q (some (.long u)) h := R_lret rfl rfl
theorem s59_0 : Runs 59 0 [some (.ref a), x1] st h Q ↔ Runs 59 1 [some (.ref a), x1] (.ref a :: st) h Q := R_aldn rfl rfl
theorem s59_0q : Runs 59 0 [some (zrf r), x1] st h Q ↔ Runs 59 1 [some (zrf r), x1] (zrf r :: st) h Q := R_aldnq rfl rfl
theorem s59_1 (ht : tg a = 6) : Runs 59 1 ls (.ref a :: st) (n, tg, ln, I, J, O) Q ↔ Runs 59 4 ls (zrf (O a 2) :: st) (n, tg, ln, I, J, O) Q := R_getr rfl rfl rfl rfl ht
theorem s59_4 : Runs 59 4 [some (.ref a), x1] st h Q ↔ Runs 59 5 [some (.ref a), x1] (.ref a :: st) h Q := R_aldn rfl rfl
theorem s59_4q : Runs 59 4 [some (zrf r), x1] st h Q ↔ Runs 59 5 [some (zrf r), x1] (zrf r :: st) h Q := R_aldnq rfl rfl
theorem s59_5 (ht : tg a = 6) : Runs 59 5 ls (.ref a :: st) (n, tg, ln, I, J, O) Q ↔ Runs 59 8 ls (zrf (O a 1) :: st) (n, tg, ln, I, J, O) Q := R_getr rfl rfl rfl rfl ht
theorem s59_8 (ht : tg a = 5) (hs : zsumc st ≤ 8) : Runs 59 8 ls (.ref b0 :: .ref a :: st) (n, tg, ln, I, J, O) Q ↔ Runs 38 0 [some (.ref a), some (.ref b0)] [] (n, tg, ln, I, J, O) (fun v h2 => Runs 59 11 ls (v.toList ++ st) h2 Q) := R_callv (a := a) (rest := st) rfl rfl rfl rfl rfl rfl rfl ht hs
theorem s59_8q (ht : tg a = 5) (hs : zsumc st ≤ 8) : Runs 59 8 ls (zrf r0 :: .ref a :: st) (n, tg, ln, I, J, O) Q ↔ Runs 38 0 [some (.ref a), some (zrf r0)] [] (n, tg, ln, I, J, O) (fun v h2 => Runs 59 11 ls (v.toList ++ st) h2 Q) := by cases r0 <;> exact R_callv (a := a) (rest := st) rfl rfl rfl rfl rfl rfl rfl ht hs
theorem s59_11 : Runs 59 11 [some (.ref a), x1] st h Q ↔ Runs 59 12 [some (.ref a), x1] (.ref a :: st) h Q := R_aldn rfl rfl
theorem s59_11q : Runs 59 11 [some (zrf r), x1] st h Q ↔ Runs 59 12 [some (zrf r), x1] (zrf r :: st) h Q := R_aldnq rfl rfl
theorem s59_12 : Runs 59 12 ls st h Q ↔ Runs 59 13 ls (.int 0 :: st) h Q := R_iconst rfl rfl
theorem s59_13 (ht : tg a = 6) : Runs 59 13 ls (.int i :: .ref a :: st) (n, tg, ln, I, J, O) Q ↔ Runs 59 16 ls st (n, tg, ln, zu I a 4 i, J, O) Q := R_puti rfl rfl rfl rfl rfl rfl ht
theorem s59_16 : Runs 59 16 [some (.ref a), x1] st h Q ↔ Runs 59 17 [some (.ref a), x1] (.ref a :: st) h Q := R_aldn rfl rfl
theorem s59_16q : Runs 59 16 [some (zrf r), x1] st h Q ↔ Runs 59 17 [some (zrf r), x1] (zrf r :: st) h Q := R_aldnq rfl rfl
theorem s59_17 : Runs 59 17 ls st h Q ↔ Runs 59 18 ls (.int 0 :: st) h Q := R_iconst rfl rfl
theorem s59_18 (ht : tg a = 6) : Runs 59 18 ls (.int i :: .ref a :: st) (n, tg, ln, I, J, O) Q ↔ Runs 59 21 ls st (n, tg, ln, zu I a 7 i, J, O) Q := R_puti rfl rfl rfl rfl rfl rfl ht
theorem s59_21 : Runs 59 21 ls st h Q ↔ Runs 59 22 ls (.int 0 :: st) h Q := R_iconst rfl rfl
theorem s59_22 : Runs 59 22 [x0, x1] (.int i :: st) h Q ↔ Runs 59 23 [zdrop x0, some (.int i)] st h Q := R_istn rfl rfl rfl
theorem s59_23 : Runs 59 23 [x0, some (.int i)] st h Q ↔ Runs 59 24 [x0, some (.int i)] (.int i :: st) h Q := R_ildn rfl rfl
theorem s59_24 : Runs 59 24 ls st h Q ↔ Runs 59 26 ls (.int 20 :: st) h Q := R_bipush rfl (by decide)
theorem s59_26 : Runs 59 26 ls (.int j :: .int i :: st) h Q ↔ if j ≤ i then Runs 59 99 ls st h Q else Runs 59 29 ls st h Q := R_icge rfl rfl
theorem s59_29 : Runs 59 29 [some (.ref a), x1] st h Q ↔ Runs 59 30 [some (.ref a), x1] (.ref a :: st) h Q := R_aldn rfl rfl
theorem s59_29q : Runs 59 29 [some (zrf r), x1] st h Q ↔ Runs 59 30 [some (zrf r), x1] (zrf r :: st) h Q := R_aldnq rfl rfl
theorem s59_30 (ht : tg a = 6) (hs : zsumc st ≤ 8) : Runs 59 30 ls (.ref a :: st) (n, tg, ln, I, J, O) Q ↔ Runs 68 0 [some (.ref a)] [] (n, tg, ln, I, J, O) (fun v h2 => Runs 59 33 ls (v.toList ++ st) h2 Q) := R_callv (a := a) (rest := st) rfl rfl rfl rfl rfl rfl rfl ht hs
theorem s59_33 : Runs 59 33 [some (.ref a), x1] st h Q ↔ Runs 59 34 [some (.ref a), x1] (.ref a :: st) h Q := R_aldn rfl rfl
theorem s59_33q : Runs 59 33 [some (zrf r), x1] st h Q ↔ Runs 59 34 [some (zrf r), x1] (zrf r :: st) h Q := R_aldnq rfl rfl
theorem s59_34 (ht : tg a = 6) (hs : zsumc st ≤ 8) : Runs 59 34 ls (.ref a :: st) (n, tg, ln, I, J, O) Q ↔ Runs 60 0 [some (.ref a), none] [] (n, tg, ln, I, J, O) (fun v h2 => Runs 59 37 ls (v.toList ++ st) h2 Q) := R_callv (a := a) (rest := st) rfl rfl rfl rfl rfl rfl rfl ht hs
theorem s59_37 : Runs 59 37 ls (.int i :: st) h Q ↔ if ¬ i = 0 then Runs 59 45 ls st h Q else Runs 59 40 ls st h Q := R_ifne rfl rfl
theorem s59_40 : Runs 59 40 [some (.ref a), x1] st h Q ↔ Runs 59 41 [some (.ref a), x1] (.ref a :: st) h Q := R_aldn rfl rfl
theorem s59_40q : Runs 59 40 [some (zrf r), x1] st h Q ↔ Runs 59 41 [some (zrf r), x1] (zrf r :: st) h Q := R_aldnq rfl rfl
theorem s59_41 (ht : tg a = 6) : Runs 59 41 ls (.ref a :: st) (n, tg, ln, I, J, O) Q ↔ Runs 59 44 ls (.int (I a 3) :: st) (n, tg, ln, I, J, O) Q := R_geti rfl rfl rfl rfl ht
theorem s59_44 : Runs 59 44 ls [.int i] h Q ↔ Q (some (.int i)) h := R_iret rfl rfl
theorem s59_45 : Runs 59 45 [some (.ref a), x1] st h Q ↔ Runs 59 46 [some (.ref a), x1] (.ref a :: st) h Q := R_aldn rfl rfl
theorem s59_45q : Runs 59 45 [some (zrf r), x1] st h Q ↔ Runs 59 46 [some (zrf r), x1] (zrf r :: st) h Q := R_aldnq rfl rfl
theorem s59_46 : Runs 59 46 ls (.int i :: st) h Q ↔ Runs 59 47 ls (.int i :: .int i :: st) h Q := R_dupi rfl
theorem s59_46q : Runs 59 46 ls (.ref a :: st) h Q ↔ Runs 59 47 ls (.ref a :: .ref a :: st) h Q := R_dupr rfl
theorem s59_47 (ht : tg a = 6) : Runs 59 47 ls (.ref a :: st) (n, tg, ln, I, J, O) Q ↔ Runs 59 50 ls (.int (I a 7) :: st) (n, tg, ln, I, J, O) Q := R_geti rfl rfl rfl rfl ht
theorem s59_50 : Runs 59 50 ls st h Q ↔ Runs 59 51 ls (.int 1 :: st) h Q := R_iconst rfl rfl
theorem s59_51 : Runs 59 51 ls (.int j :: .int i :: st) h Q ↔ Runs 59 52 ls (.int (i + j) :: st) h Q := R_iadd rfl
theorem s59_52 (ht : tg a = 6) : Runs 59 52 ls (.int i :: .ref a :: st) (n, tg, ln, I, J, O) Q ↔ Runs 59 55 ls st (n, tg, ln, zu I a 7 i, J, O) Q := R_puti rfl rfl rfl rfl rfl rfl ht
theorem s59_55 : Runs 59 55 [some (.ref a), x1] st h Q ↔ Runs 59 56 [some (.ref a), x1] (.ref a :: st) h Q := R_aldn rfl rfl
theorem s59_55q : Runs 59 55 [some (zrf r), x1] st h Q ↔ Runs 59 56 [some (zrf r), x1] (zrf r :: st) h Q := R_aldnq rfl rfl
theorem s59_56 (ht : tg a = 6) : Runs 59 56 ls (.ref a :: st) (n, tg, ln, I, J, O) Q ↔ Runs 59 59 ls (.int (I a 5) :: st) (n, tg, ln, I, J, O) Q := R_geti rfl rfl rfl rfl ht
theorem s59_59 : Runs 59 59 ls (.int i :: st) h Q ↔ if ¬ i = 0 then Runs 59 64 ls st h Q else Runs 59 62 ls st h Q := R_ifne rfl rfl
theorem s59_62 : Runs 59 62 ls st h Q ↔ Runs 59 63 ls (.int (-1) :: st) h Q := R_iconst rfl rfl
theorem s59_63 : Runs 59 63 ls [.int i] h Q ↔ Q (some (.int i)) h := R_iret rfl rfl
theorem s59_64 : Runs 59 64 [some (.ref a), x1] st h Q ↔ Runs 59 65 [some (.ref a), x1] (.ref a :: st) h Q := R_aldn rfl rfl
theorem s59_64q : Runs 59 64 [some (zrf r), x1] st h Q ↔ Runs 59 65 [some (zrf r), x1] (zrf r :: st) h Q := R_aldnq rfl rfl
theorem s59_65 (ht : tg a = 6) : Runs 59 65 ls (.ref a :: st) (n, tg, ln, I, J, O) Q ↔ Runs 59 68 ls (.int (I a 5) :: st) (n, tg, ln, I, J, O) Q := R_geti rfl rfl rfl rfl ht
theorem s59_68 : Runs 59 68 ls st h Q ↔ Runs 59 69 ls (.int 3 :: st) h Q := R_iconst rfl rfl
theorem s59_69 : Runs 59 69 ls (.int j :: .int i :: st) h Q ↔ if ¬ i = j then Runs 59 88 ls st h Q else Runs 59 72 ls st h Q := R_icne rfl rfl
theorem s59_72 : Runs 59 72 [some (.ref a), x1] st h Q ↔ Runs 59 73 [some (.ref a), x1] (.ref a :: st) h Q := R_aldn rfl rfl
theorem s59_72q : Runs 59 72 [some (zrf r), x1] st h Q ↔ Runs 59 73 [some (zrf r), x1] (zrf r :: st) h Q := R_aldnq rfl rfl
theorem s59_73 (ht : tg a = 6) : Runs 59 73 ls (.ref a :: st) (n, tg, ln, I, J, O) Q ↔ Runs 59 76 ls (zrf (O a 0) :: st) (n, tg, ln, I, J, O) Q := R_getr rfl rfl rfl rfl ht
theorem s59_76 : Runs 59 76 [some (.ref a), x1] st h Q ↔ Runs 59 77 [some (.ref a), x1] (.ref a :: st) h Q := R_aldn rfl rfl
theorem s59_76q : Runs 59 76 [some (zrf r), x1] st h Q ↔ Runs 59 77 [some (zrf r), x1] (zrf r :: st) h Q := R_aldnq rfl rfl
theorem s59_77 (ht : tg a = 6) : Runs 59 77 ls (.ref a :: st) (n, tg, ln, I, J, O) Q ↔ Runs 59 80 ls (.int (I a 3) :: st) (n, tg, ln, I, J, O) Q := R_geti rfl rfl rfl rfl ht
theorem s59_80 (ht : tg a = 8) (hs : zsumc st ≤ 8) : Runs 59 80 ls (.int i0 :: .ref a :: st) (n, tg, ln, I, J, O) Q ↔ Runs 78 0 [some (.ref a), some (.int i0)] [] (n, tg, ln, I, J, O) (fun v h2 => Runs 59 83 ls (v.toList ++ st) h2 Q) := R_callv (a := a) (rest := st) rfl rfl rfl rfl rfl rfl rfl ht hs
theorem s59_83 : Runs 59 83 ls st h Q ↔ Runs 59 85 ls (.int 59 :: st) h Q := R_bipush rfl (by decide)
theorem s59_85 : Runs 59 85 ls (.int j :: .int i :: st) h Q ↔ if i = j then Runs 59 93 ls st h Q else Runs 59 88 ls st h Q := R_iceq rfl rfl
theorem s59_88 : Runs 59 88 [some (.ref a), x1] st h Q ↔ Runs 59 89 [some (.ref a), x1] (.ref a :: st) h Q := R_aldn rfl rfl
theorem s59_88q : Runs 59 88 [some (zrf r), x1] st h Q ↔ Runs 59 89 [some (zrf r), x1] (zrf r :: st) h Q := R_aldnq rfl rfl
theorem s59_89 (ht : tg a = 6) : Runs 59 89 ls (.ref a :: st) (n, tg, ln, I, J, O) Q ↔ Runs 59 92 ls (.int (I a 3) :: st) (n, tg, ln, I, J, O) Q := R_geti rfl rfl rfl rfl ht
theorem s59_92 : Runs 59 92 ls [.int i] h Q ↔ Q (some (.int i)) h := R_iret rfl rfl
theorem s59_93 : Runs 59 93 [x0, some (.int i)] st h Q ↔ Runs 59 96 [zdrop x0, some (.int (i + 1))] st h Q := R_iinc rfl rfl rfl rfl rfl
theorem s59_96 : Runs 59 96 ls st h Q ↔ Runs 59 23 ls st h Q := R_goto rfl rfl
theorem s59_99 : Runs 59 99 [some (.ref a), x1] st h Q ↔ Runs 59 100 [some (.ref a), x1] (.ref a :: st) h Q := R_aldn rfl rfl
theorem s59_99q : Runs 59 99 [some (zrf r), x1] st h Q ↔ Runs 59 100 [some (zrf r), x1] (zrf r :: st) h Q := R_aldnq rfl rfl
theorem s59_100 (ht : tg a = 6) : Runs 59 100 ls (.ref a :: st) (n, tg, ln, I, J, O) Q ↔ Runs 59 103 ls (.int (I a 3) :: st) (n, tg, ln, I, J, O) Q := R_geti rfl rfl rfl rfl ht
theorem s59_103 : Runs 59 103 ls [.int i] h Q ↔ Q (some (.int i)) h := R_iret rfl rfl
theorem s60_0 : Runs 60 0 [some (.ref a), x1] st h Q ↔ Runs 60 1 [some (.ref a), x1] (.ref a :: st) h Q := R_aldn rfl rfl
theorem s60_0q : Runs 60 0 [some (zrf r), x1] st h Q ↔ Runs 60 1 [some (zrf r), x1] (zrf r :: st) h Q := R_aldnq rfl rfl
theorem s60_1 : Runs 60 1 ls st h Q ↔ Runs 60 3 ls (.ref 1 :: st) h Q := R_ldc rfl rfl
theorem s60_3 (ht : tg a = 6) (hs : zsumc st ≤ 8) : Runs 60 3 ls (.ref b0 :: .ref a :: st) (n, tg, ln, I, J, O) Q ↔ Runs 66 0 [some (.ref a), some (.ref b0), none] [] (n, tg, ln, I, J, O) (fun v h2 => Runs 60 6 ls (v.toList ++ st) h2 Q) := R_callv (a := a) (rest := st) rfl rfl rfl rfl rfl rfl rfl ht hs
theorem s60_3q (ht : tg a = 6) (hs : zsumc st ≤ 8) : Runs 60 3 ls (zrf r0 :: .ref a :: st) (n, tg, ln, I, J, O) Q ↔ Runs 66 0 [some (.ref a), some (zrf r0), none] [] (n, tg, ln, I, J, O) (fun v h2 => Runs 60 6 ls (v.toList ++ st) h2 Q) := by cases r0 <;> exact R_callv (a := a) (rest := st) rfl rfl rfl rfl rfl rfl rfl ht hs
theorem s60_6 : Runs 60 6 ls (.int i :: st) h Q ↔ if i = 0 then Runs 60 22 ls st h Q else Runs 60 9 ls st h Q := R_ifeq rfl rfl
theorem s60_9 : Runs 60 9 [some (.ref a), x1] st h Q ↔ Runs 60 10 [some (.ref a), x1] (.ref a :: st) h Q := R_aldn rfl rfl
theorem s60_9q : Runs 60 9 [some (zrf r), x1] st h Q ↔ Runs 60 10 [some (zrf r), x1] (zrf r :: st) h Q := R_aldnq rfl rfl
theorem s60_10 (ht : tg a = 6) : Runs 60 10 ls (.ref a :: st) (n, tg, ln, I, J, O) Q ↔ Runs 60 13 ls (zrf (O a 2) :: st) (n, tg, ln, I, J, O) Q := R_getr rfl rfl rfl rfl ht
theorem s60_13 (ht : tg a = 5) (hs : zsumc st ≤ 8) : Runs 60 13 ls (.ref a :: st) (n, tg, ln, I, J, O) Q ↔ Runs 37 0 [some (.ref a)] [] (n, tg, ln, I, J, O) (fun v h2 => Runs 60 16 ls (v.toList ++ st) h2 Q) := R_callv (a := a) (rest := st) rfl rfl rfl rfl rfl rfl rfl ht hs
theorem s60_16 : Runs 60 16 [some (.ref a), x1] st h Q ↔ Runs 60 17 [some (.ref a), x1] (.ref a :: st) h Q := R_aldn rfl rfl
theorem s60_16q : Runs 60 16 [some (zrf r), x1] st h Q ↔ Runs 60 17 [some (zrf r), x1] (zrf r :: st) h Q := R_aldnq rfl rfl
theorem s60_17 (ht : tg a = 6) (hs : zsumc st ≤ 8) : Runs 60 17 ls (.ref a :: st) (n, tg, ln, I, J, O) Q ↔ Runs 68 0 [some (.ref a)] [] (n, tg, ln, I, J, O) (fun v h2 => Runs 60 20 ls (v.toList ++ st) h2 Q) := R_callv (a := a) (rest := st) rfl rfl rfl rfl rfl rfl rfl ht hs
theorem s60_20 : Runs 60 20 ls st h Q ↔ Runs 60 21 ls (.int 1 :: st) h Q := R_iconst rfl rfl
theorem s60_21 (hx : i = 0 ∨ i = 1) : Runs 60 21 ls [.int i] h Q ↔ Q (some (.int i)) h := R_zret rfl rfl hx
theorem s60_22 : Runs 60 22 [some (.ref a), x1] st h Q ↔ Runs 60 23 [some (.ref a), x1] (.ref a :: st) h Q := R_aldn rfl rfl
theorem s60_22q : Runs 60 22 [some (zrf r), x1] st h Q ↔ Runs 60 23 [some (zrf r), x1] (zrf r :: st) h Q := R_aldnq rfl rfl
theorem s60_23 : Runs 60 23 ls st h Q ↔ Runs 60 25 ls (.ref 2 :: st) h Q := R_ldc rfl rfl
theorem s60_25 (ht : tg a = 6) (hs : zsumc st ≤ 8) : Runs 60 25 ls (.ref b0 :: .ref a :: st) (n, tg, ln, I, J, O) Q ↔ Runs 66 0 [some (.ref a), some (.ref b0), none] [] (n, tg, ln, I, J, O) (fun v h2 => Runs 60 28 ls (v.toList ++ st) h2 Q) := R_callv (a := a) (rest := st) rfl rfl rfl rfl rfl rfl rfl ht hs
theorem s60_25q (ht : tg a = 6) (hs : zsumc st ≤ 8) : Runs 60 25 ls (zrf r0 :: .ref a :: st) (n, tg, ln, I, J, O) Q ↔ Runs 66 0 [some (.ref a), some (zrf r0), none] [] (n, tg, ln, I, J, O) (fun v h2 => Runs 60 28 ls (v.toList ++ st) h2 Q) := by cases r0 <;> exact R_callv (a := a) (rest := st) rfl rfl rfl rfl rfl rfl rfl ht hs
theorem s60_28 : Runs 60 28 ls (.int i :: st) h Q ↔ if i = 0 then Runs 60 40 ls st h Q else Runs 60 31 ls st h Q := R_ifeq rfl rfl
theorem s60_31 : Runs 60 31 [some (.ref a), x1] st h Q ↔ Runs 60 32 [some (.ref a), x1] (.ref a :: st) h Q := R_aldn rfl rfl
theorem s60_31q : Runs 60 31 [some (zrf r), x1] st h Q ↔ Runs 60 32 [some (zrf r), x1] (zrf r :: st) h Q := R_aldnq rfl rfl
theorem s60_32 (ht : tg a = 6) (hs : zsumc st ≤ 8) : Runs 60 32 ls (.ref a :: st) (n, tg, ln, I, J, O) Q ↔ Runs 68 0 [some (.ref a)] [] (n, tg, ln, I, J, O) (fun v h2 => Runs 60 35 ls (v.toList ++ st) h2 Q) := R_callv (a := a) (rest := st) rfl rfl rfl rfl rfl rfl rfl ht hs
theorem s60_35 : Runs 60 35 [some (.ref a), x1] st h Q ↔ Runs 60 36 [some (.ref a), x1] (.ref a :: st) h Q := R_aldn rfl rfl
theorem s60_35q : Runs 60 35 [some (zrf r), x1] st h Q ↔ Runs 60 36 [some (zrf r), x1] (zrf r :: st) h Q := R_aldnq rfl rfl
theorem s60_36 (ht : tg a = 6) (hs : zsumc st ≤ 8) : Runs 60 36 ls (.ref a :: st) (n, tg, ln, I, J, O) Q ↔ Runs 61 0 [some (.ref a)] [] (n, tg, ln, I, J, O) (fun v h2 => Runs 60 39 ls (v.toList ++ st) h2 Q) := R_callv (a := a) (rest := st) rfl rfl rfl rfl rfl rfl rfl ht hs
theorem s60_39 (hx : i = 0 ∨ i = 1) : Runs 60 39 ls [.int i] h Q ↔ Q (some (.int i)) h := R_zret rfl rfl hx
theorem s60_40 : Runs 60 40 [some (.ref a), x1] st h Q ↔ Runs 60 41 [some (.ref a), x1] (.ref a :: st) h Q := R_aldn rfl rfl
theorem s60_40q : Runs 60 40 [some (zrf r), x1] st h Q ↔ Runs 60 41 [some (zrf r), x1] (zrf r :: st) h Q := R_aldnq rfl rfl
theorem s60_41 : Runs 60 41 ls st h Q ↔ Runs 60 43 ls (.ref 3 :: st) h Q := R_ldc rfl rfl
theorem s60_43 (ht : tg a = 6) (hs : zsumc st ≤ 8) : Runs 60 43 ls (.ref b0 :: .ref a :: st) (n, tg, ln, I, J, O) Q ↔ Runs 66 0 [some (.ref a), some (.ref b0), none] [] (n, tg, ln, I, J, O) (fun v h2 => Runs 60 46 ls (v.toList ++ st) h2 Q) := R_callv (a := a) (rest := st) rfl rfl rfl rfl rfl rfl rfl ht hs
theorem s60_43q (ht : tg a = 6) (hs : zsumc st ≤ 8) : Runs 60 43 ls (zrf r0 :: .ref a :: st) (n, tg, ln, I, J, O) Q ↔ Runs 66 0 [some (.ref a), some (zrf r0), none] [] (n, tg, ln, I, J, O) (fun v h2 => Runs 60 46 ls (v.toList ++ st) h2 Q) := by cases r0 <;> exact R_callv (a := a) (rest := st) rfl rfl rfl rfl rfl rfl rfl ht hs
theorem s60_46 : Runs 60 46 ls (.int i :: st) h Q ↔ if i = 0 then Runs 60 58 ls st h Q else Runs 60 49 ls st h Q := R_ifeq rfl rfl
theorem s60_49 : Runs 60 49 [some (.ref a), x1] st h Q ↔ Runs 60 50 [some (.ref a), x1] (.ref a :: st) h Q := R_aldn rfl rfl
theorem s60_49q : Runs 60 49 [some (zrf r), x1] st h Q ↔ Runs 60 50 [some (zrf r), x1] (zrf r :: st) h Q := R_aldnq rfl rfl
theorem s60_50 (ht : tg a = 6) (hs : zsumc st ≤ 8) : Runs 60 50 ls (.ref a :: st) (n, tg, ln, I, J, O) Q ↔ Runs 68 0 [some (.ref a)] [] (n, tg, ln, I, J, O) (fun v h2 => Runs 60 53 ls (v.toList ++ st) h2 Q) := R_callv (a := a) (rest := st) rfl rfl rfl rfl rfl rfl rfl ht hs
theorem s60_53 : Runs 60 53 [some (.ref a), x1] st h Q ↔ Runs 60 54 [some (.ref a), x1] (.ref a :: st) h Q := R_aldn rfl rfl
theorem s60_53q : Runs 60 53 [some (zrf r), x1] st h Q ↔ Runs 60 54 [some (zrf r), x1] (zrf r :: st) h Q := R_aldnq rfl rfl
theorem s60_54 (ht : tg a = 6) (hs : zsumc st ≤ 8) : Runs 60 54 ls (.ref a :: st) (n, tg, ln, I, J, O) Q ↔ Runs 62 0 [some (.ref a)] [] (n, tg, ln, I, J, O) (fun v h2 => Runs 60 57 ls (v.toList ++ st) h2 Q) := R_callv (a := a) (rest := st) rfl rfl rfl rfl rfl rfl rfl ht hs
theorem s60_57 (hx : i = 0 ∨ i = 1) : Runs 60 57 ls [.int i] h Q ↔ Q (some (.int i)) h := R_zret rfl rfl hx
theorem s60_58 : Runs 60 58 [some (.ref a), x1] st h Q ↔ Runs 60 59 [some (.ref a), x1] (.ref a :: st) h Q := R_aldn rfl rfl
theorem s60_58q : Runs 60 58 [some (zrf r), x1] st h Q ↔ Runs 60 59 [some (zrf r), x1] (zrf r :: st) h Q := R_aldnq rfl rfl
theorem s60_59 (ht : tg a = 6) (hs : zsumc st ≤ 8) : Runs 60 59 ls (.ref a :: st) (n, tg, ln, I, J, O) Q ↔ Runs 65 0 [some (.ref a)] [] (n, tg, ln, I, J, O) (fun v h2 => Runs 60 62 ls (v.toList ++ st) h2 Q) := R_callv (a := a) (rest := st) rfl rfl rfl rfl rfl rfl rfl ht hs
theorem s60_62 : Runs 60 62 [x0, x1] (.int i :: st) h Q ↔ Runs 60 63 [zdrop x0, some (.int i)] st h Q := R_istn rfl rfl rfl
theorem s60_63 : Runs 60 63 [x0, some (.int i)] st h Q ↔ Runs 60 64 [x0, some (.int i)] (.int i :: st) h Q := R_ildn rfl rfl
theorem s60_64 : Runs 60 64 ls st h Q ↔ Runs 60 65 ls (.int (-1) :: st) h Q := R_iconst rfl rfl
theorem s60_65 : Runs 60 65 ls (.int j :: .int i :: st) h Q ↔ if i = j then Runs 60 80 ls st h Q else Runs 60 68 ls st h Q := R_iceq rfl rfl
theorem s60_68 : Runs 60 68 [some (.ref a), x1] st h Q ↔ Runs 60 69 [some (.ref a), x1] (.ref a :: st) h Q := R_aldn rfl rfl
theorem s60_68q : Runs 60 68 [some (zrf r), x1] st h Q ↔ Runs 60 69 [some (zrf r), x1] (zrf r :: st) h Q := R_aldnq rfl rfl
theorem s60_69 (ht : tg a = 6) : Runs 60 69 ls (.ref a :: st) (n, tg, ln, I, J, O) Q ↔ Runs 60 72 ls (zrf (O a 2) :: st) (n, tg, ln, I, J, O) Q := R_getr rfl rfl rfl rfl ht
theorem s60_72 (ht : tg a = 5) : Runs 60 72 ls (.ref a :: st) (n, tg, ln, I, J, O) Q ↔ Runs 60 75 ls (.int (I a 5) :: st) (n, tg, ln, I, J, O) Q := R_geti rfl rfl rfl rfl ht
theorem s60_75 : Runs 60 75 ls st h Q ↔ Runs 60 77 ls (.int 12 :: st) h Q := R_bipush rfl (by decide)
theorem s60_77 : Runs 60 77 ls (.int j :: .int i :: st) h Q ↔ if i < j then Runs 60 82 ls st h Q else Runs 60 80 ls st h Q := R_iclt rfl rfl
theorem s60_80 : Runs 60 80 ls st h Q ↔ Runs 60 81 ls (.int 0 :: st) h Q := R_iconst rfl rfl
theorem s60_81 (hx : i = 0 ∨ i = 1) : Runs 60 81 ls [.int i] h Q ↔ Q (some (.int i)) h := R_zret rfl rfl hx
theorem s60_82 : Runs 60 82 [some (.ref a), x1] st h Q ↔ Runs 60 83 [some (.ref a), x1] (.ref a :: st) h Q := R_aldn rfl rfl
theorem s60_82q : Runs 60 82 [some (zrf r), x1] st h Q ↔ Runs 60 83 [some (zrf r), x1] (zrf r :: st) h Q := R_aldnq rfl rfl
theorem s60_83 (ht : tg a = 6) (hs : zsumc st ≤ 8) : Runs 60 83 ls (.ref a :: st) (n, tg, ln, I, J, O) Q ↔ Runs 68 0 [some (.ref a)] [] (n, tg, ln, I, J, O) (fun v h2 => Runs 60 86 ls (v.toList ++ st) h2 Q) := R_callv (a := a) (rest := st) rfl rfl rfl rfl rfl rfl rfl ht hs
theorem s60_86 : Runs 60 86 [some (.ref a), x1] st h Q ↔ Runs 60 87 [some (.ref a), x1] (.ref a :: st) h Q := R_aldn rfl rfl
theorem s60_86q : Runs 60 86 [some (zrf r), x1] st h Q ↔ Runs 60 87 [some (zrf r), x1] (zrf r :: st) h Q := R_aldnq rfl rfl
theorem s60_87 : Runs 60 87 [x0, some (.int i)] st h Q ↔ Runs 60 88 [x0, some (.int i)] (.int i :: st) h Q := R_ildn rfl rfl
theorem s60_88 (ht : tg a = 6) (hs : zsumc st ≤ 8) : Runs 60 88 ls (.int i0 :: .ref a :: st) (n, tg, ln, I, J, O) Q ↔ Runs 63 0 [some (.ref a), some (.int i0), none] [] (n, tg, ln, I, J, O) (fun v h2 => Runs 60 91 ls (v.toList ++ st) h2 Q) := R_callv (a := a) (rest := st) rfl rfl rfl rfl rfl rfl rfl ht hs
theorem s60_91 (hx : i = 0 ∨ i = 1) : Runs 60 91 ls [.int i] h Q ↔ Q (some (.int i)) h := R_zret rfl rfl hx
theorem s61_0 : Runs 61 0 [some (.ref a)] st h Q ↔ Runs 61 1 [some (.ref a)] (.ref a :: st) h Q := R_aldn rfl rfl
theorem s61_0q : Runs 61 0 [some (zrf r)] st h Q ↔ Runs 61 1 [some (zrf r)] (zrf r :: st) h Q := R_aldnq rfl rfl
theorem s61_1 : Runs 61 1 ls st h Q ↔ Runs 61 2 ls (.int 2 :: st) h Q := R_iconst rfl rfl
theorem s61_2 (ht : tg a = 6) (hs : zsumc st ≤ 8) : Runs 61 2 ls (.int i0 :: .ref a :: st) (n, tg, ln, I, J, O) Q ↔ Runs 67 0 [some (.ref a), some (.int i0)] [] (n, tg, ln, I, J, O) (fun v h2 => Runs 61 5 ls (v.toList ++ st) h2 Q) := R_callv (a := a) (rest := st) rfl rfl rfl rfl rfl rfl rfl ht hs
theorem s61_5 : Runs 61 5 ls (.int i :: st) h Q ↔ if ¬ i = 0 then Runs 61 10 ls st h Q else Runs 61 8 ls st h Q := R_ifne rfl rfl
theorem s61_8 : Runs 61 8 ls st h Q ↔ Runs 61 9 ls (.int 0 :: st) h Q := R_iconst rfl rfl
theorem s61_9 (hx : i = 0 ∨ i = 1) : Runs 61 9 ls [.int i] h Q ↔ Q (some (.int i)) h := R_zret rfl rfl hx
theorem s61_10 : Runs 61 10 [some (.ref a)] st h Q ↔ Runs 61 11 [some (.ref a)] (.ref a :: st) h Q := R_aldn rfl rfl
theorem s61_10q : Runs 61 10 [some (zrf r)] st h Q ↔ Runs 61 11 [some (zrf r)] (zrf r :: st) h Q := R_aldnq rfl rfl
theorem s61_11 (ht : tg a = 6) : Runs 61 11 ls (.ref a :: st) (n, tg, ln, I, J, O) Q ↔ Runs 61 14 ls (zrf (O a 2) :: st) (n, tg, ln, I, J, O) Q := R_getr rfl rfl rfl rfl ht
theorem s61_14 : Runs 61 14 [some (.ref a)] st h Q ↔ Runs 61 15 [some (.ref a)] (.ref a :: st) h Q := R_aldn rfl rfl
theorem s61_14q : Runs 61 14 [some (zrf r)] st h Q ↔ Runs 61 15 [some (zrf r)] (zrf r :: st) h Q := R_aldnq rfl rfl
theorem s61_15 (ht : tg a = 6) : Runs 61 15 ls (.ref a :: st) (n, tg, ln, I, J, O) Q ↔ Runs 61 18 ls (.int (I a 6) :: st) (n, tg, ln, I, J, O) Q := R_geti rfl rfl rfl rfl ht
theorem s61_18 (ht : tg a = 5) : Runs 61 18 ls (.int i :: .ref a :: st) (n, tg, ln, I, J, O) Q ↔ Runs 61 21 ls st (n, tg, ln, zu I a 6 i, J, O) Q := R_puti rfl rfl rfl rfl rfl rfl ht
theorem s61_21 : Runs 61 21 [some (.ref a)] st h Q ↔ Runs 61 22 [some (.ref a)] (.ref a :: st) h Q := R_aldn rfl rfl
theorem s61_21q : Runs 61 21 [some (zrf r)] st h Q ↔ Runs 61 22 [some (zrf r)] (zrf r :: st) h Q := R_aldnq rfl rfl
theorem s61_22 (ht : tg a = 6) (hs : zsumc st ≤ 8) : Runs 61 22 ls (.ref a :: st) (n, tg, ln, I, J, O) Q ↔ Runs 68 0 [some (.ref a)] [] (n, tg, ln, I, J, O) (fun v h2 => Runs 61 25 ls (v.toList ++ st) h2 Q) := R_callv (a := a) (rest := st) rfl rfl rfl rfl rfl rfl rfl ht hs
theorem s61_25 : Runs 61 25 ls st h Q ↔ Runs 61 26 ls (.int 1 :: st) h Q := R_iconst rfl rfl
theorem s61_26 (hx : i = 0 ∨ i = 1) : Runs 61 26 ls [.int i] h Q ↔ Q (some (.int i)) h := R_zret rfl rfl hx
theorem s62_0 : Runs 62 0 [some (.ref a)] st h Q ↔ Runs 62 1 [some (.ref a)] (.ref a :: st) h Q := R_aldn rfl rfl
theorem s62_0q : Runs 62 0 [some (zrf r)] st h Q ↔ Runs 62 1 [some (zrf r)] (zrf r :: st) h Q := R_aldnq rfl rfl
theorem s62_1 (ht : tg a = 6) (hs : zsumc st ≤ 8) : Runs 62 1 ls (.ref a :: st) (n, tg, ln, I, J, O) Q ↔ Runs 64 0 [some (.ref a)] [] (n, tg, ln, I, J, O) (fun v h2 => Runs 62 4 ls (v.toList ++ st) h2 Q) := R_callv (a := a) (rest := st) rfl rfl rfl rfl rfl rfl rfl ht hs
theorem s62_4 : Runs 62 4 ls (.int i :: st) h Q ↔ if ¬ i = 0 then Runs 62 9 ls st h Q else Runs 62 7 ls st h Q := R_ifne rfl rfl
theorem s62_7 : Runs 62 7 ls st h Q ↔ Runs 62 8 ls (.int 0 :: st) h Q := R_iconst rfl rfl
theorem s62_8 (hx : i = 0 ∨ i = 1) : Runs 62 8 ls [.int i] h Q ↔ Q (some (.int i)) h := R_zret rfl rfl hx
theorem s62_9 : Runs 62 9 [some (.ref a)] st h Q ↔ Runs 62 10 [some (.ref a)] (.ref a :: st) h Q := R_aldn rfl rfl
theorem s62_9q : Runs 62 9 [some (zrf r)] st h Q ↔ Runs 62 10 [some (zrf r)] (zrf r :: st) h Q := R_aldnq rfl rfl
theorem s62_10 (ht : tg a = 6) : Runs 62 10 ls (.ref a :: st) (n, tg, ln, I, J, O) Q ↔ Runs 62 13 ls (zrf (O a 2) :: st) (n, tg, ln, I, J, O) Q := R_getr rfl rfl rfl rfl ht
theorem s62_13 : Runs 62 13 [some (.ref a)] st h Q ↔ Runs 62 14 [some (.ref a)] (.ref a :: st) h Q := R_aldn rfl rfl
theorem s62_13q : Runs 62 13 [some (zrf r)] st h Q ↔ Runs 62 14 [some (zrf r)] (zrf r :: st) h Q := R_aldnq rfl rfl
theorem s62_14 (ht : tg a = 6) : Runs 62 14 ls (.ref a :: st) (n, tg, ln, I, J, O) Q ↔ Runs 62 17 ls (.int (I a 6) :: st) (n, tg, ln, I, J, O) Q := R_geti rfl rfl rfl rfl ht
theorem s62_17 (ht : tg a = 5) (hs : zsumc st ≤ 8) : Runs 62 17 ls (.int i0 :: .ref a :: st) (n, tg, ln, I, J, O) Q ↔ Runs 41 0 [some (.ref a), some (.int i0)] [] (n, tg, ln, I, J, O) (fun v h2 => Runs 62 20 ls (v.toList ++ st) h2 Q) := R_callv (a := a) (rest := st) rfl rfl rfl rfl rfl rfl rfl ht hs
theorem s62_20 : Runs 62 20 ls st h Q ↔ Runs 62 22 ls (.int 90 :: st) h Q := R_bipush rfl (by decide)
theorem s62_22 (ht : tg a = 4) (hs : zsumc st ≤ 8) : Runs 62 22 ls (.int i0 :: .ref a :: st) (n, tg, ln, I, J, O) Q ↔ Runs 28 0 [some (.ref a), some (.int i0)] [] (n, tg, ln, I, J, O) (fun v h2 => Runs 62 25 ls (v.toList ++ st) h2 Q) := R_callv (a := a) (rest := st) rfl rfl rfl rfl rfl rfl rfl ht hs
theorem s62_25 : Runs 62 25 [some (.ref a)] st h Q ↔ Runs 62 26 [some (.ref a)] (.ref a :: st) h Q := R_aldn rfl rfl
theorem s62_25q : Runs 62 25 [some (zrf r)] st h Q ↔ Runs 62 26 [some (zrf r)] (zrf r :: st) h Q := R_aldnq rfl rfl
theorem s62_26 (ht : tg a = 6) (hs : zsumc st ≤ 8) : Runs 62 26 ls (.ref a :: st) (n, tg, ln, I, J, O) Q ↔ Runs 68 0 [some (.ref a)] [] (n, tg, ln, I, J, O) (fun v h2 => Runs 62 29 ls (v.toList ++ st) h2 Q) := R_callv (a := a) (rest := st) rfl rfl rfl rfl rfl rfl rfl ht hs
theorem s62_29 : Runs 62 29 ls st h Q ↔ Runs 62 30 ls (.int 1 :: st) h Q := R_iconst rfl rfl
theorem s62_30 (hx : i = 0 ∨ i = 1) : Runs 62 30 ls [.int i] h Q ↔ Q (some (.int i)) h := R_zret rfl rfl hx
theorem s63_0 : Runs 63 0 [some (.ref a), x1, x2] st h Q ↔ Runs 63 1 [some (.ref a), x1, x2] (.ref a :: st) h Q := R_aldn rfl rfl
theorem s63_0q : Runs 63 0 [some (zrf r), x1, x2] st h Q ↔ Runs 63 1 [some (zrf r), x1, x2] (zrf r :: st) h Q := R_aldnq rfl rfl
theorem s63_1 (ht : tg a = 6) (hs : zsumc st ≤ 8) : Runs 63 1 ls (.ref a :: st) (n, tg, ln, I, J, O) Q ↔ Runs 64 0 [some (.ref a)] [] (n, tg, ln, I, J, O) (fun v h2 => Runs 63 4 ls (v.toList ++ st) h2 Q) := R_callv (a := a) (rest := st) rfl rfl rfl rfl rfl rfl rfl ht hs
theorem s63_4 : Runs 63 4 ls (.int i :: st) h Q ↔ if ¬ i = 0 then Runs 63 9 ls st h Q else Runs 63 7 ls st h Q := R_ifne rfl rfl
theorem s63_7 : Runs 63 7 ls st h Q ↔ Runs 63 8 ls (.int 0 :: st) h Q := R_iconst rfl rfl
theorem s63_8 (hx : i = 0 ∨ i = 1) : Runs 63 8 ls [.int i] h Q ↔ Q (some (.int i)) h := R_zret rfl rfl hx
theorem s63_9 : Runs 63 9 [some (.ref a), x1, x2] st h Q ↔ Runs 63 10 [some (.ref a), x1, x2] (.ref a :: st) h Q := R_aldn rfl rfl
theorem s63_9q : Runs 63 9 [some (zrf r), x1, x2] st h Q ↔ Runs 63 10 [some (zrf r), x1, x2] (zrf r :: st) h Q := R_aldnq rfl rfl
theorem s63_10 (ht : tg a = 6) : Runs 63 10 ls (.ref a :: st) (n, tg, ln, I, J, O) Q ↔ Runs 63 13 ls (.int (I a 6) :: st) (n, tg, ln, I, J, O) Q := R_geti rfl rfl rfl rfl ht
theorem s63_13 : Runs 63 13 [x0, x1, x2] (.int i :: st) h Q ↔ Runs 63 14 [x0, zdrop x1, some (.int i)] st h Q := R_istn rfl rfl rfl
theorem s63_14 : Runs 63 14 [some (.ref a), x1, x2] st h Q ↔ Runs 63 15 [some (.ref a), x1, x2] (.ref a :: st) h Q := R_aldn rfl rfl
theorem s63_14q : Runs 63 14 [some (zrf r), x1, x2] st h Q ↔ Runs 63 15 [some (zrf r), x1, x2] (zrf r :: st) h Q := R_aldnq rfl rfl
theorem s63_15 (ht : tg a = 6) (hs : zsumc st ≤ 8) : Runs 63 15 ls (.ref a :: st) (n, tg, ln, I, J, O) Q ↔ Runs 68 0 [some (.ref a)] [] (n, tg, ln, I, J, O) (fun v h2 => Runs 63 18 ls (v.toList ++ st) h2 Q) := R_callv (a := a) (rest := st) rfl rfl rfl rfl rfl rfl rfl ht hs
theorem s63_18 : Runs 63 18 [some (.ref a), x1, x2] st h Q ↔ Runs 63 19 [some (.ref a), x1, x2] (.ref a :: st) h Q := R_aldn rfl rfl
theorem s63_18q : Runs 63 18 [some (zrf r), x1, x2] st h Q ↔ Runs 63 19 [some (zrf r), x1, x2] (zrf r :: st) h Q := R_aldnq rfl rfl
theorem s63_19 : Runs 63 19 ls st h Q ↔ Runs 63 21 ls (.int 99 :: st) h Q := R_bipush rfl (by decide)
theorem s63_21 (ht : tg a = 6) (hs : zsumc st ≤ 8) : Runs 63 21 ls (.int i0 :: .ref a :: st) (n, tg, ln, I, J, O) Q ↔ Runs 67 0 [some (.ref a), some (.int i0)] [] (n, tg, ln, I, J, O) (fun v h2 => Runs 63 24 ls (v.toList ++ st) h2 Q) := R_callv (a := a) (rest := st) rfl rfl rfl rfl rfl rfl rfl ht hs
theorem s63_24 : Runs 63 24 ls (.int i :: st) h Q ↔ if ¬ i = 0 then Runs 63 29 ls st h Q else Runs 63 27 ls st h Q := R_ifne rfl rfl
theorem s63_27 : Runs 63 27 ls st h Q ↔ Runs 63 28 ls (.int 0 :: st) h Q := R_iconst rfl rfl
theorem s63_28 (hx : i = 0 ∨ i = 1) : Runs 63 28 ls [.int i] h Q ↔ Q (some (.int i)) h := R_zret rfl rfl hx
theorem s63_29 : Runs 63 29 [some (.ref a), x1, x2] st h Q ↔ Runs 63 30 [some (.ref a), x1, x2] (.ref a :: st) h Q := R_aldn rfl rfl
theorem s63_29q : Runs 63 29 [some (zrf r), x1, x2] st h Q ↔ Runs 63 30 [some (zrf r), x1, x2] (zrf r :: st) h Q := R_aldnq rfl rfl
theorem s63_30 (ht : tg a = 6) : Runs 63 30 ls (.ref a :: st) (n, tg, ln, I, J, O) Q ↔ Runs 63 33 ls (zrf (O a 2) :: st) (n, tg, ln, I, J, O) Q := R_getr rfl rfl rfl rfl ht
theorem s63_33 : Runs 63 33 [x0, x1, some (.int i)] st h Q ↔ Runs 63 34 [x0, x1, some (.int i)] (.int i :: st) h Q := R_ildn rfl rfl
theorem s63_34 : Runs 63 34 [x0, some (.int i), x2] st h Q ↔ Runs 63 35 [x0, some (.int i), x2] (.int i :: st) h Q := R_ildn rfl rfl
theorem s63_35 : Runs 63 35 [some (.ref a), x1, x2] st h Q ↔ Runs 63 36 [some (.ref a), x1, x2] (.ref a :: st) h Q := R_aldn rfl rfl
theorem s63_35q : Runs 63 35 [some (zrf r), x1, x2] st h Q ↔ Runs 63 36 [some (zrf r), x1, x2] (zrf r :: st) h Q := R_aldnq rfl rfl
theorem s63_36 (ht : tg a = 6) : Runs 63 36 ls (.ref a :: st) (n, tg, ln, I, J, O) Q ↔ Runs 63 39 ls (.int (I a 6) :: st) (n, tg, ln, I, J, O) Q := R_geti rfl rfl rfl rfl ht
theorem s63_39 (ht : tg a = 5) (hs : zsumc st ≤ 8) : Runs 63 39 ls (.int i2 :: .int i1 :: .int i0 :: .ref a :: st) (n, tg, ln, I, J, O) Q ↔ Runs 46 0 [some (.ref a), some (.int i0), some (.int i1), some (.int i2), none] [] (n, tg, ln, I, J, O) (fun v h2 => Runs 63 42 ls (v.toList ++ st) h2 Q) := R_callv (a := a) (rest := st) rfl rfl rfl rfl rfl rfl rfl ht hs
theorem s63_42 : Runs 63 42 ls (.int i :: st) h Q ↔ Runs 63 43 ls st h Q := R_pop rfl
theorem s63_43 : Runs 63 43 [some (.ref a), x1, x2] st h Q ↔ Runs 63 44 [some (.ref a), x1, x2] (.ref a :: st) h Q := R_aldn rfl rfl
theorem s63_43q : Runs 63 43 [some (zrf r), x1, x2] st h Q ↔ Runs 63 44 [some (zrf r), x1, x2] (zrf r :: st) h Q := R_aldnq rfl rfl
theorem s63_44 (ht : tg a = 6) (hs : zsumc st ≤ 8) : Runs 63 44 ls (.ref a :: st) (n, tg, ln, I, J, O) Q ↔ Runs 68 0 [some (.ref a)] [] (n, tg, ln, I, J, O) (fun v h2 => Runs 63 47 ls (v.toList ++ st) h2 Q) := R_callv (a := a) (rest := st) rfl rfl rfl rfl rfl rfl rfl ht hs
theorem s63_47 : Runs 63 47 ls st h Q ↔ Runs 63 48 ls (.int 1 :: st) h Q := R_iconst rfl rfl
theorem s63_48 (hx : i = 0 ∨ i = 1) : Runs 63 48 ls [.int i] h Q ↔ Q (some (.int i)) h := R_zret rfl rfl hx
theorem s64_0 : Runs 64 0 [some (.ref a)] st h Q ↔ Runs 64 1 [some (.ref a)] (.ref a :: st) h Q := R_aldn rfl rfl
theorem s64_0q : Runs 64 0 [some (zrf r)] st h Q ↔ Runs 64 1 [some (zrf r)] (zrf r :: st) h Q := R_aldnq rfl rfl
theorem s64_1 : Runs 64 1 ls st h Q ↔ Runs 64 2 ls (.int 1 :: st) h Q := R_iconst rfl rfl
theorem s64_2 (ht : tg a = 6) (hs : zsumc st ≤ 8) : Runs 64 2 ls (.int i0 :: .ref a :: st) (n, tg, ln, I, J, O) Q ↔ Runs 67 0 [some (.ref a), some (.int i0)] [] (n, tg, ln, I, J, O) (fun v h2 => Runs 64 5 ls (v.toList ++ st) h2 Q) := R_callv (a := a) (rest := st) rfl rfl rfl rfl rfl rfl rfl ht hs
theorem s64_5 : Runs 64 5 ls (.int i :: st) h Q ↔ if i = 0 then Runs 64 29 ls st h Q else Runs 64 8 ls st h Q := R_ifeq rfl rfl
theorem s64_8 : Runs 64 8 [some (.ref a)] st h Q ↔ Runs 64 9 [some (.ref a)] (.ref a :: st) h Q := R_aldn rfl rfl
theorem s64_8q : Runs 64 8 [some (zrf r)] st h Q ↔ Runs 64 9 [some (zrf r)] (zrf r :: st) h Q := R_aldnq rfl rfl
theorem s64_9 (ht : tg a = 6) : Runs 64 9 ls (.ref a :: st) (n, tg, ln, I, J, O) Q ↔ Runs 64 12 ls (zrf (O a 2) :: st) (n, tg, ln, I, J, O) Q := R_getr rfl rfl rfl rfl ht
theorem s64_12 : Runs 64 12 [some (.ref a)] st h Q ↔ Runs 64 13 [some (.ref a)] (.ref a :: st) h Q := R_aldn rfl rfl
theorem s64_12q : Runs 64 12 [some (zrf r)] st h Q ↔ Runs 64 13 [some (zrf r)] (zrf r :: st) h Q := R_aldnq rfl rfl
theorem s64_13 (ht : tg a = 6) : Runs 64 13 ls (.ref a :: st) (n, tg, ln, I, J, O) Q ↔ Runs 64 16 ls (.int (I a 6) :: st) (n, tg, ln, I, J, O) Q := R_geti rfl rfl rfl rfl ht
theorem s64_16 (ht : tg a = 5) (hs : zsumc st ≤ 8) : Runs 64 16 ls (.int i0 :: .ref a :: st) (n, tg, ln, I, J, O) Q ↔ Runs 41 0 [some (.ref a), some (.int i0)] [] (n, tg, ln, I, J, O) (fun v h2 => Runs 64 19 ls (v.toList ++ st) h2 Q) := R_callv (a := a) (rest := st) rfl rfl rfl rfl rfl rfl rfl ht hs
theorem s64_19 (ht : tg a = 4) (hs : zsumc st ≤ 8) : Runs 64 19 ls (.ref a :: st) (n, tg, ln, I, J, O) Q ↔ Runs 25 0 [some (.ref a)] [] (n, tg, ln, I, J, O) (fun v h2 => Runs 64 22 ls (v.toList ++ st) h2 Q) := R_callv (a := a) (rest := st) rfl rfl rfl rfl rfl rfl rfl ht hs
theorem s64_22 : Runs 64 22 ls (.int i :: st) h Q ↔ if ¬ i = 0 then Runs 64 29 ls st h Q else Runs 64 25 ls st h Q := R_ifne rfl rfl
theorem s64_25 : Runs 64 25 ls st h Q ↔ Runs 64 26 ls (.int 1 :: st) h Q := R_iconst rfl rfl
theorem s64_26 : Runs 64 26 ls st h Q ↔ Runs 64 30 ls st h Q := R_goto rfl rfl
theorem s64_29 : Runs 64 29 ls st h Q ↔ Runs 64 30 ls (.int 0 :: st) h Q := R_iconst rfl rfl
theorem s64_30 (hx : i = 0 ∨ i = 1) : Runs 64 30 ls [.int i] h Q ↔ Q (some (.int i)) h := R_zret rfl rfl hx
theorem s65_0 : Runs 65 0 [some (.ref a)] st h Q ↔ Runs 65 1 [some (.ref a)] (.ref a :: st) h Q := R_aldn rfl rfl
theorem s65_0q : Runs 65 0 [some (zrf r)] st h Q ↔ Runs 65 1 [some (zrf r)] (zrf r :: st) h Q := R_aldnq rfl rfl
theorem s65_1 : Runs 65 1 ls st h Q ↔ Runs 65 3 ls (.ref 4 :: st) h Q := R_ldc rfl rfl
theorem s65_3 (ht : tg a = 6) (hs : zsumc st ≤ 8) : Runs 65 3 ls (.ref b0 :: .ref a :: st) (n, tg, ln, I, J, O) Q ↔ Runs 66 0 [some (.ref a), some (.ref b0), none] [] (n, tg, ln, I, J, O) (fun v h2 => Runs 65 6 ls (v.toList ++ st) h2 Q) := R_callv (a := a) (rest := st) rfl rfl rfl rfl rfl rfl rfl ht hs
theorem s65_3q (ht : tg a = 6) (hs : zsumc st ≤ 8) : Runs 65 3 ls (zrf r0 :: .ref a :: st) (n, tg, ln, I, J, O) Q ↔ Runs 66 0 [some (.ref a), some (zrf r0), none] [] (n, tg, ln, I, J, O) (fun v h2 => Runs 65 6 ls (v.toList ++ st) h2 Q) := by cases r0 <;> exact R_callv (a := a) (rest := st) rfl rfl rfl rfl rfl rfl rfl ht hs
theorem s65_6 : Runs 65 6 ls (.int i :: st) h Q ↔ if i = 0 then Runs 65 11 ls st h Q else Runs 65 9 ls st h Q := R_ifeq rfl rfl
theorem s65_9 : Runs 65 9 ls st h Q ↔ Runs 65 10 ls (.int 0 :: st) h Q := R_iconst rfl rfl
theorem s65_10 : Runs 65 10 ls [.int i] h Q ↔ Q (some (.int i)) h := R_iret rfl rfl
theorem s65_11 : Runs 65 11 [some (.ref a)] st h Q ↔ Runs 65 12 [some (.ref a)] (.ref a :: st) h Q := R_aldn rfl rfl
theorem s65_11q : Runs 65 11 [some (zrf r)] st h Q ↔ Runs 65 12 [some (zrf r)] (zrf r :: st) h Q := R_aldnq rfl rfl
theorem s65_12 : Runs 65 12 ls st h Q ↔ Runs 65 14 ls (.ref 5 :: st) h Q := R_ldc rfl rfl
theorem s65_14 (ht : tg a = 6) (hs : zsumc st ≤ 8) : Runs 65 14 ls (.ref b0 :: .ref a :: st) (n, tg, ln, I, J, O) Q ↔ Runs 66 0 [some (.ref a), some (.ref b0), none] [] (n, tg, ln, I, J, O) (fun v h2 => Runs 65 17 ls (v.toList ++ st) h2 Q) := R_callv (a := a) (rest := st) rfl rfl rfl rfl rfl rfl rfl ht hs
theorem s65_14q (ht : tg a = 6) (hs : zsumc st ≤ 8) : Runs 65 14 ls (zrf r0 :: .ref a :: st) (n, tg, ln, I, J, O) Q ↔ Runs 66 0 [some (.ref a), some (zrf r0), none] [] (n, tg, ln, I, J, O) (fun v h2 => Runs 65 17 ls (v.toList ++ st) h2 Q) := by cases r0 <;> exact R_callv (a := a) (rest := st) rfl rfl rfl rfl rfl rfl rfl ht hs
theorem s65_17 : Runs 65 17 ls (.int i :: st) h Q ↔ if i = 0 then Runs 65 22 ls st h Q else Runs 65 20 ls st h Q := R_ifeq rfl rfl
theorem s65_20 : Runs 65 20 ls st h Q ↔ Runs 65 21 ls (.int 1 :: st) h Q := R_iconst rfl rfl
theorem s65_21 : Runs 65 21 ls [.int i] h Q ↔ Q (some (.int i)) h := R_iret rfl rfl
theorem s65_22 : Runs 65 22 [some (.ref a)] st h Q ↔ Runs 65 23 [some (.ref a)] (.ref a :: st) h Q := R_aldn rfl rfl
theorem s65_22q : Runs 65 22 [some (zrf r)] st h Q ↔ Runs 65 23 [some (zrf r)] (zrf r :: st) h Q := R_aldnq rfl rfl
theorem s65_23 : Runs 65 23 ls st h Q ↔ Runs 65 25 ls (.ref 6 :: st) h Q := R_ldc rfl rfl
theorem s65_25 (ht : tg a = 6) (hs : zsumc st ≤ 8) : Runs 65 25 ls (.ref b0 :: .ref a :: st) (n, tg, ln, I, J, O) Q ↔ Runs 66 0 [some (.ref a), some (.ref b0), none] [] (n, tg, ln, I, J, O) (fun v h2 => Runs 65 28 ls (v.toList ++ st) h2 Q) := R_callv (a := a) (rest := st) rfl rfl rfl rfl rfl rfl rfl ht hs
theorem s65_25q (ht : tg a = 6) (hs : zsumc st ≤ 8) : Runs 65 25 ls (zrf r0 :: .ref a :: st) (n, tg, ln, I, J, O) Q ↔ Runs 66 0 [some (.ref a), some (zrf r0), none] [] (n, tg, ln, I, J, O) (fun v h2 => Runs 65 28 ls (v.toList ++ st) h2 Q) := by cases r0 <;> exact R_callv (a := a) (rest := st) rfl rfl rfl rfl rfl rfl rfl ht hs
theorem s65_28 : Runs 65 28 ls (.int i :: st) h Q ↔ if i = 0 then Runs 65 33 ls st h Q else Runs 65 31 ls st h Q := R_ifeq rfl rfl
theorem s65_31 : Runs 65 31 ls st h Q ↔ Runs 65 32 ls (.int 2 :: st) h Q := R_iconst rfl rfl
theorem s65_32 : Runs 65 32 ls [.int i] h Q ↔ Q (some (.int i)) h := R_iret rfl rfl
theorem s65_33 : Runs 65 33 [some (.ref a)] st h Q ↔ Runs 65 34 [some (.ref a)] (.ref a :: st) h Q := R_aldn rfl rfl
theorem s65_33q : Runs 65 33 [some (zrf r)] st h Q ↔ Runs 65 34 [some (zrf r)] (zrf r :: st) h Q := R_aldnq rfl rfl
theorem s65_34 : Runs 65 34 ls st h Q ↔ Runs 65 36 ls (.ref 7 :: st) h Q := R_ldc rfl rfl
theorem s65_36 (ht : tg a = 6) (hs : zsumc st ≤ 8) : Runs 65 36 ls (.ref b0 :: .ref a :: st) (n, tg, ln, I, J, O) Q ↔ Runs 66 0 [some (.ref a), some (.ref b0), none] [] (n, tg, ln, I, J, O) (fun v h2 => Runs 65 39 ls (v.toList ++ st) h2 Q) := R_callv (a := a) (rest := st) rfl rfl rfl rfl rfl rfl rfl ht hs
theorem s65_36q (ht : tg a = 6) (hs : zsumc st ≤ 8) : Runs 65 36 ls (zrf r0 :: .ref a :: st) (n, tg, ln, I, J, O) Q ↔ Runs 66 0 [some (.ref a), some (zrf r0), none] [] (n, tg, ln, I, J, O) (fun v h2 => Runs 65 39 ls (v.toList ++ st) h2 Q) := by cases r0 <;> exact R_callv (a := a) (rest := st) rfl rfl rfl rfl rfl rfl rfl ht hs
theorem s65_39 : Runs 65 39 ls (.int i :: st) h Q ↔ if i = 0 then Runs 65 46 ls st h Q else Runs 65 42 ls st h Q := R_ifeq rfl rfl
theorem s65_42 : Runs 65 42 ls st h Q ↔ Runs 65 43 ls (.int 3 :: st) h Q := R_iconst rfl rfl
theorem s65_43 : Runs 65 43 ls st h Q ↔ Runs 65 47 ls st h Q := R_goto rfl rfl
theorem s65_46 : Runs 65 46 ls st h Q ↔ Runs 65 47 ls (.int (-1) :: st) h Q := R_iconst rfl rfl
theorem s65_47 : Runs 65 47 ls [.int i] h Q ↔ Q (some (.int i)) h := R_iret rfl rfl
theorem s66_0 : Runs 66 0 [some (.ref a), x1, x2] st h Q ↔ Runs 66 1 [some (.ref a), x1, x2] (.ref a :: st) h Q := R_aldn rfl rfl
theorem s66_0q : Runs 66 0 [some (zrf r), x1, x2] st h Q ↔ Runs 66 1 [some (zrf r), x1, x2] (zrf r :: st) h Q := R_aldnq rfl rfl
theorem s66_1 (ht : tg a = 6) : Runs 66 1 ls (.ref a :: st) (n, tg, ln, I, J, O) Q ↔ Runs 66 4 ls (.int (I a 5) :: st) (n, tg, ln, I, J, O) Q := R_geti rfl rfl rfl rfl ht
theorem s66_4 : Runs 66 4 ls st h Q ↔ Runs 66 5 ls (.int 1 :: st) h Q := R_iconst rfl rfl
theorem s66_5 : Runs 66 5 ls (.int j :: .int i :: st) h Q ↔ if ¬ i = j then Runs 66 24 ls st h Q else Runs 66 8 ls st h Q := R_icne rfl rfl
theorem s66_8 : Runs 66 8 [some (.ref a), x1, x2] st h Q ↔ Runs 66 9 [some (.ref a), x1, x2] (.ref a :: st) h Q := R_aldn rfl rfl
theorem s66_8q : Runs 66 8 [some (zrf r), x1, x2] st h Q ↔ Runs 66 9 [some (zrf r), x1, x2] (zrf r :: st) h Q := R_aldnq rfl rfl
theorem s66_9 (ht : tg a = 6) : Runs 66 9 ls (.ref a :: st) (n, tg, ln, I, J, O) Q ↔ Runs 66 12 ls (.int (I a 4) :: st) (n, tg, ln, I, J, O) Q := R_geti rfl rfl rfl rfl ht
theorem s66_12 : Runs 66 12 [some (.ref a), x1, x2] st h Q ↔ Runs 66 13 [some (.ref a), x1, x2] (.ref a :: st) h Q := R_aldn rfl rfl
theorem s66_12q : Runs 66 12 [some (zrf r), x1, x2] st h Q ↔ Runs 66 13 [some (zrf r), x1, x2] (zrf r :: st) h Q := R_aldnq rfl rfl
theorem s66_13 (ht : tg a = 6) : Runs 66 13 ls (.ref a :: st) (n, tg, ln, I, J, O) Q ↔ Runs 66 16 ls (.int (I a 3) :: st) (n, tg, ln, I, J, O) Q := R_geti rfl rfl rfl rfl ht
theorem s66_16 : Runs 66 16 ls (.int j :: .int i :: st) h Q ↔ Runs 66 17 ls (.int (i - j) :: st) h Q := R_isub rfl
theorem s66_17 : Runs 66 17 [x0, some (.ref a), x2] st h Q ↔ Runs 66 18 [x0, some (.ref a), x2] (.ref a :: st) h Q := R_aldn rfl rfl
theorem s66_17q : Runs 66 17 [x0, some (zrf r), x2] st h Q ↔ Runs 66 18 [x0, some (zrf r), x2] (zrf r :: st) h Q := R_aldnq rfl rfl
theorem s66_18 (ht : tg a = 31) (hs : zsumc st ≤ 8) : Runs 66 18 ls (.ref a :: st) (n, tg, ln, I, J, O) Q ↔ Runs 66 21 ls (.int (Int32.ofNat (ln a)) :: st) (n, tg, ln, I, J, O) Q := R_slen rfl rfl ht hs
theorem s66_21 : Runs 66 21 ls (.int j :: .int i :: st) h Q ↔ if i = j then Runs 66 26 ls st h Q else Runs 66 24 ls st h Q := R_iceq rfl rfl
theorem s66_24 : Runs 66 24 ls st h Q ↔ Runs 66 25 ls (.int 0 :: st) h Q := R_iconst rfl rfl
theorem s66_25 (hx : i = 0 ∨ i = 1) : Runs 66 25 ls [.int i] h Q ↔ Q (some (.int i)) h := R_zret rfl rfl hx
theorem s66_26 : Runs 66 26 ls st h Q ↔ Runs 66 27 ls (.int 0 :: st) h Q := R_iconst rfl rfl
theorem s66_27 : Runs 66 27 [x0, x1, x2] (.int i :: st) h Q ↔ Runs 66 28 [x0, zdrop x1, some (.int i)] st h Q := R_istn rfl rfl rfl
theorem s66_28 : Runs 66 28 [x0, x1, some (.int i)] st h Q ↔ Runs 66 29 [x0, x1, some (.int i)] (.int i :: st) h Q := R_ildn rfl rfl
theorem s66_29 : Runs 66 29 [x0, some (.ref a), x2] st h Q ↔ Runs 66 30 [x0, some (.ref a), x2] (.ref a :: st) h Q := R_aldn rfl rfl
theorem s66_29q : Runs 66 29 [x0, some (zrf r), x2] st h Q ↔ Runs 66 30 [x0, some (zrf r), x2] (zrf r :: st) h Q := R_aldnq rfl rfl
theorem s66_30 (ht : tg a = 31) (hs : zsumc st ≤ 8) : Runs 66 30 ls (.ref a :: st) (n, tg, ln, I, J, O) Q ↔ Runs 66 33 ls (.int (Int32.ofNat (ln a)) :: st) (n, tg, ln, I, J, O) Q := R_slen rfl rfl ht hs
theorem s66_33 : Runs 66 33 ls (.int j :: .int i :: st) h Q ↔ if j ≤ i then Runs 66 65 ls st h Q else Runs 66 36 ls st h Q := R_icge rfl rfl
theorem s66_36 : Runs 66 36 [some (.ref a), x1, x2] st h Q ↔ Runs 66 37 [some (.ref a), x1, x2] (.ref a :: st) h Q := R_aldn rfl rfl
theorem s66_36q : Runs 66 36 [some (zrf r), x1, x2] st h Q ↔ Runs 66 37 [some (zrf r), x1, x2] (zrf r :: st) h Q := R_aldnq rfl rfl
theorem s66_37 (ht : tg a = 6) : Runs 66 37 ls (.ref a :: st) (n, tg, ln, I, J, O) Q ↔ Runs 66 40 ls (zrf (O a 0) :: st) (n, tg, ln, I, J, O) Q := R_getr rfl rfl rfl rfl ht
theorem s66_40 : Runs 66 40 [some (.ref a), x1, x2] st h Q ↔ Runs 66 41 [some (.ref a), x1, x2] (.ref a :: st) h Q := R_aldn rfl rfl
theorem s66_40q : Runs 66 40 [some (zrf r), x1, x2] st h Q ↔ Runs 66 41 [some (zrf r), x1, x2] (zrf r :: st) h Q := R_aldnq rfl rfl
theorem s66_41 (ht : tg a = 6) : Runs 66 41 ls (.ref a :: st) (n, tg, ln, I, J, O) Q ↔ Runs 66 44 ls (.int (I a 3) :: st) (n, tg, ln, I, J, O) Q := R_geti rfl rfl rfl rfl ht
theorem s66_44 : Runs 66 44 [x0, x1, some (.int i)] st h Q ↔ Runs 66 45 [x0, x1, some (.int i)] (.int i :: st) h Q := R_ildn rfl rfl
theorem s66_45 : Runs 66 45 ls (.int j :: .int i :: st) h Q ↔ Runs 66 46 ls (.int (i + j) :: st) h Q := R_iadd rfl
theorem s66_46 (ht : tg a = 8) (hs : zsumc st ≤ 8) : Runs 66 46 ls (.int i0 :: .ref a :: st) (n, tg, ln, I, J, O) Q ↔ Runs 78 0 [some (.ref a), some (.int i0)] [] (n, tg, ln, I, J, O) (fun v h2 => Runs 66 49 ls (v.toList ++ st) h2 Q) := R_callv (a := a) (rest := st) rfl rfl rfl rfl rfl rfl rfl ht hs
theorem s66_49 : Runs 66 49 [x0, some (.ref a), x2] st h Q ↔ Runs 66 50 [x0, some (.ref a), x2] (.ref a :: st) h Q := R_aldn rfl rfl
theorem s66_49q : Runs 66 49 [x0, some (zrf r), x2] st h Q ↔ Runs 66 50 [x0, some (zrf r), x2] (zrf r :: st) h Q := R_aldnq rfl rfl
theorem s66_50 : Runs 66 50 [x0, x1, some (.int i)] st h Q ↔ Runs 66 51 [x0, x1, some (.int i)] (.int i :: st) h Q := R_ildn rfl rfl
theorem s66_51 (ht : tg a = 31) (hs : zsumc st ≤ 8) : Runs 66 51 ls (.int i :: .ref a :: st) (n, tg, ln, I, J, O) Q ↔ ((0 ≤ i ∧ i < Int32.ofNat (ln a)) ∧ Runs 66 54 ls (.int (I a i) :: st) (n, tg, ln, I, J, O) Q) := R_sch rfl rfl ht hs
theorem s66_54 : Runs 66 54 ls (.int j :: .int i :: st) h Q ↔ if i = j then Runs 66 59 ls st h Q else Runs 66 57 ls st h Q := R_iceq rfl rfl
theorem s66_57 : Runs 66 57 ls st h Q ↔ Runs 66 58 ls (.int 0 :: st) h Q := R_iconst rfl rfl
theorem s66_58 (hx : i = 0 ∨ i = 1) : Runs 66 58 ls [.int i] h Q ↔ Q (some (.int i)) h := R_zret rfl rfl hx
theorem s66_59 : Runs 66 59 [x0, x1, some (.int i)] st h Q ↔ Runs 66 62 [x0, zdrop x1, some (.int (i + 1))] st h Q := R_iinc rfl rfl rfl rfl rfl
theorem s66_62 : Runs 66 62 ls st h Q ↔ Runs 66 28 ls st h Q := R_goto rfl rfl
theorem s66_65 : Runs 66 65 ls st h Q ↔ Runs 66 66 ls (.int 1 :: st) h Q := R_iconst rfl rfl
theorem s66_66 (hx : i = 0 ∨ i = 1) : Runs 66 66 ls [.int i] h Q ↔ Q (some (.int i)) h := R_zret rfl rfl hx
theorem s67_0 : Runs 67 0 [some (.ref a), x1] st h Q ↔ Runs 67 1 [some (.ref a), x1] (.ref a :: st) h Q := R_aldn rfl rfl
theorem s67_0q : Runs 67 0 [some (zrf r), x1] st h Q ↔ Runs 67 1 [some (zrf r), x1] (zrf r :: st) h Q := R_aldnq rfl rfl
theorem s67_1 (ht : tg a = 6) : Runs 67 1 ls (.ref a :: st) (n, tg, ln, I, J, O) Q ↔ Runs 67 4 ls (.int (I a 6) :: st) (n, tg, ln, I, J, O) Q := R_geti rfl rfl rfl rfl ht
theorem s67_4 : Runs 67 4 ls st h Q ↔ Runs 67 5 ls (.int (-1) :: st) h Q := R_iconst rfl rfl
theorem s67_5 : Runs 67 5 ls (.int j :: .int i :: st) h Q ↔ if i = j then Runs 67 20 ls st h Q else Runs 67 8 ls st h Q := R_iceq rfl rfl
theorem s67_8 : Runs 67 8 [some (.ref a), x1] st h Q ↔ Runs 67 9 [some (.ref a), x1] (.ref a :: st) h Q := R_aldn rfl rfl
theorem s67_8q : Runs 67 8 [some (zrf r), x1] st h Q ↔ Runs 67 9 [some (zrf r), x1] (zrf r :: st) h Q := R_aldnq rfl rfl
theorem s67_9 (ht : tg a = 6) : Runs 67 9 ls (.ref a :: st) (n, tg, ln, I, J, O) Q ↔ Runs 67 12 ls (.int (I a 6) :: st) (n, tg, ln, I, J, O) Q := R_geti rfl rfl rfl rfl ht
theorem s67_12 : Runs 67 12 [x0, some (.int i)] st h Q ↔ Runs 67 13 [x0, some (.int i)] (.int i :: st) h Q := R_ildn rfl rfl
theorem s67_13 : Runs 67 13 ls (.int j :: .int i :: st) h Q ↔ if j < i then Runs 67 20 ls st h Q else Runs 67 16 ls st h Q := R_icgt rfl rfl
theorem s67_16 : Runs 67 16 ls st h Q ↔ Runs 67 17 ls (.int 1 :: st) h Q := R_iconst rfl rfl
theorem s67_17 : Runs 67 17 ls st h Q ↔ Runs 67 21 ls st h Q := R_goto rfl rfl
theorem s67_20 : Runs 67 20 ls st h Q ↔ Runs 67 21 ls (.int 0 :: st) h Q := R_iconst rfl rfl
theorem s67_21 (hx : i = 0 ∨ i = 1) : Runs 67 21 ls [.int i] h Q ↔ Q (some (.int i)) h := R_zret rfl rfl hx
theorem s68_0 : Runs 68 0 [some (.ref a)] st h Q ↔ Runs 68 1 [some (.ref a)] (.ref a :: st) h Q := R_aldn rfl rfl
theorem s68_0q : Runs 68 0 [some (zrf r)] st h Q ↔ Runs 68 1 [some (zrf r)] (zrf r :: st) h Q := R_aldnq rfl rfl
theorem s68_1 : Runs 68 1 [some (.ref a)] st h Q ↔ Runs 68 2 [some (.ref a)] (.ref a :: st) h Q := R_aldn rfl rfl
theorem s68_1q : Runs 68 1 [some (zrf r)] st h Q ↔ Runs 68 2 [some (zrf r)] (zrf r :: st) h Q := R_aldnq rfl rfl
theorem s68_2 (ht : tg a = 6) : Runs 68 2 ls (.ref a :: st) (n, tg, ln, I, J, O) Q ↔ Runs 68 5 ls (.int (I a 4) :: st) (n, tg, ln, I, J, O) Q := R_geti rfl rfl rfl rfl ht
theorem s68_5 (ht : tg a = 6) : Runs 68 5 ls (.int i :: .ref a :: st) (n, tg, ln, I, J, O) Q ↔ Runs 68 8 ls st (n, tg, ln, zu I a 3 i, J, O) Q := R_puti rfl rfl rfl rfl rfl rfl ht
theorem s68_8 : Runs 68 8 [some (.ref a)] st h Q ↔ Runs 68 9 [some (.ref a)] (.ref a :: st) h Q := R_aldn rfl rfl
theorem s68_8q : Runs 68 8 [some (zrf r)] st h Q ↔ Runs 68 9 [some (zrf r)] (zrf r :: st) h Q := R_aldnq rfl rfl
theorem s68_9 (ht : tg a = 6) : Runs 68 9 ls (.ref a :: st) (n, tg, ln, I, J, O) Q ↔ Runs 68 12 ls (.int (I a 3) :: st) (n, tg, ln, I, J, O) Q := R_geti rfl rfl rfl rfl ht
theorem s68_12 : Runs 68 12 [some (.ref a)] st h Q ↔ Runs 68 13 [some (.ref a)] (.ref a :: st) h Q := R_aldn rfl rfl
theorem s68_12q : Runs 68 12 [some (zrf r)] st h Q ↔ Runs 68 13 [some (zrf r)] (zrf r :: st) h Q := R_aldnq rfl rfl
theorem s68_13 (ht : tg a = 6) : Runs 68 13 ls (.ref a :: st) (n, tg, ln, I, J, O) Q ↔ Runs 68 16 ls (zrf (O a 0) :: st) (n, tg, ln, I, J, O) Q := R_getr rfl rfl rfl rfl ht
theorem s68_16 (ht : tg a = 8) : Runs 68 16 ls (.ref a :: st) (n, tg, ln, I, J, O) Q ↔ Runs 68 19 ls (.int (I a 1) :: st) (n, tg, ln, I, J, O) Q := R_geti rfl rfl rfl rfl ht
theorem s68_19 : Runs 68 19 ls (.int j :: .int i :: st) h Q ↔ if j ≤ i then Runs 68 51 ls st h Q else Runs 68 22 ls st h Q := R_icge rfl rfl
theorem s68_22 : Runs 68 22 [some (.ref a)] st h Q ↔ Runs 68 23 [some (.ref a)] (.ref a :: st) h Q := R_aldn rfl rfl
theorem s68_22q : Runs 68 22 [some (zrf r)] st h Q ↔ Runs 68 23 [some (zrf r)] (zrf r :: st) h Q := R_aldnq rfl rfl
theorem s68_23 (ht : tg a = 6) : Runs 68 23 ls (.ref a :: st) (n, tg, ln, I, J, O) Q ↔ Runs 68 26 ls (zrf (O a 0) :: st) (n, tg, ln, I, J, O) Q := R_getr rfl rfl rfl rfl ht
theorem s68_26 : Runs 68 26 [some (.ref a)] st h Q ↔ Runs 68 27 [some (.ref a)] (.ref a :: st) h Q := R_aldn rfl rfl
theorem s68_26q : Runs 68 26 [some (zrf r)] st h Q ↔ Runs 68 27 [some (zrf r)] (zrf r :: st) h Q := R_aldnq rfl rfl
theorem s68_27 (ht : tg a = 6) : Runs 68 27 ls (.ref a :: st) (n, tg, ln, I, J, O) Q ↔ Runs 68 30 ls (.int (I a 3) :: st) (n, tg, ln, I, J, O) Q := R_geti rfl rfl rfl rfl ht
theorem s68_30 (ht : tg a = 8) (hs : zsumc st ≤ 8) : Runs 68 30 ls (.int i0 :: .ref a :: st) (n, tg, ln, I, J, O) Q ↔ Runs 78 0 [some (.ref a), some (.int i0)] [] (n, tg, ln, I, J, O) (fun v h2 => Runs 68 33 ls (v.toList ++ st) h2 Q) := R_callv (a := a) (rest := st) rfl rfl rfl rfl rfl rfl rfl ht hs
theorem s68_33 : Runs 68 33 ls st h Q ↔ Runs 68 35 ls (.int 32 :: st) h Q := R_bipush rfl (by decide)
theorem s68_35 : Runs 68 35 ls (.int j :: .int i :: st) h Q ↔ if ¬ i = j then Runs 68 51 ls st h Q else Runs 68 38 ls st h Q := R_icne rfl rfl
theorem s68_38 : Runs 68 38 [some (.ref a)] st h Q ↔ Runs 68 39 [some (.ref a)] (.ref a :: st) h Q := R_aldn rfl rfl
theorem s68_38q : Runs 68 38 [some (zrf r)] st h Q ↔ Runs 68 39 [some (zrf r)] (zrf r :: st) h Q := R_aldnq rfl rfl
theorem s68_39 : Runs 68 39 ls (.int i :: st) h Q ↔ Runs 68 40 ls (.int i :: .int i :: st) h Q := R_dupi rfl
theorem s68_39q : Runs 68 39 ls (.ref a :: st) h Q ↔ Runs 68 40 ls (.ref a :: .ref a :: st) h Q := R_dupr rfl
theorem s68_40 (ht : tg a = 6) : Runs 68 40 ls (.ref a :: st) (n, tg, ln, I, J, O) Q ↔ Runs 68 43 ls (.int (I a 3) :: st) (n, tg, ln, I, J, O) Q := R_geti rfl rfl rfl rfl ht
theorem s68_43 : Runs 68 43 ls st h Q ↔ Runs 68 44 ls (.int 1 :: st) h Q := R_iconst rfl rfl
theorem s68_44 : Runs 68 44 ls (.int j :: .int i :: st) h Q ↔ Runs 68 45 ls (.int (i + j) :: st) h Q := R_iadd rfl
theorem s68_45 (ht : tg a = 6) : Runs 68 45 ls (.int i :: .ref a :: st) (n, tg, ln, I, J, O) Q ↔ Runs 68 48 ls st (n, tg, ln, zu I a 3 i, J, O) Q := R_puti rfl rfl rfl rfl rfl rfl ht
theorem s68_48 : Runs 68 48 ls st h Q ↔ Runs 68 8 ls st h Q := R_goto rfl rfl
theorem s68_51 : Runs 68 51 [some (.ref a)] st h Q ↔ Runs 68 52 [some (.ref a)] (.ref a :: st) h Q := R_aldn rfl rfl
theorem s68_51q : Runs 68 51 [some (zrf r)] st h Q ↔ Runs 68 52 [some (zrf r)] (zrf r :: st) h Q := R_aldnq rfl rfl
theorem s68_52 : Runs 68 52 [some (.ref a)] st h Q ↔ Runs 68 53 [some (.ref a)] (.ref a :: st) h Q := R_aldn rfl rfl
theorem s68_52q : Runs 68 52 [some (zrf r)] st h Q ↔ Runs 68 53 [some (zrf r)] (zrf r :: st) h Q := R_aldnq rfl rfl
theorem s68_53 : Runs 68 53 [some (.ref a)] st h Q ↔ Runs 68 54 [some (.ref a)] (.ref a :: st) h Q := R_aldn rfl rfl
theorem s68_53q : Runs 68 53 [some (zrf r)] st h Q ↔ Runs 68 54 [some (zrf r)] (zrf r :: st) h Q := R_aldnq rfl rfl
theorem s68_54 (ht : tg a = 6) : Runs 68 54 ls (.ref a :: st) (n, tg, ln, I, J, O) Q ↔ Runs 68 57 ls (.int (I a 3) :: st) (n, tg, ln, I, J, O) Q := R_geti rfl rfl rfl rfl ht
theorem s68_57 (ht : tg a = 6) (hs : zsumc st ≤ 8) : Runs 68 57 ls (.int i0 :: .ref a :: st) (n, tg, ln, I, J, O) Q ↔ Runs 70 0 [some (.ref a), some (.int i0), none] [] (n, tg, ln, I, J, O) (fun v h2 => Runs 68 60 ls (v.toList ++ st) h2 Q) := R_callv (a := a) (rest := st) rfl rfl rfl rfl rfl rfl rfl ht hs
theorem s68_60 (ht : tg a = 6) : Runs 68 60 ls (.int i :: .ref a :: st) (n, tg, ln, I, J, O) Q ↔ Runs 68 63 ls st (n, tg, ln, zu I a 5 i, J, O) Q := R_puti rfl rfl rfl rfl rfl rfl ht
theorem s68_63 : Runs 68 63 [some (.ref a)] st h Q ↔ Runs 68 64 [some (.ref a)] (.ref a :: st) h Q := R_aldn rfl rfl
theorem s68_63q : Runs 68 63 [some (zrf r)] st h Q ↔ Runs 68 64 [some (zrf r)] (zrf r :: st) h Q := R_aldnq rfl rfl
theorem s68_64 : Runs 68 64 [some (.ref a)] st h Q ↔ Runs 68 65 [some (.ref a)] (.ref a :: st) h Q := R_aldn rfl rfl
theorem s68_64q : Runs 68 64 [some (zrf r)] st h Q ↔ Runs 68 65 [some (zrf r)] (zrf r :: st) h Q := R_aldnq rfl rfl
theorem s68_65 (ht : tg a = 6) : Runs 68 65 ls (.ref a :: st) (n, tg, ln, I, J, O) Q ↔ Runs 68 68 ls (.int (I a 5) :: st) (n, tg, ln, I, J, O) Q := R_geti rfl rfl rfl rfl ht
theorem s68_68 : Runs 68 68 ls (.int i :: st) h Q ↔ if ¬ i = 0 then Runs 68 78 ls st h Q else Runs 68 71 ls st h Q := R_ifne rfl rfl
theorem s68_71 : Runs 68 71 [some (.ref a)] st h Q ↔ Runs 68 72 [some (.ref a)] (.ref a :: st) h Q := R_aldn rfl rfl
theorem s68_71q : Runs 68 71 [some (zrf r)] st h Q ↔ Runs 68 72 [some (zrf r)] (zrf r :: st) h Q := R_aldnq rfl rfl
theorem s68_72 (ht : tg a = 6) : Runs 68 72 ls (.ref a :: st) (n, tg, ln, I, J, O) Q ↔ Runs 68 75 ls (.int (I a 3) :: st) (n, tg, ln, I, J, O) Q := R_geti rfl rfl rfl rfl ht
theorem s68_75 : Runs 68 75 ls st h Q ↔ Runs 68 84 ls st h Q := R_goto rfl rfl
theorem s68_78 : Runs 68 78 [some (.ref a)] st h Q ↔ Runs 68 79 [some (.ref a)] (.ref a :: st) h Q := R_aldn rfl rfl
theorem s68_78q : Runs 68 78 [some (zrf r)] st h Q ↔ Runs 68 79 [some (zrf r)] (zrf r :: st) h Q := R_aldnq rfl rfl
theorem s68_79 (ht : tg a = 6) : Runs 68 79 ls (.ref a :: st) (n, tg, ln, I, J, O) Q ↔ Runs 68 82 ls (.int (I a 3) :: st) (n, tg, ln, I, J, O) Q := R_geti rfl rfl rfl rfl ht
theorem s68_82 : Runs 68 82 ls st h Q ↔ Runs 68 83 ls (.int 1 :: st) h Q := R_iconst rfl rfl
theorem s68_83 : Runs 68 83 ls (.int j :: .int i :: st) h Q ↔ Runs 68 84 ls (.int (i + j) :: st) h Q := R_iadd rfl
theorem s68_84 (ht : tg a = 6) : Runs 68 84 ls (.int i :: .ref a :: st) (n, tg, ln, I, J, O) Q ↔ Runs 68 87 ls st (n, tg, ln, zu I a 4 i, J, O) Q := R_puti rfl rfl rfl rfl rfl rfl ht
theorem s68_87 : Runs 68 87 [some (.ref a)] st h Q ↔ Runs 68 88 [some (.ref a)] (.ref a :: st) h Q := R_aldn rfl rfl
theorem s68_87q : Runs 68 87 [some (zrf r)] st h Q ↔ Runs 68 88 [some (zrf r)] (zrf r :: st) h Q := R_aldnq rfl rfl
theorem s68_88 (ht : tg a = 6) : Runs 68 88 ls (.ref a :: st) (n, tg, ln, I, J, O) Q ↔ Runs 68 91 ls (.int (I a 4) :: st) (n, tg, ln, I, J, O) Q := R_geti rfl rfl rfl rfl ht
theorem s68_91 : Runs 68 91 [some (.ref a)] st h Q ↔ Runs 68 92 [some (.ref a)] (.ref a :: st) h Q := R_aldn rfl rfl
theorem s68_91q : Runs 68 91 [some (zrf r)] st h Q ↔ Runs 68 92 [some (zrf r)] (zrf r :: st) h Q := R_aldnq rfl rfl
theorem s68_92 (ht : tg a = 6) : Runs 68 92 ls (.ref a :: st) (n, tg, ln, I, J, O) Q ↔ Runs 68 95 ls (zrf (O a 0) :: st) (n, tg, ln, I, J, O) Q := R_getr rfl rfl rfl rfl ht
theorem s68_95 (ht : tg a = 8) : Runs 68 95 ls (.ref a :: st) (n, tg, ln, I, J, O) Q ↔ Runs 68 98 ls (.int (I a 1) :: st) (n, tg, ln, I, J, O) Q := R_geti rfl rfl rfl rfl ht
theorem s68_98 : Runs 68 98 ls (.int j :: .int i :: st) h Q ↔ if j ≤ i then Runs 68 137 ls st h Q else Runs 68 101 ls st h Q := R_icge rfl rfl
theorem s68_101 : Runs 68 101 [some (.ref a)] st h Q ↔ Runs 68 102 [some (.ref a)] (.ref a :: st) h Q := R_aldn rfl rfl
theorem s68_101q : Runs 68 101 [some (zrf r)] st h Q ↔ Runs 68 102 [some (zrf r)] (zrf r :: st) h Q := R_aldnq rfl rfl
theorem s68_102 (ht : tg a = 6) : Runs 68 102 ls (.ref a :: st) (n, tg, ln, I, J, O) Q ↔ Runs 68 105 ls (.int (I a 5) :: st) (n, tg, ln, I, J, O) Q := R_geti rfl rfl rfl rfl ht
theorem s68_105 : Runs 68 105 ls st h Q ↔ Runs 68 106 ls (.int 3 :: st) h Q := R_iconst rfl rfl
theorem s68_106 : Runs 68 106 ls (.int j :: .int i :: st) h Q ↔ if i = j then Runs 68 137 ls st h Q else Runs 68 109 ls st h Q := R_iceq rfl rfl
theorem s68_109 : Runs 68 109 [some (.ref a)] st h Q ↔ Runs 68 110 [some (.ref a)] (.ref a :: st) h Q := R_aldn rfl rfl
theorem s68_109q : Runs 68 109 [some (zrf r)] st h Q ↔ Runs 68 110 [some (zrf r)] (zrf r :: st) h Q := R_aldnq rfl rfl
theorem s68_110 : Runs 68 110 [some (.ref a)] st h Q ↔ Runs 68 111 [some (.ref a)] (.ref a :: st) h Q := R_aldn rfl rfl
theorem s68_110q : Runs 68 110 [some (zrf r)] st h Q ↔ Runs 68 111 [some (zrf r)] (zrf r :: st) h Q := R_aldnq rfl rfl
theorem s68_111 (ht : tg a = 6) : Runs 68 111 ls (.ref a :: st) (n, tg, ln, I, J, O) Q ↔ Runs 68 114 ls (.int (I a 4) :: st) (n, tg, ln, I, J, O) Q := R_geti rfl rfl rfl rfl ht
theorem s68_114 (ht : tg a = 6) (hs : zsumc st ≤ 8) : Runs 68 114 ls (.int i0 :: .ref a :: st) (n, tg, ln, I, J, O) Q ↔ Runs 70 0 [some (.ref a), some (.int i0), none] [] (n, tg, ln, I, J, O) (fun v h2 => Runs 68 117 ls (v.toList ++ st) h2 Q) := R_callv (a := a) (rest := st) rfl rfl rfl rfl rfl rfl rfl ht hs
theorem s68_117 : Runs 68 117 [some (.ref a)] st h Q ↔ Runs 68 118 [some (.ref a)] (.ref a :: st) h Q := R_aldn rfl rfl
theorem s68_117q : Runs 68 117 [some (zrf r)] st h Q ↔ Runs 68 118 [some (zrf r)] (zrf r :: st) h Q := R_aldnq rfl rfl
theorem s68_118 (ht : tg a = 6) : Runs 68 118 ls (.ref a :: st) (n, tg, ln, I, J, O) Q ↔ Runs 68 121 ls (.int (I a 5) :: st) (n, tg, ln, I, J, O) Q := R_geti rfl rfl rfl rfl ht
theorem s68_121 : Runs 68 121 ls (.int j :: .int i :: st) h Q ↔ if ¬ i = j then Runs 68 137 ls st h Q else Runs 68 124 ls st h Q := R_icne rfl rfl
theorem s68_124 : Runs 68 124 [some (.ref a)] st h Q ↔ Runs 68 125 [some (.ref a)] (.ref a :: st) h Q := R_aldn rfl rfl
theorem s68_124q : Runs 68 124 [some (zrf r)] st h Q ↔ Runs 68 125 [some (zrf r)] (zrf r :: st) h Q := R_aldnq rfl rfl
theorem s68_125 : Runs 68 125 ls (.int i :: st) h Q ↔ Runs 68 126 ls (.int i :: .int i :: st) h Q := R_dupi rfl
theorem s68_125q : Runs 68 125 ls (.ref a :: st) h Q ↔ Runs 68 126 ls (.ref a :: .ref a :: st) h Q := R_dupr rfl
theorem s68_126 (ht : tg a = 6) : Runs 68 126 ls (.ref a :: st) (n, tg, ln, I, J, O) Q ↔ Runs 68 129 ls (.int (I a 4) :: st) (n, tg, ln, I, J, O) Q := R_geti rfl rfl rfl rfl ht
theorem s68_129 : Runs 68 129 ls st h Q ↔ Runs 68 130 ls (.int 1 :: st) h Q := R_iconst rfl rfl
theorem s68_130 : Runs 68 130 ls (.int j :: .int i :: st) h Q ↔ Runs 68 131 ls (.int (i + j) :: st) h Q := R_iadd rfl
theorem s68_131 (ht : tg a = 6) : Runs 68 131 ls (.int i :: .ref a :: st) (n, tg, ln, I, J, O) Q ↔ Runs 68 134 ls st (n, tg, ln, zu I a 4 i, J, O) Q := R_puti rfl rfl rfl rfl rfl rfl ht
theorem s68_134 : Runs 68 134 ls st h Q ↔ Runs 68 87 ls st h Q := R_goto rfl rfl
theorem s68_137 : Runs 68 137 [some (.ref a)] st h Q ↔ Runs 68 138 [some (.ref a)] (.ref a :: st) h Q := R_aldn rfl rfl
theorem s68_137q : Runs 68 137 [some (zrf r)] st h Q ↔ Runs 68 138 [some (zrf r)] (zrf r :: st) h Q := R_aldnq rfl rfl
theorem s68_138 : Runs 68 138 [some (.ref a)] st h Q ↔ Runs 68 139 [some (.ref a)] (.ref a :: st) h Q := R_aldn rfl rfl
theorem s68_138q : Runs 68 138 [some (zrf r)] st h Q ↔ Runs 68 139 [some (zrf r)] (zrf r :: st) h Q := R_aldnq rfl rfl
theorem s68_139 (ht : tg a = 6) : Runs 68 139 ls (.ref a :: st) (n, tg, ln, I, J, O) Q ↔ Runs 68 142 ls (.int (I a 5) :: st) (n, tg, ln, I, J, O) Q := R_geti rfl rfl rfl rfl ht
theorem s68_142 : Runs 68 142 ls st h Q ↔ Runs 68 143 ls (.int 2 :: st) h Q := R_iconst rfl rfl
theorem s68_143 : Runs 68 143 ls (.int j :: .int i :: st) h Q ↔ if ¬ i = j then Runs 68 166 ls st h Q else Runs 68 146 ls st h Q := R_icne rfl rfl
theorem s68_146 : Runs 68 146 [some (.ref a)] st h Q ↔ Runs 68 147 [some (.ref a)] (.ref a :: st) h Q := R_aldn rfl rfl
theorem s68_146q : Runs 68 146 [some (zrf r)] st h Q ↔ Runs 68 147 [some (zrf r)] (zrf r :: st) h Q := R_aldnq rfl rfl
theorem s68_147 (ht : tg a = 6) : Runs 68 147 ls (.ref a :: st) (n, tg, ln, I, J, O) Q ↔ Runs 68 150 ls (.int (I a 4) :: st) (n, tg, ln, I, J, O) Q := R_geti rfl rfl rfl rfl ht
theorem s68_150 : Runs 68 150 [some (.ref a)] st h Q ↔ Runs 68 151 [some (.ref a)] (.ref a :: st) h Q := R_aldn rfl rfl
theorem s68_150q : Runs 68 150 [some (zrf r)] st h Q ↔ Runs 68 151 [some (zrf r)] (zrf r :: st) h Q := R_aldnq rfl rfl
theorem s68_151 (ht : tg a = 6) : Runs 68 151 ls (.ref a :: st) (n, tg, ln, I, J, O) Q ↔ Runs 68 154 ls (.int (I a 3) :: st) (n, tg, ln, I, J, O) Q := R_geti rfl rfl rfl rfl ht
theorem s68_154 : Runs 68 154 ls (.int j :: .int i :: st) h Q ↔ Runs 68 155 ls (.int (i - j) :: st) h Q := R_isub rfl
theorem s68_155 : Runs 68 155 ls st h Q ↔ Runs 68 156 ls (.int 2 :: st) h Q := R_iconst rfl rfl
theorem s68_156 : Runs 68 156 ls (.int j :: .int i :: st) h Q ↔ if j < i then Runs 68 166 ls st h Q else Runs 68 159 ls st h Q := R_icgt rfl rfl
theorem s68_159 : Runs 68 159 [some (.ref a)] st h Q ↔ Runs 68 160 [some (.ref a)] (.ref a :: st) h Q := R_aldn rfl rfl
theorem s68_159q : Runs 68 159 [some (zrf r)] st h Q ↔ Runs 68 160 [some (zrf r)] (zrf r :: st) h Q := R_aldnq rfl rfl
theorem s68_160 (ht : tg a = 6) (hs : zsumc st ≤ 8) : Runs 68 160 ls (.ref a :: st) (n, tg, ln, I, J, O) Q ↔ Runs 69 0 [some (.ref a), none, none] [] (n, tg, ln, I, J, O) (fun v h2 => Runs 68 163 ls (v.toList ++ st) h2 Q) := R_callv (a := a) (rest := st) rfl rfl rfl rfl rfl rfl rfl ht hs
theorem s68_163 : Runs 68 163 ls st h Q ↔ Runs 68 167 ls st h Q := R_goto rfl rfl
theorem s68_166 : Runs 68 166 ls st h Q ↔ Runs 68 167 ls (.int (-1) :: st) h Q := R_iconst rfl rfl
theorem s68_167 (ht : tg a = 6) : Runs 68 167 ls (.int i :: .ref a :: st) (n, tg, ln, I, J, O) Q ↔ Runs 68 170 ls st (n, tg, ln, zu I a 6 i, J, O) Q := R_puti rfl rfl rfl rfl rfl rfl ht
theorem s68_170 : Runs 68 170 ls [] h Q ↔ Q none h := R_vret rfl rfl
theorem s69_0 : Runs 69 0 ls st h Q ↔ Runs 69 1 ls (.int 0 :: st) h Q := R_iconst rfl rfl
theorem s69_1 : Runs 69 1 [x0, x1, x2] (.int i :: st) h Q ↔ Runs 69 2 [zdrop x0, some (.int i), x2] st h Q := R_istn rfl rfl rfl
theorem s69_2 : Runs 69 2 [some (.ref a), x1, x2] st h Q ↔ Runs 69 3 [some (.ref a), x1, x2] (.ref a :: st) h Q := R_aldn rfl rfl
theorem s69_2q : Runs 69 2 [some (zrf r), x1, x2] st h Q ↔ Runs 69 3 [some (zrf r), x1, x2] (zrf r :: st) h Q := R_aldnq rfl rfl
theorem s69_3 (ht : tg a = 6) : Runs 69 3 ls (.ref a :: st) (n, tg, ln, I, J, O) Q ↔ Runs 69 6 ls (.int (I a 3) :: st) (n, tg, ln, I, J, O) Q := R_geti rfl rfl rfl rfl ht
theorem s69_6 : Runs 69 6 [x0, x1, x2] (.int i :: st) h Q ↔ Runs 69 7 [x0, zdrop x1, some (.int i)] st h Q := R_istn rfl rfl rfl
theorem s69_7 : Runs 69 7 [x0, x1, some (.int i)] st h Q ↔ Runs 69 8 [x0, x1, some (.int i)] (.int i :: st) h Q := R_ildn rfl rfl
theorem s69_8 : Runs 69 8 [some (.ref a), x1, x2] st h Q ↔ Runs 69 9 [some (.ref a), x1, x2] (.ref a :: st) h Q := R_aldn rfl rfl
theorem s69_8q : Runs 69 8 [some (zrf r), x1, x2] st h Q ↔ Runs 69 9 [some (zrf r), x1, x2] (zrf r :: st) h Q := R_aldnq rfl rfl
theorem s69_9 (ht : tg a = 6) : Runs 69 9 ls (.ref a :: st) (n, tg, ln, I, J, O) Q ↔ Runs 69 12 ls (.int (I a 4) :: st) (n, tg, ln, I, J, O) Q := R_geti rfl rfl rfl rfl ht
theorem s69_12 : Runs 69 12 ls (.int j :: .int i :: st) h Q ↔ if j ≤ i then Runs 69 38 ls st h Q else Runs 69 15 ls st h Q := R_icge rfl rfl
theorem s69_15 : Runs 69 15 ls st h Q ↔ Runs 69 17 ls (.int 10 :: st) h Q := R_bipush rfl (by decide)
theorem s69_17 : Runs 69 17 [x0, some (.int i), x2] st h Q ↔ Runs 69 18 [x0, some (.int i), x2] (.int i :: st) h Q := R_ildn rfl rfl
theorem s69_18 : Runs 69 18 ls (.int j :: .int i :: st) h Q ↔ Runs 69 19 ls (.int (i * j) :: st) h Q := R_imul rfl
theorem s69_19 : Runs 69 19 [some (.ref a), x1, x2] st h Q ↔ Runs 69 20 [some (.ref a), x1, x2] (.ref a :: st) h Q := R_aldn rfl rfl
theorem s69_19q : Runs 69 19 [some (zrf r), x1, x2] st h Q ↔ Runs 69 20 [some (zrf r), x1, x2] (zrf r :: st) h Q := R_aldnq rfl rfl
theorem s69_20 (ht : tg a = 6) : Runs 69 20 ls (.ref a :: st) (n, tg, ln, I, J, O) Q ↔ Runs 69 23 ls (zrf (O a 0) :: st) (n, tg, ln, I, J, O) Q := R_getr rfl rfl rfl rfl ht
theorem s69_23 : Runs 69 23 [x0, x1, some (.int i)] st h Q ↔ Runs 69 24 [x0, x1, some (.int i)] (.int i :: st) h Q := R_ildn rfl rfl
theorem s69_24 (ht : tg a = 8) (hs : zsumc st ≤ 8) : Runs 69 24 ls (.int i0 :: .ref a :: st) (n, tg, ln, I, J, O) Q ↔ Runs 78 0 [some (.ref a), some (.int i0)] [] (n, tg, ln, I, J, O) (fun v h2 => Runs 69 27 ls (v.toList ++ st) h2 Q) := R_callv (a := a) (rest := st) rfl rfl rfl rfl rfl rfl rfl ht hs
theorem s69_27 : Runs 69 27 ls (.int j :: .int i :: st) h Q ↔ Runs 69 28 ls (.int (i + j) :: st) h Q := R_iadd rfl
theorem s69_28 : Runs 69 28 ls st h Q ↔ Runs 69 30 ls (.int 48 :: st) h Q := R_bipush rfl (by decide)
theorem s69_30 : Runs 69 30 ls (.int j :: .int i :: st) h Q ↔ Runs 69 31 ls (.int (i - j) :: st) h Q := R_isub rfl
theorem s69_31 : Runs 69 31 [x0, x1, x2] (.int i :: st) h Q ↔ Runs 69 32 [zdrop x0, some (.int i), x2] st h Q := R_istn rfl rfl rfl
theorem s69_32 : Runs 69 32 [x0, x1, some (.int i)] st h Q ↔ Runs 69 35 [x0, zdrop x1, some (.int (i + 1))] st h Q := R_iinc rfl rfl rfl rfl rfl
theorem s69_35 : Runs 69 35 ls st h Q ↔ Runs 69 7 ls st h Q := R_goto rfl rfl
theorem s69_38 : Runs 69 38 [x0, some (.int i), x2] st h Q ↔ Runs 69 39 [x0, some (.int i), x2] (.int i :: st) h Q := R_ildn rfl rfl
theorem s69_39 : Runs 69 39 ls [.int i] h Q ↔ Q (some (.int i)) h := R_iret rfl rfl
theorem s70_0 : Runs 70 0 [some (.ref a), x1, x2] st h Q ↔ Runs 70 1 [some (.ref a), x1, x2] (.ref a :: st) h Q := R_aldn rfl rfl
theorem s70_0q : Runs 70 0 [some (zrf r), x1, x2] st h Q ↔ Runs 70 1 [some (zrf r), x1, x2] (zrf r :: st) h Q := R_aldnq rfl rfl
theorem s70_1 (ht : tg a = 6) : Runs 70 1 ls (.ref a :: st) (n, tg, ln, I, J, O) Q ↔ Runs 70 4 ls (zrf (O a 0) :: st) (n, tg, ln, I, J, O) Q := R_getr rfl rfl rfl rfl ht
theorem s70_4 : Runs 70 4 [x0, some (.int i), x2] st h Q ↔ Runs 70 5 [x0, some (.int i), x2] (.int i :: st) h Q := R_ildn rfl rfl
theorem s70_5 (ht : tg a = 8) (hs : zsumc st ≤ 8) : Runs 70 5 ls (.int i0 :: .ref a :: st) (n, tg, ln, I, J, O) Q ↔ Runs 78 0 [some (.ref a), some (.int i0)] [] (n, tg, ln, I, J, O) (fun v h2 => Runs 70 8 ls (v.toList ++ st) h2 Q) := R_callv (a := a) (rest := st) rfl rfl rfl rfl rfl rfl rfl ht hs
theorem s70_8 : Runs 70 8 [x0, x1, x2] (.int i :: st) h Q ↔ Runs 70 9 [x0, zdrop x1, some (.int i)] st h Q := R_istn rfl rfl rfl
theorem s70_9 : Runs 70 9 [x0, x1, some (.int i)] st h Q ↔ Runs 70 10 [x0, x1, some (.int i)] (.int i :: st) h Q := R_ildn rfl rfl
theorem s70_10 : Runs 70 10 ls st h Q ↔ Runs 70 11 ls (.int (-1) :: st) h Q := R_iconst rfl rfl
theorem s70_11 : Runs 70 11 ls (.int j :: .int i :: st) h Q ↔ if ¬ i = j then Runs 70 16 ls st h Q else Runs 70 14 ls st h Q := R_icne rfl rfl
theorem s70_14 : Runs 70 14 ls st h Q ↔ Runs 70 15 ls (.int 0 :: st) h Q := R_iconst rfl rfl
theorem s70_15 : Runs 70 15 ls [.int i] h Q ↔ Q (some (.int i)) h := R_iret rfl rfl
theorem s70_16 : Runs 70 16 [x0, x1, some (.int i)] st h Q ↔ Runs 70 17 [x0, x1, some (.int i)] (.int i :: st) h Q := R_ildn rfl rfl
theorem s70_17 : Runs 70 17 ls st h Q ↔ Runs 70 19 ls (.int 97 :: st) h Q := R_bipush rfl (by decide)
theorem s70_19 : Runs 70 19 ls (.int j :: .int i :: st) h Q ↔ if i < j then Runs 70 30 ls st h Q else Runs 70 22 ls st h Q := R_iclt rfl rfl
theorem s70_22 : Runs 70 22 [x0, x1, some (.int i)] st h Q ↔ Runs 70 23 [x0, x1, some (.int i)] (.int i :: st) h Q := R_ildn rfl rfl
theorem s70_23 : Runs 70 23 ls st h Q ↔ Runs 70 25 ls (.int 122 :: st) h Q := R_bipush rfl (by decide)
theorem s70_25 : Runs 70 25 ls (.int j :: .int i :: st) h Q ↔ if j < i then Runs 70 30 ls st h Q else Runs 70 28 ls st h Q := R_icgt rfl rfl
theorem s70_28 : Runs 70 28 ls st h Q ↔ Runs 70 29 ls (.int 1 :: st) h Q := R_iconst rfl rfl
theorem s70_29 : Runs 70 29 ls [.int i] h Q ↔ Q (some (.int i)) h := R_iret rfl rfl
theorem s70_30 : Runs 70 30 [x0, x1, some (.int i)] st h Q ↔ Runs 70 31 [x0, x1, some (.int i)] (.int i :: st) h Q := R_ildn rfl rfl
theorem s70_31 : Runs 70 31 ls st h Q ↔ Runs 70 33 ls (.int 48 :: st) h Q := R_bipush rfl (by decide)
theorem s70_33 : Runs 70 33 ls (.int j :: .int i :: st) h Q ↔ if i < j then Runs 70 46 ls st h Q else Runs 70 36 ls st h Q := R_iclt rfl rfl
theorem s70_36 : Runs 70 36 [x0, x1, some (.int i)] st h Q ↔ Runs 70 37 [x0, x1, some (.int i)] (.int i :: st) h Q := R_ildn rfl rfl
theorem s70_37 : Runs 70 37 ls st h Q ↔ Runs 70 39 ls (.int 57 :: st) h Q := R_bipush rfl (by decide)
theorem s70_39 : Runs 70 39 ls (.int j :: .int i :: st) h Q ↔ if j < i then Runs 70 46 ls st h Q else Runs 70 42 ls st h Q := R_icgt rfl rfl
theorem s70_42 : Runs 70 42 ls st h Q ↔ Runs 70 43 ls (.int 2 :: st) h Q := R_iconst rfl rfl
theorem s70_43 : Runs 70 43 ls st h Q ↔ Runs 70 47 ls st h Q := R_goto rfl rfl
theorem s70_46 : Runs 70 46 ls st h Q ↔ Runs 70 47 ls (.int 3 :: st) h Q := R_iconst rfl rfl
theorem s70_47 : Runs 70 47 ls [.int i] h Q ↔ Q (some (.int i)) h := R_iret rfl rfl
theorem s72_0 : Runs 72 0 [some (.ref a)] st h Q ↔ Runs 72 1 [some (.ref a)] (.ref a :: st) h Q := R_aldn rfl rfl
theorem s72_0q : Runs 72 0 [some (zrf r)] st h Q ↔ Runs 72 1 [some (zrf r)] (zrf r :: st) h Q := R_aldnq rfl rfl
theorem s72_1 : Runs 72 1 ls st h Q ↔ Runs 72 2 ls (.int 0 :: st) h Q := R_iconst rfl rfl
theorem s72_2 (ht : tg a = 7) : Runs 72 2 ls (.int i :: .ref a :: st) (n, tg, ln, I, J, O) Q ↔ Runs 72 5 ls st (n, tg, ln, zu I a 2 i, J, O) Q := R_puti rfl rfl rfl rfl rfl rfl ht
theorem s72_5 : Runs 72 5 ls [] h Q ↔ Q none h := R_vret rfl rfl
theorem s73_0 : Runs 73 0 [some (.ref a), x1, x2] st h Q ↔ Runs 73 1 [some (.ref a), x1, x2] (.ref a :: st) h Q := R_aldn rfl rfl
theorem s73_0q : Runs 73 0 [some (zrf r), x1, x2] st h Q ↔ Runs 73 1 [some (zrf r), x1, x2] (zrf r :: st) h Q := R_aldnq rfl rfl
theorem s73_1 (ht : tg a = 7) : Runs 73 1 ls (.ref a :: st) (n, tg, ln, I, J, O) Q ↔ Runs 73 4 ls (.int (I a 2) :: st) (n, tg, ln, I, J, O) Q := R_geti rfl rfl rfl rfl ht
theorem s73_4 : Runs 73 4 ls st h Q ↔ Runs 73 6 ls (.int 6 :: st) h Q := R_bipush rfl (by decide)
theorem s73_6 : Runs 73 6 ls (.int j :: .int i :: st) h Q ↔ if i < j then Runs 73 11 ls st h Q else Runs 73 9 ls st h Q := R_iclt rfl rfl
theorem s73_9 : Runs 73 9 ls st h Q ↔ Runs 73 10 ls (.int 0 :: st) h Q := R_iconst rfl rfl
theorem s73_10 (hx : i = 0 ∨ i = 1) : Runs 73 10 ls [.int i] h Q ↔ Q (some (.int i)) h := R_zret rfl rfl hx
theorem s73_11 : Runs 73 11 [some (.ref a), x1, x2] st h Q ↔ Runs 73 12 [some (.ref a), x1, x2] (.ref a :: st) h Q := R_aldn rfl rfl
theorem s73_11q : Runs 73 11 [some (zrf r), x1, x2] st h Q ↔ Runs 73 12 [some (zrf r), x1, x2] (zrf r :: st) h Q := R_aldnq rfl rfl
theorem s73_12 (ht : tg a = 7) : Runs 73 12 ls (.ref a :: st) (n, tg, ln, I, J, O) Q ↔ Runs 73 15 ls (zrf (O a 0) :: st) (n, tg, ln, I, J, O) Q := R_getr rfl rfl rfl rfl ht
theorem s73_15 : Runs 73 15 [some (.ref a), x1, x2] st h Q ↔ Runs 73 16 [some (.ref a), x1, x2] (.ref a :: st) h Q := R_aldn rfl rfl
theorem s73_15q : Runs 73 15 [some (zrf r), x1, x2] st h Q ↔ Runs 73 16 [some (zrf r), x1, x2] (zrf r :: st) h Q := R_aldnq rfl rfl
theorem s73_16 (ht : tg a = 7) : Runs 73 16 ls (.ref a :: st) (n, tg, ln, I, J, O) Q ↔ Runs 73 19 ls (.int (I a 2) :: st) (n, tg, ln, I, J, O) Q := R_geti rfl rfl rfl rfl ht
theorem s73_19 : Runs 73 19 [x0, some (.int i), x2] st h Q ↔ Runs 73 20 [x0, some (.int i), x2] (.int i :: st) h Q := R_ildn rfl rfl
theorem s73_20 (ht : tg a = 20) : Runs 73 20 ls (.int j :: .int i :: .ref a :: st) (n, tg, ln, I, J, O) Q ↔ ((0 ≤ i ∧ i < Int32.ofNat (ln a)) ∧ Runs 73 21 ls st (n, tg, ln, zu I a i j, J, O) Q) := R_iast rfl ht
theorem s73_21 : Runs 73 21 [some (.ref a), x1, x2] st h Q ↔ Runs 73 22 [some (.ref a), x1, x2] (.ref a :: st) h Q := R_aldn rfl rfl
theorem s73_21q : Runs 73 21 [some (zrf r), x1, x2] st h Q ↔ Runs 73 22 [some (zrf r), x1, x2] (zrf r :: st) h Q := R_aldnq rfl rfl
theorem s73_22 (ht : tg a = 7) : Runs 73 22 ls (.ref a :: st) (n, tg, ln, I, J, O) Q ↔ Runs 73 25 ls (zrf (O a 1) :: st) (n, tg, ln, I, J, O) Q := R_getr rfl rfl rfl rfl ht
theorem s73_25 : Runs 73 25 [some (.ref a), x1, x2] st h Q ↔ Runs 73 26 [some (.ref a), x1, x2] (.ref a :: st) h Q := R_aldn rfl rfl
theorem s73_25q : Runs 73 25 [some (zrf r), x1, x2] st h Q ↔ Runs 73 26 [some (zrf r), x1, x2] (zrf r :: st) h Q := R_aldnq rfl rfl
theorem s73_26 (ht : tg a = 7) : Runs 73 26 ls (.ref a :: st) (n, tg, ln, I, J, O) Q ↔ Runs 73 29 ls (.int (I a 2) :: st) (n, tg, ln, I, J, O) Q := R_geti rfl rfl rfl rfl ht
theorem s73_29 : Runs 73 29 [x0, x1, some (.int i)] st h Q ↔ Runs 73 30 [x0, x1, some (.int i)] (.int i :: st) h Q := R_ildn rfl rfl
theorem s73_30 (ht : tg a = 20) : Runs 73 30 ls (.int j :: .int i :: .ref a :: st) (n, tg, ln, I, J, O) Q ↔ ((0 ≤ i ∧ i < Int32.ofNat (ln a)) ∧ Runs 73 31 ls st (n, tg, ln, zu I a i j, J, O) Q) := R_iast rfl ht
theorem s73_31 : Runs 73 31 [some (.ref a), x1, x2] st h Q ↔ Runs 73 32 [some (.ref a), x1, x2] (.ref a :: st) h Q := R_aldn rfl rfl
theorem s73_31q : Runs 73 31 [some (zrf r), x1, x2] st h Q ↔ Runs 73 32 [some (zrf r), x1, x2] (zrf r :: st) h Q := R_aldnq rfl rfl
theorem s73_32 : Runs 73 32 ls (.int i :: st) h Q ↔ Runs 73 33 ls (.int i :: .int i :: st) h Q := R_dupi rfl
theorem s73_32q : Runs 73 32 ls (.ref a :: st) h Q ↔ Runs 73 33 ls (.ref a :: .ref a :: st) h Q := R_dupr rfl
theorem s73_33 (ht : tg a = 7) : Runs 73 33 ls (.ref a :: st) (n, tg, ln, I, J, O) Q ↔ Runs 73 36 ls (.int (I a 2) :: st) (n, tg, ln, I, J, O) Q := R_geti rfl rfl rfl rfl ht
theorem s73_36 : Runs 73 36 ls st h Q ↔ Runs 73 37 ls (.int 1 :: st) h Q := R_iconst rfl rfl
theorem s73_37 : Runs 73 37 ls (.int j :: .int i :: st) h Q ↔ Runs 73 38 ls (.int (i + j) :: st) h Q := R_iadd rfl
theorem s73_38 (ht : tg a = 7) : Runs 73 38 ls (.int i :: .ref a :: st) (n, tg, ln, I, J, O) Q ↔ Runs 73 41 ls st (n, tg, ln, zu I a 2 i, J, O) Q := R_puti rfl rfl rfl rfl rfl rfl ht
theorem s73_41 : Runs 73 41 ls st h Q ↔ Runs 73 42 ls (.int 1 :: st) h Q := R_iconst rfl rfl
theorem s73_42 (hx : i = 0 ∨ i = 1) : Runs 73 42 ls [.int i] h Q ↔ Q (some (.int i)) h := R_zret rfl rfl hx
theorem s74_0 : Runs 74 0 ls st h Q ↔ Runs 74 1 ls (.int 0 :: st) h Q := R_iconst rfl rfl
theorem s74_1 : Runs 74 1 [x0, x1, x2, x3] (.int i :: st) h Q ↔ Runs 74 2 [x0, x1, zdrop x2, some (.int i)] st h Q := R_istn rfl rfl rfl
theorem s74_2 : Runs 74 2 [x0, x1, x2, some (.int i)] st h Q ↔ Runs 74 3 [x0, x1, x2, some (.int i)] (.int i :: st) h Q := R_ildn rfl rfl
theorem s74_3 : Runs 74 3 [some (.ref a), x1, x2, x3] st h Q ↔ Runs 74 4 [some (.ref a), x1, x2, x3] (.ref a :: st) h Q := R_aldn rfl rfl
theorem s74_3q : Runs 74 3 [some (zrf r), x1, x2, x3] st h Q ↔ Runs 74 4 [some (zrf r), x1, x2, x3] (zrf r :: st) h Q := R_aldnq rfl rfl
theorem s74_4 (ht : tg a = 7) : Runs 74 4 ls (.ref a :: st) (n, tg, ln, I, J, O) Q ↔ Runs 74 7 ls (.int (I a 2) :: st) (n, tg, ln, I, J, O) Q := R_geti rfl rfl rfl rfl ht
theorem s74_7 : Runs 74 7 ls (.int j :: .int i :: st) h Q ↔ if j ≤ i then Runs 74 38 ls st h Q else Runs 74 10 ls st h Q := R_icge rfl rfl
theorem s74_10 : Runs 74 10 [some (.ref a), x1, x2, x3] st h Q ↔ Runs 74 11 [some (.ref a), x1, x2, x3] (.ref a :: st) h Q := R_aldn rfl rfl
theorem s74_10q : Runs 74 10 [some (zrf r), x1, x2, x3] st h Q ↔ Runs 74 11 [some (zrf r), x1, x2, x3] (zrf r :: st) h Q := R_aldnq rfl rfl
theorem s74_11 (ht : tg a = 7) : Runs 74 11 ls (.ref a :: st) (n, tg, ln, I, J, O) Q ↔ Runs 74 14 ls (zrf (O a 0) :: st) (n, tg, ln, I, J, O) Q := R_getr rfl rfl rfl rfl ht
theorem s74_14 : Runs 74 14 [x0, x1, x2, some (.int i)] st h Q ↔ Runs 74 15 [x0, x1, x2, some (.int i)] (.int i :: st) h Q := R_ildn rfl rfl
theorem s74_15 (ht : tg a = 20) : Runs 74 15 ls (.int i :: .ref a :: st) (n, tg, ln, I, J, O) Q ↔ ((0 ≤ i ∧ i < Int32.ofNat (ln a)) ∧ Runs 74 16 ls (.int (I a i) :: st) (n, tg, ln, I, J, O) Q) := R_iald rfl ht
theorem s74_16 : Runs 74 16 [x0, some (.int i), x2, x3] st h Q ↔ Runs 74 17 [x0, some (.int i), x2, x3] (.int i :: st) h Q := R_ildn rfl rfl
theorem s74_17 : Runs 74 17 ls (.int j :: .int i :: st) h Q ↔ if ¬ i = j then Runs 74 32 ls st h Q else Runs 74 20 ls st h Q := R_icne rfl rfl
theorem s74_20 : Runs 74 20 [some (.ref a), x1, x2, x3] st h Q ↔ Runs 74 21 [some (.ref a), x1, x2, x3] (.ref a :: st) h Q := R_aldn rfl rfl
theorem s74_20q : Runs 74 20 [some (zrf r), x1, x2, x3] st h Q ↔ Runs 74 21 [some (zrf r), x1, x2, x3] (zrf r :: st) h Q := R_aldnq rfl rfl
theorem s74_21 (ht : tg a = 7) : Runs 74 21 ls (.ref a :: st) (n, tg, ln, I, J, O) Q ↔ Runs 74 24 ls (zrf (O a 1) :: st) (n, tg, ln, I, J, O) Q := R_getr rfl rfl rfl rfl ht
theorem s74_24 : Runs 74 24 [x0, x1, x2, some (.int i)] st h Q ↔ Runs 74 25 [x0, x1, x2, some (.int i)] (.int i :: st) h Q := R_ildn rfl rfl
theorem s74_25 (ht : tg a = 20) : Runs 74 25 ls (.int i :: .ref a :: st) (n, tg, ln, I, J, O) Q ↔ ((0 ≤ i ∧ i < Int32.ofNat (ln a)) ∧ Runs 74 26 ls (.int (I a i) :: st) (n, tg, ln, I, J, O) Q) := R_iald rfl ht
theorem s74_26 : Runs 74 26 [x0, x1, some (.int i), x3] st h Q ↔ Runs 74 27 [x0, x1, some (.int i), x3] (.int i :: st) h Q := R_ildn rfl rfl
theorem s74_27 : Runs 74 27 ls (.int j :: .int i :: st) h Q ↔ if i = j then Runs 74 32 ls st h Q else Runs 74 30 ls st h Q := R_iceq rfl rfl
theorem s74_30 : Runs 74 30 ls st h Q ↔ Runs 74 31 ls (.int 0 :: st) h Q := R_iconst rfl rfl
theorem s74_31 (hx : i = 0 ∨ i = 1) : Runs 74 31 ls [.int i] h Q ↔ Q (some (.int i)) h := R_zret rfl rfl hx
theorem s74_32 : Runs 74 32 [x0, x1, x2, some (.int i)] st h Q ↔ Runs 74 35 [x0, x1, zdrop x2, some (.int (i + 1))] st h Q := R_iinc rfl rfl rfl rfl rfl
theorem s74_35 : Runs 74 35 ls st h Q ↔ Runs 74 2 ls st h Q := R_goto rfl rfl
theorem s74_38 : Runs 74 38 ls st h Q ↔ Runs 74 39 ls (.int 1 :: st) h Q := R_iconst rfl rfl
theorem s74_39 (hx : i = 0 ∨ i = 1) : Runs 74 39 ls [.int i] h Q ↔ Q (some (.int i)) h := R_zret rfl rfl hx
theorem s76_0 : Runs 76 0 [some (.ref a)] st h Q ↔ Runs 76 1 [some (.ref a)] (.ref a :: st) h Q := R_aldn rfl rfl
theorem s76_0q : Runs 76 0 [some (zrf r)] st h Q ↔ Runs 76 1 [some (zrf r)] (zrf r :: st) h Q := R_aldnq rfl rfl
theorem s76_1 : Runs 76 1 ls st h Q ↔ Runs 76 2 ls (.int 0 :: st) h Q := R_iconst rfl rfl
theorem s76_2 (ht : tg a = 8) : Runs 76 2 ls (.int i :: .ref a :: st) (n, tg, ln, I, J, O) Q ↔ Runs 76 5 ls st (n, tg, ln, zu I a 1 i, J, O) Q := R_puti rfl rfl rfl rfl rfl rfl ht
theorem s76_5 : Runs 76 5 ls [] h Q ↔ Q none h := R_vret rfl rfl
theorem s77_0 : Runs 77 0 [some (.ref a), x1] st h Q ↔ Runs 77 1 [some (.ref a), x1] (.ref a :: st) h Q := R_aldn rfl rfl
theorem s77_0q : Runs 77 0 [some (zrf r), x1] st h Q ↔ Runs 77 1 [some (zrf r), x1] (zrf r :: st) h Q := R_aldnq rfl rfl
theorem s77_1 (ht : tg a = 8) : Runs 77 1 ls (.ref a :: st) (n, tg, ln, I, J, O) Q ↔ Runs 77 4 ls (.int (I a 1) :: st) (n, tg, ln, I, J, O) Q := R_geti rfl rfl rfl rfl ht
theorem s77_4 : Runs 77 4 ls st h Q ↔ Runs 77 7 ls (.int 200 :: st) h Q := R_sipush rfl (by decide)
theorem s77_7 : Runs 77 7 ls (.int j :: .int i :: st) h Q ↔ if i < j then Runs 77 12 ls st h Q else Runs 77 10 ls st h Q := R_iclt rfl rfl
theorem s77_10 : Runs 77 10 ls st h Q ↔ Runs 77 11 ls (.int 0 :: st) h Q := R_iconst rfl rfl
theorem s77_11 (hx : i = 0 ∨ i = 1) : Runs 77 11 ls [.int i] h Q ↔ Q (some (.int i)) h := R_zret rfl rfl hx
theorem s77_12 : Runs 77 12 [some (.ref a), x1] st h Q ↔ Runs 77 13 [some (.ref a), x1] (.ref a :: st) h Q := R_aldn rfl rfl
theorem s77_12q : Runs 77 12 [some (zrf r), x1] st h Q ↔ Runs 77 13 [some (zrf r), x1] (zrf r :: st) h Q := R_aldnq rfl rfl
theorem s77_13 (ht : tg a = 8) : Runs 77 13 ls (.ref a :: st) (n, tg, ln, I, J, O) Q ↔ Runs 77 16 ls (zrf (O a 0) :: st) (n, tg, ln, I, J, O) Q := R_getr rfl rfl rfl rfl ht
theorem s77_16 : Runs 77 16 [some (.ref a), x1] st h Q ↔ Runs 77 17 [some (.ref a), x1] (.ref a :: st) h Q := R_aldn rfl rfl
theorem s77_16q : Runs 77 16 [some (zrf r), x1] st h Q ↔ Runs 77 17 [some (zrf r), x1] (zrf r :: st) h Q := R_aldnq rfl rfl
theorem s77_17 (ht : tg a = 8) : Runs 77 17 ls (.ref a :: st) (n, tg, ln, I, J, O) Q ↔ Runs 77 20 ls (.int (I a 1) :: st) (n, tg, ln, I, J, O) Q := R_geti rfl rfl rfl rfl ht
theorem s77_20 : Runs 77 20 [x0, some (.int i)] st h Q ↔ Runs 77 21 [x0, some (.int i)] (.int i :: st) h Q := R_ildn rfl rfl
theorem s77_21 (ht : tg a = 20) : Runs 77 21 ls (.int j :: .int i :: .ref a :: st) (n, tg, ln, I, J, O) Q ↔ ((0 ≤ i ∧ i < Int32.ofNat (ln a)) ∧ Runs 77 22 ls st (n, tg, ln, zu I a i j, J, O) Q) := R_iast rfl ht
theorem s77_22 : Runs 77 22 [some (.ref a), x1] st h Q ↔ Runs 77 23 [some (.ref a), x1] (.ref a :: st) h Q := R_aldn rfl rfl
theorem s77_22q : Runs 77 22 [some (zrf r), x1] st h Q ↔ Runs 77 23 [some (zrf r), x1] (zrf r :: st) h Q := R_aldnq rfl rfl
theorem s77_23 : Runs 77 23 ls (.int i :: st) h Q ↔ Runs 77 24 ls (.int i :: .int i :: st) h Q := R_dupi rfl
theorem s77_23q : Runs 77 23 ls (.ref a :: st) h Q ↔ Runs 77 24 ls (.ref a :: .ref a :: st) h Q := R_dupr rfl
theorem s77_24 (ht : tg a = 8) : Runs 77 24 ls (.ref a :: st) (n, tg, ln, I, J, O) Q ↔ Runs 77 27 ls (.int (I a 1) :: st) (n, tg, ln, I, J, O) Q := R_geti rfl rfl rfl rfl ht
theorem s77_27 : Runs 77 27 ls st h Q ↔ Runs 77 28 ls (.int 1 :: st) h Q := R_iconst rfl rfl
theorem s77_28 : Runs 77 28 ls (.int j :: .int i :: st) h Q ↔ Runs 77 29 ls (.int (i + j) :: st) h Q := R_iadd rfl
theorem s77_29 (ht : tg a = 8) : Runs 77 29 ls (.int i :: .ref a :: st) (n, tg, ln, I, J, O) Q ↔ Runs 77 32 ls st (n, tg, ln, zu I a 1 i, J, O) Q := R_puti rfl rfl rfl rfl rfl rfl ht
theorem s77_32 : Runs 77 32 ls st h Q ↔ Runs 77 33 ls (.int 1 :: st) h Q := R_iconst rfl rfl
theorem s77_33 (hx : i = 0 ∨ i = 1) : Runs 77 33 ls [.int i] h Q ↔ Q (some (.int i)) h := R_zret rfl rfl hx
theorem s78_0 : Runs 78 0 [x0, some (.int i)] st h Q ↔ Runs 78 1 [x0, some (.int i)] (.int i :: st) h Q := R_ildn rfl rfl
theorem s78_1 : Runs 78 1 ls (.int i :: st) h Q ↔ if i < 0 then Runs 78 21 ls st h Q else Runs 78 4 ls st h Q := R_iflt rfl rfl
theorem s78_4 : Runs 78 4 [x0, some (.int i)] st h Q ↔ Runs 78 5 [x0, some (.int i)] (.int i :: st) h Q := R_ildn rfl rfl
theorem s78_5 : Runs 78 5 [some (.ref a), x1] st h Q ↔ Runs 78 6 [some (.ref a), x1] (.ref a :: st) h Q := R_aldn rfl rfl
theorem s78_5q : Runs 78 5 [some (zrf r), x1] st h Q ↔ Runs 78 6 [some (zrf r), x1] (zrf r :: st) h Q := R_aldnq rfl rfl
theorem s78_6 (ht : tg a = 8) : Runs 78 6 ls (.ref a :: st) (n, tg, ln, I, J, O) Q ↔ Runs 78 9 ls (.int (I a 1) :: st) (n, tg, ln, I, J, O) Q := R_geti rfl rfl rfl rfl ht
theorem s78_9 : Runs 78 9 ls (.int j :: .int i :: st) h Q ↔ if j ≤ i then Runs 78 21 ls st h Q else Runs 78 12 ls st h Q := R_icge rfl rfl
theorem s78_12 : Runs 78 12 [some (.ref a), x1] st h Q ↔ Runs 78 13 [some (.ref a), x1] (.ref a :: st) h Q := R_aldn rfl rfl
theorem s78_12q : Runs 78 12 [some (zrf r), x1] st h Q ↔ Runs 78 13 [some (zrf r), x1] (zrf r :: st) h Q := R_aldnq rfl rfl
theorem s78_13 (ht : tg a = 8) : Runs 78 13 ls (.ref a :: st) (n, tg, ln, I, J, O) Q ↔ Runs 78 16 ls (zrf (O a 0) :: st) (n, tg, ln, I, J, O) Q := R_getr rfl rfl rfl rfl ht
theorem s78_16 : Runs 78 16 [x0, some (.int i)] st h Q ↔ Runs 78 17 [x0, some (.int i)] (.int i :: st) h Q := R_ildn rfl rfl
theorem s78_17 (ht : tg a = 20) : Runs 78 17 ls (.int i :: .ref a :: st) (n, tg, ln, I, J, O) Q ↔ ((0 ≤ i ∧ i < Int32.ofNat (ln a)) ∧ Runs 78 18 ls (.int (I a i) :: st) (n, tg, ln, I, J, O) Q) := R_iald rfl ht
theorem s78_18 : Runs 78 18 ls st h Q ↔ Runs 78 22 ls st h Q := R_goto rfl rfl
theorem s78_21 : Runs 78 21 ls st h Q ↔ Runs 78 22 ls (.int (-1) :: st) h Q := R_iconst rfl rfl
theorem s78_22 : Runs 78 22 ls [.int i] h Q ↔ Q (some (.int i)) h := R_iret rfl rfl
theorem s204_0 : Runs 204 0 [some (.int i)] st h Q ↔ Runs 204 1 [some (.int i)] (.int i :: st) h Q := R_ildn rfl rfl
theorem s204_1 : Runs 204 1 [some (.int i)] st h Q ↔ Runs 204 2 [some (.int i)] (.int i :: st) h Q := R_ildn rfl rfl
theorem s204_2 : Runs 204 2 ls st h Q ↔ Runs 204 3 ls (.int 1 :: st) h Q := R_iconst rfl rfl
theorem s204_3 : Runs 204 3 ls (.int j :: .int i :: st) h Q ↔ Runs 204 4 ls (.int ((i.toUInt32 >>> (j.toUInt32 &&& Int32.toUInt32 31)).toInt32) :: st) h Q := R_iushr rfl
theorem s204_4 : Runs 204 4 ls st h Q ↔ Runs 204 7 ls (.int 1431655765 :: st) h Q := R_ldcw rfl rfl
theorem s204_7 : Runs 204 7 ls (.int j :: .int i :: st) h Q ↔ Runs 204 8 ls (.int (i &&& j) :: st) h Q := R_iand rfl
theorem s204_8 : Runs 204 8 ls (.int j :: .int i :: st) h Q ↔ Runs 204 9 ls (.int (i - j) :: st) h Q := R_isub rfl
theorem s204_9 : Runs 204 9 [x0] (.int i :: st) h Q ↔ Runs 204 10 [some (.int i)] st h Q := R_istn rfl rfl rfl
theorem s204_10 : Runs 204 10 [some (.int i)] st h Q ↔ Runs 204 11 [some (.int i)] (.int i :: st) h Q := R_ildn rfl rfl
theorem s204_11 : Runs 204 11 ls st h Q ↔ Runs 204 14 ls (.int 858993459 :: st) h Q := R_ldcw rfl rfl
theorem s204_14 : Runs 204 14 ls (.int j :: .int i :: st) h Q ↔ Runs 204 15 ls (.int (i &&& j) :: st) h Q := R_iand rfl
theorem s204_15 : Runs 204 15 [some (.int i)] st h Q ↔ Runs 204 16 [some (.int i)] (.int i :: st) h Q := R_ildn rfl rfl
theorem s204_16 : Runs 204 16 ls st h Q ↔ Runs 204 17 ls (.int 2 :: st) h Q := R_iconst rfl rfl
theorem s204_17 : Runs 204 17 ls (.int j :: .int i :: st) h Q ↔ Runs 204 18 ls (.int ((i.toUInt32 >>> (j.toUInt32 &&& Int32.toUInt32 31)).toInt32) :: st) h Q := R_iushr rfl
theorem s204_18 : Runs 204 18 ls st h Q ↔ Runs 204 21 ls (.int 858993459 :: st) h Q := R_ldcw rfl rfl
theorem s204_21 : Runs 204 21 ls (.int j :: .int i :: st) h Q ↔ Runs 204 22 ls (.int (i &&& j) :: st) h Q := R_iand rfl
theorem s204_22 : Runs 204 22 ls (.int j :: .int i :: st) h Q ↔ Runs 204 23 ls (.int (i + j) :: st) h Q := R_iadd rfl
theorem s204_23 : Runs 204 23 [x0] (.int i :: st) h Q ↔ Runs 204 24 [some (.int i)] st h Q := R_istn rfl rfl rfl
theorem s204_24 : Runs 204 24 [some (.int i)] st h Q ↔ Runs 204 25 [some (.int i)] (.int i :: st) h Q := R_ildn rfl rfl
theorem s204_25 : Runs 204 25 [some (.int i)] st h Q ↔ Runs 204 26 [some (.int i)] (.int i :: st) h Q := R_ildn rfl rfl
theorem s204_26 : Runs 204 26 ls st h Q ↔ Runs 204 27 ls (.int 4 :: st) h Q := R_iconst rfl rfl
theorem s204_27 : Runs 204 27 ls (.int j :: .int i :: st) h Q ↔ Runs 204 28 ls (.int ((i.toUInt32 >>> (j.toUInt32 &&& Int32.toUInt32 31)).toInt32) :: st) h Q := R_iushr rfl
theorem s204_28 : Runs 204 28 ls (.int j :: .int i :: st) h Q ↔ Runs 204 29 ls (.int (i + j) :: st) h Q := R_iadd rfl
theorem s204_29 : Runs 204 29 ls st h Q ↔ Runs 204 32 ls (.int 252645135 :: st) h Q := R_ldcw rfl rfl
theorem s204_32 : Runs 204 32 ls (.int j :: .int i :: st) h Q ↔ Runs 204 33 ls (.int (i &&& j) :: st) h Q := R_iand rfl
theorem s204_33 : Runs 204 33 [x0] (.int i :: st) h Q ↔ Runs 204 34 [some (.int i)] st h Q := R_istn rfl rfl rfl
theorem s204_34 : Runs 204 34 [some (.int i)] st h Q ↔ Runs 204 35 [some (.int i)] (.int i :: st) h Q := R_ildn rfl rfl
theorem s204_35 : Runs 204 35 [some (.int i)] st h Q ↔ Runs 204 36 [some (.int i)] (.int i :: st) h Q := R_ildn rfl rfl
theorem s204_36 : Runs 204 36 ls st h Q ↔ Runs 204 38 ls (.int 8 :: st) h Q := R_bipush rfl (by decide)
theorem s204_38 : Runs 204 38 ls (.int j :: .int i :: st) h Q ↔ Runs 204 39 ls (.int ((i.toUInt32 >>> (j.toUInt32 &&& Int32.toUInt32 31)).toInt32) :: st) h Q := R_iushr rfl
theorem s204_39 : Runs 204 39 ls (.int j :: .int i :: st) h Q ↔ Runs 204 40 ls (.int (i + j) :: st) h Q := R_iadd rfl
theorem s204_40 : Runs 204 40 [x0] (.int i :: st) h Q ↔ Runs 204 41 [some (.int i)] st h Q := R_istn rfl rfl rfl
theorem s204_41 : Runs 204 41 [some (.int i)] st h Q ↔ Runs 204 42 [some (.int i)] (.int i :: st) h Q := R_ildn rfl rfl
theorem s204_42 : Runs 204 42 [some (.int i)] st h Q ↔ Runs 204 43 [some (.int i)] (.int i :: st) h Q := R_ildn rfl rfl
theorem s204_43 : Runs 204 43 ls st h Q ↔ Runs 204 45 ls (.int 16 :: st) h Q := R_bipush rfl (by decide)
theorem s204_45 : Runs 204 45 ls (.int j :: .int i :: st) h Q ↔ Runs 204 46 ls (.int ((i.toUInt32 >>> (j.toUInt32 &&& Int32.toUInt32 31)).toInt32) :: st) h Q := R_iushr rfl
theorem s204_46 : Runs 204 46 ls (.int j :: .int i :: st) h Q ↔ Runs 204 47 ls (.int (i + j) :: st) h Q := R_iadd rfl
theorem s204_47 : Runs 204 47 [x0] (.int i :: st) h Q ↔ Runs 204 48 [some (.int i)] st h Q := R_istn rfl rfl rfl
theorem s204_48 : Runs 204 48 [some (.int i)] st h Q ↔ Runs 204 49 [some (.int i)] (.int i :: st) h Q := R_ildn rfl rfl
theorem s204_49 : Runs 204 49 ls st h Q ↔ Runs 204 51 ls (.int 63 :: st) h Q := R_bipush rfl (by decide)
theorem s204_51 : Runs 204 51 ls (.int j :: .int i :: st) h Q ↔ Runs 204 52 ls (.int (i &&& j) :: st) h Q := R_iand rfl
theorem s204_52 : Runs 204 52 ls [.int i] h Q ↔ Q (some (.int i)) h := R_iret rfl rfl
end ZROWS
