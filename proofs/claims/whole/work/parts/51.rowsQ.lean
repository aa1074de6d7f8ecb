section ZROWS
variable {ls : List (Option Value)} {st : List Value} {h : ZH} {Q : Option Value → ZH → Prop} {n : Nat} {tg ln : Nat → Nat} {I : Nat → Int32 → Int32} {J : Nat → Int32 → Int64} {O : Nat → Int32 → Option Nat} {i j i0 i1 i2 i3 i4 : Int32} {u w u0 u1 u2 u3 : Int64} {a b b0 b1 b2 : Nat} {r r0 r1 r2 : Option Nat}
variable {x0 x1 x2 x3 x4 x5 x6 x7 x8 x9 x10 x11 x12 x13 x14 x15 x16 x17 x18 x19 : Option Value}
theorem s81_0 : Runs 81 0 [x0, some (.int i)] st h Q ↔ Runs 81 1 [x0, some (.int i)] (.int i :: st) h Q := R_ildn rfl rfl
theorem s81_1 : Runs 81 1 ls (.int i :: st) h Q ↔ if i < 0 then Runs 81 11 ls st h Q else Runs 81 4 ls st h Q := R_iflt rfl rfl
theorem s81_4 : Runs 81 4 [x0, some (.int i)] st h Q ↔ Runs 81 5 [x0, some (.int i)] (.int i :: st) h Q := R_ildn rfl rfl
theorem s81_5 : Runs 81 5 ls st h Q ↔ Runs 81 8 ls (.int 255 :: st) h Q := R_sipush rfl (by decide)
theorem s81_8 : Runs 81 8 ls (.int j :: .int i :: st) h Q ↔ if i ≤ j then Runs 81 14 ls st h Q else Runs 81 11 ls st h Q := R_icle rfl rfl
theorem s81_11 : Runs 81 11 ls st h Q ↔ Runs 81 13 ls (.int (-3) :: st) h Q := R_bipush rfl (by decide)
theorem s81_13 : Runs 81 13 ls [.int i] h Q ↔ Q (some (.int i)) h := R_iret rfl rfl
theorem s81_14 : Runs 81 14 [some (.ref a), x1] st h Q ↔ Runs 81 15 [some (.ref a), x1] (.ref a :: st) h Q := R_aldn rfl rfl
theorem s81_14q : Runs 81 14 [some (zrf r), x1] st h Q ↔ Runs 81 15 [some (zrf r), x1] (zrf r :: st) h Q := R_aldnq rfl rfl
theorem s81_15 (ht : tg a = 9) : Runs 81 15 ls (.ref a :: st) (n, tg, ln, I, J, O) Q ↔ Runs 81 18 ls (zrf (O a 2) :: st) (n, tg, ln, I, J, O) Q := R_getr rfl rfl rfl rfl ht
theorem s81_18 (ht : tg a = 6) : Runs 81 18 ls (.ref a :: st) (n, tg, ln, I, J, O) Q ↔ Runs 81 21 ls (zrf (O a 0) :: st) (n, tg, ln, I, J, O) Q := R_getr rfl rfl rfl rfl ht
theorem s81_21 : Runs 81 21 [x0, some (.int i)] st h Q ↔ Runs 81 22 [x0, some (.int i)] (.int i :: st) h Q := R_ildn rfl rfl
theorem s81_22 (ht : tg a = 8) (hs : zsumc st ≤ 8) : Runs 81 22 ls (.int i0 :: .ref a :: st) (n, tg, ln, I, J, O) Q ↔ Runs 78 0 [some (.ref a), some (.int i0)] [] (n, tg, ln, I, J, O) (fun v h2 => Runs 81 25 ls (v.toList ++ st) h2 Q) := R_callv (a := a) (rest := st) rfl rfl rfl rfl rfl rfl rfl ht hs
theorem s81_25 : Runs 81 25 ls (.int i :: st) h Q ↔ if i = 0 then Runs 81 41 ls st h Q else Runs 81 28 ls st h Q := R_ifeq rfl rfl
theorem s81_28 : Runs 81 28 [some (.ref a), x1] st h Q ↔ Runs 81 29 [some (.ref a), x1] (.ref a :: st) h Q := R_aldn rfl rfl
theorem s81_28q : Runs 81 28 [some (zrf r), x1] st h Q ↔ Runs 81 29 [some (zrf r), x1] (zrf r :: st) h Q := R_aldnq rfl rfl
theorem s81_29 (ht : tg a = 9) : Runs 81 29 ls (.ref a :: st) (n, tg, ln, I, J, O) Q ↔ Runs 81 32 ls (zrf (O a 2) :: st) (n, tg, ln, I, J, O) Q := R_getr rfl rfl rfl rfl ht
theorem s81_32 (ht : tg a = 6) : Runs 81 32 ls (.ref a :: st) (n, tg, ln, I, J, O) Q ↔ Runs 81 35 ls (zrf (O a 0) :: st) (n, tg, ln, I, J, O) Q := R_getr rfl rfl rfl rfl ht
theorem s81_35 (ht : tg a = 8) : Runs 81 35 ls (.ref a :: st) (n, tg, ln, I, J, O) Q ↔ Runs 81 38 ls (.int (I a 1) :: st) (n, tg, ln, I, J, O) Q := R_geti rfl rfl rfl rfl ht
theorem s81_38 : Runs 81 38 ls st h Q ↔ Runs 81 43 ls st h Q := R_goto rfl rfl
theorem s81_41 : Runs 81 41 ls st h Q ↔ Runs 81 43 ls (.int (-5) :: st) h Q := R_bipush rfl (by decide)
theorem s81_43 : Runs 81 43 ls [.int i] h Q ↔ Q (some (.int i)) h := R_iret rfl rfl
theorem s82_0 : Runs 82 0 [some (.ref a), x1] st h Q ↔ Runs 82 1 [some (.ref a), x1] (.ref a :: st) h Q := R_aldn rfl rfl
theorem s82_0q : Runs 82 0 [some (zrf r), x1] st h Q ↔ Runs 82 1 [some (zrf r), x1] (zrf r :: st) h Q := R_aldnq rfl rfl
theorem s82_1 (ht : tg a = 9) : Runs 82 1 ls (.ref a :: st) (n, tg, ln, I, J, O) Q ↔ Runs 82 4 ls (zrf (O a 2) :: st) (n, tg, ln, I, J, O) Q := R_getr rfl rfl rfl rfl ht
theorem s82_4 (ht : tg a = 6) : Runs 82 4 ls (.ref a :: st) (n, tg, ln, I, J, O) Q ↔ Runs 82 7 ls (zrf (O a 0) :: st) (n, tg, ln, I, J, O) Q := R_getr rfl rfl rfl rfl ht
theorem s82_7 (ht : tg a = 8) : Runs 82 7 ls (.ref a :: st) (n, tg, ln, I, J, O) Q ↔ Runs 82 10 ls (.int (I a 1) :: st) (n, tg, ln, I, J, O) Q := R_geti rfl rfl rfl rfl ht
theorem s82_10 : Runs 82 10 [x0, x1] (.int i :: st) h Q ↔ Runs 82 11 [zdrop x0, some (.int i)] st h Q := R_istn rfl rfl rfl
theorem s82_11 : Runs 82 11 [some (.ref a), x1] st h Q ↔ Runs 82 12 [some (.ref a), x1] (.ref a :: st) h Q := R_aldn rfl rfl
theorem s82_11q : Runs 82 11 [some (zrf r), x1] st h Q ↔ Runs 82 12 [some (zrf r), x1] (zrf r :: st) h Q := R_aldnq rfl rfl
theorem s82_12 (ht : tg a = 9) : Runs 82 12 ls (.ref a :: st) (n, tg, ln, I, J, O) Q ↔ Runs 82 15 ls (zrf (O a 2) :: st) (n, tg, ln, I, J, O) Q := R_getr rfl rfl rfl rfl ht
theorem s82_15 (ht : tg a = 6) : Runs 82 15 ls (.ref a :: st) (n, tg, ln, I, J, O) Q ↔ Runs 82 18 ls (zrf (O a 0) :: st) (n, tg, ln, I, J, O) Q := R_getr rfl rfl rfl rfl ht
theorem s82_18 (ht : tg a = 8) (hs : zsumc st ≤ 8) : Runs 82 18 ls (.ref a :: st) (n, tg, ln, I, J, O) Q ↔ Runs 77 0 [some (.ref a)] [] (n, tg, ln, I, J, O) (fun v h2 => Runs 82 21 ls (v.toList ++ st) h2 Q) := R_callv (a := a) (rest := st) rfl rfl rfl rfl rfl rfl rfl ht hs
theorem s82_21 : Runs 82 21 [x0, some (.int i)] st h Q ↔ Runs 82 22 [x0, some (.int i)] (.int i :: st) h Q := R_ildn rfl rfl
theorem s82_22 : Runs 82 22 ls [.int i] h Q ↔ Q (some (.int i)) h := R_iret rfl rfl
theorem s83_0 : Runs 83 0 [some (.ref a)] st h Q ↔ Runs 83 1 [some (.ref a)] (.ref a :: st) h Q := R_aldn rfl rfl
theorem s83_0q : Runs 83 0 [some (zrf r)] st h Q ↔ Runs 83 1 [some (zrf r)] (zrf r :: st) h Q := R_aldnq rfl rfl
theorem s83_1 (ht : tg a = 9) : Runs 83 1 ls (.ref a :: st) (n, tg, ln, I, J, O) Q ↔ Runs 83 4 ls (zrf (O a 2) :: st) (n, tg, ln, I, J, O) Q := R_getr rfl rfl rfl rfl ht
theorem s83_4 (ht : tg a = 6) (hs : zsumc st ≤ 8) : Runs 83 4 ls (.ref a :: st) (n, tg, ln, I, J, O) Q ↔ Runs 59 0 [some (.ref a), none] [] (n, tg, ln, I, J, O) (fun v h2 => Runs 83 7 ls (v.toList ++ st) h2 Q) := R_callv (a := a) (rest := st) rfl rfl rfl rfl rfl rfl rfl ht hs
theorem s83_7 : Runs 83 7 ls [.int i] h Q ↔ Q (some (.int i)) h := R_iret rfl rfl
theorem s84_0 : Runs 84 0 [some (.ref a), x1] st h Q ↔ Runs 84 1 [some (.ref a), x1] (.ref a :: st) h Q := R_aldn rfl rfl
theorem s84_0q : Runs 84 0 [some (zrf r), x1] st h Q ↔ Runs 84 1 [some (zrf r), x1] (zrf r :: st) h Q := R_aldnq rfl rfl
theorem s84_1 (ht : tg a = 9) : Runs 84 1 ls (.ref a :: st) (n, tg, ln, I, J, O) Q ↔ Runs 84 4 ls (zrf (O a 2) :: st) (n, tg, ln, I, J, O) Q := R_getr rfl rfl rfl rfl ht
theorem s84_4 (ht : tg a = 6) (hs : zsumc st ≤ 8) : Runs 84 4 ls (.ref a :: st) (n, tg, ln, I, J, O) Q ↔ Runs 59 0 [some (.ref a), none] [] (n, tg, ln, I, J, O) (fun v h2 => Runs 84 7 ls (v.toList ++ st) h2 Q) := R_callv (a := a) (rest := st) rfl rfl rfl rfl rfl rfl rfl ht hs
theorem s84_7 : Runs 84 7 ls st h Q ↔ Runs 84 8 ls (.int (-1) :: st) h Q := R_iconst rfl rfl
theorem s84_8 : Runs 84 8 ls (.int j :: .int i :: st) h Q ↔ if i = j then Runs 84 14 ls st h Q else Runs 84 11 ls st h Q := R_iceq rfl rfl
theorem s84_11 : Runs 84 11 ls st h Q ↔ Runs 84 13 ls (.int (-4) :: st) h Q := R_bipush rfl (by decide)
theorem s84_13 : Runs 84 13 ls [.int i] h Q ↔ Q (some (.int i)) h := R_iret rfl rfl
theorem s84_14 : Runs 84 14 [some (.ref a), x1] st h Q ↔ Runs 84 15 [some (.ref a), x1] (.ref a :: st) h Q := R_aldn rfl rfl
theorem s84_14q : Runs 84 14 [some (zrf r), x1] st h Q ↔ Runs 84 15 [some (zrf r), x1] (zrf r :: st) h Q := R_aldnq rfl rfl
theorem s84_15 (ht : tg a = 9) : Runs 84 15 ls (.ref a :: st) (n, tg, ln, I, J, O) Q ↔ Runs 84 18 ls (zrf (O a 2) :: st) (n, tg, ln, I, J, O) Q := R_getr rfl rfl rfl rfl ht
theorem s84_18 (ht : tg a = 6) (hs : zsumc st ≤ 8) : Runs 84 18 ls (.ref a :: st) (n, tg, ln, I, J, O) Q ↔ Runs 60 0 [some (.ref a)] [] (n, tg, ln, I, J, O) (fun v h2 => Runs 84 21 ls (v.toList ++ st) h2 Q) := R_callv (a := a) (rest := st) rfl rfl rfl rfl rfl rfl rfl ht hs
theorem s84_21 : Runs 84 21 [some (.ref a), x1] st h Q ↔ Runs 84 22 [some (.ref a), x1] (.ref a :: st) h Q := R_aldn rfl rfl
theorem s84_21q : Runs 84 21 [some (zrf r), x1] st h Q ↔ Runs 84 22 [some (zrf r), x1] (zrf r :: st) h Q := R_aldnq rfl rfl
theorem s84_22 (ht : tg a = 9) : Runs 84 22 ls (.ref a :: st) (n, tg, ln, I, J, O) Q ↔ Runs 84 25 ls (zrf (O a 0) :: st) (n, tg, ln, I, J, O) Q := R_getr rfl rfl rfl rfl ht
theorem s84_25 : Runs 84 25 [some (.ref a), x1] st h Q ↔ Runs 84 26 [some (.ref a), x1] (.ref a :: st) h Q := R_aldn rfl rfl
theorem s84_25q : Runs 84 25 [some (zrf r), x1] st h Q ↔ Runs 84 26 [some (zrf r), x1] (zrf r :: st) h Q := R_aldnq rfl rfl
theorem s84_26 (ht : tg a = 9) : Runs 84 26 ls (.ref a :: st) (n, tg, ln, I, J, O) Q ↔ Runs 84 29 ls (zrf (O a 2) :: st) (n, tg, ln, I, J, O) Q := R_getr rfl rfl rfl rfl ht
theorem s84_29 (ht : tg a = 6) : Runs 84 29 ls (.ref a :: st) (n, tg, ln, I, J, O) Q ↔ Runs 84 32 ls (zrf (O a 1) :: st) (n, tg, ln, I, J, O) Q := R_getr rfl rfl rfl rfl ht
theorem s84_32 (ht : tg a = 5) (hs : zsumc st ≤ 8) : Runs 84 32 ls (.ref b0 :: .ref a :: st) (n, tg, ln, I, J, O) Q ↔ Runs 38 0 [some (.ref a), some (.ref b0)] [] (n, tg, ln, I, J, O) (fun v h2 => Runs 84 35 ls (v.toList ++ st) h2 Q) := R_callv (a := a) (rest := st) rfl rfl rfl rfl rfl rfl rfl ht hs
theorem s84_32q (ht : tg a = 5) (hs : zsumc st ≤ 8) : Runs 84 32 ls (zrf r0 :: .ref a :: st) (n, tg, ln, I, J, O) Q ↔ Runs 38 0 [some (.ref a), some (zrf r0)] [] (n, tg, ln, I, J, O) (fun v h2 => Runs 84 35 ls (v.toList ++ st) h2 Q) := by cases r0 <;> exact R_callv (a := a) (rest := st) rfl rfl rfl rfl rfl rfl rfl ht hs
theorem s84_35 : Runs 84 35 [some (.ref a), x1] st h Q ↔ Runs 84 36 [some (.ref a), x1] (.ref a :: st) h Q := R_aldn rfl rfl
theorem s84_35q : Runs 84 35 [some (zrf r), x1] st h Q ↔ Runs 84 36 [some (zrf r), x1] (zrf r :: st) h Q := R_aldnq rfl rfl
theorem s84_36 (ht : tg a = 9) : Runs 84 36 ls (.ref a :: st) (n, tg, ln, I, J, O) Q ↔ Runs 84 39 ls (zrf (O a 6) :: st) (n, tg, ln, I, J, O) Q := R_getr rfl rfl rfl rfl ht
theorem s84_39 (ht : tg a = 7) (hs : zsumc st ≤ 8) : Runs 84 39 ls (.ref a :: st) (n, tg, ln, I, J, O) Q ↔ Runs 73 0 [some (.ref a)] [] (n, tg, ln, I, J, O) (fun v h2 => Runs 84 42 ls (v.toList ++ st) h2 Q) := R_callv (a := a) (rest := st) rfl rfl rfl rfl rfl rfl rfl ht hs
theorem s84_42 : Runs 84 42 [some (.ref a), x1] st h Q ↔ Runs 84 43 [some (.ref a), x1] (.ref a :: st) h Q := R_aldn rfl rfl
theorem s84_42q : Runs 84 42 [some (zrf r), x1] st h Q ↔ Runs 84 43 [some (zrf r), x1] (zrf r :: st) h Q := R_aldnq rfl rfl
theorem s84_43 (ht : tg a = 9) : Runs 84 43 ls (.ref a :: st) (n, tg, ln, I, J, O) Q ↔ Runs 84 46 ls (zrf (O a 3) :: st) (n, tg, ln, I, J, O) Q := R_getr rfl rfl rfl rfl ht
theorem s84_46 (ht : tg a = 2) (hs : zsumc st ≤ 8) : Runs 84 46 ls (.ref a :: st) (n, tg, ln, I, J, O) Q ↔ Runs 11 0 [some (.ref a)] [] (n, tg, ln, I, J, O) (fun v h2 => Runs 84 49 ls (v.toList ++ st) h2 Q) := R_callv (a := a) (rest := st) rfl rfl rfl rfl rfl rfl rfl ht hs
theorem s84_49 : Runs 84 49 ls st h Q ↔ Runs 84 50 ls (.int 0 :: st) h Q := R_iconst rfl rfl
theorem s84_50 : Runs 84 50 [x0, x1] (.int i :: st) h Q ↔ Runs 84 51 [zdrop x0, some (.int i)] st h Q := R_istn rfl rfl rfl
theorem s84_51 : Runs 84 51 [x0, some (.int i)] st h Q ↔ Runs 84 52 [x0, some (.int i)] (.int i :: st) h Q := R_ildn rfl rfl
theorem s84_52 : Runs 84 52 ls st h Q ↔ Runs 84 53 ls (.int 2 :: st) h Q := R_iconst rfl rfl
theorem s84_53 : Runs 84 53 ls (.int j :: .int i :: st) h Q ↔ if j ≤ i then Runs 84 69 ls st h Q else Runs 84 56 ls st h Q := R_icge rfl rfl
theorem s84_56 : Runs 84 56 [some (.ref a), x1] st h Q ↔ Runs 84 57 [some (.ref a), x1] (.ref a :: st) h Q := R_aldn rfl rfl
theorem s84_56q : Runs 84 56 [some (zrf r), x1] st h Q ↔ Runs 84 57 [some (zrf r), x1] (zrf r :: st) h Q := R_aldnq rfl rfl
theorem s84_57 (ht : tg a = 9) : Runs 84 57 ls (.ref a :: st) (n, tg, ln, I, J, O) Q ↔ Runs 84 60 ls (zrf (O a 5) :: st) (n, tg, ln, I, J, O) Q := R_getr rfl rfl rfl rfl ht
theorem s84_60 : Runs 84 60 [x0, some (.int i)] st h Q ↔ Runs 84 61 [x0, some (.int i)] (.int i :: st) h Q := R_ildn rfl rfl
theorem s84_61 : Runs 84 61 ls st h Q ↔ Runs 84 62 ls (.int 0 :: st) h Q := R_iconst rfl rfl
theorem s84_62 (ht : tg a = 22) (hx : j = 0 ∨ j = 1) : Runs 84 62 ls (.int j :: .int i :: .ref a :: st) (n, tg, ln, I, J, O) Q ↔ ((0 ≤ i ∧ i < Int32.ofNat (ln a)) ∧ Runs 84 63 ls st (n, tg, ln, zu I a i j, J, O) Q) := R_bast rfl ht hx
theorem s84_63 : Runs 84 63 [x0, some (.int i)] st h Q ↔ Runs 84 66 [zdrop x0, some (.int (i + 1))] st h Q := R_iinc rfl rfl rfl rfl rfl
theorem s84_66 : Runs 84 66 ls st h Q ↔ Runs 84 51 ls st h Q := R_goto rfl rfl
theorem s84_69 : Runs 84 69 ls st h Q ↔ Runs 84 70 ls (.int 0 :: st) h Q := R_iconst rfl rfl
theorem s84_70 : Runs 84 70 [x0, x1] (.int i :: st) h Q ↔ Runs 84 71 [zdrop x0, some (.int i)] st h Q := R_istn rfl rfl rfl
theorem s84_71 : Runs 84 71 [x0, some (.int i)] st h Q ↔ Runs 84 72 [x0, some (.int i)] (.int i :: st) h Q := R_ildn rfl rfl
theorem s84_72 : Runs 84 72 ls st h Q ↔ Runs 84 73 ls (.int 3 :: st) h Q := R_iconst rfl rfl
theorem s84_73 : Runs 84 73 ls (.int j :: .int i :: st) h Q ↔ if j ≤ i then Runs 84 91 ls st h Q else Runs 84 76 ls st h Q := R_icge rfl rfl
theorem s84_76 : Runs 84 76 [some (.ref a), x1] st h Q ↔ Runs 84 77 [some (.ref a), x1] (.ref a :: st) h Q := R_aldn rfl rfl
theorem s84_76q : Runs 84 76 [some (zrf r), x1] st h Q ↔ Runs 84 77 [some (zrf r), x1] (zrf r :: st) h Q := R_aldnq rfl rfl
theorem s84_77 (ht : tg a = 9) : Runs 84 77 ls (.ref a :: st) (n, tg, ln, I, J, O) Q ↔ Runs 84 80 ls (zrf (O a 7) :: st) (n, tg, ln, I, J, O) Q := R_getr rfl rfl rfl rfl ht
theorem s84_80 : Runs 84 80 [x0, some (.int i)] st h Q ↔ Runs 84 81 [x0, some (.int i)] (.int i :: st) h Q := R_ildn rfl rfl
theorem s84_81 (ht : tg a = 23) : Runs 84 81 ls (.int i :: .ref a :: st) (n, tg, ln, I, J, O) Q ↔ ((0 ≤ i ∧ i < Int32.ofNat (ln a)) ∧ Runs 84 82 ls (zrf (O a i) :: st) (n, tg, ln, I, J, O) Q) := R_aald rfl ht (by decide)
theorem s84_81q (ht : tg a = 24) : Runs 84 81 ls (.int i :: .ref a :: st) (n, tg, ln, I, J, O) Q ↔ ((0 ≤ i ∧ i < Int32.ofNat (ln a)) ∧ Runs 84 82 ls (zrf (O a i) :: st) (n, tg, ln, I, J, O) Q) := R_aald rfl ht (by decide)
theorem s84_81p (ht : tg a = 25) : Runs 84 81 ls (.int i :: .ref a :: st) (n, tg, ln, I, J, O) Q ↔ ((0 ≤ i ∧ i < Int32.ofNat (ln a)) ∧ Runs 84 82 ls (zrf (O a i) :: st) (n, tg, ln, I, J, O) Q) := R_aald rfl ht (by decide)
theorem s84_82 (ht : tg a = 1) (hs : zsumc st ≤ 8) : Runs 84 82 ls (.ref a :: st) (n, tg, ln, I, J, O) Q ↔ Runs 2 0 [some (.ref a)] [] (n, tg, ln, I, J, O) (fun v h2 => Runs 84 85 ls (v.toList ++ st) h2 Q) := R_callv (a := a) (rest := st) rfl rfl rfl rfl rfl rfl rfl ht hs
theorem s84_85 : Runs 84 85 [x0, some (.int i)] st h Q ↔ Runs 84 88 [zdrop x0, some (.int (i + 1))] st h Q := R_iinc rfl rfl rfl rfl rfl
theorem s84_88 : Runs 84 88 ls st h Q ↔ Runs 84 71 ls st h Q := R_goto rfl rfl
theorem s84_91 : Runs 84 91 [some (.ref a), x1] st h Q ↔ Runs 84 92 [some (.ref a), x1] (.ref a :: st) h Q := R_aldn rfl rfl
theorem s84_91q : Runs 84 91 [some (zrf r), x1] st h Q ↔ Runs 84 92 [some (zrf r), x1] (zrf r :: st) h Q := R_aldnq rfl rfl
theorem s84_92 (ht : tg a = 9) : Runs 84 92 ls (.ref a :: st) (n, tg, ln, I, J, O) Q ↔ Runs 84 95 ls (zrf (O a 2) :: st) (n, tg, ln, I, J, O) Q := R_getr rfl rfl rfl rfl ht
theorem s84_95 (ht : tg a = 6) : Runs 84 95 ls (.ref a :: st) (n, tg, ln, I, J, O) Q ↔ Runs 84 98 ls (.int (I a 7) :: st) (n, tg, ln, I, J, O) Q := R_geti rfl rfl rfl rfl ht
theorem s84_98 : Runs 84 98 ls [.int i] h Q ↔ Q (some (.int i)) h := R_iret rfl rfl
theorem s85_0 : Runs 85 0 [some (.ref a), x1, x2] st h Q ↔ Runs 85 1 [some (.ref a), x1, x2] (.ref a :: st) h Q := R_aldn rfl rfl
theorem s85_0q : Runs 85 0 [some (zrf r), x1, x2] st h Q ↔ Runs 85 1 [some (zrf r), x1, x2] (zrf r :: st) h Q := R_aldnq rfl rfl
theorem s85_1 (ht : tg a = 9) : Runs 85 1 ls (.ref a :: st) (n, tg, ln, I, J, O) Q ↔ Runs 85 4 ls (zrf (O a 0) :: st) (n, tg, ln, I, J, O) Q := R_getr rfl rfl rfl rfl ht
theorem s85_4 : Runs 85 4 [x0, some (.int i), x2] st h Q ↔ Runs 85 5 [x0, some (.int i), x2] (.int i :: st) h Q := R_ildn rfl rfl
theorem s85_5 (ht : tg a = 5) (hs : zsumc st ≤ 8) : Runs 85 5 ls (.int i0 :: .ref a :: st) (n, tg, ln, I, J, O) Q ↔ Runs 39 0 [some (.ref a), some (.int i0)] [] (n, tg, ln, I, J, O) (fun v h2 => Runs 85 8 ls (v.toList ++ st) h2 Q) := R_callv (a := a) (rest := st) rfl rfl rfl rfl rfl rfl rfl ht hs
theorem s85_8 : Runs 85 8 ls (.int i :: st) h Q ↔ if ¬ i = 0 then Runs 85 14 ls st h Q else Runs 85 11 ls st h Q := R_ifne rfl rfl
theorem s85_11 : Runs 85 11 ls st h Q ↔ Runs 85 13 ls (.int (-2) :: st) h Q := R_bipush rfl (by decide)
theorem s85_13 : Runs 85 13 ls [.int i] h Q ↔ Q (some (.int i)) h := R_iret rfl rfl
theorem s85_14 : Runs 85 14 [x0, x1, some (.int i)] st h Q ↔ Runs 85 15 [x0, x1, some (.int i)] (.int i :: st) h Q := R_ildn rfl rfl
theorem s85_15 : Runs 85 15 ls (.int i :: st) h Q ↔ if i = 0 then Runs 85 52 ls st h Q else if i = 1 then Runs 85 62 ls st h Q else if i = 2 then Runs 85 72 ls st h Q else if i = 3 then Runs 85 97 ls st h Q else if i = 4 then Runs 85 106 ls st h Q else if i = 5 then Runs 85 116 ls st h Q else Runs 85 126 ls st h Q := by
  by_cases h0 : i = 0
  · rw [if_pos h0]; subst h0; exact R_tabI rfl (by decide) rfl rfl
  rw [if_neg h0]
  by_cases h1 : i = 1
  · rw [if_pos h1]; subst h1; exact R_tabI rfl (by decide) rfl rfl
  rw [if_neg h1]
  by_cases h2 : i = 2
  · rw [if_pos h2]; subst h2; exact R_tabI rfl (by decide) rfl rfl
  rw [if_neg h2]
  by_cases h3 : i = 3
  · rw [if_pos h3]; subst h3; exact R_tabI rfl (by decide) rfl rfl
  rw [if_neg h3]
  by_cases h4 : i = 4
  · rw [if_pos h4]; subst h4; exact R_tabI rfl (by decide) rfl rfl
  rw [if_neg h4]
  by_cases h5 : i = 5
  · rw [if_pos h5]; subst h5; exact R_tabI rfl (by decide) rfl rfl
  rw [if_neg h5]
  exact R_tabO rfl (zout 5 i (by decide) (fun v hv => match v, hv with
    | 0, _ => h0
    | 1, _ => h1
    | 2, _ => h2
    | 3, _ => h3
    | 4, _ => h4
    | 5, _ => h5
    | z + 6, hv => absurd hv (by omega))) rfl
theorem s85_52 : Runs 85 52 [some (.ref a), x1, x2] st h Q ↔ Runs 85 53 [some (.ref a), x1, x2] (.ref a :: st) h Q := R_aldn rfl rfl
theorem s85_52q : Runs 85 52 [some (zrf r), x1, x2] st h Q ↔ Runs 85 53 [some (zrf r), x1, x2] (zrf r :: st) h Q := R_aldnq rfl rfl
theorem s85_53 (ht : tg a = 9) : Runs 85 53 ls (.ref a :: st) (n, tg, ln, I, J, O) Q ↔ Runs 85 56 ls (zrf (O a 0) :: st) (n, tg, ln, I, J, O) Q := R_getr rfl rfl rfl rfl ht
theorem s85_56 (ht : tg a = 5) : Runs 85 56 ls (.ref a :: st) (n, tg, ln, I, J, O) Q ↔ Runs 85 59 ls (zrf (O a 0) :: st) (n, tg, ln, I, J, O) Q := R_getr rfl rfl rfl rfl ht
theorem s85_59 : Runs 85 59 [x0, some (.int i), x2] st h Q ↔ Runs 85 60 [x0, some (.int i), x2] (.int i :: st) h Q := R_ildn rfl rfl
theorem s85_60 (ht : tg a = 20) : Runs 85 60 ls (.int i :: .ref a :: st) (n, tg, ln, I, J, O) Q ↔ ((0 ≤ i ∧ i < Int32.ofNat (ln a)) ∧ Runs 85 61 ls (.int (I a i) :: st) (n, tg, ln, I, J, O) Q) := R_iald rfl ht
theorem s85_61 : Runs 85 61 ls [.int i] h Q ↔ Q (some (.int i)) h := R_iret rfl rfl
theorem s85_62 : Runs 85 62 [some (.ref a), x1, x2] st h Q ↔ Runs 85 63 [some (.ref a), x1, x2] (.ref a :: st) h Q := R_aldn rfl rfl
theorem s85_62q : Runs 85 62 [some (zrf r), x1, x2] st h Q ↔ Runs 85 63 [some (zrf r), x1, x2] (zrf r :: st) h Q := R_aldnq rfl rfl
theorem s85_63 (ht : tg a = 9) : Runs 85 63 ls (.ref a :: st) (n, tg, ln, I, J, O) Q ↔ Runs 85 66 ls (zrf (O a 0) :: st) (n, tg, ln, I, J, O) Q := R_getr rfl rfl rfl rfl ht
theorem s85_66 (ht : tg a = 5) : Runs 85 66 ls (.ref a :: st) (n, tg, ln, I, J, O) Q ↔ Runs 85 69 ls (zrf (O a 1) :: st) (n, tg, ln, I, J, O) Q := R_getr rfl rfl rfl rfl ht
theorem s85_69 : Runs 85 69 [x0, some (.int i), x2] st h Q ↔ Runs 85 70 [x0, some (.int i), x2] (.int i :: st) h Q := R_ildn rfl rfl
theorem s85_70 (ht : tg a = 20) : Runs 85 70 ls (.int i :: .ref a :: st) (n, tg, ln, I, J, O) Q ↔ ((0 ≤ i ∧ i < Int32.ofNat (ln a)) ∧ Runs 85 71 ls (.int (I a i) :: st) (n, tg, ln, I, J, O) Q) := R_iald rfl ht
theorem s85_71 : Runs 85 71 ls [.int i] h Q ↔ Q (some (.int i)) h := R_iret rfl rfl
theorem s85_72 : Runs 85 72 [some (.ref a), x1, x2] st h Q ↔ Runs 85 73 [some (.ref a), x1, x2] (.ref a :: st) h Q := R_aldn rfl rfl
theorem s85_72q : Runs 85 72 [some (zrf r), x1, x2] st h Q ↔ Runs 85 73 [some (zrf r), x1, x2] (zrf r :: st) h Q := R_aldnq rfl rfl
theorem s85_73 (ht : tg a = 9) : Runs 85 73 ls (.ref a :: st) (n, tg, ln, I, J, O) Q ↔ Runs 85 76 ls (zrf (O a 0) :: st) (n, tg, ln, I, J, O) Q := R_getr rfl rfl rfl rfl ht
theorem s85_76 : Runs 85 76 [x0, some (.int i), x2] st h Q ↔ Runs 85 77 [x0, some (.int i), x2] (.int i :: st) h Q := R_ildn rfl rfl
theorem s85_77 (ht : tg a = 5) (hs : zsumc st ≤ 8) : Runs 85 77 ls (.int i0 :: .ref a :: st) (n, tg, ln, I, J, O) Q ↔ Runs 40 0 [some (.ref a), some (.int i0)] [] (n, tg, ln, I, J, O) (fun v h2 => Runs 85 80 ls (v.toList ++ st) h2 Q) := R_callv (a := a) (rest := st) rfl rfl rfl rfl rfl rfl rfl ht hs
theorem s85_80 : Runs 85 80 ls (.int i :: st) h Q ↔ if i = 0 then Runs 85 95 ls st h Q else Runs 85 83 ls st h Q := R_ifeq rfl rfl
theorem s85_83 : Runs 85 83 [some (.ref a), x1, x2] st h Q ↔ Runs 85 84 [some (.ref a), x1, x2] (.ref a :: st) h Q := R_aldn rfl rfl
theorem s85_83q : Runs 85 83 [some (zrf r), x1, x2] st h Q ↔ Runs 85 84 [some (zrf r), x1, x2] (zrf r :: st) h Q := R_aldnq rfl rfl
theorem s85_84 (ht : tg a = 9) : Runs 85 84 ls (.ref a :: st) (n, tg, ln, I, J, O) Q ↔ Runs 85 87 ls (zrf (O a 0) :: st) (n, tg, ln, I, J, O) Q := R_getr rfl rfl rfl rfl ht
theorem s85_87 (ht : tg a = 5) : Runs 85 87 ls (.ref a :: st) (n, tg, ln, I, J, O) Q ↔ Runs 85 90 ls (zrf (O a 4) :: st) (n, tg, ln, I, J, O) Q := R_getr rfl rfl rfl rfl ht
theorem s85_90 : Runs 85 90 [x0, some (.int i), x2] st h Q ↔ Runs 85 91 [x0, some (.int i), x2] (.int i :: st) h Q := R_ildn rfl rfl
theorem s85_91 (ht : tg a = 20) : Runs 85 91 ls (.int i :: .ref a :: st) (n, tg, ln, I, J, O) Q ↔ ((0 ≤ i ∧ i < Int32.ofNat (ln a)) ∧ Runs 85 92 ls (.int (I a i) :: st) (n, tg, ln, I, J, O) Q) := R_iald rfl ht
theorem s85_92 : Runs 85 92 ls st h Q ↔ Runs 85 96 ls st h Q := R_goto rfl rfl
theorem s85_95 : Runs 85 95 ls st h Q ↔ Runs 85 96 ls (.int (-1) :: st) h Q := R_iconst rfl rfl
theorem s85_96 : Runs 85 96 ls [.int i] h Q ↔ Q (some (.int i)) h := R_iret rfl rfl
theorem s85_97 : Runs 85 97 [some (.ref a), x1, x2] st h Q ↔ Runs 85 98 [some (.ref a), x1, x2] (.ref a :: st) h Q := R_aldn rfl rfl
theorem s85_97q : Runs 85 97 [some (zrf r), x1, x2] st h Q ↔ Runs 85 98 [some (zrf r), x1, x2] (zrf r :: st) h Q := R_aldnq rfl rfl
theorem s85_98 (ht : tg a = 9) : Runs 85 98 ls (.ref a :: st) (n, tg, ln, I, J, O) Q ↔ Runs 85 101 ls (zrf (O a 0) :: st) (n, tg, ln, I, J, O) Q := R_getr rfl rfl rfl rfl ht
theorem s85_101 : Runs 85 101 [x0, some (.int i), x2] st h Q ↔ Runs 85 102 [x0, some (.int i), x2] (.int i :: st) h Q := R_ildn rfl rfl
theorem s85_102 (ht : tg a = 5) (hs : zsumc st ≤ 8) : Runs 85 102 ls (.int i0 :: .ref a :: st) (n, tg, ln, I, J, O) Q ↔ Runs 43 0 [some (.ref a), some (.int i0)] [] (n, tg, ln, I, J, O) (fun v h2 => Runs 85 105 ls (v.toList ++ st) h2 Q) := R_callv (a := a) (rest := st) rfl rfl rfl rfl rfl rfl rfl ht hs
theorem s85_105 : Runs 85 105 ls [.int i] h Q ↔ Q (some (.int i)) h := R_iret rfl rfl
theorem s85_106 : Runs 85 106 [some (.ref a), x1, x2] st h Q ↔ Runs 85 107 [some (.ref a), x1, x2] (.ref a :: st) h Q := R_aldn rfl rfl
theorem s85_106q : Runs 85 106 [some (zrf r), x1, x2] st h Q ↔ Runs 85 107 [some (zrf r), x1, x2] (zrf r :: st) h Q := R_aldnq rfl rfl
theorem s85_107 (ht : tg a = 9) : Runs 85 107 ls (.ref a :: st) (n, tg, ln, I, J, O) Q ↔ Runs 85 110 ls (zrf (O a 0) :: st) (n, tg, ln, I, J, O) Q := R_getr rfl rfl rfl rfl ht
theorem s85_110 (ht : tg a = 5) : Runs 85 110 ls (.ref a :: st) (n, tg, ln, I, J, O) Q ↔ Runs 85 113 ls (zrf (O a 3) :: st) (n, tg, ln, I, J, O) Q := R_getr rfl rfl rfl rfl ht
theorem s85_113 : Runs 85 113 [x0, some (.int i), x2] st h Q ↔ Runs 85 114 [x0, some (.int i), x2] (.int i :: st) h Q := R_ildn rfl rfl
theorem s85_114 (ht : tg a = 20) : Runs 85 114 ls (.int i :: .ref a :: st) (n, tg, ln, I, J, O) Q ↔ ((0 ≤ i ∧ i < Int32.ofNat (ln a)) ∧ Runs 85 115 ls (.int (I a i) :: st) (n, tg, ln, I, J, O) Q) := R_iald rfl ht
theorem s85_115 : Runs 85 115 ls [.int i] h Q ↔ Q (some (.int i)) h := R_iret rfl rfl
theorem s85_116 : Runs 85 116 [some (.ref a), x1, x2] st h Q ↔ Runs 85 117 [some (.ref a), x1, x2] (.ref a :: st) h Q := R_aldn rfl rfl
theorem s85_116q : Runs 85 116 [some (zrf r), x1, x2] st h Q ↔ Runs 85 117 [some (zrf r), x1, x2] (zrf r :: st) h Q := R_aldnq rfl rfl
theorem s85_117 (ht : tg a = 9) : Runs 85 117 ls (.ref a :: st) (n, tg, ln, I, J, O) Q ↔ Runs 85 120 ls (zrf (O a 0) :: st) (n, tg, ln, I, J, O) Q := R_getr rfl rfl rfl rfl ht
theorem s85_120 (ht : tg a = 5) : Runs 85 120 ls (.ref a :: st) (n, tg, ln, I, J, O) Q ↔ Runs 85 123 ls (zrf (O a 2) :: st) (n, tg, ln, I, J, O) Q := R_getr rfl rfl rfl rfl ht
theorem s85_123 : Runs 85 123 [x0, some (.int i), x2] st h Q ↔ Runs 85 124 [x0, some (.int i), x2] (.int i :: st) h Q := R_ildn rfl rfl
theorem s85_124 (ht : tg a = 20) : Runs 85 124 ls (.int i :: .ref a :: st) (n, tg, ln, I, J, O) Q ↔ ((0 ≤ i ∧ i < Int32.ofNat (ln a)) ∧ Runs 85 125 ls (.int (I a i) :: st) (n, tg, ln, I, J, O) Q) := R_iald rfl ht
theorem s85_125 : Runs 85 125 ls [.int i] h Q ↔ Q (some (.int i)) h := R_iret rfl rfl
theorem s85_126 : Runs 85 126 ls st h Q ↔ Runs 85 128 ls (.int (-3) :: st) h Q := R_bipush rfl (by decide)
theorem s85_128 : Runs 85 128 ls [.int i] h Q ↔ Q (some (.int i)) h := R_iret rfl rfl
theorem s86_0 : Runs 86 0 [x0, some (.int i), x2] st h Q ↔ Runs 86 1 [x0, some (.int i), x2] (.int i :: st) h Q := R_ildn rfl rfl
theorem s86_1 (hs : zsumc st ≤ 8) : Runs 86 1 ls (.int i0 :: st) h Q ↔ Runs 116 0 [some (.int i0)] [] h (fun v h2 => Runs 86 4 ls (v.toList ++ st) h2 Q) := R_calls (rest := st) rfl rfl rfl (by simp) rfl rfl rfl rfl hs
theorem s86_4 : Runs 86 4 ls (.int i :: st) h Q ↔ if i = 0 then Runs 86 22 ls st h Q else Runs 86 7 ls st h Q := R_ifeq rfl rfl
theorem s86_7 : Runs 86 7 [some (.ref a), x1, x2] st h Q ↔ Runs 86 8 [some (.ref a), x1, x2] (.ref a :: st) h Q := R_aldn rfl rfl
theorem s86_7q : Runs 86 7 [some (zrf r), x1, x2] st h Q ↔ Runs 86 8 [some (zrf r), x1, x2] (zrf r :: st) h Q := R_aldnq rfl rfl
theorem s86_8 (ht : tg a = 9) : Runs 86 8 ls (.ref a :: st) (n, tg, ln, I, J, O) Q ↔ Runs 86 11 ls (zrf (O a 0) :: st) (n, tg, ln, I, J, O) Q := R_getr rfl rfl rfl rfl ht
theorem s86_11 : Runs 86 11 [x0, some (.int i), x2] st h Q ↔ Runs 86 12 [x0, some (.int i), x2] (.int i :: st) h Q := R_ildn rfl rfl
theorem s86_12 (ht : tg a = 5) (hs : zsumc st ≤ 8) : Runs 86 12 ls (.int i0 :: .ref a :: st) (n, tg, ln, I, J, O) Q ↔ Runs 41 0 [some (.ref a), some (.int i0)] [] (n, tg, ln, I, J, O) (fun v h2 => Runs 86 15 ls (v.toList ++ st) h2 Q) := R_callv (a := a) (rest := st) rfl rfl rfl rfl rfl rfl rfl ht hs
theorem s86_15 : Runs 86 15 [x0, x1, some (.int i)] st h Q ↔ Runs 86 16 [x0, x1, some (.int i)] (.int i :: st) h Q := R_ildn rfl rfl
theorem s86_16 (ht : tg a = 4) (hs : zsumc st ≤ 8) : Runs 86 16 ls (.int i0 :: .ref a :: st) (n, tg, ln, I, J, O) Q ↔ Runs 24 0 [some (.ref a), some (.int i0)] [] (n, tg, ln, I, J, O) (fun v h2 => Runs 86 19 ls (v.toList ++ st) h2 Q) := R_callv (a := a) (rest := st) rfl rfl rfl rfl rfl rfl rfl ht hs
theorem s86_19 : Runs 86 19 ls (.int i :: st) h Q ↔ if ¬ i = 0 then Runs 86 25 ls st h Q else Runs 86 22 ls st h Q := R_ifne rfl rfl
theorem s86_22 : Runs 86 22 ls st h Q ↔ Runs 86 24 ls (.int (-2) :: st) h Q := R_bipush rfl (by decide)
theorem s86_24 : Runs 86 24 ls [.int i] h Q ↔ Q (some (.int i)) h := R_iret rfl rfl
theorem s86_25 : Runs 86 25 [some (.ref a), x1, x2] st h Q ↔ Runs 86 26 [some (.ref a), x1, x2] (.ref a :: st) h Q := R_aldn rfl rfl
theorem s86_25q : Runs 86 25 [some (zrf r), x1, x2] st h Q ↔ Runs 86 26 [some (zrf r), x1, x2] (zrf r :: st) h Q := R_aldnq rfl rfl
theorem s86_26 (ht : tg a = 9) : Runs 86 26 ls (.ref a :: st) (n, tg, ln, I, J, O) Q ↔ Runs 86 29 ls (zrf (O a 0) :: st) (n, tg, ln, I, J, O) Q := R_getr rfl rfl rfl rfl ht
theorem s86_29 : Runs 86 29 [x0, some (.int i), x2] st h Q ↔ Runs 86 30 [x0, some (.int i), x2] (.int i :: st) h Q := R_ildn rfl rfl
theorem s86_30 (ht : tg a = 5) (hs : zsumc st ≤ 8) : Runs 86 30 ls (.int i0 :: .ref a :: st) (n, tg, ln, I, J, O) Q ↔ Runs 41 0 [some (.ref a), some (.int i0)] [] (n, tg, ln, I, J, O) (fun v h2 => Runs 86 33 ls (v.toList ++ st) h2 Q) := R_callv (a := a) (rest := st) rfl rfl rfl rfl rfl rfl rfl ht hs
theorem s86_33 (ht : tg a = 4) : Runs 86 33 ls (.ref a :: st) (n, tg, ln, I, J, O) Q ↔ Runs 86 36 ls (zrf (O a 0) :: st) (n, tg, ln, I, J, O) Q := R_getr rfl rfl rfl rfl ht
theorem s86_36 : Runs 86 36 [x0, x1, some (.int i)] st h Q ↔ Runs 86 37 [x0, x1, some (.int i)] (.int i :: st) h Q := R_ildn rfl rfl
theorem s86_37 (ht : tg a = 20) : Runs 86 37 ls (.int i :: .ref a :: st) (n, tg, ln, I, J, O) Q ↔ ((0 ≤ i ∧ i < Int32.ofNat (ln a)) ∧ Runs 86 38 ls (.int (I a i) :: st) (n, tg, ln, I, J, O) Q) := R_iald rfl ht
theorem s86_38 : Runs 86 38 ls [.int i] h Q ↔ Q (some (.int i)) h := R_iret rfl rfl
theorem s87_0 : Runs 87 0 [some (.ref a), x1, x2, x3] st h Q ↔ Runs 87 1 [some (.ref a), x1, x2, x3] (.ref a :: st) h Q := R_aldn rfl rfl
theorem s87_0q : Runs 87 0 [some (zrf r), x1, x2, x3] st h Q ↔ Runs 87 1 [some (zrf r), x1, x2, x3] (zrf r :: st) h Q := R_aldnq rfl rfl
theorem s87_1 (ht : tg a = 9) : Runs 87 1 ls (.ref a :: st) (n, tg, ln, I, J, O) Q ↔ Runs 87 4 ls (zrf (O a 0) :: st) (n, tg, ln, I, J, O) Q := R_getr rfl rfl rfl rfl ht
theorem s87_4 : Runs 87 4 [x0, some (.int i), x2, x3] st h Q ↔ Runs 87 5 [x0, some (.int i), x2, x3] (.int i :: st) h Q := R_ildn rfl rfl
theorem s87_5 (ht : tg a = 5) (hs : zsumc st ≤ 8) : Runs 87 5 ls (.int i0 :: .ref a :: st) (n, tg, ln, I, J, O) Q ↔ Runs 39 0 [some (.ref a), some (.int i0)] [] (n, tg, ln, I, J, O) (fun v h2 => Runs 87 8 ls (v.toList ++ st) h2 Q) := R_callv (a := a) (rest := st) rfl rfl rfl rfl rfl rfl rfl ht hs
theorem s87_8 : Runs 87 8 ls (.int i :: st) h Q ↔ if ¬ i = 0 then Runs 87 14 ls st h Q else Runs 87 11 ls st h Q := R_ifne rfl rfl
theorem s87_11 : Runs 87 11 ls st h Q ↔ Runs 87 13 ls (.int (-2) :: st) h Q := R_bipush rfl (by decide)
theorem s87_13 : Runs 87 13 ls [.int i] h Q ↔ Q (some (.int i)) h := R_iret rfl rfl
theorem s87_14 : Runs 87 14 [x0, x1, some (.int i), x3] st h Q ↔ Runs 87 15 [x0, x1, some (.int i), x3] (.int i :: st) h Q := R_ildn rfl rfl
theorem s87_15 : Runs 87 15 ls (.int i :: st) h Q ↔ if i < 0 then Runs 87 23 ls st h Q else Runs 87 18 ls st h Q := R_iflt rfl rfl
theorem s87_18 : Runs 87 18 [x0, x1, some (.int i), x3] st h Q ↔ Runs 87 19 [x0, x1, some (.int i), x3] (.int i :: st) h Q := R_ildn rfl rfl
theorem s87_19 : Runs 87 19 ls st h Q ↔ Runs 87 20 ls (.int 5 :: st) h Q := R_iconst rfl rfl
theorem s87_20 : Runs 87 20 ls (.int j :: .int i :: st) h Q ↔ if i ≤ j then Runs 87 26 ls st h Q else Runs 87 23 ls st h Q := R_icle rfl rfl
theorem s87_23 : Runs 87 23 ls st h Q ↔ Runs 87 25 ls (.int (-3) :: st) h Q := R_bipush rfl (by decide)
theorem s87_25 : Runs 87 25 ls [.int i] h Q ↔ Q (some (.int i)) h := R_iret rfl rfl
theorem s87_26 : Runs 87 26 [some (.ref a), x1, x2, x3] st h Q ↔ Runs 87 27 [some (.ref a), x1, x2, x3] (.ref a :: st) h Q := R_aldn rfl rfl
theorem s87_26q : Runs 87 26 [some (zrf r), x1, x2, x3] st h Q ↔ Runs 87 27 [some (zrf r), x1, x2, x3] (zrf r :: st) h Q := R_aldnq rfl rfl
theorem s87_27 (ht : tg a = 9) : Runs 87 27 ls (.ref a :: st) (n, tg, ln, I, J, O) Q ↔ Runs 87 30 ls (zrf (O a 0) :: st) (n, tg, ln, I, J, O) Q := R_getr rfl rfl rfl rfl ht
theorem s87_30 (ht : tg a = 5) : Runs 87 30 ls (.ref a :: st) (n, tg, ln, I, J, O) Q ↔ Runs 87 33 ls (zrf (O a 0) :: st) (n, tg, ln, I, J, O) Q := R_getr rfl rfl rfl rfl ht
theorem s87_33 : Runs 87 33 [x0, some (.int i), x2, x3] st h Q ↔ Runs 87 34 [x0, some (.int i), x2, x3] (.int i :: st) h Q := R_ildn rfl rfl
theorem s87_34 (ht : tg a = 20) : Runs 87 34 ls (.int i :: .ref a :: st) (n, tg, ln, I, J, O) Q ↔ ((0 ≤ i ∧ i < Int32.ofNat (ln a)) ∧ Runs 87 35 ls (.int (I a i) :: st) (n, tg, ln, I, J, O) Q) := R_iald rfl ht
theorem s87_35 : Runs 87 35 [x0, x1, x2, x3] (.int i :: st) h Q ↔ Runs 87 36 [x0, x1, zdrop x2, some (.int i)] st h Q := R_istn rfl rfl rfl
theorem s87_36 : Runs 87 36 [x0, x1, x2, some (.int i)] st h Q ↔ Runs 87 37 [x0, x1, x2, some (.int i)] (.int i :: st) h Q := R_ildn rfl rfl
theorem s87_37 : Runs 87 37 [x0, x1, some (.int i), x3] st h Q ↔ Runs 87 38 [x0, x1, some (.int i), x3] (.int i :: st) h Q := R_ildn rfl rfl
theorem s87_38 (hs : zsumc st ≤ 8) : Runs 87 38 ls (.int i1 :: .int i0 :: st) h Q ↔ Runs 20 0 [some (.int i0), some (.int i1)] [] h (fun v h2 => Runs 87 41 ls (v.toList ++ st) h2 Q) := R_calls (rest := st) rfl rfl rfl (by simp) rfl rfl rfl rfl hs
theorem s87_41 : Runs 87 41 ls (.int i :: st) h Q ↔ if i = 0 then Runs 87 51 ls st h Q else Runs 87 44 ls st h Q := R_ifeq rfl rfl
theorem s87_44 : Runs 87 44 [x0, x1, x2, some (.int i)] st h Q ↔ Runs 87 45 [x0, x1, x2, some (.int i)] (.int i :: st) h Q := R_ildn rfl rfl
theorem s87_45 (hs : zsumc st ≤ 8) : Runs 87 45 ls (.int i0 :: st) h Q ↔ Runs 17 0 [some (.int i0)] [] h (fun v h2 => Runs 87 48 ls (v.toList ++ st) h2 Q) := R_calls (rest := st) rfl rfl rfl (by simp) rfl rfl rfl rfl hs
theorem s87_48 : Runs 87 48 ls st h Q ↔ Runs 87 53 ls st h Q := R_goto rfl rfl
theorem s87_51 : Runs 87 51 ls st h Q ↔ Runs 87 53 ls (.int (-4) :: st) h Q := R_bipush rfl (by decide)
theorem s87_53 : Runs 87 53 ls [.int i] h Q ↔ Q (some (.int i)) h := R_iret rfl rfl
theorem s88_0 : Runs 88 0 [some (.ref a)] st h Q ↔ Runs 88 1 [some (.ref a)] (.ref a :: st) h Q := R_aldn rfl rfl
theorem s88_0q : Runs 88 0 [some (zrf r)] st h Q ↔ Runs 88 1 [some (zrf r)] (zrf r :: st) h Q := R_aldnq rfl rfl
theorem s88_1 (ht : tg a = 9) : Runs 88 1 ls (.ref a :: st) (n, tg, ln, I, J, O) Q ↔ Runs 88 4 ls (zrf (O a 0) :: st) (n, tg, ln, I, J, O) Q := R_getr rfl rfl rfl rfl ht
theorem s88_4 (ht : tg a = 5) (hs : zsumc st ≤ 8) : Runs 88 4 ls (.ref a :: st) (n, tg, ln, I, J, O) Q ↔ Runs 42 0 [some (.ref a)] [] (n, tg, ln, I, J, O) (fun v h2 => Runs 88 7 ls (v.toList ++ st) h2 Q) := R_callv (a := a) (rest := st) rfl rfl rfl rfl rfl rfl rfl ht hs
theorem s88_7 : Runs 88 7 ls (.int i :: st) h Q ↔ if i = 0 then Runs 88 13 ls st h Q else Runs 88 10 ls st h Q := R_ifeq rfl rfl
theorem s88_10 : Runs 88 10 ls st h Q ↔ Runs 88 12 ls (.int (-4) :: st) h Q := R_bipush rfl (by decide)
theorem s88_12 : Runs 88 12 ls [.int i] h Q ↔ Q (some (.int i)) h := R_iret rfl rfl
theorem s88_13 : Runs 88 13 [some (.ref a)] st h Q ↔ Runs 88 14 [some (.ref a)] (.ref a :: st) h Q := R_aldn rfl rfl
theorem s88_13q : Runs 88 13 [some (zrf r)] st h Q ↔ Runs 88 14 [some (zrf r)] (zrf r :: st) h Q := R_aldnq rfl rfl
theorem s88_14 (ht : tg a = 9) : Runs 88 14 ls (.ref a :: st) (n, tg, ln, I, J, O) Q ↔ Runs 88 17 ls (zrf (O a 0) :: st) (n, tg, ln, I, J, O) Q := R_getr rfl rfl rfl rfl ht
theorem s88_17 (ht : tg a = 5) : Runs 88 17 ls (.ref a :: st) (n, tg, ln, I, J, O) Q ↔ Runs 88 20 ls (.int (I a 8) :: st) (n, tg, ln, I, J, O) Q := R_geti rfl rfl rfl rfl ht
theorem s88_20 : Runs 88 20 ls st h Q ↔ Runs 88 23 ls (.int 999 :: st) h Q := R_sipush rfl (by decide)
theorem s88_23 : Runs 88 23 ls (.int j :: .int i :: st) h Q ↔ if i < j then Runs 88 29 ls st h Q else Runs 88 26 ls st h Q := R_iclt rfl rfl
theorem s88_26 : Runs 88 26 ls st h Q ↔ Runs 88 28 ls (.int (-5) :: st) h Q := R_bipush rfl (by decide)
theorem s88_28 : Runs 88 28 ls [.int i] h Q ↔ Q (some (.int i)) h := R_iret rfl rfl
theorem s88_29 : Runs 88 29 [some (.ref a)] st h Q ↔ Runs 88 30 [some (.ref a)] (.ref a :: st) h Q := R_aldn rfl rfl
theorem s88_29q : Runs 88 29 [some (zrf r)] st h Q ↔ Runs 88 30 [some (zrf r)] (zrf r :: st) h Q := R_aldnq rfl rfl
theorem s88_30 (ht : tg a = 9) : Runs 88 30 ls (.ref a :: st) (n, tg, ln, I, J, O) Q ↔ Runs 88 33 ls (zrf (O a 3) :: st) (n, tg, ln, I, J, O) Q := R_getr rfl rfl rfl rfl ht
theorem s88_33 : Runs 88 33 [some (.ref a)] st h Q ↔ Runs 88 34 [some (.ref a)] (.ref a :: st) h Q := R_aldn rfl rfl
theorem s88_33q : Runs 88 33 [some (zrf r)] st h Q ↔ Runs 88 34 [some (zrf r)] (zrf r :: st) h Q := R_aldnq rfl rfl
theorem s88_34 (ht : tg a = 9) : Runs 88 34 ls (.ref a :: st) (n, tg, ln, I, J, O) Q ↔ Runs 88 37 ls (zrf (O a 0) :: st) (n, tg, ln, I, J, O) Q := R_getr rfl rfl rfl rfl ht
theorem s88_37 (ht : tg a = 2) (hs : zsumc st ≤ 8) : Runs 88 37 ls (.ref b0 :: .ref a :: st) (n, tg, ln, I, J, O) Q ↔ Runs 12 0 [some (.ref a), some (.ref b0)] [] (n, tg, ln, I, J, O) (fun v h2 => Runs 88 40 ls (v.toList ++ st) h2 Q) := R_callv (a := a) (rest := st) rfl rfl rfl rfl rfl rfl rfl ht hs
theorem s88_37q (ht : tg a = 2) (hs : zsumc st ≤ 8) : Runs 88 37 ls (zrf r0 :: .ref a :: st) (n, tg, ln, I, J, O) Q ↔ Runs 12 0 [some (.ref a), some (zrf r0)] [] (n, tg, ln, I, J, O) (fun v h2 => Runs 88 40 ls (v.toList ++ st) h2 Q) := by cases r0 <;> exact R_callv (a := a) (rest := st) rfl rfl rfl rfl rfl rfl rfl ht hs
theorem s88_40 : Runs 88 40 [some (.ref a)] st h Q ↔ Runs 88 41 [some (.ref a)] (.ref a :: st) h Q := R_aldn rfl rfl
theorem s88_40q : Runs 88 40 [some (zrf r)] st h Q ↔ Runs 88 41 [some (zrf r)] (zrf r :: st) h Q := R_aldnq rfl rfl
theorem s88_41 (ht : tg a = 9) : Runs 88 41 ls (.ref a :: st) (n, tg, ln, I, J, O) Q ↔ Runs 88 44 ls (zrf (O a 0) :: st) (n, tg, ln, I, J, O) Q := R_getr rfl rfl rfl rfl ht
theorem s88_44 (ht : tg a = 5) (hs : zsumc st ≤ 8) : Runs 88 44 ls (.ref a :: st) (n, tg, ln, I, J, O) Q ↔ Runs 51 0 [some (.ref a), none, none] [] (n, tg, ln, I, J, O) (fun v h2 => Runs 88 47 ls (v.toList ++ st) h2 Q) := R_callv (a := a) (rest := st) rfl rfl rfl rfl rfl rfl rfl ht hs
theorem s88_47 : Runs 88 47 ls [.int i] h Q ↔ Q (some (.int i)) h := R_iret rfl rfl
theorem s89_0 : Runs 89 0 [x0, some (.int i), x2, x3] st h Q ↔ Runs 89 1 [x0, some (.int i), x2, x3] (.int i :: st) h Q := R_ildn rfl rfl
theorem s89_1 (hs : zsumc st ≤ 8) : Runs 89 1 ls (.int i0 :: st) h Q ↔ Runs 116 0 [some (.int i0)] [] h (fun v h2 => Runs 89 4 ls (v.toList ++ st) h2 Q) := R_calls (rest := st) rfl rfl rfl (by simp) rfl rfl rfl rfl hs
theorem s89_4 : Runs 89 4 ls (.int i :: st) h Q ↔ if ¬ i = 0 then Runs 89 10 ls st h Q else Runs 89 7 ls st h Q := R_ifne rfl rfl
theorem s89_7 : Runs 89 7 ls st h Q ↔ Runs 89 9 ls (.int (-2) :: st) h Q := R_bipush rfl (by decide)
theorem s89_9 : Runs 89 9 ls [.int i] h Q ↔ Q (some (.int i)) h := R_iret rfl rfl
theorem s89_10 : Runs 89 10 [x0, x1, some (.int i), x3] st h Q ↔ Runs 89 11 [x0, x1, some (.int i), x3] (.int i :: st) h Q := R_ildn rfl rfl
theorem s89_11 : Runs 89 11 [x0, x1, x2, some (.int i)] st h Q ↔ Runs 89 12 [x0, x1, x2, some (.int i)] (.int i :: st) h Q := R_ildn rfl rfl
theorem s89_12 (hs : zsumc st ≤ 8) : Runs 89 12 ls (.int i1 :: .int i0 :: st) h Q ↔ Runs 119 0 [some (.int i0), some (.int i1)] [] h (fun v h2 => Runs 89 15 ls (v.toList ++ st) h2 Q) := R_calls (rest := st) rfl rfl rfl (by simp) rfl rfl rfl rfl hs
theorem s89_15 : Runs 89 15 ls (.int i :: st) h Q ↔ if ¬ i = 0 then Runs 89 21 ls st h Q else Runs 89 18 ls st h Q := R_ifne rfl rfl
theorem s89_18 : Runs 89 18 ls st h Q ↔ Runs 89 20 ls (.int (-3) :: st) h Q := R_bipush rfl (by decide)
theorem s89_20 : Runs 89 20 ls [.int i] h Q ↔ Q (some (.int i)) h := R_iret rfl rfl
theorem s89_21 : Runs 89 21 [some (.ref a), x1, x2, x3] st h Q ↔ Runs 89 22 [some (.ref a), x1, x2, x3] (.ref a :: st) h Q := R_aldn rfl rfl
theorem s89_21q : Runs 89 21 [some (zrf r), x1, x2, x3] st h Q ↔ Runs 89 22 [some (zrf r), x1, x2, x3] (zrf r :: st) h Q := R_aldnq rfl rfl
theorem s89_22 (ht : tg a = 9) : Runs 89 22 ls (.ref a :: st) (n, tg, ln, I, J, O) Q ↔ Runs 89 25 ls (zrf (O a 0) :: st) (n, tg, ln, I, J, O) Q := R_getr rfl rfl rfl rfl ht
theorem s89_25 : Runs 89 25 [x0, some (.int i), x2, x3] st h Q ↔ Runs 89 26 [x0, some (.int i), x2, x3] (.int i :: st) h Q := R_ildn rfl rfl
theorem s89_26 (ht : tg a = 5) (hs : zsumc st ≤ 8) : Runs 89 26 ls (.int i0 :: .ref a :: st) (n, tg, ln, I, J, O) Q ↔ Runs 45 0 [some (.ref a), some (.int i0)] [] (n, tg, ln, I, J, O) (fun v h2 => Runs 89 29 ls (v.toList ++ st) h2 Q) := R_callv (a := a) (rest := st) rfl rfl rfl rfl rfl rfl rfl ht hs
theorem s89_29 : Runs 89 29 ls (.int i :: st) h Q ↔ if ¬ i = 0 then Runs 89 35 ls st h Q else Runs 89 32 ls st h Q := R_ifne rfl rfl
theorem s89_32 : Runs 89 32 ls st h Q ↔ Runs 89 34 ls (.int (-5) :: st) h Q := R_bipush rfl (by decide)
theorem s89_34 : Runs 89 34 ls [.int i] h Q ↔ Q (some (.int i)) h := R_iret rfl rfl
theorem s89_35 : Runs 89 35 [some (.ref a), x1, x2, x3] st h Q ↔ Runs 89 36 [some (.ref a), x1, x2, x3] (.ref a :: st) h Q := R_aldn rfl rfl
theorem s89_35q : Runs 89 35 [some (zrf r), x1, x2, x3] st h Q ↔ Runs 89 36 [some (zrf r), x1, x2, x3] (zrf r :: st) h Q := R_aldnq rfl rfl
theorem s89_36 (ht : tg a = 9) : Runs 89 36 ls (.ref a :: st) (n, tg, ln, I, J, O) Q ↔ Runs 89 39 ls (zrf (O a 3) :: st) (n, tg, ln, I, J, O) Q := R_getr rfl rfl rfl rfl ht
theorem s89_39 : Runs 89 39 [some (.ref a), x1, x2, x3] st h Q ↔ Runs 89 40 [some (.ref a), x1, x2, x3] (.ref a :: st) h Q := R_aldn rfl rfl
theorem s89_39q : Runs 89 39 [some (zrf r), x1, x2, x3] st h Q ↔ Runs 89 40 [some (zrf r), x1, x2, x3] (zrf r :: st) h Q := R_aldnq rfl rfl
theorem s89_40 (ht : tg a = 9) : Runs 89 40 ls (.ref a :: st) (n, tg, ln, I, J, O) Q ↔ Runs 89 43 ls (zrf (O a 0) :: st) (n, tg, ln, I, J, O) Q := R_getr rfl rfl rfl rfl ht
theorem s89_43 (ht : tg a = 2) (hs : zsumc st ≤ 8) : Runs 89 43 ls (.ref b0 :: .ref a :: st) (n, tg, ln, I, J, O) Q ↔ Runs 12 0 [some (.ref a), some (.ref b0)] [] (n, tg, ln, I, J, O) (fun v h2 => Runs 89 46 ls (v.toList ++ st) h2 Q) := R_callv (a := a) (rest := st) rfl rfl rfl rfl rfl rfl rfl ht hs
theorem s89_43q (ht : tg a = 2) (hs : zsumc st ≤ 8) : Runs 89 43 ls (zrf r0 :: .ref a :: st) (n, tg, ln, I, J, O) Q ↔ Runs 12 0 [some (.ref a), some (zrf r0)] [] (n, tg, ln, I, J, O) (fun v h2 => Runs 89 46 ls (v.toList ++ st) h2 Q) := by cases r0 <;> exact R_callv (a := a) (rest := st) rfl rfl rfl rfl rfl rfl rfl ht hs
theorem s89_46 : Runs 89 46 [some (.ref a), x1, x2, x3] st h Q ↔ Runs 89 47 [some (.ref a), x1, x2, x3] (.ref a :: st) h Q := R_aldn rfl rfl
theorem s89_46q : Runs 89 46 [some (zrf r), x1, x2, x3] st h Q ↔ Runs 89 47 [some (zrf r), x1, x2, x3] (zrf r :: st) h Q := R_aldnq rfl rfl
theorem s89_47 (ht : tg a = 9) : Runs 89 47 ls (.ref a :: st) (n, tg, ln, I, J, O) Q ↔ Runs 89 50 ls (zrf (O a 0) :: st) (n, tg, ln, I, J, O) Q := R_getr rfl rfl rfl rfl ht
theorem s89_50 : Runs 89 50 [x0, some (.int i), x2, x3] st h Q ↔ Runs 89 51 [x0, some (.int i), x2, x3] (.int i :: st) h Q := R_ildn rfl rfl
theorem s89_51 : Runs 89 51 [x0, x1, some (.int i), x3] st h Q ↔ Runs 89 52 [x0, x1, some (.int i), x3] (.int i :: st) h Q := R_ildn rfl rfl
theorem s89_52 : Runs 89 52 [x0, x1, x2, some (.int i)] st h Q ↔ Runs 89 53 [x0, x1, x2, some (.int i)] (.int i :: st) h Q := R_ildn rfl rfl
theorem s89_53 (ht : tg a = 5) (hs : zsumc st ≤ 8) : Runs 89 53 ls (.int i2 :: .int i1 :: .int i0 :: .ref a :: st) (n, tg, ln, I, J, O) Q ↔ Runs 46 0 [some (.ref a), some (.int i0), some (.int i1), some (.int i2), none] [] (n, tg, ln, I, J, O) (fun v h2 => Runs 89 56 ls (v.toList ++ st) h2 Q) := R_callv (a := a) (rest := st) rfl rfl rfl rfl rfl rfl rfl ht hs
theorem s89_56 : Runs 89 56 ls [.int i] h Q ↔ Q (some (.int i)) h := R_iret rfl rfl
theorem s90_0 : Runs 90 0 [some (.ref a), x1] st h Q ↔ Runs 90 1 [some (.ref a), x1] (.ref a :: st) h Q := R_aldn rfl rfl
theorem s90_0q : Runs 90 0 [some (zrf r), x1] st h Q ↔ Runs 90 1 [some (zrf r), x1] (zrf r :: st) h Q := R_aldnq rfl rfl
theorem s90_1 (ht : tg a = 9) : Runs 90 1 ls (.ref a :: st) (n, tg, ln, I, J, O) Q ↔ Runs 90 4 ls (zrf (O a 0) :: st) (n, tg, ln, I, J, O) Q := R_getr rfl rfl rfl rfl ht
theorem s90_4 : Runs 90 4 [x0, some (.int i)] st h Q ↔ Runs 90 5 [x0, some (.int i)] (.int i :: st) h Q := R_ildn rfl rfl
theorem s90_5 (ht : tg a = 5) (hs : zsumc st ≤ 8) : Runs 90 5 ls (.int i0 :: .ref a :: st) (n, tg, ln, I, J, O) Q ↔ Runs 39 0 [some (.ref a), some (.int i0)] [] (n, tg, ln, I, J, O) (fun v h2 => Runs 90 8 ls (v.toList ++ st) h2 Q) := R_callv (a := a) (rest := st) rfl rfl rfl rfl rfl rfl rfl ht hs
theorem s90_8 : Runs 90 8 ls (.int i :: st) h Q ↔ if ¬ i = 0 then Runs 90 14 ls st h Q else Runs 90 11 ls st h Q := R_ifne rfl rfl
theorem s90_11 : Runs 90 11 ls st h Q ↔ Runs 90 13 ls (.int (-2) :: st) h Q := R_bipush rfl (by decide)
theorem s90_13 : Runs 90 13 ls [.int i] h Q ↔ Q (some (.int i)) h := R_iret rfl rfl
theorem s90_14 : Runs 90 14 [some (.ref a), x1] st h Q ↔ Runs 90 15 [some (.ref a), x1] (.ref a :: st) h Q := R_aldn rfl rfl
theorem s90_14q : Runs 90 14 [some (zrf r), x1] st h Q ↔ Runs 90 15 [some (zrf r), x1] (zrf r :: st) h Q := R_aldnq rfl rfl
theorem s90_15 (ht : tg a = 9) : Runs 90 15 ls (.ref a :: st) (n, tg, ln, I, J, O) Q ↔ Runs 90 18 ls (zrf (O a 0) :: st) (n, tg, ln, I, J, O) Q := R_getr rfl rfl rfl rfl ht
theorem s90_18 : Runs 90 18 [x0, some (.int i)] st h Q ↔ Runs 90 19 [x0, some (.int i)] (.int i :: st) h Q := R_ildn rfl rfl
theorem s90_19 (ht : tg a = 5) (hs : zsumc st ≤ 8) : Runs 90 19 ls (.int i0 :: .ref a :: st) (n, tg, ln, I, J, O) Q ↔ Runs 40 0 [some (.ref a), some (.int i0)] [] (n, tg, ln, I, J, O) (fun v h2 => Runs 90 22 ls (v.toList ++ st) h2 Q) := R_callv (a := a) (rest := st) rfl rfl rfl rfl rfl rfl rfl ht hs
theorem s90_22 : Runs 90 22 ls (.int i :: st) h Q ↔ if ¬ i = 0 then Runs 90 28 ls st h Q else Runs 90 25 ls st h Q := R_ifne rfl rfl
theorem s90_25 : Runs 90 25 ls st h Q ↔ Runs 90 27 ls (.int (-4) :: st) h Q := R_bipush rfl (by decide)
theorem s90_27 : Runs 90 27 ls [.int i] h Q ↔ Q (some (.int i)) h := R_iret rfl rfl
theorem s90_28 : Runs 90 28 [some (.ref a), x1] st h Q ↔ Runs 90 29 [some (.ref a), x1] (.ref a :: st) h Q := R_aldn rfl rfl
theorem s90_28q : Runs 90 28 [some (zrf r), x1] st h Q ↔ Runs 90 29 [some (zrf r), x1] (zrf r :: st) h Q := R_aldnq rfl rfl
theorem s90_29 (ht : tg a = 9) : Runs 90 29 ls (.ref a :: st) (n, tg, ln, I, J, O) Q ↔ Runs 90 32 ls (zrf (O a 3) :: st) (n, tg, ln, I, J, O) Q := R_getr rfl rfl rfl rfl ht
theorem s90_32 : Runs 90 32 [some (.ref a), x1] st h Q ↔ Runs 90 33 [some (.ref a), x1] (.ref a :: st) h Q := R_aldn rfl rfl
theorem s90_32q : Runs 90 32 [some (zrf r), x1] st h Q ↔ Runs 90 33 [some (zrf r), x1] (zrf r :: st) h Q := R_aldnq rfl rfl
theorem s90_33 (ht : tg a = 9) : Runs 90 33 ls (.ref a :: st) (n, tg, ln, I, J, O) Q ↔ Runs 90 36 ls (zrf (O a 0) :: st) (n, tg, ln, I, J, O) Q := R_getr rfl rfl rfl rfl ht
theorem s90_36 (ht : tg a = 2) (hs : zsumc st ≤ 8) : Runs 90 36 ls (.ref b0 :: .ref a :: st) (n, tg, ln, I, J, O) Q ↔ Runs 12 0 [some (.ref a), some (.ref b0)] [] (n, tg, ln, I, J, O) (fun v h2 => Runs 90 39 ls (v.toList ++ st) h2 Q) := R_callv (a := a) (rest := st) rfl rfl rfl rfl rfl rfl rfl ht hs
theorem s90_36q (ht : tg a = 2) (hs : zsumc st ≤ 8) : Runs 90 36 ls (zrf r0 :: .ref a :: st) (n, tg, ln, I, J, O) Q ↔ Runs 12 0 [some (.ref a), some (zrf r0)] [] (n, tg, ln, I, J, O) (fun v h2 => Runs 90 39 ls (v.toList ++ st) h2 Q) := by cases r0 <;> exact R_callv (a := a) (rest := st) rfl rfl rfl rfl rfl rfl rfl ht hs
theorem s90_39 : Runs 90 39 [some (.ref a), x1] st h Q ↔ Runs 90 40 [some (.ref a), x1] (.ref a :: st) h Q := R_aldn rfl rfl
theorem s90_39q : Runs 90 39 [some (zrf r), x1] st h Q ↔ Runs 90 40 [some (zrf r), x1] (zrf r :: st) h Q := R_aldnq rfl rfl
theorem s90_40 (ht : tg a = 9) : Runs 90 40 ls (.ref a :: st) (n, tg, ln, I, J, O) Q ↔ Runs 90 43 ls (zrf (O a 0) :: st) (n, tg, ln, I, J, O) Q := R_getr rfl rfl rfl rfl ht
theorem s90_43 : Runs 90 43 [x0, some (.int i)] st h Q ↔ Runs 90 44 [x0, some (.int i)] (.int i :: st) h Q := R_ildn rfl rfl
theorem s90_44 (ht : tg a = 5) (hs : zsumc st ≤ 8) : Runs 90 44 ls (.int i0 :: .ref a :: st) (n, tg, ln, I, J, O) Q ↔ Runs 47 0 [some (.ref a), some (.int i0), none] [] (n, tg, ln, I, J, O) (fun v h2 => Runs 90 47 ls (v.toList ++ st) h2 Q) := R_callv (a := a) (rest := st) rfl rfl rfl rfl rfl rfl rfl ht hs
theorem s90_47 : Runs 90 47 ls [.int i] h Q ↔ Q (some (.int i)) h := R_iret rfl rfl
theorem s91_0 : Runs 91 0 [some (.ref a), x1] st h Q ↔ Runs 91 1 [some (.ref a), x1] (.ref a :: st) h Q := R_aldn rfl rfl
theorem s91_0q : Runs 91 0 [some (zrf r), x1] st h Q ↔ Runs 91 1 [some (zrf r), x1] (zrf r :: st) h Q := R_aldnq rfl rfl
theorem s91_1 (ht : tg a = 9) : Runs 91 1 ls (.ref a :: st) (n, tg, ln, I, J, O) Q ↔ Runs 91 4 ls (zrf (O a 0) :: st) (n, tg, ln, I, J, O) Q := R_getr rfl rfl rfl rfl ht
theorem s91_4 : Runs 91 4 [x0, some (.int i)] st h Q ↔ Runs 91 5 [x0, some (.int i)] (.int i :: st) h Q := R_ildn rfl rfl
theorem s91_5 (ht : tg a = 5) (hs : zsumc st ≤ 8) : Runs 91 5 ls (.int i0 :: .ref a :: st) (n, tg, ln, I, J, O) Q ↔ Runs 39 0 [some (.ref a), some (.int i0)] [] (n, tg, ln, I, J, O) (fun v h2 => Runs 91 8 ls (v.toList ++ st) h2 Q) := R_callv (a := a) (rest := st) rfl rfl rfl rfl rfl rfl rfl ht hs
theorem s91_8 : Runs 91 8 ls (.int i :: st) h Q ↔ if ¬ i = 0 then Runs 91 14 ls st h Q else Runs 91 11 ls st h Q := R_ifne rfl rfl
theorem s91_11 : Runs 91 11 ls st h Q ↔ Runs 91 13 ls (.int (-2) :: st) h Q := R_bipush rfl (by decide)
theorem s91_13 : Runs 91 13 ls [.int i] h Q ↔ Q (some (.int i)) h := R_iret rfl rfl
theorem s91_14 : Runs 91 14 [some (.ref a), x1] st h Q ↔ Runs 91 15 [some (.ref a), x1] (.ref a :: st) h Q := R_aldn rfl rfl
theorem s91_14q : Runs 91 14 [some (zrf r), x1] st h Q ↔ Runs 91 15 [some (zrf r), x1] (zrf r :: st) h Q := R_aldnq rfl rfl
theorem s91_15 (ht : tg a = 9) : Runs 91 15 ls (.ref a :: st) (n, tg, ln, I, J, O) Q ↔ Runs 91 18 ls (zrf (O a 0) :: st) (n, tg, ln, I, J, O) Q := R_getr rfl rfl rfl rfl ht
theorem s91_18 (ht : tg a = 5) : Runs 91 18 ls (.ref a :: st) (n, tg, ln, I, J, O) Q ↔ Runs 91 21 ls (zrf (O a 3) :: st) (n, tg, ln, I, J, O) Q := R_getr rfl rfl rfl rfl ht
theorem s91_21 : Runs 91 21 [x0, some (.int i)] st h Q ↔ Runs 91 22 [x0, some (.int i)] (.int i :: st) h Q := R_ildn rfl rfl
theorem s91_22 (ht : tg a = 20) : Runs 91 22 ls (.int i :: .ref a :: st) (n, tg, ln, I, J, O) Q ↔ ((0 ≤ i ∧ i < Int32.ofNat (ln a)) ∧ Runs 91 23 ls (.int (I a i) :: st) (n, tg, ln, I, J, O) Q) := R_iald rfl ht
theorem s91_23 : Runs 91 23 ls st h Q ↔ Runs 91 24 ls (.int 2 :: st) h Q := R_iconst rfl rfl
theorem s91_24 : Runs 91 24 ls (.int j :: .int i :: st) h Q ↔ if i = j then Runs 91 30 ls st h Q else Runs 91 27 ls st h Q := R_iceq rfl rfl
theorem s91_27 : Runs 91 27 ls st h Q ↔ Runs 91 29 ls (.int (-4) :: st) h Q := R_bipush rfl (by decide)
theorem s91_29 : Runs 91 29 ls [.int i] h Q ↔ Q (some (.int i)) h := R_iret rfl rfl
theorem s91_30 : Runs 91 30 [some (.ref a), x1] st h Q ↔ Runs 91 31 [some (.ref a), x1] (.ref a :: st) h Q := R_aldn rfl rfl
theorem s91_30q : Runs 91 30 [some (zrf r), x1] st h Q ↔ Runs 91 31 [some (zrf r), x1] (zrf r :: st) h Q := R_aldnq rfl rfl
theorem s91_31 (ht : tg a = 9) : Runs 91 31 ls (.ref a :: st) (n, tg, ln, I, J, O) Q ↔ Runs 91 34 ls (zrf (O a 0) :: st) (n, tg, ln, I, J, O) Q := R_getr rfl rfl rfl rfl ht
theorem s91_34 : Runs 91 34 [x0, some (.int i)] st h Q ↔ Runs 91 35 [x0, some (.int i)] (.int i :: st) h Q := R_ildn rfl rfl
theorem s91_35 (ht : tg a = 5) (hs : zsumc st ≤ 8) : Runs 91 35 ls (.int i0 :: .ref a :: st) (n, tg, ln, I, J, O) Q ↔ Runs 48 0 [some (.ref a), some (.int i0)] [] (n, tg, ln, I, J, O) (fun v h2 => Runs 91 38 ls (v.toList ++ st) h2 Q) := R_callv (a := a) (rest := st) rfl rfl rfl rfl rfl rfl rfl ht hs
theorem s91_38 : Runs 91 38 ls (.int i :: st) h Q ↔ if ¬ i = 0 then Runs 91 44 ls st h Q else Runs 91 41 ls st h Q := R_ifne rfl rfl
theorem s91_41 : Runs 91 41 ls st h Q ↔ Runs 91 43 ls (.int (-5) :: st) h Q := R_bipush rfl (by decide)
theorem s91_43 : Runs 91 43 ls [.int i] h Q ↔ Q (some (.int i)) h := R_iret rfl rfl
theorem s91_44 : Runs 91 44 [some (.ref a), x1] st h Q ↔ Runs 91 45 [some (.ref a), x1] (.ref a :: st) h Q := R_aldn rfl rfl
theorem s91_44q : Runs 91 44 [some (zrf r), x1] st h Q ↔ Runs 91 45 [some (zrf r), x1] (zrf r :: st) h Q := R_aldnq rfl rfl
theorem s91_45 (ht : tg a = 9) : Runs 91 45 ls (.ref a :: st) (n, tg, ln, I, J, O) Q ↔ Runs 91 48 ls (zrf (O a 3) :: st) (n, tg, ln, I, J, O) Q := R_getr rfl rfl rfl rfl ht
theorem s91_48 : Runs 91 48 [some (.ref a), x1] st h Q ↔ Runs 91 49 [some (.ref a), x1] (.ref a :: st) h Q := R_aldn rfl rfl
theorem s91_48q : Runs 91 48 [some (zrf r), x1] st h Q ↔ Runs 91 49 [some (zrf r), x1] (zrf r :: st) h Q := R_aldnq rfl rfl
theorem s91_49 (ht : tg a = 9) : Runs 91 49 ls (.ref a :: st) (n, tg, ln, I, J, O) Q ↔ Runs 91 52 ls (zrf (O a 0) :: st) (n, tg, ln, I, J, O) Q := R_getr rfl rfl rfl rfl ht
theorem s91_52 (ht : tg a = 2) (hs : zsumc st ≤ 8) : Runs 91 52 ls (.ref b0 :: .ref a :: st) (n, tg, ln, I, J, O) Q ↔ Runs 12 0 [some (.ref a), some (.ref b0)] [] (n, tg, ln, I, J, O) (fun v h2 => Runs 91 55 ls (v.toList ++ st) h2 Q) := R_callv (a := a) (rest := st) rfl rfl rfl rfl rfl rfl rfl ht hs
theorem s91_52q (ht : tg a = 2) (hs : zsumc st ≤ 8) : Runs 91 52 ls (zrf r0 :: .ref a :: st) (n, tg, ln, I, J, O) Q ↔ Runs 12 0 [some (.ref a), some (zrf r0)] [] (n, tg, ln, I, J, O) (fun v h2 => Runs 91 55 ls (v.toList ++ st) h2 Q) := by cases r0 <;> exact R_callv (a := a) (rest := st) rfl rfl rfl rfl rfl rfl rfl ht hs
theorem s91_55 : Runs 91 55 [some (.ref a), x1] st h Q ↔ Runs 91 56 [some (.ref a), x1] (.ref a :: st) h Q := R_aldn rfl rfl
theorem s91_55q : Runs 91 55 [some (zrf r), x1] st h Q ↔ Runs 91 56 [some (zrf r), x1] (zrf r :: st) h Q := R_aldnq rfl rfl
theorem s91_56 (ht : tg a = 9) : Runs 91 56 ls (.ref a :: st) (n, tg, ln, I, J, O) Q ↔ Runs 91 59 ls (zrf (O a 0) :: st) (n, tg, ln, I, J, O) Q := R_getr rfl rfl rfl rfl ht
theorem s91_59 : Runs 91 59 [x0, some (.int i)] st h Q ↔ Runs 91 60 [x0, some (.int i)] (.int i :: st) h Q := R_ildn rfl rfl
theorem s91_60 (ht : tg a = 5) (hs : zsumc st ≤ 8) : Runs 91 60 ls (.int i0 :: .ref a :: st) (n, tg, ln, I, J, O) Q ↔ Runs 49 0 [some (.ref a), some (.int i0), none] [] (n, tg, ln, I, J, O) (fun v h2 => Runs 91 63 ls (v.toList ++ st) h2 Q) := R_callv (a := a) (rest := st) rfl rfl rfl rfl rfl rfl rfl ht hs
theorem s91_63 : Runs 91 63 ls [.int i] h Q ↔ Q (some (.int i)) h := R_iret rfl rfl
theorem s92_0 : Runs 92 0 [some (.ref a), x1, x2] st h Q ↔ Runs 92 1 [some (.ref a), x1, x2] (.ref a :: st) h Q := R_aldn rfl rfl
theorem s92_0q : Runs 92 0 [some (zrf r), x1, x2] st h Q ↔ Runs 92 1 [some (zrf r), x1, x2] (zrf r :: st) h Q := R_aldnq rfl rfl
theorem s92_1 (ht : tg a = 9) : Runs 92 1 ls (.ref a :: st) (n, tg, ln, I, J, O) Q ↔ Runs 92 4 ls (zrf (O a 0) :: st) (n, tg, ln, I, J, O) Q := R_getr rfl rfl rfl rfl ht
theorem s92_4 : Runs 92 4 [x0, some (.int i), x2] st h Q ↔ Runs 92 5 [x0, some (.int i), x2] (.int i :: st) h Q := R_ildn rfl rfl
theorem s92_5 (ht : tg a = 5) (hs : zsumc st ≤ 8) : Runs 92 5 ls (.int i0 :: .ref a :: st) (n, tg, ln, I, J, O) Q ↔ Runs 39 0 [some (.ref a), some (.int i0)] [] (n, tg, ln, I, J, O) (fun v h2 => Runs 92 8 ls (v.toList ++ st) h2 Q) := R_callv (a := a) (rest := st) rfl rfl rfl rfl rfl rfl rfl ht hs
theorem s92_8 : Runs 92 8 ls (.int i :: st) h Q ↔ if ¬ i = 0 then Runs 92 14 ls st h Q else Runs 92 11 ls st h Q := R_ifne rfl rfl
theorem s92_11 : Runs 92 11 ls st h Q ↔ Runs 92 13 ls (.int (-2) :: st) h Q := R_bipush rfl (by decide)
theorem s92_13 : Runs 92 13 ls [.int i] h Q ↔ Q (some (.int i)) h := R_iret rfl rfl
theorem s92_14 : Runs 92 14 [some (.ref a), x1, x2] st h Q ↔ Runs 92 15 [some (.ref a), x1, x2] (.ref a :: st) h Q := R_aldn rfl rfl
theorem s92_14q : Runs 92 14 [some (zrf r), x1, x2] st h Q ↔ Runs 92 15 [some (zrf r), x1, x2] (zrf r :: st) h Q := R_aldnq rfl rfl
theorem s92_15 (ht : tg a = 9) : Runs 92 15 ls (.ref a :: st) (n, tg, ln, I, J, O) Q ↔ Runs 92 18 ls (zrf (O a 0) :: st) (n, tg, ln, I, J, O) Q := R_getr rfl rfl rfl rfl ht
theorem s92_18 (ht : tg a = 5) : Runs 92 18 ls (.ref a :: st) (n, tg, ln, I, J, O) Q ↔ Runs 92 21 ls (zrf (O a 0) :: st) (n, tg, ln, I, J, O) Q := R_getr rfl rfl rfl rfl ht
theorem s92_21 : Runs 92 21 [x0, some (.int i), x2] st h Q ↔ Runs 92 22 [x0, some (.int i), x2] (.int i :: st) h Q := R_ildn rfl rfl
theorem s92_22 (ht : tg a = 20) : Runs 92 22 ls (.int i :: .ref a :: st) (n, tg, ln, I, J, O) Q ↔ ((0 ≤ i ∧ i < Int32.ofNat (ln a)) ∧ Runs 92 23 ls (.int (I a i) :: st) (n, tg, ln, I, J, O) Q) := R_iald rfl ht
theorem s92_23 : Runs 92 23 [x0, x1, x2] (.int i :: st) h Q ↔ Runs 92 24 [x0, zdrop x1, some (.int i)] st h Q := R_istn rfl rfl rfl
theorem s92_24 : Runs 92 24 [some (.ref a), x1, x2] st h Q ↔ Runs 92 25 [some (.ref a), x1, x2] (.ref a :: st) h Q := R_aldn rfl rfl
theorem s92_24q : Runs 92 24 [some (zrf r), x1, x2] st h Q ↔ Runs 92 25 [some (zrf r), x1, x2] (zrf r :: st) h Q := R_aldnq rfl rfl
theorem s92_25 (ht : tg a = 9) : Runs 92 25 ls (.ref a :: st) (n, tg, ln, I, J, O) Q ↔ Runs 92 28 ls (zrf (O a 0) :: st) (n, tg, ln, I, J, O) Q := R_getr rfl rfl rfl rfl ht
theorem s92_28 : Runs 92 28 [x0, some (.int i), x2] st h Q ↔ Runs 92 29 [x0, some (.int i), x2] (.int i :: st) h Q := R_ildn rfl rfl
theorem s92_29 (ht : tg a = 5) (hs : zsumc st ≤ 8) : Runs 92 29 ls (.int i0 :: .ref a :: st) (n, tg, ln, I, J, O) Q ↔ Runs 40 0 [some (.ref a), some (.int i0)] [] (n, tg, ln, I, J, O) (fun v h2 => Runs 92 32 ls (v.toList ++ st) h2 Q) := R_callv (a := a) (rest := st) rfl rfl rfl rfl rfl rfl rfl ht hs
theorem s92_32 : Runs 92 32 ls (.int i :: st) h Q ↔ if i = 0 then Runs 92 40 ls st h Q else Runs 92 35 ls st h Q := R_ifeq rfl rfl
theorem s92_35 : Runs 92 35 [x0, x1, some (.int i)] st h Q ↔ Runs 92 36 [x0, x1, some (.int i)] (.int i :: st) h Q := R_ildn rfl rfl
theorem s92_36 : Runs 92 36 ls st h Q ↔ Runs 92 37 ls (.int 4 :: st) h Q := R_iconst rfl rfl
theorem s92_37 : Runs 92 37 ls (.int j :: .int i :: st) h Q ↔ if ¬ i = j then Runs 92 43 ls st h Q else Runs 92 40 ls st h Q := R_icne rfl rfl
theorem s92_40 : Runs 92 40 ls st h Q ↔ Runs 92 42 ls (.int (-4) :: st) h Q := R_bipush rfl (by decide)
theorem s92_42 : Runs 92 42 ls [.int i] h Q ↔ Q (some (.int i)) h := R_iret rfl rfl
theorem s92_43 : Runs 92 43 [some (.ref a), x1, x2] st h Q ↔ Runs 92 44 [some (.ref a), x1, x2] (.ref a :: st) h Q := R_aldn rfl rfl
theorem s92_43q : Runs 92 43 [some (zrf r), x1, x2] st h Q ↔ Runs 92 44 [some (zrf r), x1, x2] (zrf r :: st) h Q := R_aldnq rfl rfl
theorem s92_44 (ht : tg a = 9) : Runs 92 44 ls (.ref a :: st) (n, tg, ln, I, J, O) Q ↔ Runs 92 47 ls (zrf (O a 3) :: st) (n, tg, ln, I, J, O) Q := R_getr rfl rfl rfl rfl ht
theorem s92_47 : Runs 92 47 [some (.ref a), x1, x2] st h Q ↔ Runs 92 48 [some (.ref a), x1, x2] (.ref a :: st) h Q := R_aldn rfl rfl
theorem s92_47q : Runs 92 47 [some (zrf r), x1, x2] st h Q ↔ Runs 92 48 [some (zrf r), x1, x2] (zrf r :: st) h Q := R_aldnq rfl rfl
theorem s92_48 (ht : tg a = 9) : Runs 92 48 ls (.ref a :: st) (n, tg, ln, I, J, O) Q ↔ Runs 92 51 ls (zrf (O a 0) :: st) (n, tg, ln, I, J, O) Q := R_getr rfl rfl rfl rfl ht
theorem s92_51 (ht : tg a = 2) (hs : zsumc st ≤ 8) : Runs 92 51 ls (.ref b0 :: .ref a :: st) (n, tg, ln, I, J, O) Q ↔ Runs 12 0 [some (.ref a), some (.ref b0)] [] (n, tg, ln, I, J, O) (fun v h2 => Runs 92 54 ls (v.toList ++ st) h2 Q) := R_callv (a := a) (rest := st) rfl rfl rfl rfl rfl rfl rfl ht hs
theorem s92_51q (ht : tg a = 2) (hs : zsumc st ≤ 8) : Runs 92 51 ls (zrf r0 :: .ref a :: st) (n, tg, ln, I, J, O) Q ↔ Runs 12 0 [some (.ref a), some (zrf r0)] [] (n, tg, ln, I, J, O) (fun v h2 => Runs 92 54 ls (v.toList ++ st) h2 Q) := by cases r0 <;> exact R_callv (a := a) (rest := st) rfl rfl rfl rfl rfl rfl rfl ht hs
theorem s92_54 : Runs 92 54 [some (.ref a), x1, x2] st h Q ↔ Runs 92 55 [some (.ref a), x1, x2] (.ref a :: st) h Q := R_aldn rfl rfl
theorem s92_54q : Runs 92 54 [some (zrf r), x1, x2] st h Q ↔ Runs 92 55 [some (zrf r), x1, x2] (zrf r :: st) h Q := R_aldnq rfl rfl
theorem s92_55 (ht : tg a = 9) : Runs 92 55 ls (.ref a :: st) (n, tg, ln, I, J, O) Q ↔ Runs 92 58 ls (zrf (O a 0) :: st) (n, tg, ln, I, J, O) Q := R_getr rfl rfl rfl rfl ht
theorem s92_58 (ht : tg a = 5) : Runs 92 58 ls (.ref a :: st) (n, tg, ln, I, J, O) Q ↔ Runs 92 61 ls (zrf (O a 0) :: st) (n, tg, ln, I, J, O) Q := R_getr rfl rfl rfl rfl ht
theorem s92_61 : Runs 92 61 [x0, some (.int i), x2] st h Q ↔ Runs 92 62 [x0, some (.int i), x2] (.int i :: st) h Q := R_ildn rfl rfl
theorem s92_62 : Runs 92 62 ls st h Q ↔ Runs 92 63 ls (.int 4 :: st) h Q := R_iconst rfl rfl
theorem s92_63 (ht : tg a = 20) : Runs 92 63 ls (.int j :: .int i :: .ref a :: st) (n, tg, ln, I, J, O) Q ↔ ((0 ≤ i ∧ i < Int32.ofNat (ln a)) ∧ Runs 92 64 ls st (n, tg, ln, zu I a i j, J, O) Q) := R_iast rfl ht
theorem s92_64 : Runs 92 64 [some (.ref a), x1, x2] st h Q ↔ Runs 92 65 [some (.ref a), x1, x2] (.ref a :: st) h Q := R_aldn rfl rfl
theorem s92_64q : Runs 92 64 [some (zrf r), x1, x2] st h Q ↔ Runs 92 65 [some (zrf r), x1, x2] (zrf r :: st) h Q := R_aldnq rfl rfl
theorem s92_65 (ht : tg a = 9) : Runs 92 65 ls (.ref a :: st) (n, tg, ln, I, J, O) Q ↔ Runs 92 68 ls (zrf (O a 0) :: st) (n, tg, ln, I, J, O) Q := R_getr rfl rfl rfl rfl ht
theorem s92_68 (ht : tg a = 5) : Runs 92 68 ls (.ref a :: st) (n, tg, ln, I, J, O) Q ↔ Runs 92 71 ls (zrf (O a 2) :: st) (n, tg, ln, I, J, O) Q := R_getr rfl rfl rfl rfl ht
theorem s92_71 : Runs 92 71 [x0, some (.int i), x2] st h Q ↔ Runs 92 72 [x0, some (.int i), x2] (.int i :: st) h Q := R_ildn rfl rfl
theorem s92_72 : Runs 92 72 ls st h Q ↔ Runs 92 73 ls (.int 0 :: st) h Q := R_iconst rfl rfl
theorem s92_73 (ht : tg a = 20) : Runs 92 73 ls (.int j :: .int i :: .ref a :: st) (n, tg, ln, I, J, O) Q ↔ ((0 ≤ i ∧ i < Int32.ofNat (ln a)) ∧ Runs 92 74 ls st (n, tg, ln, zu I a i j, J, O) Q) := R_iast rfl ht
theorem s92_74 : Runs 92 74 [x0, x1, some (.int i)] st h Q ↔ Runs 92 75 [x0, x1, some (.int i)] (.int i :: st) h Q := R_ildn rfl rfl
theorem s92_75 : Runs 92 75 ls [.int i] h Q ↔ Q (some (.int i)) h := R_iret rfl rfl
theorem s93_0 : Runs 93 0 [x0, some (.int i), x2] st h Q ↔ Runs 93 1 [x0, some (.int i), x2] (.int i :: st) h Q := R_ildn rfl rfl
theorem s93_1 : Runs 93 1 ls (.int i :: st) h Q ↔ if i < 0 then Runs 93 9 ls st h Q else Runs 93 4 ls st h Q := R_iflt rfl rfl
theorem s93_4 : Runs 93 4 [x0, some (.int i), x2] st h Q ↔ Runs 93 5 [x0, some (.int i), x2] (.int i :: st) h Q := R_ildn rfl rfl
theorem s93_5 : Runs 93 5 ls st h Q ↔ Runs 93 6 ls (.int 2 :: st) h Q := R_iconst rfl rfl
theorem s93_6 : Runs 93 6 ls (.int j :: .int i :: st) h Q ↔ if i ≤ j then Runs 93 12 ls st h Q else Runs 93 9 ls st h Q := R_icle rfl rfl
theorem s93_9 : Runs 93 9 ls st h Q ↔ Runs 93 11 ls (.int (-3) :: st) h Q := R_bipush rfl (by decide)
theorem s93_11 : Runs 93 11 ls [.int i] h Q ↔ Q (some (.int i)) h := R_iret rfl rfl
theorem s93_12 : Runs 93 12 [some (.ref a), x1, x2] st h Q ↔ Runs 93 13 [some (.ref a), x1, x2] (.ref a :: st) h Q := R_aldn rfl rfl
theorem s93_12q : Runs 93 12 [some (zrf r), x1, x2] st h Q ↔ Runs 93 13 [some (zrf r), x1, x2] (zrf r :: st) h Q := R_aldnq rfl rfl
theorem s93_13 (ht : tg a = 9) : Runs 93 13 ls (.ref a :: st) (n, tg, ln, I, J, O) Q ↔ Runs 93 16 ls (zrf (O a 0) :: st) (n, tg, ln, I, J, O) Q := R_getr rfl rfl rfl rfl ht
theorem s93_16 (ht : tg a = 5) : Runs 93 16 ls (.ref a :: st) (n, tg, ln, I, J, O) Q ↔ Runs 93 19 ls (.int (I a 6) :: st) (n, tg, ln, I, J, O) Q := R_geti rfl rfl rfl rfl ht
theorem s93_19 : Runs 93 19 [x0, x1, x2] (.int i :: st) h Q ↔ Runs 93 20 [x0, zdrop x1, some (.int i)] st h Q := R_istn rfl rfl rfl
theorem s93_20 : Runs 93 20 [x0, some (.int i), x2] st h Q ↔ Runs 93 21 [x0, some (.int i), x2] (.int i :: st) h Q := R_ildn rfl rfl
theorem s93_21 : Runs 93 21 [x0, x1, some (.int i)] st h Q ↔ Runs 93 22 [x0, x1, some (.int i)] (.int i :: st) h Q := R_ildn rfl rfl
theorem s93_22 : Runs 93 22 ls (.int j :: .int i :: st) h Q ↔ if ¬ i = j then Runs 93 28 ls st h Q else Runs 93 25 ls st h Q := R_icne rfl rfl
theorem s93_25 : Runs 93 25 ls st h Q ↔ Runs 93 27 ls (.int (-4) :: st) h Q := R_bipush rfl (by decide)
theorem s93_27 : Runs 93 27 ls [.int i] h Q ↔ Q (some (.int i)) h := R_iret rfl rfl
theorem s93_28 : Runs 93 28 [some (.ref a), x1, x2] st h Q ↔ Runs 93 29 [some (.ref a), x1, x2] (.ref a :: st) h Q := R_aldn rfl rfl
theorem s93_28q : Runs 93 28 [some (zrf r), x1, x2] st h Q ↔ Runs 93 29 [some (zrf r), x1, x2] (zrf r :: st) h Q := R_aldnq rfl rfl
theorem s93_29 (ht : tg a = 9) : Runs 93 29 ls (.ref a :: st) (n, tg, ln, I, J, O) Q ↔ Runs 93 32 ls (zrf (O a 3) :: st) (n, tg, ln, I, J, O) Q := R_getr rfl rfl rfl rfl ht
theorem s93_32 : Runs 93 32 [some (.ref a), x1, x2] st h Q ↔ Runs 93 33 [some (.ref a), x1, x2] (.ref a :: st) h Q := R_aldn rfl rfl
theorem s93_32q : Runs 93 32 [some (zrf r), x1, x2] st h Q ↔ Runs 93 33 [some (zrf r), x1, x2] (zrf r :: st) h Q := R_aldnq rfl rfl
theorem s93_33 (ht : tg a = 9) : Runs 93 33 ls (.ref a :: st) (n, tg, ln, I, J, O) Q ↔ Runs 93 36 ls (zrf (O a 0) :: st) (n, tg, ln, I, J, O) Q := R_getr rfl rfl rfl rfl ht
theorem s93_36 (ht : tg a = 2) (hs : zsumc st ≤ 8) : Runs 93 36 ls (.ref b0 :: .ref a :: st) (n, tg, ln, I, J, O) Q ↔ Runs 12 0 [some (.ref a), some (.ref b0)] [] (n, tg, ln, I, J, O) (fun v h2 => Runs 93 39 ls (v.toList ++ st) h2 Q) := R_callv (a := a) (rest := st) rfl rfl rfl rfl rfl rfl rfl ht hs
theorem s93_36q (ht : tg a = 2) (hs : zsumc st ≤ 8) : Runs 93 36 ls (zrf r0 :: .ref a :: st) (n, tg, ln, I, J, O) Q ↔ Runs 12 0 [some (.ref a), some (zrf r0)] [] (n, tg, ln, I, J, O) (fun v h2 => Runs 93 39 ls (v.toList ++ st) h2 Q) := by cases r0 <;> exact R_callv (a := a) (rest := st) rfl rfl rfl rfl rfl rfl rfl ht hs
theorem s93_39 : Runs 93 39 [some (.ref a), x1, x2] st h Q ↔ Runs 93 40 [some (.ref a), x1, x2] (.ref a :: st) h Q := R_aldn rfl rfl
theorem s93_39q : Runs 93 39 [some (zrf r), x1, x2] st h Q ↔ Runs 93 40 [some (zrf r), x1, x2] (zrf r :: st) h Q := R_aldnq rfl rfl
theorem s93_40 (ht : tg a = 9) : Runs 93 40 ls (.ref a :: st) (n, tg, ln, I, J, O) Q ↔ Runs 93 43 ls (zrf (O a 0) :: st) (n, tg, ln, I, J, O) Q := R_getr rfl rfl rfl rfl ht
theorem s93_43 : Runs 93 43 [x0, some (.int i), x2] st h Q ↔ Runs 93 44 [x0, some (.int i), x2] (.int i :: st) h Q := R_ildn rfl rfl
theorem s93_44 (ht : tg a = 5) : Runs 93 44 ls (.int i :: .ref a :: st) (n, tg, ln, I, J, O) Q ↔ Runs 93 47 ls st (n, tg, ln, zu I a 6 i, J, O) Q := R_puti rfl rfl rfl rfl rfl rfl ht
theorem s93_47 : Runs 93 47 [x0, x1, some (.int i)] st h Q ↔ Runs 93 48 [x0, x1, some (.int i)] (.int i :: st) h Q := R_ildn rfl rfl
theorem s93_48 : Runs 93 48 ls [.int i] h Q ↔ Q (some (.int i)) h := R_iret rfl rfl
theorem s94_0 : Runs 94 0 [some (.ref a)] st h Q ↔ Runs 94 1 [some (.ref a)] (.ref a :: st) h Q := R_aldn rfl rfl
theorem s94_0q : Runs 94 0 [some (zrf r)] st h Q ↔ Runs 94 1 [some (zrf r)] (zrf r :: st) h Q := R_aldnq rfl rfl
theorem s94_1 (ht : tg a = 9) : Runs 94 1 ls (.ref a :: st) (n, tg, ln, I, J, O) Q ↔ Runs 94 4 ls (zrf (O a 3) :: st) (n, tg, ln, I, J, O) Q := R_getr rfl rfl rfl rfl ht
theorem s94_4 : Runs 94 4 [some (.ref a)] st h Q ↔ Runs 94 5 [some (.ref a)] (.ref a :: st) h Q := R_aldn rfl rfl
theorem s94_4q : Runs 94 4 [some (zrf r)] st h Q ↔ Runs 94 5 [some (zrf r)] (zrf r :: st) h Q := R_aldnq rfl rfl
theorem s94_5 (ht : tg a = 9) : Runs 94 5 ls (.ref a :: st) (n, tg, ln, I, J, O) Q ↔ Runs 94 8 ls (zrf (O a 0) :: st) (n, tg, ln, I, J, O) Q := R_getr rfl rfl rfl rfl ht
theorem s94_8 (ht : tg a = 2) (hs : zsumc st ≤ 8) : Runs 94 8 ls (.ref b0 :: .ref a :: st) (n, tg, ln, I, J, O) Q ↔ Runs 13 0 [some (.ref a), some (.ref b0)] [] (n, tg, ln, I, J, O) (fun v h2 => Runs 94 11 ls (v.toList ++ st) h2 Q) := R_callv (a := a) (rest := st) rfl rfl rfl rfl rfl rfl rfl ht hs
theorem s94_8q (ht : tg a = 2) (hs : zsumc st ≤ 8) : Runs 94 8 ls (zrf r0 :: .ref a :: st) (n, tg, ln, I, J, O) Q ↔ Runs 13 0 [some (.ref a), some (zrf r0)] [] (n, tg, ln, I, J, O) (fun v h2 => Runs 94 11 ls (v.toList ++ st) h2 Q) := by cases r0 <;> exact R_callv (a := a) (rest := st) rfl rfl rfl rfl rfl rfl rfl ht hs
theorem s94_11 : Runs 94 11 ls (.int i :: st) h Q ↔ if i = 0 then Runs 94 24 ls st h Q else Runs 94 14 ls st h Q := R_ifeq rfl rfl
theorem s94_14 : Runs 94 14 [some (.ref a)] st h Q ↔ Runs 94 15 [some (.ref a)] (.ref a :: st) h Q := R_aldn rfl rfl
theorem s94_14q : Runs 94 14 [some (zrf r)] st h Q ↔ Runs 94 15 [some (zrf r)] (zrf r :: st) h Q := R_aldnq rfl rfl
theorem s94_15 (ht : tg a = 9) : Runs 94 15 ls (.ref a :: st) (n, tg, ln, I, J, O) Q ↔ Runs 94 18 ls (zrf (O a 3) :: st) (n, tg, ln, I, J, O) Q := R_getr rfl rfl rfl rfl ht
theorem s94_18 (ht : tg a = 2) : Runs 94 18 ls (.ref a :: st) (n, tg, ln, I, J, O) Q ↔ Runs 94 21 ls (.int (I a 2) :: st) (n, tg, ln, I, J, O) Q := R_geti rfl rfl rfl rfl ht
theorem s94_21 : Runs 94 21 ls st h Q ↔ Runs 94 26 ls st h Q := R_goto rfl rfl
theorem s94_24 : Runs 94 24 ls st h Q ↔ Runs 94 26 ls (.int (-4) :: st) h Q := R_bipush rfl (by decide)
theorem s94_26 : Runs 94 26 ls [.int i] h Q ↔ Q (some (.int i)) h := R_iret rfl rfl
theorem s95_0 : Runs 95 0 [x0, some (.int i)] st h Q ↔ Runs 95 1 [x0, some (.int i)] (.int i :: st) h Q := R_ildn rfl rfl
theorem s95_1 (hs : zsumc st ≤ 8) : Runs 95 1 ls (.int i0 :: st) h Q ↔ Runs 117 0 [some (.int i0)] [] h (fun v h2 => Runs 95 4 ls (v.toList ++ st) h2 Q) := R_calls (rest := st) rfl rfl rfl (by simp) rfl rfl rfl rfl hs
theorem s95_4 : Runs 95 4 ls (.int i :: st) h Q ↔ if ¬ i = 0 then Runs 95 10 ls st h Q else Runs 95 7 ls st h Q := R_ifne rfl rfl
theorem s95_7 : Runs 95 7 ls st h Q ↔ Runs 95 9 ls (.int (-2) :: st) h Q := R_bipush rfl (by decide)
theorem s95_9 : Runs 95 9 ls [.int i] h Q ↔ Q (some (.int i)) h := R_iret rfl rfl
theorem s95_10 : Runs 95 10 [some (.ref a), x1] st h Q ↔ Runs 95 11 [some (.ref a), x1] (.ref a :: st) h Q := R_aldn rfl rfl
theorem s95_10q : Runs 95 10 [some (zrf r), x1] st h Q ↔ Runs 95 11 [some (zrf r), x1] (zrf r :: st) h Q := R_aldnq rfl rfl
theorem s95_11 (ht : tg a = 9) : Runs 95 11 ls (.ref a :: st) (n, tg, ln, I, J, O) Q ↔ Runs 95 14 ls (zrf (O a 4) :: st) (n, tg, ln, I, J, O) Q := R_getr rfl rfl rfl rfl ht
theorem s95_14 : Runs 95 14 [x0, some (.int i)] st h Q ↔ Runs 95 15 [x0, some (.int i)] (.int i :: st) h Q := R_ildn rfl rfl
theorem s95_15 (ht : tg a = 23) : Runs 95 15 ls (.int i :: .ref a :: st) (n, tg, ln, I, J, O) Q ↔ ((0 ≤ i ∧ i < Int32.ofNat (ln a)) ∧ Runs 95 16 ls (zrf (O a i) :: st) (n, tg, ln, I, J, O) Q) := R_aald rfl ht (by decide)
theorem s95_15q (ht : tg a = 24) : Runs 95 15 ls (.int i :: .ref a :: st) (n, tg, ln, I, J, O) Q ↔ ((0 ≤ i ∧ i < Int32.ofNat (ln a)) ∧ Runs 95 16 ls (zrf (O a i) :: st) (n, tg, ln, I, J, O) Q) := R_aald rfl ht (by decide)
theorem s95_15p (ht : tg a = 25) : Runs 95 15 ls (.int i :: .ref a :: st) (n, tg, ln, I, J, O) Q ↔ ((0 ≤ i ∧ i < Int32.ofNat (ln a)) ∧ Runs 95 16 ls (zrf (O a i) :: st) (n, tg, ln, I, J, O) Q) := R_aald rfl ht (by decide)
theorem s95_16 : Runs 95 16 [some (.ref a), x1] st h Q ↔ Runs 95 17 [some (.ref a), x1] (.ref a :: st) h Q := R_aldn rfl rfl
theorem s95_16q : Runs 95 16 [some (zrf r), x1] st h Q ↔ Runs 95 17 [some (zrf r), x1] (zrf r :: st) h Q := R_aldnq rfl rfl
theorem s95_17 (ht : tg a = 9) : Runs 95 17 ls (.ref a :: st) (n, tg, ln, I, J, O) Q ↔ Runs 95 20 ls (zrf (O a 0) :: st) (n, tg, ln, I, J, O) Q := R_getr rfl rfl rfl rfl ht
theorem s95_20 (ht : tg a = 5) (hs : zsumc st ≤ 8) : Runs 95 20 ls (.ref b0 :: .ref a :: st) (n, tg, ln, I, J, O) Q ↔ Runs 38 0 [some (.ref a), some (.ref b0)] [] (n, tg, ln, I, J, O) (fun v h2 => Runs 95 23 ls (v.toList ++ st) h2 Q) := R_callv (a := a) (rest := st) rfl rfl rfl rfl rfl rfl rfl ht hs
theorem s95_20q (ht : tg a = 5) (hs : zsumc st ≤ 8) : Runs 95 20 ls (zrf r0 :: .ref a :: st) (n, tg, ln, I, J, O) Q ↔ Runs 38 0 [some (.ref a), some (zrf r0)] [] (n, tg, ln, I, J, O) (fun v h2 => Runs 95 23 ls (v.toList ++ st) h2 Q) := by cases r0 <;> exact R_callv (a := a) (rest := st) rfl rfl rfl rfl rfl rfl rfl ht hs
theorem s95_23 : Runs 95 23 [some (.ref a), x1] st h Q ↔ Runs 95 24 [some (.ref a), x1] (.ref a :: st) h Q := R_aldn rfl rfl
theorem s95_23q : Runs 95 23 [some (zrf r), x1] st h Q ↔ Runs 95 24 [some (zrf r), x1] (zrf r :: st) h Q := R_aldnq rfl rfl
theorem s95_24 (ht : tg a = 9) : Runs 95 24 ls (.ref a :: st) (n, tg, ln, I, J, O) Q ↔ Runs 95 27 ls (zrf (O a 5) :: st) (n, tg, ln, I, J, O) Q := R_getr rfl rfl rfl rfl ht
theorem s95_27 : Runs 95 27 [x0, some (.int i)] st h Q ↔ Runs 95 28 [x0, some (.int i)] (.int i :: st) h Q := R_ildn rfl rfl
theorem s95_28 : Runs 95 28 ls st h Q ↔ Runs 95 29 ls (.int 1 :: st) h Q := R_iconst rfl rfl
theorem s95_29 (ht : tg a = 22) (hx : j = 0 ∨ j = 1) : Runs 95 29 ls (.int j :: .int i :: .ref a :: st) (n, tg, ln, I, J, O) Q ↔ ((0 ≤ i ∧ i < Int32.ofNat (ln a)) ∧ Runs 95 30 ls st (n, tg, ln, zu I a i j, J, O) Q) := R_bast rfl ht hx
theorem s95_30 : Runs 95 30 [some (.ref a), x1] st h Q ↔ Runs 95 31 [some (.ref a), x1] (.ref a :: st) h Q := R_aldn rfl rfl
theorem s95_30q : Runs 95 30 [some (zrf r), x1] st h Q ↔ Runs 95 31 [some (zrf r), x1] (zrf r :: st) h Q := R_aldnq rfl rfl
theorem s95_31 (ht : tg a = 9) : Runs 95 31 ls (.ref a :: st) (n, tg, ln, I, J, O) Q ↔ Runs 95 34 ls (zrf (O a 0) :: st) (n, tg, ln, I, J, O) Q := R_getr rfl rfl rfl rfl ht
theorem s95_34 (ht : tg a = 5) : Runs 95 34 ls (.ref a :: st) (n, tg, ln, I, J, O) Q ↔ Runs 95 37 ls (.int (I a 8) :: st) (n, tg, ln, I, J, O) Q := R_geti rfl rfl rfl rfl ht
theorem s95_37 : Runs 95 37 ls [.int i] h Q ↔ Q (some (.int i)) h := R_iret rfl rfl
theorem s96_0 : Runs 96 0 [x0, some (.int i)] st h Q ↔ Runs 96 1 [x0, some (.int i)] (.int i :: st) h Q := R_ildn rfl rfl
theorem s96_1 (hs : zsumc st ≤ 8) : Runs 96 1 ls (.int i0 :: st) h Q ↔ Runs 117 0 [some (.int i0)] [] h (fun v h2 => Runs 96 4 ls (v.toList ++ st) h2 Q) := R_calls (rest := st) rfl rfl rfl (by simp) rfl rfl rfl rfl hs
theorem s96_4 : Runs 96 4 ls (.int i :: st) h Q ↔ if ¬ i = 0 then Runs 96 10 ls st h Q else Runs 96 7 ls st h Q := R_ifne rfl rfl
theorem s96_7 : Runs 96 7 ls st h Q ↔ Runs 96 9 ls (.int (-2) :: st) h Q := R_bipush rfl (by decide)
theorem s96_9 : Runs 96 9 ls [.int i] h Q ↔ Q (some (.int i)) h := R_iret rfl rfl
theorem s96_10 : Runs 96 10 [some (.ref a), x1] st h Q ↔ Runs 96 11 [some (.ref a), x1] (.ref a :: st) h Q := R_aldn rfl rfl
theorem s96_10q : Runs 96 10 [some (zrf r), x1] st h Q ↔ Runs 96 11 [some (zrf r), x1] (zrf r :: st) h Q := R_aldnq rfl rfl
theorem s96_11 (ht : tg a = 9) : Runs 96 11 ls (.ref a :: st) (n, tg, ln, I, J, O) Q ↔ Runs 96 14 ls (zrf (O a 5) :: st) (n, tg, ln, I, J, O) Q := R_getr rfl rfl rfl rfl ht
theorem s96_14 : Runs 96 14 [x0, some (.int i)] st h Q ↔ Runs 96 15 [x0, some (.int i)] (.int i :: st) h Q := R_ildn rfl rfl
theorem s96_15 (ht : tg a = 22) : Runs 96 15 ls (.int i :: .ref a :: st) (n, tg, ln, I, J, O) Q ↔ ((0 ≤ i ∧ i < Int32.ofNat (ln a)) ∧ Runs 96 16 ls (.int (I a i) :: st) (n, tg, ln, I, J, O) Q) := R_bald rfl ht
theorem s96_16 : Runs 96 16 ls (.int i :: st) h Q ↔ if ¬ i = 0 then Runs 96 22 ls st h Q else Runs 96 19 ls st h Q := R_ifne rfl rfl
theorem s96_19 : Runs 96 19 ls st h Q ↔ Runs 96 21 ls (.int (-4) :: st) h Q := R_bipush rfl (by decide)
theorem s96_21 : Runs 96 21 ls [.int i] h Q ↔ Q (some (.int i)) h := R_iret rfl rfl
theorem s96_22 : Runs 96 22 [some (.ref a), x1] st h Q ↔ Runs 96 23 [some (.ref a), x1] (.ref a :: st) h Q := R_aldn rfl rfl
theorem s96_22q : Runs 96 22 [some (zrf r), x1] st h Q ↔ Runs 96 23 [some (zrf r), x1] (zrf r :: st) h Q := R_aldnq rfl rfl
theorem s96_23 (ht : tg a = 9) : Runs 96 23 ls (.ref a :: st) (n, tg, ln, I, J, O) Q ↔ Runs 96 26 ls (zrf (O a 0) :: st) (n, tg, ln, I, J, O) Q := R_getr rfl rfl rfl rfl ht
theorem s96_26 : Runs 96 26 [some (.ref a), x1] st h Q ↔ Runs 96 27 [some (.ref a), x1] (.ref a :: st) h Q := R_aldn rfl rfl
theorem s96_26q : Runs 96 26 [some (zrf r), x1] st h Q ↔ Runs 96 27 [some (zrf r), x1] (zrf r :: st) h Q := R_aldnq rfl rfl
theorem s96_27 (ht : tg a = 9) : Runs 96 27 ls (.ref a :: st) (n, tg, ln, I, J, O) Q ↔ Runs 96 30 ls (zrf (O a 4) :: st) (n, tg, ln, I, J, O) Q := R_getr rfl rfl rfl rfl ht
theorem s96_30 : Runs 96 30 [x0, some (.int i)] st h Q ↔ Runs 96 31 [x0, some (.int i)] (.int i :: st) h Q := R_ildn rfl rfl
theorem s96_31 (ht : tg a = 23) : Runs 96 31 ls (.int i :: .ref a :: st) (n, tg, ln, I, J, O) Q ↔ ((0 ≤ i ∧ i < Int32.ofNat (ln a)) ∧ Runs 96 32 ls (zrf (O a i) :: st) (n, tg, ln, I, J, O) Q) := R_aald rfl ht (by decide)
theorem s96_31q (ht : tg a = 24) : Runs 96 31 ls (.int i :: .ref a :: st) (n, tg, ln, I, J, O) Q ↔ ((0 ≤ i ∧ i < Int32.ofNat (ln a)) ∧ Runs 96 32 ls (zrf (O a i) :: st) (n, tg, ln, I, J, O) Q) := R_aald rfl ht (by decide)
theorem s96_31p (ht : tg a = 25) : Runs 96 31 ls (.int i :: .ref a :: st) (n, tg, ln, I, J, O) Q ↔ ((0 ≤ i ∧ i < Int32.ofNat (ln a)) ∧ Runs 96 32 ls (zrf (O a i) :: st) (n, tg, ln, I, J, O) Q) := R_aald rfl ht (by decide)
theorem s96_32 (ht : tg a = 5) (hs : zsumc st ≤ 8) : Runs 96 32 ls (.ref b0 :: .ref a :: st) (n, tg, ln, I, J, O) Q ↔ Runs 38 0 [some (.ref a), some (.ref b0)] [] (n, tg, ln, I, J, O) (fun v h2 => Runs 96 35 ls (v.toList ++ st) h2 Q) := R_callv (a := a) (rest := st) rfl rfl rfl rfl rfl rfl rfl ht hs
theorem s96_32q (ht : tg a = 5) (hs : zsumc st ≤ 8) : Runs 96 32 ls (zrf r0 :: .ref a :: st) (n, tg, ln, I, J, O) Q ↔ Runs 38 0 [some (.ref a), some (zrf r0)] [] (n, tg, ln, I, J, O) (fun v h2 => Runs 96 35 ls (v.toList ++ st) h2 Q) := by cases r0 <;> exact R_callv (a := a) (rest := st) rfl rfl rfl rfl rfl rfl rfl ht hs
theorem s96_35 : Runs 96 35 [some (.ref a), x1] st h Q ↔ Runs 96 36 [some (.ref a), x1] (.ref a :: st) h Q := R_aldn rfl rfl
theorem s96_35q : Runs 96 35 [some (zrf r), x1] st h Q ↔ Runs 96 36 [some (zrf r), x1] (zrf r :: st) h Q := R_aldnq rfl rfl
theorem s96_36 (ht : tg a = 9) : Runs 96 36 ls (.ref a :: st) (n, tg, ln, I, J, O) Q ↔ Runs 96 39 ls (zrf (O a 3) :: st) (n, tg, ln, I, J, O) Q := R_getr rfl rfl rfl rfl ht
theorem s96_39 (ht : tg a = 2) (hs : zsumc st ≤ 8) : Runs 96 39 ls (.ref a :: st) (n, tg, ln, I, J, O) Q ↔ Runs 11 0 [some (.ref a)] [] (n, tg, ln, I, J, O) (fun v h2 => Runs 96 42 ls (v.toList ++ st) h2 Q) := R_callv (a := a) (rest := st) rfl rfl rfl rfl rfl rfl rfl ht hs
theorem s96_42 : Runs 96 42 [some (.ref a), x1] st h Q ↔ Runs 96 43 [some (.ref a), x1] (.ref a :: st) h Q := R_aldn rfl rfl
theorem s96_42q : Runs 96 42 [some (zrf r), x1] st h Q ↔ Runs 96 43 [some (zrf r), x1] (zrf r :: st) h Q := R_aldnq rfl rfl
theorem s96_43 (ht : tg a = 9) : Runs 96 43 ls (.ref a :: st) (n, tg, ln, I, J, O) Q ↔ Runs 96 46 ls (zrf (O a 0) :: st) (n, tg, ln, I, J, O) Q := R_getr rfl rfl rfl rfl ht
theorem s96_46 (ht : tg a = 5) : Runs 96 46 ls (.ref a :: st) (n, tg, ln, I, J, O) Q ↔ Runs 96 49 ls (.int (I a 8) :: st) (n, tg, ln, I, J, O) Q := R_geti rfl rfl rfl rfl ht
theorem s96_49 : Runs 96 49 ls [.int i] h Q ↔ Q (some (.int i)) h := R_iret rfl rfl
theorem s97_0 : Runs 97 0 [some (.ref a), x1] st h Q ↔ Runs 97 1 [some (.ref a), x1] (.ref a :: st) h Q := R_aldn rfl rfl
theorem s97_0q : Runs 97 0 [some (zrf r), x1] st h Q ↔ Runs 97 1 [some (zrf r), x1] (zrf r :: st) h Q := R_aldnq rfl rfl
theorem s97_1 (ht : tg a = 9) : Runs 97 1 ls (.ref a :: st) (n, tg, ln, I, J, O) Q ↔ Runs 97 4 ls (zrf (O a 0) :: st) (n, tg, ln, I, J, O) Q := R_getr rfl rfl rfl rfl ht
theorem s97_4 : Runs 97 4 [x0, some (.int i)] st h Q ↔ Runs 97 5 [x0, some (.int i)] (.int i :: st) h Q := R_ildn rfl rfl
theorem s97_5 (ht : tg a = 5) (hs : zsumc st ≤ 8) : Runs 97 5 ls (.int i0 :: .ref a :: st) (n, tg, ln, I, J, O) Q ↔ Runs 39 0 [some (.ref a), some (.int i0)] [] (n, tg, ln, I, J, O) (fun v h2 => Runs 97 8 ls (v.toList ++ st) h2 Q) := R_callv (a := a) (rest := st) rfl rfl rfl rfl rfl rfl rfl ht hs
theorem s97_8 : Runs 97 8 ls (.int i :: st) h Q ↔ if ¬ i = 0 then Runs 97 14 ls st h Q else Runs 97 11 ls st h Q := R_ifne rfl rfl
theorem s97_11 : Runs 97 11 ls st h Q ↔ Runs 97 13 ls (.int (-2) :: st) h Q := R_bipush rfl (by decide)
theorem s97_13 : Runs 97 13 ls [.int i] h Q ↔ Q (some (.int i)) h := R_iret rfl rfl
theorem s97_14 : Runs 97 14 [some (.ref a), x1] st h Q ↔ Runs 97 15 [some (.ref a), x1] (.ref a :: st) h Q := R_aldn rfl rfl
theorem s97_14q : Runs 97 14 [some (zrf r), x1] st h Q ↔ Runs 97 15 [some (zrf r), x1] (zrf r :: st) h Q := R_aldnq rfl rfl
theorem s97_15 (ht : tg a = 9) : Runs 97 15 ls (.ref a :: st) (n, tg, ln, I, J, O) Q ↔ Runs 97 18 ls (zrf (O a 0) :: st) (n, tg, ln, I, J, O) Q := R_getr rfl rfl rfl rfl ht
theorem s97_18 : Runs 97 18 [x0, some (.int i)] st h Q ↔ Runs 97 19 [x0, some (.int i)] (.int i :: st) h Q := R_ildn rfl rfl
theorem s97_19 (ht : tg a = 5) (hs : zsumc st ≤ 8) : Runs 97 19 ls (.int i0 :: .ref a :: st) (n, tg, ln, I, J, O) Q ↔ Runs 40 0 [some (.ref a), some (.int i0)] [] (n, tg, ln, I, J, O) (fun v h2 => Runs 97 22 ls (v.toList ++ st) h2 Q) := R_callv (a := a) (rest := st) rfl rfl rfl rfl rfl rfl rfl ht hs
theorem s97_22 : Runs 97 22 ls (.int i :: st) h Q ↔ if ¬ i = 0 then Runs 97 28 ls st h Q else Runs 97 25 ls st h Q := R_ifne rfl rfl
theorem s97_25 : Runs 97 25 ls st h Q ↔ Runs 97 27 ls (.int (-4) :: st) h Q := R_bipush rfl (by decide)
theorem s97_27 : Runs 97 27 ls [.int i] h Q ↔ Q (some (.int i)) h := R_iret rfl rfl
theorem s97_28 : Runs 97 28 [some (.ref a), x1] st h Q ↔ Runs 97 29 [some (.ref a), x1] (.ref a :: st) h Q := R_aldn rfl rfl
theorem s97_28q : Runs 97 28 [some (zrf r), x1] st h Q ↔ Runs 97 29 [some (zrf r), x1] (zrf r :: st) h Q := R_aldnq rfl rfl
theorem s97_29 (ht : tg a = 9) : Runs 97 29 ls (.ref a :: st) (n, tg, ln, I, J, O) Q ↔ Runs 97 32 ls (zrf (O a 1) :: st) (n, tg, ln, I, J, O) Q := R_getr rfl rfl rfl rfl ht
theorem s97_32 : Runs 97 32 [some (.ref a), x1] st h Q ↔ Runs 97 33 [some (.ref a), x1] (.ref a :: st) h Q := R_aldn rfl rfl
theorem s97_32q : Runs 97 32 [some (zrf r), x1] st h Q ↔ Runs 97 33 [some (zrf r), x1] (zrf r :: st) h Q := R_aldnq rfl rfl
theorem s97_33 (ht : tg a = 9) : Runs 97 33 ls (.ref a :: st) (n, tg, ln, I, J, O) Q ↔ Runs 97 36 ls (zrf (O a 0) :: st) (n, tg, ln, I, J, O) Q := R_getr rfl rfl rfl rfl ht
theorem s97_36 (ht : tg a = 5) (hs : zsumc st ≤ 8) : Runs 97 36 ls (.ref b0 :: .ref a :: st) (n, tg, ln, I, J, O) Q ↔ Runs 38 0 [some (.ref a), some (.ref b0)] [] (n, tg, ln, I, J, O) (fun v h2 => Runs 97 39 ls (v.toList ++ st) h2 Q) := R_callv (a := a) (rest := st) rfl rfl rfl rfl rfl rfl rfl ht hs
theorem s97_36q (ht : tg a = 5) (hs : zsumc st ≤ 8) : Runs 97 36 ls (zrf r0 :: .ref a :: st) (n, tg, ln, I, J, O) Q ↔ Runs 38 0 [some (.ref a), some (zrf r0)] [] (n, tg, ln, I, J, O) (fun v h2 => Runs 97 39 ls (v.toList ++ st) h2 Q) := by cases r0 <;> exact R_callv (a := a) (rest := st) rfl rfl rfl rfl rfl rfl rfl ht hs
theorem s97_39 : Runs 97 39 [some (.ref a), x1] st h Q ↔ Runs 97 40 [some (.ref a), x1] (.ref a :: st) h Q := R_aldn rfl rfl
theorem s97_39q : Runs 97 39 [some (zrf r), x1] st h Q ↔ Runs 97 40 [some (zrf r), x1] (zrf r :: st) h Q := R_aldnq rfl rfl
theorem s97_40 : Runs 97 40 [x0, some (.int i)] st h Q ↔ Runs 97 41 [x0, some (.int i)] (.int i :: st) h Q := R_ildn rfl rfl
theorem s97_41 : Runs 97 41 ls st h Q ↔ Runs 97 43 ls (.int 60 :: st) h Q := R_bipush rfl (by decide)
theorem s97_43 (ht : tg a = 9) (hs : zsumc st ≤ 8) : Runs 97 43 ls (.int i1 :: .int i0 :: .ref a :: st) (n, tg, ln, I, J, O) Q ↔ Runs 120 0 [some (.ref a), some (.int i0), some (.int i1), none] [] (n, tg, ln, I, J, O) (fun v h2 => Runs 97 46 ls (v.toList ++ st) h2 Q) := R_callv (a := a) (rest := st) rfl rfl rfl rfl rfl rfl rfl ht hs
theorem s97_46 : Runs 97 46 ls [.int i] h Q ↔ Q (some (.int i)) h := R_iret rfl rfl
theorem s98_0 : Runs 98 0 [some (.ref a), x1, x2, x3] st h Q ↔ Runs 98 1 [some (.ref a), x1, x2, x3] (.ref a :: st) h Q := R_aldn rfl rfl
theorem s98_0q : Runs 98 0 [some (zrf r), x1, x2, x3] st h Q ↔ Runs 98 1 [some (zrf r), x1, x2, x3] (zrf r :: st) h Q := R_aldnq rfl rfl
theorem s98_1 (ht : tg a = 9) : Runs 98 1 ls (.ref a :: st) (n, tg, ln, I, J, O) Q ↔ Runs 98 4 ls (zrf (O a 0) :: st) (n, tg, ln, I, J, O) Q := R_getr rfl rfl rfl rfl ht
theorem s98_4 : Runs 98 4 [x0, some (.int i), x2, x3] st h Q ↔ Runs 98 5 [x0, some (.int i), x2, x3] (.int i :: st) h Q := R_ildn rfl rfl
theorem s98_5 (ht : tg a = 5) (hs : zsumc st ≤ 8) : Runs 98 5 ls (.int i0 :: .ref a :: st) (n, tg, ln, I, J, O) Q ↔ Runs 39 0 [some (.ref a), some (.int i0)] [] (n, tg, ln, I, J, O) (fun v h2 => Runs 98 8 ls (v.toList ++ st) h2 Q) := R_callv (a := a) (rest := st) rfl rfl rfl rfl rfl rfl rfl ht hs
theorem s98_8 : Runs 98 8 ls (.int i :: st) h Q ↔ if ¬ i = 0 then Runs 98 14 ls st h Q else Runs 98 11 ls st h Q := R_ifne rfl rfl
theorem s98_11 : Runs 98 11 ls st h Q ↔ Runs 98 13 ls (.int (-2) :: st) h Q := R_bipush rfl (by decide)
theorem s98_13 : Runs 98 13 ls [.int i] h Q ↔ Q (some (.int i)) h := R_iret rfl rfl
theorem s98_14 : Runs 98 14 [x0, x1, some (.int i), x3] st h Q ↔ Runs 98 15 [x0, x1, some (.int i), x3] (.int i :: st) h Q := R_ildn rfl rfl
theorem s98_15 : Runs 98 15 ls (.int i :: st) h Q ↔ if i < 0 then Runs 98 24 ls st h Q else Runs 98 18 ls st h Q := R_iflt rfl rfl
theorem s98_18 : Runs 98 18 [x0, x1, some (.int i), x3] st h Q ↔ Runs 98 19 [x0, x1, some (.int i), x3] (.int i :: st) h Q := R_ildn rfl rfl
theorem s98_19 : Runs 98 19 ls st h Q ↔ Runs 98 21 ls (.int 60 :: st) h Q := R_bipush rfl (by decide)
theorem s98_21 : Runs 98 21 ls (.int j :: .int i :: st) h Q ↔ if i ≤ j then Runs 98 27 ls st h Q else Runs 98 24 ls st h Q := R_icle rfl rfl
theorem s98_24 : Runs 98 24 ls st h Q ↔ Runs 98 26 ls (.int (-3) :: st) h Q := R_bipush rfl (by decide)
theorem s98_26 : Runs 98 26 ls [.int i] h Q ↔ Q (some (.int i)) h := R_iret rfl rfl
theorem s98_27 : Runs 98 27 [some (.ref a), x1, x2, x3] st h Q ↔ Runs 98 28 [some (.ref a), x1, x2, x3] (.ref a :: st) h Q := R_aldn rfl rfl
theorem s98_27q : Runs 98 27 [some (zrf r), x1, x2, x3] st h Q ↔ Runs 98 28 [some (zrf r), x1, x2, x3] (zrf r :: st) h Q := R_aldnq rfl rfl
theorem s98_28 (ht : tg a = 9) : Runs 98 28 ls (.ref a :: st) (n, tg, ln, I, J, O) Q ↔ Runs 98 31 ls (zrf (O a 1) :: st) (n, tg, ln, I, J, O) Q := R_getr rfl rfl rfl rfl ht
theorem s98_31 : Runs 98 31 [some (.ref a), x1, x2, x3] st h Q ↔ Runs 98 32 [some (.ref a), x1, x2, x3] (.ref a :: st) h Q := R_aldn rfl rfl
theorem s98_31q : Runs 98 31 [some (zrf r), x1, x2, x3] st h Q ↔ Runs 98 32 [some (zrf r), x1, x2, x3] (zrf r :: st) h Q := R_aldnq rfl rfl
theorem s98_32 (ht : tg a = 9) : Runs 98 32 ls (.ref a :: st) (n, tg, ln, I, J, O) Q ↔ Runs 98 35 ls (zrf (O a 0) :: st) (n, tg, ln, I, J, O) Q := R_getr rfl rfl rfl rfl ht
theorem s98_35 (ht : tg a = 5) (hs : zsumc st ≤ 8) : Runs 98 35 ls (.ref b0 :: .ref a :: st) (n, tg, ln, I, J, O) Q ↔ Runs 38 0 [some (.ref a), some (.ref b0)] [] (n, tg, ln, I, J, O) (fun v h2 => Runs 98 38 ls (v.toList ++ st) h2 Q) := R_callv (a := a) (rest := st) rfl rfl rfl rfl rfl rfl rfl ht hs
theorem s98_35q (ht : tg a = 5) (hs : zsumc st ≤ 8) : Runs 98 35 ls (zrf r0 :: .ref a :: st) (n, tg, ln, I, J, O) Q ↔ Runs 38 0 [some (.ref a), some (zrf r0)] [] (n, tg, ln, I, J, O) (fun v h2 => Runs 98 38 ls (v.toList ++ st) h2 Q) := by cases r0 <;> exact R_callv (a := a) (rest := st) rfl rfl rfl rfl rfl rfl rfl ht hs
theorem s98_38 : Runs 98 38 ls st h Q ↔ Runs 98 39 ls (.int 0 :: st) h Q := R_iconst rfl rfl
theorem s98_39 : Runs 98 39 [x0, x1, x2, x3] (.int i :: st) h Q ↔ Runs 98 40 [x0, x1, zdrop x2, some (.int i)] st h Q := R_istn rfl rfl rfl
theorem s98_40 : Runs 98 40 [x0, x1, x2, some (.int i)] st h Q ↔ Runs 98 41 [x0, x1, x2, some (.int i)] (.int i :: st) h Q := R_ildn rfl rfl
theorem s98_41 : Runs 98 41 [x0, x1, some (.int i), x3] st h Q ↔ Runs 98 42 [x0, x1, some (.int i), x3] (.int i :: st) h Q := R_ildn rfl rfl
theorem s98_42 : Runs 98 42 ls (.int j :: .int i :: st) h Q ↔ if j ≤ i then Runs 98 59 ls st h Q else Runs 98 45 ls st h Q := R_icge rfl rfl
theorem s98_45 : Runs 98 45 [some (.ref a), x1, x2, x3] st h Q ↔ Runs 98 46 [some (.ref a), x1, x2, x3] (.ref a :: st) h Q := R_aldn rfl rfl
theorem s98_45q : Runs 98 45 [some (zrf r), x1, x2, x3] st h Q ↔ Runs 98 46 [some (zrf r), x1, x2, x3] (zrf r :: st) h Q := R_aldnq rfl rfl
theorem s98_46 (ht : tg a = 9) : Runs 98 46 ls (.ref a :: st) (n, tg, ln, I, J, O) Q ↔ Runs 98 49 ls (zrf (O a 1) :: st) (n, tg, ln, I, J, O) Q := R_getr rfl rfl rfl rfl ht
theorem s98_49 (ht : tg a = 5) (hs : zsumc st ≤ 8) : Runs 98 49 ls (.ref a :: st) (n, tg, ln, I, J, O) Q ↔ Runs 51 0 [some (.ref a), none, none] [] (n, tg, ln, I, J, O) (fun v h2 => Runs 98 52 ls (v.toList ++ st) h2 Q) := R_callv (a := a) (rest := st) rfl rfl rfl rfl rfl rfl rfl ht hs
theorem s98_52 : Runs 98 52 ls (.int i :: st) h Q ↔ Runs 98 53 ls st h Q := R_pop rfl
theorem s98_53 : Runs 98 53 [x0, x1, x2, some (.int i)] st h Q ↔ Runs 98 56 [x0, x1, zdrop x2, some (.int (i + 1))] st h Q := R_iinc rfl rfl rfl rfl rfl
theorem s98_56 : Runs 98 56 ls st h Q ↔ Runs 98 40 ls st h Q := R_goto rfl rfl
theorem s98_59 : Runs 98 59 [some (.ref a), x1, x2, x3] st h Q ↔ Runs 98 60 [some (.ref a), x1, x2, x3] (.ref a :: st) h Q := R_aldn rfl rfl
theorem s98_59q : Runs 98 59 [some (zrf r), x1, x2, x3] st h Q ↔ Runs 98 60 [some (zrf r), x1, x2, x3] (zrf r :: st) h Q := R_aldnq rfl rfl
theorem s98_60 (ht : tg a = 9) : Runs 98 60 ls (.ref a :: st) (n, tg, ln, I, J, O) Q ↔ Runs 98 63 ls (zrf (O a 1) :: st) (n, tg, ln, I, J, O) Q := R_getr rfl rfl rfl rfl ht
theorem s98_63 : Runs 98 63 [x0, some (.int i), x2, x3] st h Q ↔ Runs 98 64 [x0, some (.int i), x2, x3] (.int i :: st) h Q := R_ildn rfl rfl
theorem s98_64 (ht : tg a = 5) (hs : zsumc st ≤ 8) : Runs 98 64 ls (.int i0 :: .ref a :: st) (n, tg, ln, I, J, O) Q ↔ Runs 40 0 [some (.ref a), some (.int i0)] [] (n, tg, ln, I, J, O) (fun v h2 => Runs 98 67 ls (v.toList ++ st) h2 Q) := R_callv (a := a) (rest := st) rfl rfl rfl rfl rfl rfl rfl ht hs
theorem s98_67 : Runs 98 67 ls (.int i :: st) h Q ↔ if i = 0 then Runs 98 94 ls st h Q else Runs 98 70 ls st h Q := R_ifeq rfl rfl
theorem s98_70 : Runs 98 70 ls st h Q ↔ Runs 98 72 ls (.int 100 :: st) h Q := R_bipush rfl (by decide)
theorem s98_72 : Runs 98 72 [some (.ref a), x1, x2, x3] st h Q ↔ Runs 98 73 [some (.ref a), x1, x2, x3] (.ref a :: st) h Q := R_aldn rfl rfl
theorem s98_72q : Runs 98 72 [some (zrf r), x1, x2, x3] st h Q ↔ Runs 98 73 [some (zrf r), x1, x2, x3] (zrf r :: st) h Q := R_aldnq rfl rfl
theorem s98_73 (ht : tg a = 9) : Runs 98 73 ls (.ref a :: st) (n, tg, ln, I, J, O) Q ↔ Runs 98 76 ls (zrf (O a 1) :: st) (n, tg, ln, I, J, O) Q := R_getr rfl rfl rfl rfl ht
theorem s98_76 (ht : tg a = 5) : Runs 98 76 ls (.ref a :: st) (n, tg, ln, I, J, O) Q ↔ Runs 98 79 ls (zrf (O a 4) :: st) (n, tg, ln, I, J, O) Q := R_getr rfl rfl rfl rfl ht
theorem s98_79 : Runs 98 79 [x0, some (.int i), x2, x3] st h Q ↔ Runs 98 80 [x0, some (.int i), x2, x3] (.int i :: st) h Q := R_ildn rfl rfl
theorem s98_80 (ht : tg a = 20) : Runs 98 80 ls (.int i :: .ref a :: st) (n, tg, ln, I, J, O) Q ↔ ((0 ≤ i ∧ i < Int32.ofNat (ln a)) ∧ Runs 98 81 ls (.int (I a i) :: st) (n, tg, ln, I, J, O) Q) := R_iald rfl ht
theorem s98_81 : Runs 98 81 ls (.int j :: .int i :: st) h Q ↔ Runs 98 82 ls (.int (i * j) :: st) h Q := R_imul rfl
theorem s98_82 : Runs 98 82 [some (.ref a), x1, x2, x3] st h Q ↔ Runs 98 83 [some (.ref a), x1, x2, x3] (.ref a :: st) h Q := R_aldn rfl rfl
theorem s98_82q : Runs 98 82 [some (zrf r), x1, x2, x3] st h Q ↔ Runs 98 83 [some (zrf r), x1, x2, x3] (zrf r :: st) h Q := R_aldnq rfl rfl
theorem s98_83 (ht : tg a = 9) : Runs 98 83 ls (.ref a :: st) (n, tg, ln, I, J, O) Q ↔ Runs 98 86 ls (zrf (O a 1) :: st) (n, tg, ln, I, J, O) Q := R_getr rfl rfl rfl rfl ht
theorem s98_86 : Runs 98 86 [x0, some (.int i), x2, x3] st h Q ↔ Runs 98 87 [x0, some (.int i), x2, x3] (.int i :: st) h Q := R_ildn rfl rfl
theorem s98_87 (ht : tg a = 5) (hs : zsumc st ≤ 8) : Runs 98 87 ls (.int i0 :: .ref a :: st) (n, tg, ln, I, J, O) Q ↔ Runs 43 0 [some (.ref a), some (.int i0)] [] (n, tg, ln, I, J, O) (fun v h2 => Runs 98 90 ls (v.toList ++ st) h2 Q) := R_callv (a := a) (rest := st) rfl rfl rfl rfl rfl rfl rfl ht hs
theorem s98_90 : Runs 98 90 ls (.int j :: .int i :: st) h Q ↔ Runs 98 91 ls (.int (i + j) :: st) h Q := R_iadd rfl
theorem s98_91 : Runs 98 91 ls st h Q ↔ Runs 98 95 ls st h Q := R_goto rfl rfl
theorem s98_94 : Runs 98 94 ls st h Q ↔ Runs 98 95 ls (.int (-1) :: st) h Q := R_iconst rfl rfl
theorem s98_95 : Runs 98 95 ls [.int i] h Q ↔ Q (some (.int i)) h := R_iret rfl rfl
theorem s99_0 : Runs 99 0 [x0, some (.int i), x2, x3, x4] st h Q ↔ Runs 99 1 [x0, some (.int i), x2, x3, x4] (.int i :: st) h Q := R_ildn rfl rfl
theorem s99_1 : Runs 99 1 ls (.int i :: st) h Q ↔ if i < 0 then Runs 99 10 ls st h Q else Runs 99 4 ls st h Q := R_iflt rfl rfl
theorem s99_4 : Runs 99 4 [x0, some (.int i), x2, x3, x4] st h Q ↔ Runs 99 5 [x0, some (.int i), x2, x3, x4] (.int i :: st) h Q := R_ildn rfl rfl
theorem s99_5 : Runs 99 5 ls st h Q ↔ Runs 99 7 ls (.int 12 :: st) h Q := R_bipush rfl (by decide)
theorem s99_7 : Runs 99 7 ls (.int j :: .int i :: st) h Q ↔ if i < j then Runs 99 13 ls st h Q else Runs 99 10 ls st h Q := R_iclt rfl rfl
theorem s99_10 : Runs 99 10 ls st h Q ↔ Runs 99 12 ls (.int (-3) :: st) h Q := R_bipush rfl (by decide)
theorem s99_12 : Runs 99 12 ls [.int i] h Q ↔ Q (some (.int i)) h := R_iret rfl rfl
theorem s99_13 : Runs 99 13 [some (.ref a), x1, x2, x3, x4] st h Q ↔ Runs 99 14 [some (.ref a), x1, x2, x3, x4] (.ref a :: st) h Q := R_aldn rfl rfl
theorem s99_13q : Runs 99 13 [some (zrf r), x1, x2, x3, x4] st h Q ↔ Runs 99 14 [some (zrf r), x1, x2, x3, x4] (zrf r :: st) h Q := R_aldnq rfl rfl
theorem s99_14 (ht : tg a = 9) : Runs 99 14 ls (.ref a :: st) (n, tg, ln, I, J, O) Q ↔ Runs 99 17 ls (zrf (O a 1) :: st) (n, tg, ln, I, J, O) Q := R_getr rfl rfl rfl rfl ht
theorem s99_17 : Runs 99 17 [some (.ref a), x1, x2, x3, x4] st h Q ↔ Runs 99 18 [some (.ref a), x1, x2, x3, x4] (.ref a :: st) h Q := R_aldn rfl rfl
theorem s99_17q : Runs 99 17 [some (zrf r), x1, x2, x3, x4] st h Q ↔ Runs 99 18 [some (zrf r), x1, x2, x3, x4] (zrf r :: st) h Q := R_aldnq rfl rfl
theorem s99_18 (ht : tg a = 9) : Runs 99 18 ls (.ref a :: st) (n, tg, ln, I, J, O) Q ↔ Runs 99 21 ls (zrf (O a 0) :: st) (n, tg, ln, I, J, O) Q := R_getr rfl rfl rfl rfl ht
theorem s99_21 (ht : tg a = 5) (hs : zsumc st ≤ 8) : Runs 99 21 ls (.ref b0 :: .ref a :: st) (n, tg, ln, I, J, O) Q ↔ Runs 38 0 [some (.ref a), some (.ref b0)] [] (n, tg, ln, I, J, O) (fun v h2 => Runs 99 24 ls (v.toList ++ st) h2 Q) := R_callv (a := a) (rest := st) rfl rfl rfl rfl rfl rfl rfl ht hs
theorem s99_21q (ht : tg a = 5) (hs : zsumc st ≤ 8) : Runs 99 21 ls (zrf r0 :: .ref a :: st) (n, tg, ln, I, J, O) Q ↔ Runs 38 0 [some (.ref a), some (zrf r0)] [] (n, tg, ln, I, J, O) (fun v h2 => Runs 99 24 ls (v.toList ++ st) h2 Q) := by cases r0 <;> exact R_callv (a := a) (rest := st) rfl rfl rfl rfl rfl rfl rfl ht hs
theorem s99_24 : Runs 99 24 [x0, some (.int i), x2, x3, x4] st h Q ↔ Runs 99 25 [x0, some (.int i), x2, x3, x4] (.int i :: st) h Q := R_ildn rfl rfl
theorem s99_25 : Runs 99 25 [x0, x1, x2, x3, x4] (.int i :: st) h Q ↔ Runs 99 26 [x0, zdrop x1, some (.int i), x3, x4] st h Q := R_istn rfl rfl rfl
theorem s99_26 : Runs 99 26 ls st h Q ↔ Runs 99 27 ls (.int 0 :: st) h Q := R_iconst rfl rfl
theorem s99_27 : Runs 99 27 [x0, x1, x2, x3, x4] (.int i :: st) h Q ↔ Runs 99 28 [x0, x1, zdrop x2, some (.int i), x4] st h Q := R_istn rfl rfl rfl
theorem s99_28 : Runs 99 28 [x0, x1, x2, some (.int i), x4] st h Q ↔ Runs 99 29 [x0, x1, x2, some (.int i), x4] (.int i :: st) h Q := R_ildn rfl rfl
theorem s99_29 : Runs 99 29 ls st h Q ↔ Runs 99 31 ls (.int 60 :: st) h Q := R_bipush rfl (by decide)
theorem s99_31 : Runs 99 31 ls (.int j :: .int i :: st) h Q ↔ if j ≤ i then Runs 99 73 ls st h Q else Runs 99 34 ls st h Q := R_icge rfl rfl
theorem s99_34 : Runs 99 34 [some (.ref a), x1, x2, x3, x4] st h Q ↔ Runs 99 35 [some (.ref a), x1, x2, x3, x4] (.ref a :: st) h Q := R_aldn rfl rfl
theorem s99_34q : Runs 99 34 [some (zrf r), x1, x2, x3, x4] st h Q ↔ Runs 99 35 [some (zrf r), x1, x2, x3, x4] (zrf r :: st) h Q := R_aldnq rfl rfl
theorem s99_35 (ht : tg a = 9) : Runs 99 35 ls (.ref a :: st) (n, tg, ln, I, J, O) Q ↔ Runs 99 38 ls (zrf (O a 1) :: st) (n, tg, ln, I, J, O) Q := R_getr rfl rfl rfl rfl ht
theorem s99_38 (ht : tg a = 5) (hs : zsumc st ≤ 8) : Runs 99 38 ls (.ref a :: st) (n, tg, ln, I, J, O) Q ↔ Runs 51 0 [some (.ref a), none, none] [] (n, tg, ln, I, J, O) (fun v h2 => Runs 99 41 ls (v.toList ++ st) h2 Q) := R_callv (a := a) (rest := st) rfl rfl rfl rfl rfl rfl rfl ht hs
theorem s99_41 : Runs 99 41 [x0, x1, x2, x3, x4] (.int i :: st) h Q ↔ Runs 99 43 [x0, x1, x2, zdrop x3, some (.int i)] st h Q := R_ist rfl rfl rfl
theorem s99_43 : Runs 99 43 [x0, x1, x2, x3, some (.int i)] st h Q ↔ Runs 99 45 [x0, x1, x2, x3, some (.int i)] (.int i :: st) h Q := R_ild rfl rfl
theorem s99_45 : Runs 99 45 ls st h Q ↔ Runs 99 47 ls (.int 99 :: st) h Q := R_bipush rfl (by decide)
theorem s99_47 : Runs 99 47 ls (.int j :: .int i :: st) h Q ↔ if i = j then Runs 99 57 ls st h Q else Runs 99 50 ls st h Q := R_iceq rfl rfl
theorem s99_50 : Runs 99 50 [x0, x1, some (.int i), x3, x4] st h Q ↔ Runs 99 51 [x0, x1, some (.int i), x3, x4] (.int i :: st) h Q := R_ildn rfl rfl
theorem s99_51 : Runs 99 51 ls (.int i :: st) h Q ↔ if ¬ i = 0 then Runs 99 57 ls st h Q else Runs 99 54 ls st h Q := R_ifne rfl rfl
theorem s99_54 : Runs 99 54 [x0, x1, x2, x3, some (.int i)] st h Q ↔ Runs 99 56 [x0, x1, x2, x3, some (.int i)] (.int i :: st) h Q := R_ild rfl rfl
theorem s99_56 : Runs 99 56 ls [.int i] h Q ↔ Q (some (.int i)) h := R_iret rfl rfl
theorem s99_57 : Runs 99 57 [x0, x1, x2, x3, some (.int i)] st h Q ↔ Runs 99 59 [x0, x1, x2, x3, some (.int i)] (.int i :: st) h Q := R_ild rfl rfl
theorem s99_59 : Runs 99 59 ls st h Q ↔ Runs 99 61 ls (.int 99 :: st) h Q := R_bipush rfl (by decide)
theorem s99_61 : Runs 99 61 ls (.int j :: .int i :: st) h Q ↔ if i = j then Runs 99 67 ls st h Q else Runs 99 64 ls st h Q := R_iceq rfl rfl
theorem s99_64 : Runs 99 64 [x0, x1, some (.int i), x3, x4] st h Q ↔ Runs 99 67 [x0, zdrop x1, some (.int (i + (-1))), x3, x4] st h Q := R_iinc rfl rfl rfl rfl rfl
theorem s99_67 : Runs 99 67 [x0, x1, x2, some (.int i), x4] st h Q ↔ Runs 99 70 [x0, x1, zdrop x2, some (.int (i + 1)), x4] st h Q := R_iinc rfl rfl rfl rfl rfl
theorem s99_70 : Runs 99 70 ls st h Q ↔ Runs 99 28 ls st h Q := R_goto rfl rfl
theorem s99_73 : Runs 99 73 ls st h Q ↔ Runs 99 74 ls (.int (-1) :: st) h Q := R_iconst rfl rfl
theorem s99_74 : Runs 99 74 ls [.int i] h Q ↔ Q (some (.int i)) h := R_iret rfl rfl
theorem s100_0 : Runs 100 0 [x0, some (.int i), x2, x3, x4, x5, x6] st h Q ↔ Runs 100 1 [x0, some (.int i), x2, x3, x4, x5, x6] (.int i :: st) h Q := R_ildn rfl rfl
theorem s100_1 : Runs 100 1 [x0, x1, some (.int i), x3, x4, x5, x6] st h Q ↔ Runs 100 2 [x0, x1, some (.int i), x3, x4, x5, x6] (.int i :: st) h Q := R_ildn rfl rfl
theorem s100_2 (hs : zsumc st ≤ 8) : Runs 100 2 ls (.int i1 :: .int i0 :: st) h Q ↔ Runs 119 0 [some (.int i0), some (.int i1)] [] h (fun v h2 => Runs 100 5 ls (v.toList ++ st) h2 Q) := R_calls (rest := st) rfl rfl rfl (by simp) rfl rfl rfl rfl hs
theorem s100_5 : Runs 100 5 ls (.int i :: st) h Q ↔ if ¬ i = 0 then Runs 100 11 ls st h Q else Runs 100 8 ls st h Q := R_ifne rfl rfl
theorem s100_8 : Runs 100 8 ls st h Q ↔ Runs 100 10 ls (.int (-3) :: st) h Q := R_bipush rfl (by decide)
theorem s100_10 : Runs 100 10 ls [.int i] h Q ↔ Q (some (.int i)) h := R_iret rfl rfl
theorem s100_11 : Runs 100 11 [some (.ref a), x1, x2, x3, x4, x5, x6] st h Q ↔ Runs 100 12 [some (.ref a), x1, x2, x3, x4, x5, x6] (.ref a :: st) h Q := R_aldn rfl rfl
theorem s100_11q : Runs 100 11 [some (zrf r), x1, x2, x3, x4, x5, x6] st h Q ↔ Runs 100 12 [some (zrf r), x1, x2, x3, x4, x5, x6] (zrf r :: st) h Q := R_aldnq rfl rfl
theorem s100_12 (ht : tg a = 9) : Runs 100 12 ls (.ref a :: st) (n, tg, ln, I, J, O) Q ↔ Runs 100 15 ls (zrf (O a 0) :: st) (n, tg, ln, I, J, O) Q := R_getr rfl rfl rfl rfl ht
theorem s100_15 (ht : tg a = 5) : Runs 100 15 ls (.ref a :: st) (n, tg, ln, I, J, O) Q ↔ Runs 100 18 ls (.int (I a 5) :: st) (n, tg, ln, I, J, O) Q := R_geti rfl rfl rfl rfl ht
theorem s100_18 : Runs 100 18 ls st h Q ↔ Runs 100 20 ls (.int 12 :: st) h Q := R_bipush rfl (by decide)
theorem s100_20 : Runs 100 20 ls (.int j :: .int i :: st) h Q ↔ if i < j then Runs 100 26 ls st h Q else Runs 100 23 ls st h Q := R_iclt rfl rfl
theorem s100_23 : Runs 100 23 ls st h Q ↔ Runs 100 25 ls (.int (-5) :: st) h Q := R_bipush rfl (by decide)
theorem s100_25 : Runs 100 25 ls [.int i] h Q ↔ Q (some (.int i)) h := R_iret rfl rfl
theorem s100_26 : Runs 100 26 ls st h Q ↔ Runs 100 27 ls (.int (-1) :: st) h Q := R_iconst rfl rfl
theorem s100_27 : Runs 100 27 [x0, x1, x2, x3, x4, x5, x6] (.int i :: st) h Q ↔ Runs 100 28 [x0, x1, zdrop x2, some (.int i), x4, x5, x6] st h Q := R_istn rfl rfl rfl
theorem s100_28 : Runs 100 28 ls st h Q ↔ Runs 100 30 ls (.int 61 :: st) h Q := R_bipush rfl (by decide)
theorem s100_30 : Runs 100 30 [x0, x1, x2, x3, x4, x5, x6] (.int i :: st) h Q ↔ Runs 100 32 [x0, x1, x2, zdrop x3, some (.int i), x5, x6] st h Q := R_ist rfl rfl rfl
theorem s100_32 : Runs 100 32 ls st h Q ↔ Runs 100 33 ls (.int 0 :: st) h Q := R_iconst rfl rfl
theorem s100_33 : Runs 100 33 [x0, x1, x2, x3, x4, x5, x6] (.int i :: st) h Q ↔ Runs 100 35 [x0, x1, x2, x3, zdrop x4, some (.int i), x6] st h Q := R_ist rfl rfl rfl
theorem s100_35 : Runs 100 35 [x0, x1, x2, x3, x4, some (.int i), x6] st h Q ↔ Runs 100 37 [x0, x1, x2, x3, x4, some (.int i), x6] (.int i :: st) h Q := R_ild rfl rfl
theorem s100_37 : Runs 100 37 ls st h Q ↔ Runs 100 38 ls (.int 2 :: st) h Q := R_iconst rfl rfl
theorem s100_38 : Runs 100 38 ls (.int j :: .int i :: st) h Q ↔ if j ≤ i then Runs 100 77 ls st h Q else Runs 100 41 ls st h Q := R_icge rfl rfl
theorem s100_41 : Runs 100 41 [some (.ref a), x1, x2, x3, x4, x5, x6] st h Q ↔ Runs 100 42 [some (.ref a), x1, x2, x3, x4, x5, x6] (.ref a :: st) h Q := R_aldn rfl rfl
theorem s100_41q : Runs 100 41 [some (zrf r), x1, x2, x3, x4, x5, x6] st h Q ↔ Runs 100 42 [some (zrf r), x1, x2, x3, x4, x5, x6] (zrf r :: st) h Q := R_aldnq rfl rfl
theorem s100_42 : Runs 100 42 [x0, x1, x2, x3, x4, some (.int i), x6] st h Q ↔ Runs 100 44 [x0, x1, x2, x3, x4, some (.int i), x6] (.int i :: st) h Q := R_ild rfl rfl
theorem s100_44 : Runs 100 44 [x0, some (.int i), x2, x3, x4, x5, x6] st h Q ↔ Runs 100 45 [x0, some (.int i), x2, x3, x4, x5, x6] (.int i :: st) h Q := R_ildn rfl rfl
theorem s100_45 : Runs 100 45 [x0, x1, some (.int i), x3, x4, x5, x6] st h Q ↔ Runs 100 46 [x0, x1, some (.int i), x3, x4, x5, x6] (.int i :: st) h Q := R_ildn rfl rfl
theorem s100_46 (ht : tg a = 9) (hs : zsumc st ≤ 8) : Runs 100 46 ls (.int i2 :: .int i1 :: .int i0 :: .ref a :: st) (n, tg, ln, I, J, O) Q ↔ Runs 121 0 [some (.ref a), some (.int i0), some (.int i1), some (.int i2)] [] (n, tg, ln, I, J, O) (fun v h2 => Runs 100 49 ls (v.toList ++ st) h2 Q) := R_callv (a := a) (rest := st) rfl rfl rfl rfl rfl rfl rfl ht hs
theorem s100_49 : Runs 100 49 [x0, x1, x2, x3, x4, x5, x6] (.int i :: st) h Q ↔ Runs 100 51 [x0, x1, x2, x3, x4, zdrop x5, some (.int i)] st h Q := R_ist rfl rfl rfl
theorem s100_51 : Runs 100 51 [x0, x1, x2, x3, x4, x5, some (.int i)] st h Q ↔ Runs 100 53 [x0, x1, x2, x3, x4, x5, some (.int i)] (.int i :: st) h Q := R_ild rfl rfl
theorem s100_53 : Runs 100 53 ls st h Q ↔ Runs 100 54 ls (.int (-1) :: st) h Q := R_iconst rfl rfl
theorem s100_54 : Runs 100 54 ls (.int j :: .int i :: st) h Q ↔ if i = j then Runs 100 71 ls st h Q else Runs 100 57 ls st h Q := R_iceq rfl rfl
theorem s100_57 : Runs 100 57 [x0, x1, x2, x3, x4, x5, some (.int i)] st h Q ↔ Runs 100 59 [x0, x1, x2, x3, x4, x5, some (.int i)] (.int i :: st) h Q := R_ild rfl rfl
theorem s100_59 : Runs 100 59 [x0, x1, x2, x3, some (.int i), x5, x6] st h Q ↔ Runs 100 61 [x0, x1, x2, x3, some (.int i), x5, x6] (.int i :: st) h Q := R_ild rfl rfl
theorem s100_61 : Runs 100 61 ls (.int j :: .int i :: st) h Q ↔ if j ≤ i then Runs 100 71 ls st h Q else Runs 100 64 ls st h Q := R_icge rfl rfl
theorem s100_64 : Runs 100 64 [x0, x1, x2, x3, x4, some (.int i), x6] st h Q ↔ Runs 100 66 [x0, x1, x2, x3, x4, some (.int i), x6] (.int i :: st) h Q := R_ild rfl rfl
theorem s100_66 : Runs 100 66 [x0, x1, x2, x3, x4, x5, x6] (.int i :: st) h Q ↔ Runs 100 67 [x0, x1, zdrop x2, some (.int i), x4, x5, x6] st h Q := R_istn rfl rfl rfl
theorem s100_67 : Runs 100 67 [x0, x1, x2, x3, x4, x5, some (.int i)] st h Q ↔ Runs 100 69 [x0, x1, x2, x3, x4, x5, some (.int i)] (.int i :: st) h Q := R_ild rfl rfl
theorem s100_69 : Runs 100 69 [x0, x1, x2, x3, x4, x5, x6] (.int i :: st) h Q ↔ Runs 100 71 [x0, x1, x2, zdrop x3, some (.int i), x5, x6] st h Q := R_ist rfl rfl rfl
theorem s100_71 : Runs 100 71 [x0, x1, x2, x3, x4, some (.int i), x6] st h Q ↔ Runs 100 74 [x0, x1, x2, x3, zdrop x4, some (.int (i + 1)), x6] st h Q := R_iinc rfl rfl rfl rfl rfl
theorem s100_74 : Runs 100 74 ls st h Q ↔ Runs 100 35 ls st h Q := R_goto rfl rfl
theorem s100_77 : Runs 100 77 [x0, x1, x2, some (.int i), x4, x5, x6] st h Q ↔ Runs 100 78 [x0, x1, x2, some (.int i), x4, x5, x6] (.int i :: st) h Q := R_ildn rfl rfl
theorem s100_78 : Runs 100 78 ls [.int i] h Q ↔ Q (some (.int i)) h := R_iret rfl rfl
theorem s101_0 : Runs 101 0 [some (.ref a), x1, x2] st h Q ↔ Runs 101 1 [some (.ref a), x1, x2] (.ref a :: st) h Q := R_aldn rfl rfl
theorem s101_0q : Runs 101 0 [some (zrf r), x1, x2] st h Q ↔ Runs 101 1 [some (zrf r), x1, x2] (zrf r :: st) h Q := R_aldnq rfl rfl
theorem s101_1 (ht : tg a = 9) : Runs 101 1 ls (.ref a :: st) (n, tg, ln, I, J, O) Q ↔ Runs 101 4 ls (zrf (O a 0) :: st) (n, tg, ln, I, J, O) Q := R_getr rfl rfl rfl rfl ht
theorem s101_4 : Runs 101 4 [x0, some (.int i), x2] st h Q ↔ Runs 101 5 [x0, some (.int i), x2] (.int i :: st) h Q := R_ildn rfl rfl
theorem s101_5 (ht : tg a = 5) (hs : zsumc st ≤ 8) : Runs 101 5 ls (.int i0 :: .ref a :: st) (n, tg, ln, I, J, O) Q ↔ Runs 39 0 [some (.ref a), some (.int i0)] [] (n, tg, ln, I, J, O) (fun v h2 => Runs 101 8 ls (v.toList ++ st) h2 Q) := R_callv (a := a) (rest := st) rfl rfl rfl rfl rfl rfl rfl ht hs
theorem s101_8 : Runs 101 8 ls (.int i :: st) h Q ↔ if ¬ i = 0 then Runs 101 14 ls st h Q else Runs 101 11 ls st h Q := R_ifne rfl rfl
theorem s101_11 : Runs 101 11 ls st h Q ↔ Runs 101 13 ls (.int (-2) :: st) h Q := R_bipush rfl (by decide)
theorem s101_13 : Runs 101 13 ls [.int i] h Q ↔ Q (some (.int i)) h := R_iret rfl rfl
theorem s101_14 : Runs 101 14 [x0, x1, some (.int i)] st h Q ↔ Runs 101 15 [x0, x1, some (.int i)] (.int i :: st) h Q := R_ildn rfl rfl
theorem s101_15 : Runs 101 15 ls st h Q ↔ Runs 101 16 ls (.int 1 :: st) h Q := R_iconst rfl rfl
theorem s101_16 : Runs 101 16 ls (.int j :: .int i :: st) h Q ↔ if i < j then Runs 101 25 ls st h Q else Runs 101 19 ls st h Q := R_iclt rfl rfl
theorem s101_19 : Runs 101 19 [x0, x1, some (.int i)] st h Q ↔ Runs 101 20 [x0, x1, some (.int i)] (.int i :: st) h Q := R_ildn rfl rfl
theorem s101_20 : Runs 101 20 ls st h Q ↔ Runs 101 22 ls (.int 60 :: st) h Q := R_bipush rfl (by decide)
theorem s101_22 : Runs 101 22 ls (.int j :: .int i :: st) h Q ↔ if i ≤ j then Runs 101 28 ls st h Q else Runs 101 25 ls st h Q := R_icle rfl rfl
theorem s101_25 : Runs 101 25 ls st h Q ↔ Runs 101 27 ls (.int (-3) :: st) h Q := R_bipush rfl (by decide)
theorem s101_27 : Runs 101 27 ls [.int i] h Q ↔ Q (some (.int i)) h := R_iret rfl rfl
theorem s101_28 : Runs 101 28 [some (.ref a), x1, x2] st h Q ↔ Runs 101 29 [some (.ref a), x1, x2] (.ref a :: st) h Q := R_aldn rfl rfl
theorem s101_28q : Runs 101 28 [some (zrf r), x1, x2] st h Q ↔ Runs 101 29 [some (zrf r), x1, x2] (zrf r :: st) h Q := R_aldnq rfl rfl
theorem s101_29 (ht : tg a = 9) : Runs 101 29 ls (.ref a :: st) (n, tg, ln, I, J, O) Q ↔ Runs 101 32 ls (zrf (O a 0) :: st) (n, tg, ln, I, J, O) Q := R_getr rfl rfl rfl rfl ht
theorem s101_32 : Runs 101 32 [x0, some (.int i), x2] st h Q ↔ Runs 101 33 [x0, some (.int i), x2] (.int i :: st) h Q := R_ildn rfl rfl
theorem s101_33 (ht : tg a = 5) (hs : zsumc st ≤ 8) : Runs 101 33 ls (.int i0 :: .ref a :: st) (n, tg, ln, I, J, O) Q ↔ Runs 40 0 [some (.ref a), some (.int i0)] [] (n, tg, ln, I, J, O) (fun v h2 => Runs 101 36 ls (v.toList ++ st) h2 Q) := R_callv (a := a) (rest := st) rfl rfl rfl rfl rfl rfl rfl ht hs
theorem s101_36 : Runs 101 36 ls (.int i :: st) h Q ↔ if ¬ i = 0 then Runs 101 42 ls st h Q else Runs 101 39 ls st h Q := R_ifne rfl rfl
theorem s101_39 : Runs 101 39 ls st h Q ↔ Runs 101 41 ls (.int (-4) :: st) h Q := R_bipush rfl (by decide)
theorem s101_41 : Runs 101 41 ls [.int i] h Q ↔ Q (some (.int i)) h := R_iret rfl rfl
theorem s101_42 : Runs 101 42 [some (.ref a), x1, x2] st h Q ↔ Runs 101 43 [some (.ref a), x1, x2] (.ref a :: st) h Q := R_aldn rfl rfl
theorem s101_42q : Runs 101 42 [some (zrf r), x1, x2] st h Q ↔ Runs 101 43 [some (zrf r), x1, x2] (zrf r :: st) h Q := R_aldnq rfl rfl
theorem s101_43 : Runs 101 43 [x0, some (.int i), x2] st h Q ↔ Runs 101 44 [x0, some (.int i), x2] (.int i :: st) h Q := R_ildn rfl rfl
theorem s101_44 : Runs 101 44 [x0, x1, some (.int i)] st h Q ↔ Runs 101 45 [x0, x1, some (.int i)] (.int i :: st) h Q := R_ildn rfl rfl
theorem s101_45 (ht : tg a = 9) (hs : zsumc st ≤ 8) : Runs 101 45 ls (.int i1 :: .int i0 :: .ref a :: st) (n, tg, ln, I, J, O) Q ↔ Runs 122 0 [some (.ref a), some (.int i0), some (.int i1), none, none, none] [] (n, tg, ln, I, J, O) (fun v h2 => Runs 101 48 ls (v.toList ++ st) h2 Q) := R_callv (a := a) (rest := st) rfl rfl rfl rfl rfl rfl rfl ht hs
theorem s101_48 : Runs 101 48 ls [.int i] h Q ↔ Q (some (.int i)) h := R_iret rfl rfl
theorem s102_0 : Runs 102 0 [x0, some (.int i), x2, x3] st h Q ↔ Runs 102 1 [x0, some (.int i), x2, x3] (.int i :: st) h Q := R_ildn rfl rfl
theorem s102_1 : Runs 102 1 ls (.int i :: st) h Q ↔ if i < 0 then Runs 102 9 ls st h Q else Runs 102 4 ls st h Q := R_iflt rfl rfl
theorem s102_4 : Runs 102 4 [x0, some (.int i), x2, x3] st h Q ↔ Runs 102 5 [x0, some (.int i), x2, x3] (.int i :: st) h Q := R_ildn rfl rfl
theorem s102_5 : Runs 102 5 ls st h Q ↔ Runs 102 6 ls (.int 2 :: st) h Q := R_iconst rfl rfl
theorem s102_6 : Runs 102 6 ls (.int j :: .int i :: st) h Q ↔ if i ≤ j then Runs 102 12 ls st h Q else Runs 102 9 ls st h Q := R_icle rfl rfl
theorem s102_9 : Runs 102 9 ls st h Q ↔ Runs 102 11 ls (.int (-3) :: st) h Q := R_bipush rfl (by decide)
theorem s102_11 : Runs 102 11 ls [.int i] h Q ↔ Q (some (.int i)) h := R_iret rfl rfl
theorem s102_12 : Runs 102 12 [some (.ref a), x1, x2, x3] st h Q ↔ Runs 102 13 [some (.ref a), x1, x2, x3] (.ref a :: st) h Q := R_aldn rfl rfl
theorem s102_12q : Runs 102 12 [some (zrf r), x1, x2, x3] st h Q ↔ Runs 102 13 [some (zrf r), x1, x2, x3] (zrf r :: st) h Q := R_aldnq rfl rfl
theorem s102_13 (ht : tg a = 9) : Runs 102 13 ls (.ref a :: st) (n, tg, ln, I, J, O) Q ↔ Runs 102 16 ls (zrf (O a 1) :: st) (n, tg, ln, I, J, O) Q := R_getr rfl rfl rfl rfl ht
theorem s102_16 : Runs 102 16 [some (.ref a), x1, x2, x3] st h Q ↔ Runs 102 17 [some (.ref a), x1, x2, x3] (.ref a :: st) h Q := R_aldn rfl rfl
theorem s102_16q : Runs 102 16 [some (zrf r), x1, x2, x3] st h Q ↔ Runs 102 17 [some (zrf r), x1, x2, x3] (zrf r :: st) h Q := R_aldnq rfl rfl
theorem s102_17 (ht : tg a = 9) : Runs 102 17 ls (.ref a :: st) (n, tg, ln, I, J, O) Q ↔ Runs 102 20 ls (zrf (O a 0) :: st) (n, tg, ln, I, J, O) Q := R_getr rfl rfl rfl rfl ht
theorem s102_20 (ht : tg a = 5) (hs : zsumc st ≤ 8) : Runs 102 20 ls (.ref b0 :: .ref a :: st) (n, tg, ln, I, J, O) Q ↔ Runs 38 0 [some (.ref a), some (.ref b0)] [] (n, tg, ln, I, J, O) (fun v h2 => Runs 102 23 ls (v.toList ++ st) h2 Q) := R_callv (a := a) (rest := st) rfl rfl rfl rfl rfl rfl rfl ht hs
theorem s102_20q (ht : tg a = 5) (hs : zsumc st ≤ 8) : Runs 102 20 ls (zrf r0 :: .ref a :: st) (n, tg, ln, I, J, O) Q ↔ Runs 38 0 [some (.ref a), some (zrf r0)] [] (n, tg, ln, I, J, O) (fun v h2 => Runs 102 23 ls (v.toList ++ st) h2 Q) := by cases r0 <;> exact R_callv (a := a) (rest := st) rfl rfl rfl rfl rfl rfl rfl ht hs
theorem s102_23 : Runs 102 23 [some (.ref a), x1, x2, x3] st h Q ↔ Runs 102 24 [some (.ref a), x1, x2, x3] (.ref a :: st) h Q := R_aldn rfl rfl
theorem s102_23q : Runs 102 23 [some (zrf r), x1, x2, x3] st h Q ↔ Runs 102 24 [some (zrf r), x1, x2, x3] (zrf r :: st) h Q := R_aldnq rfl rfl
theorem s102_24 (ht : tg a = 9) : Runs 102 24 ls (.ref a :: st) (n, tg, ln, I, J, O) Q ↔ Runs 102 27 ls (zrf (O a 1) :: st) (n, tg, ln, I, J, O) Q := R_getr rfl rfl rfl rfl ht
theorem s102_27 : Runs 102 27 [x0, some (.int i), x2, x3] st h Q ↔ Runs 102 28 [x0, some (.int i), x2, x3] (.int i :: st) h Q := R_ildn rfl rfl
theorem s102_28 (ht : tg a = 5) : Runs 102 28 ls (.int i :: .ref a :: st) (n, tg, ln, I, J, O) Q ↔ Runs 102 31 ls st (n, tg, ln, zu I a 6 i, J, O) Q := R_puti rfl rfl rfl rfl rfl rfl ht
theorem s102_31 : Runs 102 31 ls st h Q ↔ Runs 102 32 ls (.int 0 :: st) h Q := R_iconst rfl rfl
theorem s102_32 : Runs 102 32 [x0, x1, x2, x3] (.int i :: st) h Q ↔ Runs 102 33 [x0, zdrop x1, some (.int i), x3] st h Q := R_istn rfl rfl rfl
theorem s102_33 : Runs 102 33 ls st h Q ↔ Runs 102 34 ls (.int 1 :: st) h Q := R_iconst rfl rfl
theorem s102_34 : Runs 102 34 [x0, x1, x2, x3] (.int i :: st) h Q ↔ Runs 102 35 [x0, x1, zdrop x2, some (.int i)] st h Q := R_istn rfl rfl rfl
theorem s102_35 : Runs 102 35 [x0, x1, x2, some (.int i)] st h Q ↔ Runs 102 36 [x0, x1, x2, some (.int i)] (.int i :: st) h Q := R_ildn rfl rfl
theorem s102_36 : Runs 102 36 ls st h Q ↔ Runs 102 38 ls (.int 60 :: st) h Q := R_bipush rfl (by decide)
theorem s102_38 : Runs 102 38 ls (.int j :: .int i :: st) h Q ↔ if j < i then Runs 102 63 ls st h Q else Runs 102 41 ls st h Q := R_icgt rfl rfl
theorem s102_41 : Runs 102 41 [some (.ref a), x1, x2, x3] st h Q ↔ Runs 102 42 [some (.ref a), x1, x2, x3] (.ref a :: st) h Q := R_aldn rfl rfl
theorem s102_41q : Runs 102 41 [some (zrf r), x1, x2, x3] st h Q ↔ Runs 102 42 [some (zrf r), x1, x2, x3] (zrf r :: st) h Q := R_aldnq rfl rfl
theorem s102_42 (ht : tg a = 9) : Runs 102 42 ls (.ref a :: st) (n, tg, ln, I, J, O) Q ↔ Runs 102 45 ls (zrf (O a 1) :: st) (n, tg, ln, I, J, O) Q := R_getr rfl rfl rfl rfl ht
theorem s102_45 (ht : tg a = 5) (hs : zsumc st ≤ 8) : Runs 102 45 ls (.ref a :: st) (n, tg, ln, I, J, O) Q ↔ Runs 51 0 [some (.ref a), none, none] [] (n, tg, ln, I, J, O) (fun v h2 => Runs 102 48 ls (v.toList ++ st) h2 Q) := R_callv (a := a) (rest := st) rfl rfl rfl rfl rfl rfl rfl ht hs
theorem s102_48 : Runs 102 48 ls st h Q ↔ Runs 102 50 ls (.int 99 :: st) h Q := R_bipush rfl (by decide)
theorem s102_50 : Runs 102 50 ls (.int j :: .int i :: st) h Q ↔ if i = j then Runs 102 57 ls st h Q else Runs 102 53 ls st h Q := R_iceq rfl rfl
theorem s102_53 : Runs 102 53 [x0, x1, some (.int i), x3] st h Q ↔ Runs 102 54 [x0, x1, some (.int i), x3] (.int i :: st) h Q := R_ildn rfl rfl
theorem s102_54 : Runs 102 54 [x0, x1, x2, some (.int i)] st h Q ↔ Runs 102 55 [x0, x1, x2, some (.int i)] (.int i :: st) h Q := R_ildn rfl rfl
theorem s102_55 : Runs 102 55 ls (.int j :: .int i :: st) h Q ↔ Runs 102 56 ls (.int (i + j) :: st) h Q := R_iadd rfl
theorem s102_56 : Runs 102 56 [x0, x1, x2, x3] (.int i :: st) h Q ↔ Runs 102 57 [x0, zdrop x1, some (.int i), x3] st h Q := R_istn rfl rfl rfl
theorem s102_57 : Runs 102 57 [x0, x1, x2, some (.int i)] st h Q ↔ Runs 102 60 [x0, x1, zdrop x2, some (.int (i + 1))] st h Q := R_iinc rfl rfl rfl rfl rfl
theorem s102_60 : Runs 102 60 ls st h Q ↔ Runs 102 35 ls st h Q := R_goto rfl rfl
theorem s102_63 : Runs 102 63 [x0, x1, some (.int i), x3] st h Q ↔ Runs 102 64 [x0, x1, some (.int i), x3] (.int i :: st) h Q := R_ildn rfl rfl
theorem s102_64 : Runs 102 64 ls st h Q ↔ Runs 102 66 ls (.int 60 :: st) h Q := R_bipush rfl (by decide)
theorem s102_66 : Runs 102 66 [some (.ref a), x1, x2, x3] st h Q ↔ Runs 102 67 [some (.ref a), x1, x2, x3] (.ref a :: st) h Q := R_aldn rfl rfl
theorem s102_66q : Runs 102 66 [some (zrf r), x1, x2, x3] st h Q ↔ Runs 102 67 [some (zrf r), x1, x2, x3] (zrf r :: st) h Q := R_aldnq rfl rfl
theorem s102_67 (ht : tg a = 9) : Runs 102 67 ls (.ref a :: st) (n, tg, ln, I, J, O) Q ↔ Runs 102 70 ls (zrf (O a 1) :: st) (n, tg, ln, I, J, O) Q := R_getr rfl rfl rfl rfl ht
theorem s102_70 : Runs 102 70 ls st h Q ↔ Runs 102 71 ls (.int 0 :: st) h Q := R_iconst rfl rfl
theorem s102_71 (ht : tg a = 5) (hs : zsumc st ≤ 8) : Runs 102 71 ls (.int i0 :: .ref a :: st) (n, tg, ln, I, J, O) Q ↔ Runs 44 0 [some (.ref a), some (.int i0), none, none] [] (n, tg, ln, I, J, O) (fun v h2 => Runs 102 74 ls (v.toList ++ st) h2 Q) := R_callv (a := a) (rest := st) rfl rfl rfl rfl rfl rfl rfl ht hs
theorem s102_74 (hs : zsumc st ≤ 8) : Runs 102 74 ls (.int i0 :: st) h Q ↔ Runs 205 0 [some (.int i0)] [] h (fun v h2 => Runs 102 77 ls (v.toList ++ st) h2 Q) := R_calls (rest := st) rfl rfl rfl (by simp) rfl rfl rfl rfl hs
theorem s102_77 : Runs 102 77 ls (.int j :: .int i :: st) h Q ↔ Runs 102 78 ls (.int (i * j) :: st) h Q := R_imul rfl
theorem s102_78 : Runs 102 78 ls (.int j :: .int i :: st) h Q ↔ Runs 102 79 ls (.int (i + j) :: st) h Q := R_iadd rfl
theorem s102_79 : Runs 102 79 ls [.int i] h Q ↔ Q (some (.int i)) h := R_iret rfl rfl
theorem s103_0 : Runs 103 0 [x0, some (.int i), x2] st h Q ↔ Runs 103 1 [x0, some (.int i), x2] (.int i :: st) h Q := R_ildn rfl rfl
theorem s103_1 : Runs 103 1 ls st h Q ↔ Runs 103 2 ls (.int 1 :: st) h Q := R_iconst rfl rfl
theorem s103_2 : Runs 103 2 ls (.int j :: .int i :: st) h Q ↔ if i < j then Runs 103 21 ls st h Q else Runs 103 5 ls st h Q := R_iclt rfl rfl
theorem s103_5 : Runs 103 5 [x0, some (.int i), x2] st h Q ↔ Runs 103 6 [x0, some (.int i), x2] (.int i :: st) h Q := R_ildn rfl rfl
theorem s103_6 : Runs 103 6 ls st h Q ↔ Runs 103 8 ls (.int 20 :: st) h Q := R_bipush rfl (by decide)
theorem s103_8 : Runs 103 8 ls (.int j :: .int i :: st) h Q ↔ if j < i then Runs 103 21 ls st h Q else Runs 103 11 ls st h Q := R_icgt rfl rfl
theorem s103_11 : Runs 103 11 [x0, x1, some (.int i)] st h Q ↔ Runs 103 12 [x0, x1, some (.int i)] (.int i :: st) h Q := R_ildn rfl rfl
theorem s103_12 : Runs 103 12 ls (.int i :: st) h Q ↔ if i < 0 then Runs 103 21 ls st h Q else Runs 103 15 ls st h Q := R_iflt rfl rfl
theorem s103_15 : Runs 103 15 [x0, x1, some (.int i)] st h Q ↔ Runs 103 16 [x0, x1, some (.int i)] (.int i :: st) h Q := R_ildn rfl rfl
theorem s103_16 : Runs 103 16 ls st h Q ↔ Runs 103 18 ls (.int 20 :: st) h Q := R_bipush rfl (by decide)
theorem s103_18 : Runs 103 18 ls (.int j :: .int i :: st) h Q ↔ if i ≤ j then Runs 103 24 ls st h Q else Runs 103 21 ls st h Q := R_icle rfl rfl
theorem s103_21 : Runs 103 21 ls st h Q ↔ Runs 103 23 ls (.int (-3) :: st) h Q := R_bipush rfl (by decide)
theorem s103_23 : Runs 103 23 ls [.int i] h Q ↔ Q (some (.int i)) h := R_iret rfl rfl
theorem s103_24 : Runs 103 24 [some (.ref a), x1, x2] st h Q ↔ Runs 103 25 [some (.ref a), x1, x2] (.ref a :: st) h Q := R_aldn rfl rfl
theorem s103_24q : Runs 103 24 [some (zrf r), x1, x2] st h Q ↔ Runs 103 25 [some (zrf r), x1, x2] (zrf r :: st) h Q := R_aldnq rfl rfl
theorem s103_25 (ht : tg a = 9) : Runs 103 25 ls (.ref a :: st) (n, tg, ln, I, J, O) Q ↔ Runs 103 28 ls (zrf (O a 6) :: st) (n, tg, ln, I, J, O) Q := R_getr rfl rfl rfl rfl ht
theorem s103_28 : Runs 103 28 [x0, some (.int i), x2] st h Q ↔ Runs 103 29 [x0, some (.int i), x2] (.int i :: st) h Q := R_ildn rfl rfl
theorem s103_29 : Runs 103 29 [x0, x1, some (.int i)] st h Q ↔ Runs 103 30 [x0, x1, some (.int i)] (.int i :: st) h Q := R_ildn rfl rfl
theorem s103_30 (ht : tg a = 7) (hs : zsumc st ≤ 8) : Runs 103 30 ls (.int i1 :: .int i0 :: .ref a :: st) (n, tg, ln, I, J, O) Q ↔ Runs 74 0 [some (.ref a), some (.int i0), some (.int i1)] [] (n, tg, ln, I, J, O) (fun v h2 => Runs 103 33 ls (v.toList ++ st) h2 Q) := R_callv (a := a) (rest := st) rfl rfl rfl rfl rfl rfl rfl ht hs
theorem s103_33 : Runs 103 33 ls (.int i :: st) h Q ↔ if i = 0 then Runs 103 46 ls st h Q else Runs 103 36 ls st h Q := R_ifeq rfl rfl
theorem s103_36 : Runs 103 36 [some (.ref a), x1, x2] st h Q ↔ Runs 103 37 [some (.ref a), x1, x2] (.ref a :: st) h Q := R_aldn rfl rfl
theorem s103_36q : Runs 103 36 [some (zrf r), x1, x2] st h Q ↔ Runs 103 37 [some (zrf r), x1, x2] (zrf r :: st) h Q := R_aldnq rfl rfl
theorem s103_37 (ht : tg a = 9) : Runs 103 37 ls (.ref a :: st) (n, tg, ln, I, J, O) Q ↔ Runs 103 40 ls (zrf (O a 6) :: st) (n, tg, ln, I, J, O) Q := R_getr rfl rfl rfl rfl ht
theorem s103_40 (ht : tg a = 7) : Runs 103 40 ls (.ref a :: st) (n, tg, ln, I, J, O) Q ↔ Runs 103 43 ls (.int (I a 2) :: st) (n, tg, ln, I, J, O) Q := R_geti rfl rfl rfl rfl ht
theorem s103_43 : Runs 103 43 ls st h Q ↔ Runs 103 48 ls st h Q := R_goto rfl rfl
theorem s103_46 : Runs 103 46 ls st h Q ↔ Runs 103 48 ls (.int (-5) :: st) h Q := R_bipush rfl (by decide)
theorem s103_48 : Runs 103 48 ls [.int i] h Q ↔ Q (some (.int i)) h := R_iret rfl rfl
theorem s104_0 : Runs 104 0 [some (.ref a), x1] st h Q ↔ Runs 104 1 [some (.ref a), x1] (.ref a :: st) h Q := R_aldn rfl rfl
theorem s104_0q : Runs 104 0 [some (zrf r), x1] st h Q ↔ Runs 104 1 [some (zrf r), x1] (zrf r :: st) h Q := R_aldnq rfl rfl
theorem s104_1 (ht : tg a = 9) : Runs 104 1 ls (.ref a :: st) (n, tg, ln, I, J, O) Q ↔ Runs 104 4 ls (zrf (O a 6) :: st) (n, tg, ln, I, J, O) Q := R_getr rfl rfl rfl rfl ht
theorem s104_4 (ht : tg a = 7) : Runs 104 4 ls (.ref a :: st) (n, tg, ln, I, J, O) Q ↔ Runs 104 7 ls (.int (I a 2) :: st) (n, tg, ln, I, J, O) Q := R_geti rfl rfl rfl rfl ht
theorem s104_7 : Runs 104 7 [x0, x1] (.int i :: st) h Q ↔ Runs 104 8 [zdrop x0, some (.int i)] st h Q := R_istn rfl rfl rfl
theorem s104_8 : Runs 104 8 [some (.ref a), x1] st h Q ↔ Runs 104 9 [some (.ref a), x1] (.ref a :: st) h Q := R_aldn rfl rfl
theorem s104_8q : Runs 104 8 [some (zrf r), x1] st h Q ↔ Runs 104 9 [some (zrf r), x1] (zrf r :: st) h Q := R_aldnq rfl rfl
theorem s104_9 (ht : tg a = 9) : Runs 104 9 ls (.ref a :: st) (n, tg, ln, I, J, O) Q ↔ Runs 104 12 ls (zrf (O a 6) :: st) (n, tg, ln, I, J, O) Q := R_getr rfl rfl rfl rfl ht
theorem s104_12 (ht : tg a = 7) (hs : zsumc st ≤ 8) : Runs 104 12 ls (.ref a :: st) (n, tg, ln, I, J, O) Q ↔ Runs 73 0 [some (.ref a)] [] (n, tg, ln, I, J, O) (fun v h2 => Runs 104 15 ls (v.toList ++ st) h2 Q) := R_callv (a := a) (rest := st) rfl rfl rfl rfl rfl rfl rfl ht hs
theorem s104_15 : Runs 104 15 [x0, some (.int i)] st h Q ↔ Runs 104 16 [x0, some (.int i)] (.int i :: st) h Q := R_ildn rfl rfl
theorem s104_16 : Runs 104 16 ls [.int i] h Q ↔ Q (some (.int i)) h := R_iret rfl rfl
theorem s105_0 : Runs 105 0 ls st h Q ↔ Runs 105 1 ls (.int 0 :: st) h Q := R_iconst rfl rfl
theorem s105_1 : Runs 105 1 [x0, x1, x2] (.int i :: st) h Q ↔ Runs 105 2 [zdrop x0, some (.int i), x2] st h Q := R_istn rfl rfl rfl
theorem s105_2 : Runs 105 2 ls st h Q ↔ Runs 105 3 ls (.int 0 :: st) h Q := R_iconst rfl rfl
theorem s105_3 : Runs 105 3 [x0, x1, x2] (.int i :: st) h Q ↔ Runs 105 4 [x0, zdrop x1, some (.int i)] st h Q := R_istn rfl rfl rfl
theorem s105_4 : Runs 105 4 [x0, x1, some (.int i)] st h Q ↔ Runs 105 5 [x0, x1, some (.int i)] (.int i :: st) h Q := R_ildn rfl rfl
theorem s105_5 : Runs 105 5 ls st h Q ↔ Runs 105 6 ls (.int 2 :: st) h Q := R_iconst rfl rfl
theorem s105_6 : Runs 105 6 ls (.int j :: .int i :: st) h Q ↔ if j < i then Runs 105 47 ls st h Q else Runs 105 9 ls st h Q := R_icgt rfl rfl
theorem s105_9 : Runs 105 9 [some (.ref a), x1, x2] st h Q ↔ Runs 105 10 [some (.ref a), x1, x2] (.ref a :: st) h Q := R_aldn rfl rfl
theorem s105_9q : Runs 105 9 [some (zrf r), x1, x2] st h Q ↔ Runs 105 10 [some (zrf r), x1, x2] (zrf r :: st) h Q := R_aldnq rfl rfl
theorem s105_10 (ht : tg a = 9) : Runs 105 10 ls (.ref a :: st) (n, tg, ln, I, J, O) Q ↔ Runs 105 13 ls (zrf (O a 1) :: st) (n, tg, ln, I, J, O) Q := R_getr rfl rfl rfl rfl ht
theorem s105_13 : Runs 105 13 [some (.ref a), x1, x2] st h Q ↔ Runs 105 14 [some (.ref a), x1, x2] (.ref a :: st) h Q := R_aldn rfl rfl
theorem s105_13q : Runs 105 13 [some (zrf r), x1, x2] st h Q ↔ Runs 105 14 [some (zrf r), x1, x2] (zrf r :: st) h Q := R_aldnq rfl rfl
theorem s105_14 (ht : tg a = 9) : Runs 105 14 ls (.ref a :: st) (n, tg, ln, I, J, O) Q ↔ Runs 105 17 ls (zrf (O a 0) :: st) (n, tg, ln, I, J, O) Q := R_getr rfl rfl rfl rfl ht
theorem s105_17 (ht : tg a = 5) (hs : zsumc st ≤ 8) : Runs 105 17 ls (.ref b0 :: .ref a :: st) (n, tg, ln, I, J, O) Q ↔ Runs 38 0 [some (.ref a), some (.ref b0)] [] (n, tg, ln, I, J, O) (fun v h2 => Runs 105 20 ls (v.toList ++ st) h2 Q) := R_callv (a := a) (rest := st) rfl rfl rfl rfl rfl rfl rfl ht hs
theorem s105_17q (ht : tg a = 5) (hs : zsumc st ≤ 8) : Runs 105 17 ls (zrf r0 :: .ref a :: st) (n, tg, ln, I, J, O) Q ↔ Runs 38 0 [some (.ref a), some (zrf r0)] [] (n, tg, ln, I, J, O) (fun v h2 => Runs 105 20 ls (v.toList ++ st) h2 Q) := by cases r0 <;> exact R_callv (a := a) (rest := st) rfl rfl rfl rfl rfl rfl rfl ht hs
theorem s105_20 : Runs 105 20 [some (.ref a), x1, x2] st h Q ↔ Runs 105 21 [some (.ref a), x1, x2] (.ref a :: st) h Q := R_aldn rfl rfl
theorem s105_20q : Runs 105 20 [some (zrf r), x1, x2] st h Q ↔ Runs 105 21 [some (zrf r), x1, x2] (zrf r :: st) h Q := R_aldnq rfl rfl
theorem s105_21 (ht : tg a = 9) : Runs 105 21 ls (.ref a :: st) (n, tg, ln, I, J, O) Q ↔ Runs 105 24 ls (zrf (O a 1) :: st) (n, tg, ln, I, J, O) Q := R_getr rfl rfl rfl rfl ht
theorem s105_24 : Runs 105 24 [x0, x1, some (.int i)] st h Q ↔ Runs 105 25 [x0, x1, some (.int i)] (.int i :: st) h Q := R_ildn rfl rfl
theorem s105_25 (ht : tg a = 5) : Runs 105 25 ls (.int i :: .ref a :: st) (n, tg, ln, I, J, O) Q ↔ Runs 105 28 ls st (n, tg, ln, zu I a 6 i, J, O) Q := R_puti rfl rfl rfl rfl rfl rfl ht
theorem s105_28 : Runs 105 28 [some (.ref a), x1, x2] st h Q ↔ Runs 105 29 [some (.ref a), x1, x2] (.ref a :: st) h Q := R_aldn rfl rfl
theorem s105_28q : Runs 105 28 [some (zrf r), x1, x2] st h Q ↔ Runs 105 29 [some (zrf r), x1, x2] (zrf r :: st) h Q := R_aldnq rfl rfl
theorem s105_29 (ht : tg a = 9) (hs : zsumc st ≤ 8) : Runs 105 29 ls (.ref a :: st) (n, tg, ln, I, J, O) Q ↔ Runs 124 0 [some (.ref a), none, none] [] (n, tg, ln, I, J, O) (fun v h2 => Runs 105 32 ls (v.toList ++ st) h2 Q) := R_callv (a := a) (rest := st) rfl rfl rfl rfl rfl rfl rfl ht hs
theorem s105_32 : Runs 105 32 ls (.int i :: st) h Q ↔ if i = 0 then Runs 105 41 ls st h Q else Runs 105 35 ls st h Q := R_ifeq rfl rfl
theorem s105_35 : Runs 105 35 [x0, some (.int i), x2] st h Q ↔ Runs 105 36 [x0, some (.int i), x2] (.int i :: st) h Q := R_ildn rfl rfl
theorem s105_36 : Runs 105 36 ls st h Q ↔ Runs 105 37 ls (.int 1 :: st) h Q := R_iconst rfl rfl
theorem s105_37 : Runs 105 37 [x0, x1, some (.int i)] st h Q ↔ Runs 105 38 [x0, x1, some (.int i)] (.int i :: st) h Q := R_ildn rfl rfl
theorem s105_38 : Runs 105 38 ls (.int j :: .int i :: st) h Q ↔ Runs 105 39 ls (.int (i <<< (j &&& 31)) :: st) h Q := R_ishl rfl
theorem s105_39 : Runs 105 39 ls (.int j :: .int i :: st) h Q ↔ Runs 105 40 ls (.int (i ||| j) :: st) h Q := R_ior rfl
theorem s105_40 : Runs 105 40 [x0, x1, x2] (.int i :: st) h Q ↔ Runs 105 41 [zdrop x0, some (.int i), x2] st h Q := R_istn rfl rfl rfl
theorem s105_41 : Runs 105 41 [x0, x1, some (.int i)] st h Q ↔ Runs 105 44 [x0, zdrop x1, some (.int (i + 1))] st h Q := R_iinc rfl rfl rfl rfl rfl
theorem s105_44 : Runs 105 44 ls st h Q ↔ Runs 105 4 ls st h Q := R_goto rfl rfl
theorem s105_47 : Runs 105 47 [x0, some (.int i), x2] st h Q ↔ Runs 105 48 [x0, some (.int i), x2] (.int i :: st) h Q := R_ildn rfl rfl
theorem s105_48 : Runs 105 48 ls [.int i] h Q ↔ Q (some (.int i)) h := R_iret rfl rfl
theorem s106_0 : Runs 106 0 [some (.ref a), x1, x2, x3] st h Q ↔ Runs 106 1 [some (.ref a), x1, x2, x3] (.ref a :: st) h Q := R_aldn rfl rfl
theorem s106_0q : Runs 106 0 [some (zrf r), x1, x2, x3] st h Q ↔ Runs 106 1 [some (zrf r), x1, x2, x3] (zrf r :: st) h Q := R_aldnq rfl rfl
theorem s106_1 (ht : tg a = 9) : Runs 106 1 ls (.ref a :: st) (n, tg, ln, I, J, O) Q ↔ Runs 106 4 ls (zrf (O a 0) :: st) (n, tg, ln, I, J, O) Q := R_getr rfl rfl rfl rfl ht
theorem s106_4 : Runs 106 4 [x0, some (.int i), x2, x3] st h Q ↔ Runs 106 5 [x0, some (.int i), x2, x3] (.int i :: st) h Q := R_ildn rfl rfl
theorem s106_5 (ht : tg a = 5) (hs : zsumc st ≤ 8) : Runs 106 5 ls (.int i0 :: .ref a :: st) (n, tg, ln, I, J, O) Q ↔ Runs 39 0 [some (.ref a), some (.int i0)] [] (n, tg, ln, I, J, O) (fun v h2 => Runs 106 8 ls (v.toList ++ st) h2 Q) := R_callv (a := a) (rest := st) rfl rfl rfl rfl rfl rfl rfl ht hs
theorem s106_8 : Runs 106 8 ls (.int i :: st) h Q ↔ if ¬ i = 0 then Runs 106 14 ls st h Q else Runs 106 11 ls st h Q := R_ifne rfl rfl
theorem s106_11 : Runs 106 11 ls st h Q ↔ Runs 106 13 ls (.int (-2) :: st) h Q := R_bipush rfl (by decide)
theorem s106_13 : Runs 106 13 ls [.int i] h Q ↔ Q (some (.int i)) h := R_iret rfl rfl
theorem s106_14 : Runs 106 14 [some (.ref a), x1, x2, x3] st h Q ↔ Runs 106 15 [some (.ref a), x1, x2, x3] (.ref a :: st) h Q := R_aldn rfl rfl
theorem s106_14q : Runs 106 14 [some (zrf r), x1, x2, x3] st h Q ↔ Runs 106 15 [some (zrf r), x1, x2, x3] (zrf r :: st) h Q := R_aldnq rfl rfl
theorem s106_15 (ht : tg a = 9) : Runs 106 15 ls (.ref a :: st) (n, tg, ln, I, J, O) Q ↔ Runs 106 18 ls (zrf (O a 0) :: st) (n, tg, ln, I, J, O) Q := R_getr rfl rfl rfl rfl ht
theorem s106_18 : Runs 106 18 [x0, some (.int i), x2, x3] st h Q ↔ Runs 106 19 [x0, some (.int i), x2, x3] (.int i :: st) h Q := R_ildn rfl rfl
theorem s106_19 (ht : tg a = 5) (hs : zsumc st ≤ 8) : Runs 106 19 ls (.int i0 :: .ref a :: st) (n, tg, ln, I, J, O) Q ↔ Runs 40 0 [some (.ref a), some (.int i0)] [] (n, tg, ln, I, J, O) (fun v h2 => Runs 106 22 ls (v.toList ++ st) h2 Q) := R_callv (a := a) (rest := st) rfl rfl rfl rfl rfl rfl rfl ht hs
theorem s106_22 : Runs 106 22 ls (.int i :: st) h Q ↔ if ¬ i = 0 then Runs 106 28 ls st h Q else Runs 106 25 ls st h Q := R_ifne rfl rfl
theorem s106_25 : Runs 106 25 ls st h Q ↔ Runs 106 27 ls (.int (-4) :: st) h Q := R_bipush rfl (by decide)
theorem s106_27 : Runs 106 27 ls [.int i] h Q ↔ Q (some (.int i)) h := R_iret rfl rfl
theorem s106_28 : Runs 106 28 ls st h Q ↔ Runs 106 29 ls (.int 0 :: st) h Q := R_iconst rfl rfl
theorem s106_29 : Runs 106 29 [x0, x1, x2, x3] (.int i :: st) h Q ↔ Runs 106 30 [x0, zdrop x1, some (.int i), x3] st h Q := R_istn rfl rfl rfl
theorem s106_30 : Runs 106 30 ls st h Q ↔ Runs 106 31 ls (.int 0 :: st) h Q := R_iconst rfl rfl
theorem s106_31 : Runs 106 31 [x0, x1, x2, x3] (.int i :: st) h Q ↔ Runs 106 32 [x0, x1, zdrop x2, some (.int i)] st h Q := R_istn rfl rfl rfl
theorem s106_32 : Runs 106 32 [x0, x1, x2, some (.int i)] st h Q ↔ Runs 106 33 [x0, x1, x2, some (.int i)] (.int i :: st) h Q := R_ildn rfl rfl
theorem s106_33 : Runs 106 33 ls st h Q ↔ Runs 106 34 ls (.int 4 :: st) h Q := R_iconst rfl rfl
theorem s106_34 : Runs 106 34 ls (.int j :: .int i :: st) h Q ↔ if j < i then Runs 106 77 ls st h Q else Runs 106 37 ls st h Q := R_icgt rfl rfl
theorem s106_37 : Runs 106 37 [some (.ref a), x1, x2, x3] st h Q ↔ Runs 106 38 [some (.ref a), x1, x2, x3] (.ref a :: st) h Q := R_aldn rfl rfl
theorem s106_37q : Runs 106 37 [some (zrf r), x1, x2, x3] st h Q ↔ Runs 106 38 [some (zrf r), x1, x2, x3] (zrf r :: st) h Q := R_aldnq rfl rfl
theorem s106_38 (ht : tg a = 9) : Runs 106 38 ls (.ref a :: st) (n, tg, ln, I, J, O) Q ↔ Runs 106 41 ls (zrf (O a 1) :: st) (n, tg, ln, I, J, O) Q := R_getr rfl rfl rfl rfl ht
theorem s106_41 : Runs 106 41 [some (.ref a), x1, x2, x3] st h Q ↔ Runs 106 42 [some (.ref a), x1, x2, x3] (.ref a :: st) h Q := R_aldn rfl rfl
theorem s106_41q : Runs 106 41 [some (zrf r), x1, x2, x3] st h Q ↔ Runs 106 42 [some (zrf r), x1, x2, x3] (zrf r :: st) h Q := R_aldnq rfl rfl
theorem s106_42 (ht : tg a = 9) : Runs 106 42 ls (.ref a :: st) (n, tg, ln, I, J, O) Q ↔ Runs 106 45 ls (zrf (O a 0) :: st) (n, tg, ln, I, J, O) Q := R_getr rfl rfl rfl rfl ht
theorem s106_45 (ht : tg a = 5) (hs : zsumc st ≤ 8) : Runs 106 45 ls (.ref b0 :: .ref a :: st) (n, tg, ln, I, J, O) Q ↔ Runs 38 0 [some (.ref a), some (.ref b0)] [] (n, tg, ln, I, J, O) (fun v h2 => Runs 106 48 ls (v.toList ++ st) h2 Q) := R_callv (a := a) (rest := st) rfl rfl rfl rfl rfl rfl rfl ht hs
theorem s106_45q (ht : tg a = 5) (hs : zsumc st ≤ 8) : Runs 106 45 ls (zrf r0 :: .ref a :: st) (n, tg, ln, I, J, O) Q ↔ Runs 38 0 [some (.ref a), some (zrf r0)] [] (n, tg, ln, I, J, O) (fun v h2 => Runs 106 48 ls (v.toList ++ st) h2 Q) := by cases r0 <;> exact R_callv (a := a) (rest := st) rfl rfl rfl rfl rfl rfl rfl ht hs
theorem s106_48 : Runs 106 48 [some (.ref a), x1, x2, x3] st h Q ↔ Runs 106 49 [some (.ref a), x1, x2, x3] (.ref a :: st) h Q := R_aldn rfl rfl
theorem s106_48q : Runs 106 48 [some (zrf r), x1, x2, x3] st h Q ↔ Runs 106 49 [some (zrf r), x1, x2, x3] (zrf r :: st) h Q := R_aldnq rfl rfl
theorem s106_49 (ht : tg a = 9) : Runs 106 49 ls (.ref a :: st) (n, tg, ln, I, J, O) Q ↔ Runs 106 52 ls (zrf (O a 1) :: st) (n, tg, ln, I, J, O) Q := R_getr rfl rfl rfl rfl ht
theorem s106_52 (ht : tg a = 5) : Runs 106 52 ls (.ref a :: st) (n, tg, ln, I, J, O) Q ↔ Runs 106 55 ls (zrf (O a 0) :: st) (n, tg, ln, I, J, O) Q := R_getr rfl rfl rfl rfl ht
theorem s106_55 : Runs 106 55 [x0, some (.int i), x2, x3] st h Q ↔ Runs 106 56 [x0, some (.int i), x2, x3] (.int i :: st) h Q := R_ildn rfl rfl
theorem s106_56 : Runs 106 56 [x0, x1, x2, some (.int i)] st h Q ↔ Runs 106 57 [x0, x1, x2, some (.int i)] (.int i :: st) h Q := R_ildn rfl rfl
theorem s106_57 (ht : tg a = 20) : Runs 106 57 ls (.int j :: .int i :: .ref a :: st) (n, tg, ln, I, J, O) Q ↔ ((0 ≤ i ∧ i < Int32.ofNat (ln a)) ∧ Runs 106 58 ls st (n, tg, ln, zu I a i j, J, O) Q) := R_iast rfl ht
theorem s106_58 : Runs 106 58 [some (.ref a), x1, x2, x3] st h Q ↔ Runs 106 59 [some (.ref a), x1, x2, x3] (.ref a :: st) h Q := R_aldn rfl rfl
theorem s106_58q : Runs 106 58 [some (zrf r), x1, x2, x3] st h Q ↔ Runs 106 59 [some (zrf r), x1, x2, x3] (zrf r :: st) h Q := R_aldnq rfl rfl
theorem s106_59 (ht : tg a = 9) (hs : zsumc st ≤ 8) : Runs 106 59 ls (.ref a :: st) (n, tg, ln, I, J, O) Q ↔ Runs 124 0 [some (.ref a), none, none] [] (n, tg, ln, I, J, O) (fun v h2 => Runs 106 62 ls (v.toList ++ st) h2 Q) := R_callv (a := a) (rest := st) rfl rfl rfl rfl rfl rfl rfl ht hs
theorem s106_62 : Runs 106 62 ls (.int i :: st) h Q ↔ if i = 0 then Runs 106 71 ls st h Q else Runs 106 65 ls st h Q := R_ifeq rfl rfl
theorem s106_65 : Runs 106 65 [x0, x1, some (.int i), x3] st h Q ↔ Runs 106 66 [x0, x1, some (.int i), x3] (.int i :: st) h Q := R_ildn rfl rfl
theorem s106_66 : Runs 106 66 ls st h Q ↔ Runs 106 67 ls (.int 1 :: st) h Q := R_iconst rfl rfl
theorem s106_67 : Runs 106 67 [x0, x1, x2, some (.int i)] st h Q ↔ Runs 106 68 [x0, x1, x2, some (.int i)] (.int i :: st) h Q := R_ildn rfl rfl
theorem s106_68 : Runs 106 68 ls (.int j :: .int i :: st) h Q ↔ Runs 106 69 ls (.int (i <<< (j &&& 31)) :: st) h Q := R_ishl rfl
theorem s106_69 : Runs 106 69 ls (.int j :: .int i :: st) h Q ↔ Runs 106 70 ls (.int (i ||| j) :: st) h Q := R_ior rfl
theorem s106_70 : Runs 106 70 [x0, x1, x2, x3] (.int i :: st) h Q ↔ Runs 106 71 [x0, zdrop x1, some (.int i), x3] st h Q := R_istn rfl rfl rfl
theorem s106_71 : Runs 106 71 [x0, x1, x2, some (.int i)] st h Q ↔ Runs 106 74 [x0, x1, zdrop x2, some (.int (i + 1))] st h Q := R_iinc rfl rfl rfl rfl rfl
theorem s106_74 : Runs 106 74 ls st h Q ↔ Runs 106 32 ls st h Q := R_goto rfl rfl
theorem s106_77 : Runs 106 77 [x0, x1, some (.int i), x3] st h Q ↔ Runs 106 78 [x0, x1, some (.int i), x3] (.int i :: st) h Q := R_ildn rfl rfl
theorem s106_78 : Runs 106 78 ls [.int i] h Q ↔ Q (some (.int i)) h := R_iret rfl rfl
theorem s107_0 : Runs 107 0 [x0, some (.int i), x2, x3, x4, x5, x6, x7, x8, x9, x10] st h Q ↔ Runs 107 1 [x0, some (.int i), x2, x3, x4, x5, x6, x7, x8, x9, x10] (.int i :: st) h Q := R_ildn rfl rfl
theorem s107_1 : Runs 107 1 ls (.int i :: st) h Q ↔ if i < 0 then Runs 107 30 ls st h Q else Runs 107 4 ls st h Q := R_iflt rfl rfl
theorem s107_4 : Runs 107 4 [x0, some (.int i), x2, x3, x4, x5, x6, x7, x8, x9, x10] st h Q ↔ Runs 107 5 [x0, some (.int i), x2, x3, x4, x5, x6, x7, x8, x9, x10] (.int i :: st) h Q := R_ildn rfl rfl
theorem s107_5 : Runs 107 5 ls st h Q ↔ Runs 107 7 ls (.int 9 :: st) h Q := R_bipush rfl (by decide)
theorem s107_7 : Runs 107 7 ls (.int j :: .int i :: st) h Q ↔ if j < i then Runs 107 30 ls st h Q else Runs 107 10 ls st h Q := R_icgt rfl rfl
theorem s107_10 : Runs 107 10 [x0, x1, some (.int i), x3, x4, x5, x6, x7, x8, x9, x10] st h Q ↔ Runs 107 11 [x0, x1, some (.int i), x3, x4, x5, x6, x7, x8, x9, x10] (.int i :: st) h Q := R_ildn rfl rfl
theorem s107_11 : Runs 107 11 ls (.int i :: st) h Q ↔ if i < 0 then Runs 107 30 ls st h Q else Runs 107 14 ls st h Q := R_iflt rfl rfl
theorem s107_14 : Runs 107 14 [x0, x1, some (.int i), x3, x4, x5, x6, x7, x8, x9, x10] st h Q ↔ Runs 107 15 [x0, x1, some (.int i), x3, x4, x5, x6, x7, x8, x9, x10] (.int i :: st) h Q := R_ildn rfl rfl
theorem s107_15 : Runs 107 15 ls st h Q ↔ Runs 107 17 ls (.int 10 :: st) h Q := R_bipush rfl (by decide)
theorem s107_17 : Runs 107 17 ls (.int j :: .int i :: st) h Q ↔ if j < i then Runs 107 30 ls st h Q else Runs 107 20 ls st h Q := R_icgt rfl rfl
theorem s107_20 : Runs 107 20 [x0, x1, x2, some (.int i), x4, x5, x6, x7, x8, x9, x10] st h Q ↔ Runs 107 21 [x0, x1, x2, some (.int i), x4, x5, x6, x7, x8, x9, x10] (.int i :: st) h Q := R_ildn rfl rfl
theorem s107_21 : Runs 107 21 ls (.int i :: st) h Q ↔ if i < 0 then Runs 107 30 ls st h Q else Runs 107 24 ls st h Q := R_iflt rfl rfl
theorem s107_24 : Runs 107 24 [x0, x1, x2, some (.int i), x4, x5, x6, x7, x8, x9, x10] st h Q ↔ Runs 107 25 [x0, x1, x2, some (.int i), x4, x5, x6, x7, x8, x9, x10] (.int i :: st) h Q := R_ildn rfl rfl
theorem s107_25 : Runs 107 25 ls st h Q ↔ Runs 107 27 ls (.int 9 :: st) h Q := R_bipush rfl (by decide)
theorem s107_27 : Runs 107 27 ls (.int j :: .int i :: st) h Q ↔ if i ≤ j then Runs 107 33 ls st h Q else Runs 107 30 ls st h Q := R_icle rfl rfl
theorem s107_30 : Runs 107 30 ls st h Q ↔ Runs 107 32 ls (.int (-3) :: st) h Q := R_bipush rfl (by decide)
theorem s107_32 : Runs 107 32 ls [.int i] h Q ↔ Q (some (.int i)) h := R_iret rfl rfl
theorem s107_33 : Runs 107 33 [x0, x1, x2, x3, some (.int i), x5, x6, x7, x8, x9, x10] st h Q ↔ Runs 107 35 [x0, x1, x2, x3, some (.int i), x5, x6, x7, x8, x9, x10] (.int i :: st) h Q := R_ild rfl rfl
theorem s107_35 : Runs 107 35 ls (.int i :: st) h Q ↔ if i < 0 then Runs 107 44 ls st h Q else Runs 107 38 ls st h Q := R_iflt rfl rfl
theorem s107_38 : Runs 107 38 [x0, x1, x2, x3, some (.int i), x5, x6, x7, x8, x9, x10] st h Q ↔ Runs 107 40 [x0, x1, x2, x3, some (.int i), x5, x6, x7, x8, x9, x10] (.int i :: st) h Q := R_ild rfl rfl
theorem s107_40 : Runs 107 40 ls st h Q ↔ Runs 107 41 ls (.int 1 :: st) h Q := R_iconst rfl rfl
theorem s107_41 : Runs 107 41 ls (.int j :: .int i :: st) h Q ↔ if i ≤ j then Runs 107 47 ls st h Q else Runs 107 44 ls st h Q := R_icle rfl rfl
theorem s107_44 : Runs 107 44 ls st h Q ↔ Runs 107 46 ls (.int (-3) :: st) h Q := R_bipush rfl (by decide)
theorem s107_46 : Runs 107 46 ls [.int i] h Q ↔ Q (some (.int i)) h := R_iret rfl rfl
theorem s107_47 : Runs 107 47 [x0, x1, x2, some (.int i), x4, x5, x6, x7, x8, x9, x10] st h Q ↔ Runs 107 48 [x0, x1, x2, some (.int i), x4, x5, x6, x7, x8, x9, x10] (.int i :: st) h Q := R_ildn rfl rfl
theorem s107_48 : Runs 107 48 [x0, some (.int i), x2, x3, x4, x5, x6, x7, x8, x9, x10] st h Q ↔ Runs 107 49 [x0, some (.int i), x2, x3, x4, x5, x6, x7, x8, x9, x10] (.int i :: st) h Q := R_ildn rfl rfl
theorem s107_49 : Runs 107 49 [x0, x1, some (.int i), x3, x4, x5, x6, x7, x8, x9, x10] st h Q ↔ Runs 107 50 [x0, x1, some (.int i), x3, x4, x5, x6, x7, x8, x9, x10] (.int i :: st) h Q := R_ildn rfl rfl
theorem s107_50 : Runs 107 50 ls st h Q ↔ Runs 107 52 ls (.int 10 :: st) h Q := R_bipush rfl (by decide)
theorem s107_52 : Runs 107 52 [x0, x1, some (.int i), x3, x4, x5, x6, x7, x8, x9, x10] st h Q ↔ Runs 107 53 [x0, x1, some (.int i), x3, x4, x5, x6, x7, x8, x9, x10] (.int i :: st) h Q := R_ildn rfl rfl
theorem s107_53 : Runs 107 53 ls (.int j :: .int i :: st) h Q ↔ Runs 107 54 ls (.int (i - j) :: st) h Q := R_isub rfl
theorem s107_54 (hs : zsumc st ≤ 8) : Runs 107 54 ls (.int i3 :: .int i2 :: .int i1 :: .int i0 :: st) h Q ↔ Runs 32 0 [some (.int i0), some (.int i1), some (.int i2), some (.int i3), none, none, none] [] h (fun v h2 => Runs 107 57 ls (v.toList ++ st) h2 Q) := R_calls (rest := st) rfl rfl rfl (by simp) rfl rfl rfl rfl hs
theorem s107_57 : Runs 107 57 [x0, x1, x2, x3, x4, x5, x6, x7, x8, x9, x10] (.long u :: st) h Q ↔ Runs 107 59 [x0, x1, x2, x3, zdrop x4, some (.long u), none, x7, x8, x9, x10] st h Q := R_lst rfl rfl rfl
theorem s107_59 : Runs 107 59 ls st h Q ↔ Runs 107 62 ls (.long 10 :: st) h Q := R_ldc2 rfl rfl
theorem s107_62 : Runs 107 62 [x0, some (.int i), x2, x3, x4, x5, x6, x7, x8, x9, x10] st h Q ↔ Runs 107 63 [x0, some (.int i), x2, x3, x4, x5, x6, x7, x8, x9, x10] (.int i :: st) h Q := R_ildn rfl rfl
theorem s107_63 (hs : zsumc st ≤ 8) : Runs 107 63 ls (.int i1 :: .long u0 :: st) h Q ↔ Runs 33 0 [some (.long u0), none, some (.int i1), none, none, none] [] h (fun v h2 => Runs 107 66 ls (v.toList ++ st) h2 Q) := R_calls (rest := st) rfl rfl rfl (by simp) rfl rfl rfl rfl hs
theorem s107_66 : Runs 107 66 [x0, x1, x2, x3, x4, x5, x6, x7, x8, x9, x10] (.long u :: st) h Q ↔ Runs 107 68 [x0, x1, x2, x3, x4, x5, zdrop x6, some (.long u), none, x9, x10] st h Q := R_lst rfl rfl rfl
theorem s107_68 : Runs 107 68 [x0, x1, x2, x3, x4, some (.long u), x6, x7, x8, x9, x10] st h Q ↔ Runs 107 70 [x0, x1, x2, x3, x4, some (.long u), x6, x7, x8, x9, x10] (.long u :: st) h Q := R_lld rfl rfl
theorem s107_70 : Runs 107 70 [x0, x1, x2, x3, x4, x5, x6, some (.long u), x8, x9, x10] st h Q ↔ Runs 107 72 [x0, x1, x2, x3, x4, x5, x6, some (.long u), x8, x9, x10] (.long u :: st) h Q := R_lld rfl rfl
theorem s107_72 (hs : zsumc st ≤ 8) : Runs 107 72 ls (.long u1 :: .long u0 :: st) h Q ↔ Runs 34 0 [some (.long u0), none, some (.long u1), none, none, none, none, none, none, none, none] [] h (fun v h2 => Runs 107 75 ls (v.toList ++ st) h2 Q) := R_calls (rest := st) rfl rfl rfl (by simp) rfl rfl rfl rfl hs
theorem s107_75 : Runs 107 75 [x0, x1, x2, x3, x4, x5, x6, x7, x8, x9, x10] (.long u :: st) h Q ↔ Runs 107 77 [x0, x1, x2, x3, x4, x5, x6, x7, zdrop x8, some (.long u), none] st h Q := R_lst rfl rfl rfl
theorem s107_77 : Runs 107 77 [x0, x1, x2, x3, x4, x5, x6, x7, x8, some (.long u), x10] st h Q ↔ Runs 107 79 [x0, x1, x2, x3, x4, x5, x6, x7, x8, some (.long u), x10] (.long u :: st) h Q := R_lld rfl rfl
theorem s107_79 : Runs 107 79 ls st h Q ↔ Runs 107 80 ls (.long 1 :: st) h Q := R_lconst rfl rfl
theorem s107_80 : Runs 107 80 ls (.long w :: .long u :: st) h Q ↔ Runs 107 81 ls (.int (lg_cmp u w) :: st) h Q := R_lcmp rfl
theorem s107_81 : Runs 107 81 ls (.int i :: st) h Q ↔ if 0 ≤ i then Runs 107 86 ls st h Q else Runs 107 84 ls st h Q := R_ifge rfl rfl
theorem s107_84 : Runs 107 84 ls st h Q ↔ Runs 107 85 ls (.int (-1) :: st) h Q := R_iconst rfl rfl
theorem s107_85 : Runs 107 85 ls [.int i] h Q ↔ Q (some (.int i)) h := R_iret rfl rfl
theorem s107_86 : Runs 107 86 [x0, x1, x2, x3, some (.int i), x5, x6, x7, x8, x9, x10] st h Q ↔ Runs 107 88 [x0, x1, x2, x3, some (.int i), x5, x6, x7, x8, x9, x10] (.int i :: st) h Q := R_ild rfl rfl
theorem s107_88 : Runs 107 88 ls (.int i :: st) h Q ↔ if ¬ i = 0 then Runs 107 96 ls st h Q else Runs 107 91 ls st h Q := R_ifne rfl rfl
theorem s107_91 : Runs 107 91 [x0, x1, x2, x3, x4, some (.long u), x6, x7, x8, x9, x10] st h Q ↔ Runs 107 93 [x0, x1, x2, x3, x4, some (.long u), x6, x7, x8, x9, x10] (.long u :: st) h Q := R_lld rfl rfl
theorem s107_93 : Runs 107 93 ls st h Q ↔ Runs 107 98 ls st h Q := R_goto rfl rfl
theorem s107_96 : Runs 107 96 [x0, x1, x2, x3, x4, x5, x6, some (.long u), x8, x9, x10] st h Q ↔ Runs 107 98 [x0, x1, x2, x3, x4, x5, x6, some (.long u), x8, x9, x10] (.long u :: st) h Q := R_lld rfl rfl
theorem s107_98 : Runs 107 98 [x0, x1, x2, x3, x4, x5, x6, x7, x8, some (.long u), x10] st h Q ↔ Runs 107 100 [x0, x1, x2, x3, x4, x5, x6, x7, x8, some (.long u), x10] (.long u :: st) h Q := R_lld rfl rfl
theorem s107_100 : Runs 107 100 ls (.long w :: .long u :: st) h Q ↔ (¬ w = 0 ∧ Runs 107 101 ls (.long (u / w) :: st) h Q) := R_ldiv rfl
theorem s107_101 : Runs 107 101 ls (.long u :: st) h Q ↔ Runs 107 102 ls (.int u.toInt32 :: st) h Q := R_l2i rfl
theorem s107_102 : Runs 107 102 ls [.int i] h Q ↔ Q (some (.int i)) h := R_iret rfl rfl
theorem s108_0 : Runs 108 0 [x0, some (.int i), x2] st h Q ↔ Runs 108 1 [x0, some (.int i), x2] (.int i :: st) h Q := R_ildn rfl rfl
theorem s108_1 (hs : zsumc st ≤ 8) : Runs 108 1 ls (.int i0 :: st) h Q ↔ Runs 118 0 [some (.int i0)] [] h (fun v h2 => Runs 108 4 ls (v.toList ++ st) h2 Q) := R_calls (rest := st) rfl rfl rfl (by simp) rfl rfl rfl rfl hs
theorem s108_4 : Runs 108 4 ls (.int i :: st) h Q ↔ if ¬ i = 0 then Runs 108 10 ls st h Q else Runs 108 7 ls st h Q := R_ifne rfl rfl
theorem s108_7 : Runs 108 7 ls st h Q ↔ Runs 108 9 ls (.int (-2) :: st) h Q := R_bipush rfl (by decide)
theorem s108_9 : Runs 108 9 ls [.int i] h Q ↔ Q (some (.int i)) h := R_iret rfl rfl
theorem s108_10 : Runs 108 10 [x0, x1, some (.int i)] st h Q ↔ Runs 108 11 [x0, x1, some (.int i)] (.int i :: st) h Q := R_ildn rfl rfl
theorem s108_11 : Runs 108 11 ls st h Q ↔ Runs 108 13 ls (.int 12 :: st) h Q := R_bipush rfl (by decide)
theorem s108_13 : Runs 108 13 ls (.int j :: .int i :: st) h Q ↔ if i ≤ j then Runs 108 19 ls st h Q else Runs 108 16 ls st h Q := R_icle rfl rfl
theorem s108_16 : Runs 108 16 ls st h Q ↔ Runs 108 18 ls (.int (-3) :: st) h Q := R_bipush rfl (by decide)
theorem s108_18 : Runs 108 18 ls [.int i] h Q ↔ Q (some (.int i)) h := R_iret rfl rfl
theorem s108_19 : Runs 108 19 [x0, x1, some (.int i)] st h Q ↔ Runs 108 20 [x0, x1, some (.int i)] (.int i :: st) h Q := R_ildn rfl rfl
theorem s108_20 : Runs 108 20 ls (.int i :: st) h Q ↔ if 0 ≤ i then Runs 108 26 ls st h Q else Runs 108 23 ls st h Q := R_ifge rfl rfl
theorem s108_23 : Runs 108 23 ls st h Q ↔ Runs 108 25 ls (.int (-15) :: st) h Q := R_bipush rfl (by decide)
theorem s108_25 : Runs 108 25 ls [.int i] h Q ↔ Q (some (.int i)) h := R_iret rfl rfl
theorem s108_26 : Runs 108 26 [some (.ref a), x1, x2] st h Q ↔ Runs 108 27 [some (.ref a), x1, x2] (.ref a :: st) h Q := R_aldn rfl rfl
theorem s108_26q : Runs 108 26 [some (zrf r), x1, x2] st h Q ↔ Runs 108 27 [some (zrf r), x1, x2] (zrf r :: st) h Q := R_aldnq rfl rfl
theorem s108_27 (ht : tg a = 9) : Runs 108 27 ls (.ref a :: st) (n, tg, ln, I, J, O) Q ↔ Runs 108 30 ls (zrf (O a 7) :: st) (n, tg, ln, I, J, O) Q := R_getr rfl rfl rfl rfl ht
theorem s108_30 : Runs 108 30 [x0, some (.int i), x2] st h Q ↔ Runs 108 31 [x0, some (.int i), x2] (.int i :: st) h Q := R_ildn rfl rfl
theorem s108_31 (ht : tg a = 23) : Runs 108 31 ls (.int i :: .ref a :: st) (n, tg, ln, I, J, O) Q ↔ ((0 ≤ i ∧ i < Int32.ofNat (ln a)) ∧ Runs 108 32 ls (zrf (O a i) :: st) (n, tg, ln, I, J, O) Q) := R_aald rfl ht (by decide)
theorem s108_31q (ht : tg a = 24) : Runs 108 31 ls (.int i :: .ref a :: st) (n, tg, ln, I, J, O) Q ↔ ((0 ≤ i ∧ i < Int32.ofNat (ln a)) ∧ Runs 108 32 ls (zrf (O a i) :: st) (n, tg, ln, I, J, O) Q) := R_aald rfl ht (by decide)
theorem s108_31p (ht : tg a = 25) : Runs 108 31 ls (.int i :: .ref a :: st) (n, tg, ln, I, J, O) Q ↔ ((0 ≤ i ∧ i < Int32.ofNat (ln a)) ∧ Runs 108 32 ls (zrf (O a i) :: st) (n, tg, ln, I, J, O) Q) := R_aald rfl ht (by decide)
theorem s108_32 : Runs 108 32 [x0, x1, some (.int i)] st h Q ↔ Runs 108 33 [x0, x1, some (.int i)] (.int i :: st) h Q := R_ildn rfl rfl
theorem s108_33 (ht : tg a = 1) (hs : zsumc st ≤ 8) : Runs 108 33 ls (.int i0 :: .ref a :: st) (n, tg, ln, I, J, O) Q ↔ Runs 3 0 [some (.ref a), some (.int i0), none] [] (n, tg, ln, I, J, O) (fun v h2 => Runs 108 36 ls (v.toList ++ st) h2 Q) := R_callv (a := a) (rest := st) rfl rfl rfl rfl rfl rfl rfl ht hs
theorem s108_36 : Runs 108 36 [x0, x1, some (.int i)] st h Q ↔ Runs 108 37 [x0, x1, some (.int i)] (.int i :: st) h Q := R_ildn rfl rfl
theorem s108_37 : Runs 108 37 ls [.int i] h Q ↔ Q (some (.int i)) h := R_iret rfl rfl
theorem s109_0 : Runs 109 0 [x0, some (.int i), x2, x3, x4, x5, x6] st h Q ↔ Runs 109 1 [x0, some (.int i), x2, x3, x4, x5, x6] (.int i :: st) h Q := R_ildn rfl rfl
theorem s109_1 (hs : zsumc st ≤ 8) : Runs 109 1 ls (.int i0 :: st) h Q ↔ Runs 118 0 [some (.int i0)] [] h (fun v h2 => Runs 109 4 ls (v.toList ++ st) h2 Q) := R_calls (rest := st) rfl rfl rfl (by simp) rfl rfl rfl rfl hs
theorem s109_4 : Runs 109 4 ls (.int i :: st) h Q ↔ if i = 0 then Runs 109 33 ls st h Q else Runs 109 7 ls st h Q := R_ifeq rfl rfl
theorem s109_7 : Runs 109 7 [x0, x1, x2, some (.int i), x4, x5, x6] st h Q ↔ Runs 109 8 [x0, x1, x2, some (.int i), x4, x5, x6] (.int i :: st) h Q := R_ildn rfl rfl
theorem s109_8 : Runs 109 8 ls st h Q ↔ Runs 109 9 ls (.int 1 :: st) h Q := R_iconst rfl rfl
theorem s109_9 : Runs 109 9 ls (.int j :: .int i :: st) h Q ↔ if ¬ i = j then Runs 109 36 ls st h Q else Runs 109 12 ls st h Q := R_icne rfl rfl
theorem s109_12 : Runs 109 12 [x0, x1, x2, x3, some (.long u), x5, x6] st h Q ↔ Runs 109 14 [x0, x1, x2, x3, some (.long u), x5, x6] (.long u :: st) h Q := R_lld rfl rfl
theorem s109_14 : Runs 109 14 ls st h Q ↔ Runs 109 15 ls (.long 0 :: st) h Q := R_lconst rfl rfl
theorem s109_15 : Runs 109 15 ls (.long w :: .long u :: st) h Q ↔ Runs 109 16 ls (.int (lg_cmp u w) :: st) h Q := R_lcmp rfl
theorem s109_16 : Runs 109 16 ls (.int i :: st) h Q ↔ if i < 0 then Runs 109 33 ls st h Q else Runs 109 19 ls st h Q := R_iflt rfl rfl
theorem s109_19 : Runs 109 19 [x0, x1, x2, x3, some (.long u), x5, x6] st h Q ↔ Runs 109 21 [x0, x1, x2, x3, some (.long u), x5, x6] (.long u :: st) h Q := R_lld rfl rfl
theorem s109_21 : Runs 109 21 [some (.ref a), x1, x2, x3, x4, x5, x6] st h Q ↔ Runs 109 22 [some (.ref a), x1, x2, x3, x4, x5, x6] (.ref a :: st) h Q := R_aldn rfl rfl
theorem s109_21q : Runs 109 21 [some (zrf r), x1, x2, x3, x4, x5, x6] st h Q ↔ Runs 109 22 [some (zrf r), x1, x2, x3, x4, x5, x6] (zrf r :: st) h Q := R_aldnq rfl rfl
theorem s109_22 (ht : tg a = 9) : Runs 109 22 ls (.ref a :: st) (n, tg, ln, I, J, O) Q ↔ Runs 109 25 ls (zrf (O a 0) :: st) (n, tg, ln, I, J, O) Q := R_getr rfl rfl rfl rfl ht
theorem s109_25 (ht : tg a = 5) : Runs 109 25 ls (.ref a :: st) (n, tg, ln, I, J, O) Q ↔ Runs 109 28 ls (.int (I a 5) :: st) (n, tg, ln, I, J, O) Q := R_geti rfl rfl rfl rfl ht
theorem s109_28 : Runs 109 28 ls (.int i :: st) h Q ↔ Runs 109 29 ls (.long i.toInt64 :: st) h Q := R_i2l rfl
theorem s109_29 : Runs 109 29 ls (.long w :: .long u :: st) h Q ↔ Runs 109 30 ls (.int (lg_cmp u w) :: st) h Q := R_lcmp rfl
theorem s109_30 : Runs 109 30 ls (.int i :: st) h Q ↔ if i < 0 then Runs 109 36 ls st h Q else Runs 109 33 ls st h Q := R_iflt rfl rfl
theorem s109_33 : Runs 109 33 ls st h Q ↔ Runs 109 35 ls (.int (-2) :: st) h Q := R_bipush rfl (by decide)
theorem s109_35 : Runs 109 35 ls [.int i] h Q ↔ Q (some (.int i)) h := R_iret rfl rfl
theorem s109_36 : Runs 109 36 [x0, x1, x2, some (.int i), x4, x5, x6] st h Q ↔ Runs 109 37 [x0, x1, x2, some (.int i), x4, x5, x6] (.int i :: st) h Q := R_ildn rfl rfl
theorem s109_37 : Runs 109 37 ls (.int i :: st) h Q ↔ if i < 0 then Runs 109 45 ls st h Q else Runs 109 40 ls st h Q := R_iflt rfl rfl
theorem s109_40 : Runs 109 40 [x0, x1, x2, some (.int i), x4, x5, x6] st h Q ↔ Runs 109 41 [x0, x1, x2, some (.int i), x4, x5, x6] (.int i :: st) h Q := R_ildn rfl rfl
theorem s109_41 : Runs 109 41 ls st h Q ↔ Runs 109 42 ls (.int 2 :: st) h Q := R_iconst rfl rfl
theorem s109_42 : Runs 109 42 ls (.int j :: .int i :: st) h Q ↔ if i ≤ j then Runs 109 48 ls st h Q else Runs 109 45 ls st h Q := R_icle rfl rfl
theorem s109_45 : Runs 109 45 ls st h Q ↔ Runs 109 47 ls (.int (-3) :: st) h Q := R_bipush rfl (by decide)
theorem s109_47 : Runs 109 47 ls [.int i] h Q ↔ Q (some (.int i)) h := R_iret rfl rfl
theorem s109_48 : Runs 109 48 [some (.ref a), x1, x2, x3, x4, x5, x6] st h Q ↔ Runs 109 49 [some (.ref a), x1, x2, x3, x4, x5, x6] (.ref a :: st) h Q := R_aldn rfl rfl
theorem s109_48q : Runs 109 48 [some (zrf r), x1, x2, x3, x4, x5, x6] st h Q ↔ Runs 109 49 [some (zrf r), x1, x2, x3, x4, x5, x6] (zrf r :: st) h Q := R_aldnq rfl rfl
theorem s109_49 (ht : tg a = 9) : Runs 109 49 ls (.ref a :: st) (n, tg, ln, I, J, O) Q ↔ Runs 109 52 ls (zrf (O a 7) :: st) (n, tg, ln, I, J, O) Q := R_getr rfl rfl rfl rfl ht
theorem s109_52 : Runs 109 52 [x0, some (.int i), x2, x3, x4, x5, x6] st h Q ↔ Runs 109 53 [x0, some (.int i), x2, x3, x4, x5, x6] (.int i :: st) h Q := R_ildn rfl rfl
theorem s109_53 (ht : tg a = 23) : Runs 109 53 ls (.int i :: .ref a :: st) (n, tg, ln, I, J, O) Q ↔ ((0 ≤ i ∧ i < Int32.ofNat (ln a)) ∧ Runs 109 54 ls (zrf (O a i) :: st) (n, tg, ln, I, J, O) Q) := R_aald rfl ht (by decide)
theorem s109_53q (ht : tg a = 24) : Runs 109 53 ls (.int i :: .ref a :: st) (n, tg, ln, I, J, O) Q ↔ ((0 ≤ i ∧ i < Int32.ofNat (ln a)) ∧ Runs 109 54 ls (zrf (O a i) :: st) (n, tg, ln, I, J, O) Q) := R_aald rfl ht (by decide)
theorem s109_53p (ht : tg a = 25) : Runs 109 53 ls (.int i :: .ref a :: st) (n, tg, ln, I, J, O) Q ↔ ((0 ≤ i ∧ i < Int32.ofNat (ln a)) ∧ Runs 109 54 ls (zrf (O a i) :: st) (n, tg, ln, I, J, O) Q) := R_aald rfl ht (by decide)
theorem s109_54 : Runs 109 54 [x0, x1, some (.int i), x3, x4, x5, x6] st h Q ↔ Runs 109 55 [x0, x1, some (.int i), x3, x4, x5, x6] (.int i :: st) h Q := R_ildn rfl rfl
theorem s109_55 (ht : tg a = 1) (hs : zsumc st ≤ 8) : Runs 109 55 ls (.int i0 :: .ref a :: st) (n, tg, ln, I, J, O) Q ↔ Runs 4 0 [some (.ref a), some (.int i0)] [] (n, tg, ln, I, J, O) (fun v h2 => Runs 109 58 ls (v.toList ++ st) h2 Q) := R_callv (a := a) (rest := st) rfl rfl rfl rfl rfl rfl rfl ht hs
theorem s109_58 : Runs 109 58 [x0, x1, x2, x3, x4, x5, x6] (.int i :: st) h Q ↔ Runs 109 60 [x0, x1, x2, x3, x4, zdrop x5, some (.int i)] st h Q := R_ist rfl rfl rfl
theorem s109_60 : Runs 109 60 [x0, x1, x2, x3, x4, x5, some (.int i)] st h Q ↔ Runs 109 62 [x0, x1, x2, x3, x4, x5, some (.int i)] (.int i :: st) h Q := R_ild rfl rfl
theorem s109_62 : Runs 109 62 ls (.int i :: st) h Q ↔ if 0 ≤ i then Runs 109 68 ls st h Q else Runs 109 65 ls st h Q := R_ifge rfl rfl
theorem s109_65 : Runs 109 65 [x0, x1, x2, x3, x4, x5, some (.int i)] st h Q ↔ Runs 109 67 [x0, x1, x2, x3, x4, x5, some (.int i)] (.int i :: st) h Q := R_ild rfl rfl
theorem s109_67 : Runs 109 67 ls [.int i] h Q ↔ Q (some (.int i)) h := R_iret rfl rfl
theorem s109_68 : Runs 109 68 [some (.ref a), x1, x2, x3, x4, x5, x6] st h Q ↔ Runs 109 69 [some (.ref a), x1, x2, x3, x4, x5, x6] (.ref a :: st) h Q := R_aldn rfl rfl
theorem s109_68q : Runs 109 68 [some (zrf r), x1, x2, x3, x4, x5, x6] st h Q ↔ Runs 109 69 [some (zrf r), x1, x2, x3, x4, x5, x6] (zrf r :: st) h Q := R_aldnq rfl rfl
theorem s109_69 (ht : tg a = 9) : Runs 109 69 ls (.ref a :: st) (n, tg, ln, I, J, O) Q ↔ Runs 109 72 ls (zrf (O a 7) :: st) (n, tg, ln, I, J, O) Q := R_getr rfl rfl rfl rfl ht
theorem s109_72 : Runs 109 72 [x0, some (.int i), x2, x3, x4, x5, x6] st h Q ↔ Runs 109 73 [x0, some (.int i), x2, x3, x4, x5, x6] (.int i :: st) h Q := R_ildn rfl rfl
theorem s109_73 (ht : tg a = 23) : Runs 109 73 ls (.int i :: .ref a :: st) (n, tg, ln, I, J, O) Q ↔ ((0 ≤ i ∧ i < Int32.ofNat (ln a)) ∧ Runs 109 74 ls (zrf (O a i) :: st) (n, tg, ln, I, J, O) Q) := R_aald rfl ht (by decide)
theorem s109_73q (ht : tg a = 24) : Runs 109 73 ls (.int i :: .ref a :: st) (n, tg, ln, I, J, O) Q ↔ ((0 ≤ i ∧ i < Int32.ofNat (ln a)) ∧ Runs 109 74 ls (zrf (O a i) :: st) (n, tg, ln, I, J, O) Q) := R_aald rfl ht (by decide)
theorem s109_73p (ht : tg a = 25) : Runs 109 73 ls (.int i :: .ref a :: st) (n, tg, ln, I, J, O) Q ↔ ((0 ≤ i ∧ i < Int32.ofNat (ln a)) ∧ Runs 109 74 ls (zrf (O a i) :: st) (n, tg, ln, I, J, O) Q) := R_aald rfl ht (by decide)
theorem s109_74 (ht : tg a = 1) : Runs 109 74 ls (.ref a :: st) (n, tg, ln, I, J, O) Q ↔ Runs 109 77 ls (zrf (O a 0) :: st) (n, tg, ln, I, J, O) Q := R_getr rfl rfl rfl rfl ht
theorem s109_77 : Runs 109 77 [x0, x1, some (.int i), x3, x4, x5, x6] st h Q ↔ Runs 109 78 [x0, x1, some (.int i), x3, x4, x5, x6] (.int i :: st) h Q := R_ildn rfl rfl
theorem s109_78 : Runs 109 78 [x0, x1, x2, some (.int i), x4, x5, x6] st h Q ↔ Runs 109 79 [x0, x1, x2, some (.int i), x4, x5, x6] (.int i :: st) h Q := R_ildn rfl rfl
theorem s109_79 : Runs 109 79 ls st h Q ↔ Runs 109 80 ls (.int 2 :: st) h Q := R_iconst rfl rfl
theorem s109_80 : Runs 109 80 ls (.int j :: .int i :: st) h Q ↔ if ¬ i = j then Runs 109 87 ls st h Q else Runs 109 83 ls st h Q := R_icne rfl rfl
theorem s109_83 : Runs 109 83 ls st h Q ↔ Runs 109 84 ls (zrf none :: st) h Q := R_null rfl
theorem s109_84 : Runs 109 84 ls st h Q ↔ Runs 109 98 ls st h Q := R_goto rfl rfl
theorem s109_87 : Runs 109 87 ls st (n, tg, ln, I, J, O) Q ↔ Runs 109 90 ls (.ref n :: st) (znew (n, tg, ln, I, J, O) 3 0) Q := R_new rfl rfl
theorem s109_90 : Runs 109 90 ls (.int i :: st) h Q ↔ Runs 109 91 ls (.int i :: .int i :: st) h Q := R_dupi rfl
theorem s109_90q : Runs 109 90 ls (.ref a :: st) h Q ↔ Runs 109 91 ls (.ref a :: .ref a :: st) h Q := R_dupr rfl
theorem s109_91 : Runs 109 91 [x0, x1, x2, some (.int i), x4, x5, x6] st h Q ↔ Runs 109 92 [x0, x1, x2, some (.int i), x4, x5, x6] (.int i :: st) h Q := R_ildn rfl rfl
theorem s109_92 : Runs 109 92 [x0, x1, x2, x3, some (.long u), x5, x6] st h Q ↔ Runs 109 94 [x0, x1, x2, x3, some (.long u), x5, x6] (.long u :: st) h Q := R_lld rfl rfl
theorem s109_94 : Runs 109 94 ls st h Q ↔ Runs 109 95 ls (zrf none :: st) h Q := R_null rfl
theorem s109_95 (hs : zsumc st ≤ 8) : Runs 109 95 ls (.ref b2 :: .long u1 :: .int i0 :: .ref a :: st) h Q ↔ Runs 14 0 [some (.ref a), some (.int i0), some (.long u1), none, some (.ref b2)] [] h (fun v h2 => Runs 109 98 ls (v.toList ++ st) h2 Q) := R_calli (a := a) (rest := st) rfl rfl rfl rfl rfl rfl rfl rfl hs
theorem s109_95q (hs : zsumc st ≤ 8) : Runs 109 95 ls (zrf r2 :: .long u1 :: .int i0 :: .ref a :: st) h Q ↔ Runs 14 0 [some (.ref a), some (.int i0), some (.long u1), none, some (zrf r2)] [] h (fun v h2 => Runs 109 98 ls (v.toList ++ st) h2 Q) := by cases r2 <;> exact R_calli (a := a) (rest := st) rfl rfl rfl rfl rfl rfl rfl rfl hs
theorem s109_98 (ht : tg a = 25) (hx : ∀ q, r = some q → tg q = 3) : Runs 109 98 ls (zrf r :: .int i :: .ref a :: st) (n, tg, ln, I, J, O) Q ↔ ((0 ≤ i ∧ i < Int32.ofNat (ln a)) ∧ Runs 109 99 ls st (n, tg, ln, I, J, zu O a i r) Q) := R_aasth rfl ht hx
theorem s109_99 : Runs 109 99 ls st h Q ↔ Runs 109 100 ls (.int 1 :: st) h Q := R_iconst rfl rfl
theorem s109_100 : Runs 109 100 ls [.int i] h Q ↔ Q (some (.int i)) h := R_iret rfl rfl
theorem s110_0 : Runs 110 0 [x0, some (.int i), x2, x3, x4] st h Q ↔ Runs 110 1 [x0, some (.int i), x2, x3, x4] (.int i :: st) h Q := R_ildn rfl rfl
theorem s110_1 (hs : zsumc st ≤ 8) : Runs 110 1 ls (.int i0 :: st) h Q ↔ Runs 118 0 [some (.int i0)] [] h (fun v h2 => Runs 110 4 ls (v.toList ++ st) h2 Q) := R_calls (rest := st) rfl rfl rfl (by simp) rfl rfl rfl rfl hs
theorem s110_4 : Runs 110 4 ls (.int i :: st) h Q ↔ if ¬ i = 0 then Runs 110 10 ls st h Q else Runs 110 7 ls st h Q := R_ifne rfl rfl
theorem s110_7 : Runs 110 7 ls st h Q ↔ Runs 110 9 ls (.int (-2) :: st) h Q := R_bipush rfl (by decide)
theorem s110_9 : Runs 110 9 ls [.int i] h Q ↔ Q (some (.int i)) h := R_iret rfl rfl
theorem s110_10 : Runs 110 10 [some (.ref a), x1, x2, x3, x4] st h Q ↔ Runs 110 11 [some (.ref a), x1, x2, x3, x4] (.ref a :: st) h Q := R_aldn rfl rfl
theorem s110_10q : Runs 110 10 [some (zrf r), x1, x2, x3, x4] st h Q ↔ Runs 110 11 [some (zrf r), x1, x2, x3, x4] (zrf r :: st) h Q := R_aldnq rfl rfl
theorem s110_11 (ht : tg a = 9) : Runs 110 11 ls (.ref a :: st) (n, tg, ln, I, J, O) Q ↔ Runs 110 14 ls (zrf (O a 7) :: st) (n, tg, ln, I, J, O) Q := R_getr rfl rfl rfl rfl ht
theorem s110_14 : Runs 110 14 [x0, some (.int i), x2, x3, x4] st h Q ↔ Runs 110 15 [x0, some (.int i), x2, x3, x4] (.int i :: st) h Q := R_ildn rfl rfl
theorem s110_15 (ht : tg a = 23) : Runs 110 15 ls (.int i :: .ref a :: st) (n, tg, ln, I, J, O) Q ↔ ((0 ≤ i ∧ i < Int32.ofNat (ln a)) ∧ Runs 110 16 ls (zrf (O a i) :: st) (n, tg, ln, I, J, O) Q) := R_aald rfl ht (by decide)
theorem s110_15q (ht : tg a = 24) : Runs 110 15 ls (.int i :: .ref a :: st) (n, tg, ln, I, J, O) Q ↔ ((0 ≤ i ∧ i < Int32.ofNat (ln a)) ∧ Runs 110 16 ls (zrf (O a i) :: st) (n, tg, ln, I, J, O) Q) := R_aald rfl ht (by decide)
theorem s110_15p (ht : tg a = 25) : Runs 110 15 ls (.int i :: .ref a :: st) (n, tg, ln, I, J, O) Q ↔ ((0 ≤ i ∧ i < Int32.ofNat (ln a)) ∧ Runs 110 16 ls (zrf (O a i) :: st) (n, tg, ln, I, J, O) Q) := R_aald rfl ht (by decide)
theorem s110_16 : Runs 110 16 [x0, x1, some (.int i), x3, x4] st h Q ↔ Runs 110 17 [x0, x1, some (.int i), x3, x4] (.int i :: st) h Q := R_ildn rfl rfl
theorem s110_17 (ht : tg a = 1) (hs : zsumc st ≤ 8) : Runs 110 17 ls (.int i0 :: .ref a :: st) (n, tg, ln, I, J, O) Q ↔ Runs 5 0 [some (.ref a), some (.int i0)] [] (n, tg, ln, I, J, O) (fun v h2 => Runs 110 20 ls (v.toList ++ st) h2 Q) := R_callv (a := a) (rest := st) rfl rfl rfl rfl rfl rfl rfl ht hs
theorem s110_20 : Runs 110 20 [x0, x1, x2, x3, x4] (.ref a :: st) h Q ↔ Runs 110 21 [x0, x1, zdrop x2, some (.ref a), x4] st h Q := R_astn rfl rfl rfl
theorem s110_20q : Runs 110 20 [x0, x1, x2, x3, x4] (zrf r :: st) h Q ↔ Runs 110 21 [x0, x1, zdrop x2, some (zrf r), x4] st h Q := R_astnq rfl rfl rfl
theorem s110_21 : Runs 110 21 [x0, x1, x2, some (.ref a), x4] st h Q ↔ Runs 110 22 [x0, x1, x2, some (.ref a), x4] (.ref a :: st) h Q := R_aldn rfl rfl
theorem s110_21q : Runs 110 21 [x0, x1, x2, some (zrf r), x4] st h Q ↔ Runs 110 22 [x0, x1, x2, some (zrf r), x4] (zrf r :: st) h Q := R_aldnq rfl rfl
theorem s110_22 : Runs 110 22 ls (zrf r :: st) h Q ↔ if r = none then Runs 110 25 ls st h Q else Runs 110 36 ls st h Q := R_ifnn rfl rfl
theorem s110_25 : Runs 110 25 [some (.ref a), x1, x2, x3, x4] st h Q ↔ Runs 110 26 [some (.ref a), x1, x2, x3, x4] (.ref a :: st) h Q := R_aldn rfl rfl
theorem s110_25q : Runs 110 25 [some (zrf r), x1, x2, x3, x4] st h Q ↔ Runs 110 26 [some (zrf r), x1, x2, x3, x4] (zrf r :: st) h Q := R_aldnq rfl rfl
theorem s110_26 (ht : tg a = 9) : Runs 110 26 ls (.ref a :: st) (n, tg, ln, I, J, O) Q ↔ Runs 110 29 ls (zrf (O a 7) :: st) (n, tg, ln, I, J, O) Q := R_getr rfl rfl rfl rfl ht
theorem s110_29 : Runs 110 29 [x0, some (.int i), x2, x3, x4] st h Q ↔ Runs 110 30 [x0, some (.int i), x2, x3, x4] (.int i :: st) h Q := R_ildn rfl rfl
theorem s110_30 (ht : tg a = 23) : Runs 110 30 ls (.int i :: .ref a :: st) (n, tg, ln, I, J, O) Q ↔ ((0 ≤ i ∧ i < Int32.ofNat (ln a)) ∧ Runs 110 31 ls (zrf (O a i) :: st) (n, tg, ln, I, J, O) Q) := R_aald rfl ht (by decide)
theorem s110_30q (ht : tg a = 24) : Runs 110 30 ls (.int i :: .ref a :: st) (n, tg, ln, I, J, O) Q ↔ ((0 ≤ i ∧ i < Int32.ofNat (ln a)) ∧ Runs 110 31 ls (zrf (O a i) :: st) (n, tg, ln, I, J, O) Q) := R_aald rfl ht (by decide)
theorem s110_30p (ht : tg a = 25) : Runs 110 30 ls (.int i :: .ref a :: st) (n, tg, ln, I, J, O) Q ↔ ((0 ≤ i ∧ i < Int32.ofNat (ln a)) ∧ Runs 110 31 ls (zrf (O a i) :: st) (n, tg, ln, I, J, O) Q) := R_aald rfl ht (by decide)
theorem s110_31 : Runs 110 31 [x0, x1, some (.int i), x3, x4] st h Q ↔ Runs 110 32 [x0, x1, some (.int i), x3, x4] (.int i :: st) h Q := R_ildn rfl rfl
theorem s110_32 (ht : tg a = 1) (hs : zsumc st ≤ 8) : Runs 110 32 ls (.int i0 :: .ref a :: st) (n, tg, ln, I, J, O) Q ↔ Runs 6 0 [some (.ref a), some (.int i0), none] [] (n, tg, ln, I, J, O) (fun v h2 => Runs 110 35 ls (v.toList ++ st) h2 Q) := R_callv (a := a) (rest := st) rfl rfl rfl rfl rfl rfl rfl ht hs
theorem s110_35 : Runs 110 35 ls [.int i] h Q ↔ Q (some (.int i)) h := R_iret rfl rfl
theorem s110_36 : Runs 110 36 [x0, x1, x2, some (.ref a), x4] st h Q ↔ Runs 110 37 [x0, x1, x2, some (.ref a), x4] (.ref a :: st) h Q := R_aldn rfl rfl
theorem s110_36q : Runs 110 36 [x0, x1, x2, some (zrf r), x4] st h Q ↔ Runs 110 37 [x0, x1, x2, some (zrf r), x4] (zrf r :: st) h Q := R_aldnq rfl rfl
theorem s110_37 (ht : tg a = 3) : Runs 110 37 ls (.ref a :: st) (n, tg, ln, I, J, O) Q ↔ Runs 110 40 ls (.int (I a 3) :: st) (n, tg, ln, I, J, O) Q := R_geti rfl rfl rfl rfl ht
theorem s110_40 : Runs 110 40 ls st h Q ↔ Runs 110 41 ls (.int 4 :: st) h Q := R_iconst rfl rfl
theorem s110_41 : Runs 110 41 ls (.int j :: .int i :: st) h Q ↔ if i < j then Runs 110 47 ls st h Q else Runs 110 44 ls st h Q := R_iclt rfl rfl
theorem s110_44 : Runs 110 44 ls st h Q ↔ Runs 110 46 ls (.int (-5) :: st) h Q := R_bipush rfl (by decide)
theorem s110_46 : Runs 110 46 ls [.int i] h Q ↔ Q (some (.int i)) h := R_iret rfl rfl
theorem s110_47 : Runs 110 47 ls st (n, tg, ln, I, J, O) Q ↔ Runs 110 50 ls (.ref n :: st) (znew (n, tg, ln, I, J, O) 3 0) Q := R_new rfl rfl
theorem s110_50 : Runs 110 50 ls (.int i :: st) h Q ↔ Runs 110 51 ls (.int i :: .int i :: st) h Q := R_dupi rfl
theorem s110_50q : Runs 110 50 ls (.ref a :: st) h Q ↔ Runs 110 51 ls (.ref a :: .ref a :: st) h Q := R_dupr rfl
theorem s110_51 : Runs 110 51 ls st h Q ↔ Runs 110 52 ls (.int 2 :: st) h Q := R_iconst rfl rfl
theorem s110_52 : Runs 110 52 ls st h Q ↔ Runs 110 53 ls (.long 0 :: st) h Q := R_lconst rfl rfl
theorem s110_53 : Runs 110 53 [x0, x1, x2, some (.ref a), x4] st h Q ↔ Runs 110 54 [x0, x1, x2, some (.ref a), x4] (.ref a :: st) h Q := R_aldn rfl rfl
theorem s110_53q : Runs 110 53 [x0, x1, x2, some (zrf r), x4] st h Q ↔ Runs 110 54 [x0, x1, x2, some (zrf r), x4] (zrf r :: st) h Q := R_aldnq rfl rfl
theorem s110_54 (hs : zsumc st ≤ 8) : Runs 110 54 ls (.ref b2 :: .long u1 :: .int i0 :: .ref a :: st) h Q ↔ Runs 14 0 [some (.ref a), some (.int i0), some (.long u1), none, some (.ref b2)] [] h (fun v h2 => Runs 110 57 ls (v.toList ++ st) h2 Q) := R_calli (a := a) (rest := st) rfl rfl rfl rfl rfl rfl rfl rfl hs
theorem s110_54q (hs : zsumc st ≤ 8) : Runs 110 54 ls (zrf r2 :: .long u1 :: .int i0 :: .ref a :: st) h Q ↔ Runs 14 0 [some (.ref a), some (.int i0), some (.long u1), none, some (zrf r2)] [] h (fun v h2 => Runs 110 57 ls (v.toList ++ st) h2 Q) := by cases r2 <;> exact R_calli (a := a) (rest := st) rfl rfl rfl rfl rfl rfl rfl rfl hs
theorem s110_57 : Runs 110 57 [x0, x1, x2, x3, x4] (.ref a :: st) h Q ↔ Runs 110 59 [x0, x1, x2, zdrop x3, some (.ref a)] st h Q := R_ast rfl rfl rfl
theorem s110_57q : Runs 110 57 [x0, x1, x2, x3, x4] (zrf r :: st) h Q ↔ Runs 110 59 [x0, x1, x2, zdrop x3, some (zrf r)] st h Q := R_astq rfl rfl rfl
theorem s110_59 : Runs 110 59 [some (.ref a), x1, x2, x3, x4] st h Q ↔ Runs 110 60 [some (.ref a), x1, x2, x3, x4] (.ref a :: st) h Q := R_aldn rfl rfl
theorem s110_59q : Runs 110 59 [some (zrf r), x1, x2, x3, x4] st h Q ↔ Runs 110 60 [some (zrf r), x1, x2, x3, x4] (zrf r :: st) h Q := R_aldnq rfl rfl
theorem s110_60 (ht : tg a = 9) : Runs 110 60 ls (.ref a :: st) (n, tg, ln, I, J, O) Q ↔ Runs 110 63 ls (zrf (O a 7) :: st) (n, tg, ln, I, J, O) Q := R_getr rfl rfl rfl rfl ht
theorem s110_63 : Runs 110 63 [x0, some (.int i), x2, x3, x4] st h Q ↔ Runs 110 64 [x0, some (.int i), x2, x3, x4] (.int i :: st) h Q := R_ildn rfl rfl
theorem s110_64 (ht : tg a = 23) : Runs 110 64 ls (.int i :: .ref a :: st) (n, tg, ln, I, J, O) Q ↔ ((0 ≤ i ∧ i < Int32.ofNat (ln a)) ∧ Runs 110 65 ls (zrf (O a i) :: st) (n, tg, ln, I, J, O) Q) := R_aald rfl ht (by decide)
theorem s110_64q (ht : tg a = 24) : Runs 110 64 ls (.int i :: .ref a :: st) (n, tg, ln, I, J, O) Q ↔ ((0 ≤ i ∧ i < Int32.ofNat (ln a)) ∧ Runs 110 65 ls (zrf (O a i) :: st) (n, tg, ln, I, J, O) Q) := R_aald rfl ht (by decide)
theorem s110_64p (ht : tg a = 25) : Runs 110 64 ls (.int i :: .ref a :: st) (n, tg, ln, I, J, O) Q ↔ ((0 ≤ i ∧ i < Int32.ofNat (ln a)) ∧ Runs 110 65 ls (zrf (O a i) :: st) (n, tg, ln, I, J, O) Q) := R_aald rfl ht (by decide)
theorem s110_65 (ht : tg a = 1) : Runs 110 65 ls (.ref a :: st) (n, tg, ln, I, J, O) Q ↔ Runs 110 68 ls (zrf (O a 0) :: st) (n, tg, ln, I, J, O) Q := R_getr rfl rfl rfl rfl ht
theorem s110_68 : Runs 110 68 [x0, x1, some (.int i), x3, x4] st h Q ↔ Runs 110 69 [x0, x1, some (.int i), x3, x4] (.int i :: st) h Q := R_ildn rfl rfl
theorem s110_69 : Runs 110 69 [x0, x1, x2, x3, some (.ref a)] st h Q ↔ Runs 110 71 [x0, x1, x2, x3, some (.ref a)] (.ref a :: st) h Q := R_ald rfl rfl
theorem s110_69q : Runs 110 69 [x0, x1, x2, x3, some (zrf r)] st h Q ↔ Runs 110 71 [x0, x1, x2, x3, some (zrf r)] (zrf r :: st) h Q := R_aldq rfl rfl
theorem s110_71 (ht : tg a = 25) (hx : ∀ q, r = some q → tg q = 3) : Runs 110 71 ls (zrf r :: .int i :: .ref a :: st) (n, tg, ln, I, J, O) Q ↔ ((0 ≤ i ∧ i < Int32.ofNat (ln a)) ∧ Runs 110 72 ls st (n, tg, ln, I, J, zu O a i r) Q) := R_aasth rfl ht hx
theorem s110_72 : Runs 110 72 [x0, x1, x2, x3, some (.ref a)] st h Q ↔ Runs 110 74 [x0, x1, x2, x3, some (.ref a)] (.ref a :: st) h Q := R_ald rfl rfl
theorem s110_72q : Runs 110 72 [x0, x1, x2, x3, some (zrf r)] st h Q ↔ Runs 110 74 [x0, x1, x2, x3, some (zrf r)] (zrf r :: st) h Q := R_aldq rfl rfl
theorem s110_74 (ht : tg a = 3) : Runs 110 74 ls (.ref a :: st) (n, tg, ln, I, J, O) Q ↔ Runs 110 77 ls (.int (I a 3) :: st) (n, tg, ln, I, J, O) Q := R_geti rfl rfl rfl rfl ht
theorem s110_77 : Runs 110 77 ls [.int i] h Q ↔ Q (some (.int i)) h := R_iret rfl rfl
theorem s111_0 : Runs 111 0 [x0, some (.int i), x2, x3, x4] st h Q ↔ Runs 111 1 [x0, some (.int i), x2, x3, x4] (.int i :: st) h Q := R_ildn rfl rfl
theorem s111_1 (hs : zsumc st ≤ 8) : Runs 111 1 ls (.int i0 :: st) h Q ↔ Runs 118 0 [some (.int i0)] [] h (fun v h2 => Runs 111 4 ls (v.toList ++ st) h2 Q) := R_calls (rest := st) rfl rfl rfl (by simp) rfl rfl rfl rfl hs
theorem s111_4 : Runs 111 4 ls (.int i :: st) h Q ↔ if ¬ i = 0 then Runs 111 10 ls st h Q else Runs 111 7 ls st h Q := R_ifne rfl rfl
theorem s111_7 : Runs 111 7 ls st h Q ↔ Runs 111 9 ls (.int (-2) :: st) h Q := R_bipush rfl (by decide)
theorem s111_9 : Runs 111 9 ls [.int i] h Q ↔ Q (some (.int i)) h := R_iret rfl rfl
theorem s111_10 : Runs 111 10 [some (.ref a), x1, x2, x3, x4] st h Q ↔ Runs 111 11 [some (.ref a), x1, x2, x3, x4] (.ref a :: st) h Q := R_aldn rfl rfl
theorem s111_10q : Runs 111 10 [some (zrf r), x1, x2, x3, x4] st h Q ↔ Runs 111 11 [some (zrf r), x1, x2, x3, x4] (zrf r :: st) h Q := R_aldnq rfl rfl
theorem s111_11 (ht : tg a = 9) : Runs 111 11 ls (.ref a :: st) (n, tg, ln, I, J, O) Q ↔ Runs 111 14 ls (zrf (O a 7) :: st) (n, tg, ln, I, J, O) Q := R_getr rfl rfl rfl rfl ht
theorem s111_14 : Runs 111 14 [x0, some (.int i), x2, x3, x4] st h Q ↔ Runs 111 15 [x0, some (.int i), x2, x3, x4] (.int i :: st) h Q := R_ildn rfl rfl
theorem s111_15 (ht : tg a = 23) : Runs 111 15 ls (.int i :: .ref a :: st) (n, tg, ln, I, J, O) Q ↔ ((0 ≤ i ∧ i < Int32.ofNat (ln a)) ∧ Runs 111 16 ls (zrf (O a i) :: st) (n, tg, ln, I, J, O) Q) := R_aald rfl ht (by decide)
theorem s111_15q (ht : tg a = 24) : Runs 111 15 ls (.int i :: .ref a :: st) (n, tg, ln, I, J, O) Q ↔ ((0 ≤ i ∧ i < Int32.ofNat (ln a)) ∧ Runs 111 16 ls (zrf (O a i) :: st) (n, tg, ln, I, J, O) Q) := R_aald rfl ht (by decide)
theorem s111_15p (ht : tg a = 25) : Runs 111 15 ls (.int i :: .ref a :: st) (n, tg, ln, I, J, O) Q ↔ ((0 ≤ i ∧ i < Int32.ofNat (ln a)) ∧ Runs 111 16 ls (zrf (O a i) :: st) (n, tg, ln, I, J, O) Q) := R_aald rfl ht (by decide)
theorem s111_16 : Runs 111 16 [x0, x1, some (.int i), x3, x4] st h Q ↔ Runs 111 17 [x0, x1, some (.int i), x3, x4] (.int i :: st) h Q := R_ildn rfl rfl
theorem s111_17 (ht : tg a = 1) (hs : zsumc st ≤ 8) : Runs 111 17 ls (.int i0 :: .ref a :: st) (n, tg, ln, I, J, O) Q ↔ Runs 5 0 [some (.ref a), some (.int i0)] [] (n, tg, ln, I, J, O) (fun v h2 => Runs 111 20 ls (v.toList ++ st) h2 Q) := R_callv (a := a) (rest := st) rfl rfl rfl rfl rfl rfl rfl ht hs
theorem s111_20 : Runs 111 20 [x0, x1, x2, x3, x4] (.ref a :: st) h Q ↔ Runs 111 21 [x0, x1, zdrop x2, some (.ref a), x4] st h Q := R_astn rfl rfl rfl
theorem s111_20q : Runs 111 20 [x0, x1, x2, x3, x4] (zrf r :: st) h Q ↔ Runs 111 21 [x0, x1, zdrop x2, some (zrf r), x4] st h Q := R_astnq rfl rfl rfl
theorem s111_21 : Runs 111 21 [x0, x1, x2, some (.ref a), x4] st h Q ↔ Runs 111 22 [x0, x1, x2, some (.ref a), x4] (.ref a :: st) h Q := R_aldn rfl rfl
theorem s111_21q : Runs 111 21 [x0, x1, x2, some (zrf r), x4] st h Q ↔ Runs 111 22 [x0, x1, x2, some (zrf r), x4] (zrf r :: st) h Q := R_aldnq rfl rfl
theorem s111_22 : Runs 111 22 ls (zrf r :: st) h Q ↔ if r = none then Runs 111 25 ls st h Q else Runs 111 36 ls st h Q := R_ifnn rfl rfl
theorem s111_25 : Runs 111 25 [some (.ref a), x1, x2, x3, x4] st h Q ↔ Runs 111 26 [some (.ref a), x1, x2, x3, x4] (.ref a :: st) h Q := R_aldn rfl rfl
theorem s111_25q : Runs 111 25 [some (zrf r), x1, x2, x3, x4] st h Q ↔ Runs 111 26 [some (zrf r), x1, x2, x3, x4] (zrf r :: st) h Q := R_aldnq rfl rfl
theorem s111_26 (ht : tg a = 9) : Runs 111 26 ls (.ref a :: st) (n, tg, ln, I, J, O) Q ↔ Runs 111 29 ls (zrf (O a 7) :: st) (n, tg, ln, I, J, O) Q := R_getr rfl rfl rfl rfl ht
theorem s111_29 : Runs 111 29 [x0, some (.int i), x2, x3, x4] st h Q ↔ Runs 111 30 [x0, some (.int i), x2, x3, x4] (.int i :: st) h Q := R_ildn rfl rfl
theorem s111_30 (ht : tg a = 23) : Runs 111 30 ls (.int i :: .ref a :: st) (n, tg, ln, I, J, O) Q ↔ ((0 ≤ i ∧ i < Int32.ofNat (ln a)) ∧ Runs 111 31 ls (zrf (O a i) :: st) (n, tg, ln, I, J, O) Q) := R_aald rfl ht (by decide)
theorem s111_30q (ht : tg a = 24) : Runs 111 30 ls (.int i :: .ref a :: st) (n, tg, ln, I, J, O) Q ↔ ((0 ≤ i ∧ i < Int32.ofNat (ln a)) ∧ Runs 111 31 ls (zrf (O a i) :: st) (n, tg, ln, I, J, O) Q) := R_aald rfl ht (by decide)
theorem s111_30p (ht : tg a = 25) : Runs 111 30 ls (.int i :: .ref a :: st) (n, tg, ln, I, J, O) Q ↔ ((0 ≤ i ∧ i < Int32.ofNat (ln a)) ∧ Runs 111 31 ls (zrf (O a i) :: st) (n, tg, ln, I, J, O) Q) := R_aald rfl ht (by decide)
theorem s111_31 : Runs 111 31 [x0, x1, some (.int i), x3, x4] st h Q ↔ Runs 111 32 [x0, x1, some (.int i), x3, x4] (.int i :: st) h Q := R_ildn rfl rfl
theorem s111_32 (ht : tg a = 1) (hs : zsumc st ≤ 8) : Runs 111 32 ls (.int i0 :: .ref a :: st) (n, tg, ln, I, J, O) Q ↔ Runs 6 0 [some (.ref a), some (.int i0), none] [] (n, tg, ln, I, J, O) (fun v h2 => Runs 111 35 ls (v.toList ++ st) h2 Q) := R_callv (a := a) (rest := st) rfl rfl rfl rfl rfl rfl rfl ht hs
theorem s111_35 : Runs 111 35 ls [.int i] h Q ↔ Q (some (.int i)) h := R_iret rfl rfl
theorem s111_36 : Runs 111 36 [x0, x1, x2, some (.ref a), x4] st h Q ↔ Runs 111 37 [x0, x1, x2, some (.ref a), x4] (.ref a :: st) h Q := R_aldn rfl rfl
theorem s111_36q : Runs 111 36 [x0, x1, x2, some (zrf r), x4] st h Q ↔ Runs 111 37 [x0, x1, x2, some (zrf r), x4] (zrf r :: st) h Q := R_aldnq rfl rfl
theorem s111_37 (ht : tg a = 3) : Runs 111 37 ls (.ref a :: st) (n, tg, ln, I, J, O) Q ↔ Runs 111 40 ls (zrf (O a 2) :: st) (n, tg, ln, I, J, O) Q := R_getr rfl rfl rfl rfl ht
theorem s111_40 : Runs 111 40 [x0, x1, x2, x3, x4] (.ref a :: st) h Q ↔ Runs 111 42 [x0, x1, x2, zdrop x3, some (.ref a)] st h Q := R_ast rfl rfl rfl
theorem s111_40q : Runs 111 40 [x0, x1, x2, x3, x4] (zrf r :: st) h Q ↔ Runs 111 42 [x0, x1, x2, zdrop x3, some (zrf r)] st h Q := R_astq rfl rfl rfl
theorem s111_42 : Runs 111 42 [x0, x1, x2, x3, some (.ref a)] st h Q ↔ Runs 111 44 [x0, x1, x2, x3, some (.ref a)] (.ref a :: st) h Q := R_ald rfl rfl
theorem s111_42q : Runs 111 42 [x0, x1, x2, x3, some (zrf r)] st h Q ↔ Runs 111 44 [x0, x1, x2, x3, some (zrf r)] (zrf r :: st) h Q := R_aldq rfl rfl
theorem s111_44 : Runs 111 44 ls (zrf r :: st) h Q ↔ if r = none then Runs 111 47 ls st h Q else Runs 111 50 ls st h Q := R_ifnn rfl rfl
theorem s111_47 : Runs 111 47 ls st h Q ↔ Runs 111 49 ls (.int (-14) :: st) h Q := R_bipush rfl (by decide)
theorem s111_49 : Runs 111 49 ls [.int i] h Q ↔ Q (some (.int i)) h := R_iret rfl rfl
theorem s111_50 : Runs 111 50 [some (.ref a), x1, x2, x3, x4] st h Q ↔ Runs 111 51 [some (.ref a), x1, x2, x3, x4] (.ref a :: st) h Q := R_aldn rfl rfl
theorem s111_50q : Runs 111 50 [some (zrf r), x1, x2, x3, x4] st h Q ↔ Runs 111 51 [some (zrf r), x1, x2, x3, x4] (zrf r :: st) h Q := R_aldnq rfl rfl
theorem s111_51 (ht : tg a = 9) : Runs 111 51 ls (.ref a :: st) (n, tg, ln, I, J, O) Q ↔ Runs 111 54 ls (zrf (O a 7) :: st) (n, tg, ln, I, J, O) Q := R_getr rfl rfl rfl rfl ht
theorem s111_54 : Runs 111 54 [x0, some (.int i), x2, x3, x4] st h Q ↔ Runs 111 55 [x0, some (.int i), x2, x3, x4] (.int i :: st) h Q := R_ildn rfl rfl
theorem s111_55 (ht : tg a = 23) : Runs 111 55 ls (.int i :: .ref a :: st) (n, tg, ln, I, J, O) Q ↔ ((0 ≤ i ∧ i < Int32.ofNat (ln a)) ∧ Runs 111 56 ls (zrf (O a i) :: st) (n, tg, ln, I, J, O) Q) := R_aald rfl ht (by decide)
theorem s111_55q (ht : tg a = 24) : Runs 111 55 ls (.int i :: .ref a :: st) (n, tg, ln, I, J, O) Q ↔ ((0 ≤ i ∧ i < Int32.ofNat (ln a)) ∧ Runs 111 56 ls (zrf (O a i) :: st) (n, tg, ln, I, J, O) Q) := R_aald rfl ht (by decide)
theorem s111_55p (ht : tg a = 25) : Runs 111 55 ls (.int i :: .ref a :: st) (n, tg, ln, I, J, O) Q ↔ ((0 ≤ i ∧ i < Int32.ofNat (ln a)) ∧ Runs 111 56 ls (zrf (O a i) :: st) (n, tg, ln, I, J, O) Q) := R_aald rfl ht (by decide)
theorem s111_56 (ht : tg a = 1) : Runs 111 56 ls (.ref a :: st) (n, tg, ln, I, J, O) Q ↔ Runs 111 59 ls (zrf (O a 0) :: st) (n, tg, ln, I, J, O) Q := R_getr rfl rfl rfl rfl ht
theorem s111_59 : Runs 111 59 [x0, x1, some (.int i), x3, x4] st h Q ↔ Runs 111 60 [x0, x1, some (.int i), x3, x4] (.int i :: st) h Q := R_ildn rfl rfl
theorem s111_60 : Runs 111 60 [x0, x1, x2, x3, some (.ref a)] st h Q ↔ Runs 111 62 [x0, x1, x2, x3, some (.ref a)] (.ref a :: st) h Q := R_ald rfl rfl
theorem s111_60q : Runs 111 60 [x0, x1, x2, x3, some (zrf r)] st h Q ↔ Runs 111 62 [x0, x1, x2, x3, some (zrf r)] (zrf r :: st) h Q := R_aldq rfl rfl
theorem s111_62 (ht : tg a = 25) (hx : ∀ q, r = some q → tg q = 3) : Runs 111 62 ls (zrf r :: .int i :: .ref a :: st) (n, tg, ln, I, J, O) Q ↔ ((0 ≤ i ∧ i < Int32.ofNat (ln a)) ∧ Runs 111 63 ls st (n, tg, ln, I, J, zu O a i r) Q) := R_aasth rfl ht hx
theorem s111_63 : Runs 111 63 [x0, x1, x2, x3, some (.ref a)] st h Q ↔ Runs 111 65 [x0, x1, x2, x3, some (.ref a)] (.ref a :: st) h Q := R_ald rfl rfl
theorem s111_63q : Runs 111 63 [x0, x1, x2, x3, some (zrf r)] st h Q ↔ Runs 111 65 [x0, x1, x2, x3, some (zrf r)] (zrf r :: st) h Q := R_aldq rfl rfl
theorem s111_65 (ht : tg a = 3) : Runs 111 65 ls (.ref a :: st) (n, tg, ln, I, J, O) Q ↔ Runs 111 68 ls (.int (I a 3) :: st) (n, tg, ln, I, J, O) Q := R_geti rfl rfl rfl rfl ht
theorem s111_68 : Runs 111 68 ls [.int i] h Q ↔ Q (some (.int i)) h := R_iret rfl rfl
theorem s112_0 : Runs 112 0 [x0, some (.int i), x2, x3, x4] st h Q ↔ Runs 112 1 [x0, some (.int i), x2, x3, x4] (.int i :: st) h Q := R_ildn rfl rfl
theorem s112_1 (hs : zsumc st ≤ 8) : Runs 112 1 ls (.int i0 :: st) h Q ↔ Runs 118 0 [some (.int i0)] [] h (fun v h2 => Runs 112 4 ls (v.toList ++ st) h2 Q) := R_calls (rest := st) rfl rfl rfl (by simp) rfl rfl rfl rfl hs
theorem s112_4 : Runs 112 4 ls (.int i :: st) h Q ↔ if ¬ i = 0 then Runs 112 10 ls st h Q else Runs 112 7 ls st h Q := R_ifne rfl rfl
theorem s112_7 : Runs 112 7 ls st h Q ↔ Runs 112 9 ls (.int (-2) :: st) h Q := R_bipush rfl (by decide)
theorem s112_9 : Runs 112 9 ls [.int i] h Q ↔ Q (some (.int i)) h := R_iret rfl rfl
theorem s112_10 : Runs 112 10 [x0, x1, x2, some (.int i), x4] st h Q ↔ Runs 112 11 [x0, x1, x2, some (.int i), x4] (.int i :: st) h Q := R_ildn rfl rfl
theorem s112_11 : Runs 112 11 ls (.int i :: st) h Q ↔ if i < 0 then Runs 112 19 ls st h Q else Runs 112 14 ls st h Q := R_iflt rfl rfl
theorem s112_14 : Runs 112 14 [x0, x1, x2, some (.int i), x4] st h Q ↔ Runs 112 15 [x0, x1, x2, some (.int i), x4] (.int i :: st) h Q := R_ildn rfl rfl
theorem s112_15 : Runs 112 15 ls st h Q ↔ Runs 112 16 ls (.int 2 :: st) h Q := R_iconst rfl rfl
theorem s112_16 : Runs 112 16 ls (.int j :: .int i :: st) h Q ↔ if i ≤ j then Runs 112 22 ls st h Q else Runs 112 19 ls st h Q := R_icle rfl rfl
theorem s112_19 : Runs 112 19 ls st h Q ↔ Runs 112 21 ls (.int (-3) :: st) h Q := R_bipush rfl (by decide)
theorem s112_21 : Runs 112 21 ls [.int i] h Q ↔ Q (some (.int i)) h := R_iret rfl rfl
theorem s112_22 : Runs 112 22 [some (.ref a), x1, x2, x3, x4] st h Q ↔ Runs 112 23 [some (.ref a), x1, x2, x3, x4] (.ref a :: st) h Q := R_aldn rfl rfl
theorem s112_22q : Runs 112 22 [some (zrf r), x1, x2, x3, x4] st h Q ↔ Runs 112 23 [some (zrf r), x1, x2, x3, x4] (zrf r :: st) h Q := R_aldnq rfl rfl
theorem s112_23 (ht : tg a = 9) : Runs 112 23 ls (.ref a :: st) (n, tg, ln, I, J, O) Q ↔ Runs 112 26 ls (zrf (O a 7) :: st) (n, tg, ln, I, J, O) Q := R_getr rfl rfl rfl rfl ht
theorem s112_26 : Runs 112 26 [x0, some (.int i), x2, x3, x4] st h Q ↔ Runs 112 27 [x0, some (.int i), x2, x3, x4] (.int i :: st) h Q := R_ildn rfl rfl
theorem s112_27 (ht : tg a = 23) : Runs 112 27 ls (.int i :: .ref a :: st) (n, tg, ln, I, J, O) Q ↔ ((0 ≤ i ∧ i < Int32.ofNat (ln a)) ∧ Runs 112 28 ls (zrf (O a i) :: st) (n, tg, ln, I, J, O) Q) := R_aald rfl ht (by decide)
theorem s112_27q (ht : tg a = 24) : Runs 112 27 ls (.int i :: .ref a :: st) (n, tg, ln, I, J, O) Q ↔ ((0 ≤ i ∧ i < Int32.ofNat (ln a)) ∧ Runs 112 28 ls (zrf (O a i) :: st) (n, tg, ln, I, J, O) Q) := R_aald rfl ht (by decide)
theorem s112_27p (ht : tg a = 25) : Runs 112 27 ls (.int i :: .ref a :: st) (n, tg, ln, I, J, O) Q ↔ ((0 ≤ i ∧ i < Int32.ofNat (ln a)) ∧ Runs 112 28 ls (zrf (O a i) :: st) (n, tg, ln, I, J, O) Q) := R_aald rfl ht (by decide)
theorem s112_28 : Runs 112 28 [x0, x1, some (.int i), x3, x4] st h Q ↔ Runs 112 29 [x0, x1, some (.int i), x3, x4] (.int i :: st) h Q := R_ildn rfl rfl
theorem s112_29 (ht : tg a = 1) (hs : zsumc st ≤ 8) : Runs 112 29 ls (.int i0 :: .ref a :: st) (n, tg, ln, I, J, O) Q ↔ Runs 5 0 [some (.ref a), some (.int i0)] [] (n, tg, ln, I, J, O) (fun v h2 => Runs 112 32 ls (v.toList ++ st) h2 Q) := R_callv (a := a) (rest := st) rfl rfl rfl rfl rfl rfl rfl ht hs
theorem s112_32 : Runs 112 32 [x0, x1, x2, x3, x4] (.ref a :: st) h Q ↔ Runs 112 34 [x0, x1, x2, zdrop x3, some (.ref a)] st h Q := R_ast rfl rfl rfl
theorem s112_32q : Runs 112 32 [x0, x1, x2, x3, x4] (zrf r :: st) h Q ↔ Runs 112 34 [x0, x1, x2, zdrop x3, some (zrf r)] st h Q := R_astq rfl rfl rfl
theorem s112_34 : Runs 112 34 [x0, x1, x2, x3, some (.ref a)] st h Q ↔ Runs 112 36 [x0, x1, x2, x3, some (.ref a)] (.ref a :: st) h Q := R_ald rfl rfl
theorem s112_34q : Runs 112 34 [x0, x1, x2, x3, some (zrf r)] st h Q ↔ Runs 112 36 [x0, x1, x2, x3, some (zrf r)] (zrf r :: st) h Q := R_aldq rfl rfl
theorem s112_36 : Runs 112 36 ls (zrf r :: st) h Q ↔ if r = none then Runs 112 39 ls st h Q else Runs 112 52 ls st h Q := R_ifnn rfl rfl
theorem s112_39 : Runs 112 39 [some (.ref a), x1, x2, x3, x4] st h Q ↔ Runs 112 40 [some (.ref a), x1, x2, x3, x4] (.ref a :: st) h Q := R_aldn rfl rfl
theorem s112_39q : Runs 112 39 [some (zrf r), x1, x2, x3, x4] st h Q ↔ Runs 112 40 [some (zrf r), x1, x2, x3, x4] (zrf r :: st) h Q := R_aldnq rfl rfl
theorem s112_40 (ht : tg a = 9) : Runs 112 40 ls (.ref a :: st) (n, tg, ln, I, J, O) Q ↔ Runs 112 43 ls (zrf (O a 7) :: st) (n, tg, ln, I, J, O) Q := R_getr rfl rfl rfl rfl ht
theorem s112_43 : Runs 112 43 [x0, some (.int i), x2, x3, x4] st h Q ↔ Runs 112 44 [x0, some (.int i), x2, x3, x4] (.int i :: st) h Q := R_ildn rfl rfl
theorem s112_44 (ht : tg a = 23) : Runs 112 44 ls (.int i :: .ref a :: st) (n, tg, ln, I, J, O) Q ↔ ((0 ≤ i ∧ i < Int32.ofNat (ln a)) ∧ Runs 112 45 ls (zrf (O a i) :: st) (n, tg, ln, I, J, O) Q) := R_aald rfl ht (by decide)
theorem s112_44q (ht : tg a = 24) : Runs 112 44 ls (.int i :: .ref a :: st) (n, tg, ln, I, J, O) Q ↔ ((0 ≤ i ∧ i < Int32.ofNat (ln a)) ∧ Runs 112 45 ls (zrf (O a i) :: st) (n, tg, ln, I, J, O) Q) := R_aald rfl ht (by decide)
theorem s112_44p (ht : tg a = 25) : Runs 112 44 ls (.int i :: .ref a :: st) (n, tg, ln, I, J, O) Q ↔ ((0 ≤ i ∧ i < Int32.ofNat (ln a)) ∧ Runs 112 45 ls (zrf (O a i) :: st) (n, tg, ln, I, J, O) Q) := R_aald rfl ht (by decide)
theorem s112_45 : Runs 112 45 [x0, x1, some (.int i), x3, x4] st h Q ↔ Runs 112 46 [x0, x1, some (.int i), x3, x4] (.int i :: st) h Q := R_ildn rfl rfl
theorem s112_46 (ht : tg a = 1) (hs : zsumc st ≤ 8) : Runs 112 46 ls (.int i0 :: .ref a :: st) (n, tg, ln, I, J, O) Q ↔ Runs 6 0 [some (.ref a), some (.int i0), none] [] (n, tg, ln, I, J, O) (fun v h2 => Runs 112 49 ls (v.toList ++ st) h2 Q) := R_callv (a := a) (rest := st) rfl rfl rfl rfl rfl rfl rfl ht hs
theorem s112_49 : Runs 112 49 ls st h Q ↔ Runs 112 58 ls st h Q := R_goto rfl rfl
theorem s112_52 : Runs 112 52 [x0, x1, x2, x3, some (.ref a)] st h Q ↔ Runs 112 54 [x0, x1, x2, x3, some (.ref a)] (.ref a :: st) h Q := R_ald rfl rfl
theorem s112_52q : Runs 112 52 [x0, x1, x2, x3, some (zrf r)] st h Q ↔ Runs 112 54 [x0, x1, x2, x3, some (zrf r)] (zrf r :: st) h Q := R_aldq rfl rfl
theorem s112_54 : Runs 112 54 [x0, x1, x2, some (.int i), x4] st h Q ↔ Runs 112 55 [x0, x1, x2, some (.int i), x4] (.int i :: st) h Q := R_ildn rfl rfl
theorem s112_55 (ht : tg a = 3) (hs : zsumc st ≤ 8) : Runs 112 55 ls (.int i0 :: .ref a :: st) (n, tg, ln, I, J, O) Q ↔ Runs 15 0 [some (.ref a), some (.int i0)] [] (n, tg, ln, I, J, O) (fun v h2 => Runs 112 58 ls (v.toList ++ st) h2 Q) := R_callv (a := a) (rest := st) rfl rfl rfl rfl rfl rfl rfl ht hs
theorem s112_58 : Runs 112 58 ls [.int i] h Q ↔ Q (some (.int i)) h := R_iret rfl rfl
theorem s113_0 : Runs 113 0 [x0, some (.int i), x2, x3, x4, x5] st h Q ↔ Runs 113 1 [x0, some (.int i), x2, x3, x4, x5] (.int i :: st) h Q := R_ildn rfl rfl
theorem s113_1 (hs : zsumc st ≤ 8) : Runs 113 1 ls (.int i0 :: st) h Q ↔ Runs 118 0 [some (.int i0)] [] h (fun v h2 => Runs 113 4 ls (v.toList ++ st) h2 Q) := R_calls (rest := st) rfl rfl rfl (by simp) rfl rfl rfl rfl hs
theorem s113_4 : Runs 113 4 ls (.int i :: st) h Q ↔ if i = 0 then Runs 113 14 ls st h Q else Runs 113 7 ls st h Q := R_ifeq rfl rfl
theorem s113_7 : Runs 113 7 [x0, x1, x2, some (.int i), x4, x5] st h Q ↔ Runs 113 8 [x0, x1, x2, some (.int i), x4, x5] (.int i :: st) h Q := R_ildn rfl rfl
theorem s113_8 (hs : zsumc st ≤ 8) : Runs 113 8 ls (.int i0 :: st) h Q ↔ Runs 118 0 [some (.int i0)] [] h (fun v h2 => Runs 113 11 ls (v.toList ++ st) h2 Q) := R_calls (rest := st) rfl rfl rfl (by simp) rfl rfl rfl rfl hs
theorem s113_11 : Runs 113 11 ls (.int i :: st) h Q ↔ if ¬ i = 0 then Runs 113 17 ls st h Q else Runs 113 14 ls st h Q := R_ifne rfl rfl
theorem s113_14 : Runs 113 14 ls st h Q ↔ Runs 113 16 ls (.int (-2) :: st) h Q := R_bipush rfl (by decide)
theorem s113_16 : Runs 113 16 ls [.int i] h Q ↔ Q (some (.int i)) h := R_iret rfl rfl
theorem s113_17 : Runs 113 17 [some (.ref a), x1, x2, x3, x4, x5] st h Q ↔ Runs 113 18 [some (.ref a), x1, x2, x3, x4, x5] (.ref a :: st) h Q := R_aldn rfl rfl
theorem s113_17q : Runs 113 17 [some (zrf r), x1, x2, x3, x4, x5] st h Q ↔ Runs 113 18 [some (zrf r), x1, x2, x3, x4, x5] (zrf r :: st) h Q := R_aldnq rfl rfl
theorem s113_18 (ht : tg a = 9) : Runs 113 18 ls (.ref a :: st) (n, tg, ln, I, J, O) Q ↔ Runs 113 21 ls (zrf (O a 7) :: st) (n, tg, ln, I, J, O) Q := R_getr rfl rfl rfl rfl ht
theorem s113_21 : Runs 113 21 [x0, some (.int i), x2, x3, x4, x5] st h Q ↔ Runs 113 22 [x0, some (.int i), x2, x3, x4, x5] (.int i :: st) h Q := R_ildn rfl rfl
theorem s113_22 (ht : tg a = 23) : Runs 113 22 ls (.int i :: .ref a :: st) (n, tg, ln, I, J, O) Q ↔ ((0 ≤ i ∧ i < Int32.ofNat (ln a)) ∧ Runs 113 23 ls (zrf (O a i) :: st) (n, tg, ln, I, J, O) Q) := R_aald rfl ht (by decide)
theorem s113_22q (ht : tg a = 24) : Runs 113 22 ls (.int i :: .ref a :: st) (n, tg, ln, I, J, O) Q ↔ ((0 ≤ i ∧ i < Int32.ofNat (ln a)) ∧ Runs 113 23 ls (zrf (O a i) :: st) (n, tg, ln, I, J, O) Q) := R_aald rfl ht (by decide)
theorem s113_22p (ht : tg a = 25) : Runs 113 22 ls (.int i :: .ref a :: st) (n, tg, ln, I, J, O) Q ↔ ((0 ≤ i ∧ i < Int32.ofNat (ln a)) ∧ Runs 113 23 ls (zrf (O a i) :: st) (n, tg, ln, I, J, O) Q) := R_aald rfl ht (by decide)
theorem s113_23 (ht : tg a = 1) (hs : zsumc st ≤ 8) : Runs 113 23 ls (.ref a :: st) (n, tg, ln, I, J, O) Q ↔ Runs 1 0 [some (.ref a)] [] (n, tg, ln, I, J, O) (fun v h2 => Runs 113 26 ls (v.toList ++ st) h2 Q) := R_callv (a := a) (rest := st) rfl rfl rfl rfl rfl rfl rfl ht hs
theorem s113_26 : Runs 113 26 ls (.int i :: st) h Q ↔ if ¬ i = 0 then Runs 113 41 ls st h Q else Runs 113 29 ls st h Q := R_ifne rfl rfl
theorem s113_29 : Runs 113 29 [some (.ref a), x1, x2, x3, x4, x5] st h Q ↔ Runs 113 30 [some (.ref a), x1, x2, x3, x4, x5] (.ref a :: st) h Q := R_aldn rfl rfl
theorem s113_29q : Runs 113 29 [some (zrf r), x1, x2, x3, x4, x5] st h Q ↔ Runs 113 30 [some (zrf r), x1, x2, x3, x4, x5] (zrf r :: st) h Q := R_aldnq rfl rfl
theorem s113_30 (ht : tg a = 9) : Runs 113 30 ls (.ref a :: st) (n, tg, ln, I, J, O) Q ↔ Runs 113 33 ls (zrf (O a 7) :: st) (n, tg, ln, I, J, O) Q := R_getr rfl rfl rfl rfl ht
theorem s113_33 : Runs 113 33 [x0, x1, x2, some (.int i), x4, x5] st h Q ↔ Runs 113 34 [x0, x1, x2, some (.int i), x4, x5] (.int i :: st) h Q := R_ildn rfl rfl
theorem s113_34 (ht : tg a = 23) : Runs 113 34 ls (.int i :: .ref a :: st) (n, tg, ln, I, J, O) Q ↔ ((0 ≤ i ∧ i < Int32.ofNat (ln a)) ∧ Runs 113 35 ls (zrf (O a i) :: st) (n, tg, ln, I, J, O) Q) := R_aald rfl ht (by decide)
theorem s113_34q (ht : tg a = 24) : Runs 113 34 ls (.int i :: .ref a :: st) (n, tg, ln, I, J, O) Q ↔ ((0 ≤ i ∧ i < Int32.ofNat (ln a)) ∧ Runs 113 35 ls (zrf (O a i) :: st) (n, tg, ln, I, J, O) Q) := R_aald rfl ht (by decide)
theorem s113_34p (ht : tg a = 25) : Runs 113 34 ls (.int i :: .ref a :: st) (n, tg, ln, I, J, O) Q ↔ ((0 ≤ i ∧ i < Int32.ofNat (ln a)) ∧ Runs 113 35 ls (zrf (O a i) :: st) (n, tg, ln, I, J, O) Q) := R_aald rfl ht (by decide)
theorem s113_35 (ht : tg a = 1) (hs : zsumc st ≤ 8) : Runs 113 35 ls (.ref a :: st) (n, tg, ln, I, J, O) Q ↔ Runs 1 0 [some (.ref a)] [] (n, tg, ln, I, J, O) (fun v h2 => Runs 113 38 ls (v.toList ++ st) h2 Q) := R_callv (a := a) (rest := st) rfl rfl rfl rfl rfl rfl rfl ht hs
theorem s113_38 : Runs 113 38 ls (.int i :: st) h Q ↔ if i = 0 then Runs 113 44 ls st h Q else Runs 113 41 ls st h Q := R_ifeq rfl rfl
theorem s113_41 : Runs 113 41 ls st h Q ↔ Runs 113 43 ls (.int (-11) :: st) h Q := R_bipush rfl (by decide)
theorem s113_43 : Runs 113 43 ls [.int i] h Q ↔ Q (some (.int i)) h := R_iret rfl rfl
theorem s113_44 : Runs 113 44 [some (.ref a), x1, x2, x3, x4, x5] st h Q ↔ Runs 113 45 [some (.ref a), x1, x2, x3, x4, x5] (.ref a :: st) h Q := R_aldn rfl rfl
theorem s113_44q : Runs 113 44 [some (zrf r), x1, x2, x3, x4, x5] st h Q ↔ Runs 113 45 [some (zrf r), x1, x2, x3, x4, x5] (zrf r :: st) h Q := R_aldnq rfl rfl
theorem s113_45 (ht : tg a = 9) : Runs 113 45 ls (.ref a :: st) (n, tg, ln, I, J, O) Q ↔ Runs 113 48 ls (zrf (O a 7) :: st) (n, tg, ln, I, J, O) Q := R_getr rfl rfl rfl rfl ht
theorem s113_48 : Runs 113 48 [x0, some (.int i), x2, x3, x4, x5] st h Q ↔ Runs 113 49 [x0, some (.int i), x2, x3, x4, x5] (.int i :: st) h Q := R_ildn rfl rfl
theorem s113_49 (ht : tg a = 23) : Runs 113 49 ls (.int i :: .ref a :: st) (n, tg, ln, I, J, O) Q ↔ ((0 ≤ i ∧ i < Int32.ofNat (ln a)) ∧ Runs 113 50 ls (zrf (O a i) :: st) (n, tg, ln, I, J, O) Q) := R_aald rfl ht (by decide)
theorem s113_49q (ht : tg a = 24) : Runs 113 49 ls (.int i :: .ref a :: st) (n, tg, ln, I, J, O) Q ↔ ((0 ≤ i ∧ i < Int32.ofNat (ln a)) ∧ Runs 113 50 ls (zrf (O a i) :: st) (n, tg, ln, I, J, O) Q) := R_aald rfl ht (by decide)
theorem s113_49p (ht : tg a = 25) : Runs 113 49 ls (.int i :: .ref a :: st) (n, tg, ln, I, J, O) Q ↔ ((0 ≤ i ∧ i < Int32.ofNat (ln a)) ∧ Runs 113 50 ls (zrf (O a i) :: st) (n, tg, ln, I, J, O) Q) := R_aald rfl ht (by decide)
theorem s113_50 : Runs 113 50 [x0, x1, some (.int i), x3, x4, x5] st h Q ↔ Runs 113 51 [x0, x1, some (.int i), x3, x4, x5] (.int i :: st) h Q := R_ildn rfl rfl
theorem s113_51 : Runs 113 51 [x0, x1, x2, x3, x4, some (.int i)] st h Q ↔ Runs 113 53 [x0, x1, x2, x3, x4, some (.int i)] (.int i :: st) h Q := R_ild rfl rfl
theorem s113_53 (ht : tg a = 1) (hs : zsumc st ≤ 8) : Runs 113 53 ls (.int i1 :: .int i0 :: .ref a :: st) (n, tg, ln, I, J, O) Q ↔ Runs 7 0 [some (.ref a), some (.int i0), some (.int i1)] [] (n, tg, ln, I, J, O) (fun v h2 => Runs 113 56 ls (v.toList ++ st) h2 Q) := R_callv (a := a) (rest := st) rfl rfl rfl rfl rfl rfl rfl ht hs
theorem s113_56 : Runs 113 56 ls (.int i :: st) h Q ↔ if i = 0 then Runs 113 75 ls st h Q else Runs 113 59 ls st h Q := R_ifeq rfl rfl
theorem s113_59 : Runs 113 59 [some (.ref a), x1, x2, x3, x4, x5] st h Q ↔ Runs 113 60 [some (.ref a), x1, x2, x3, x4, x5] (.ref a :: st) h Q := R_aldn rfl rfl
theorem s113_59q : Runs 113 59 [some (zrf r), x1, x2, x3, x4, x5] st h Q ↔ Runs 113 60 [some (zrf r), x1, x2, x3, x4, x5] (zrf r :: st) h Q := R_aldnq rfl rfl
theorem s113_60 (ht : tg a = 9) : Runs 113 60 ls (.ref a :: st) (n, tg, ln, I, J, O) Q ↔ Runs 113 63 ls (zrf (O a 7) :: st) (n, tg, ln, I, J, O) Q := R_getr rfl rfl rfl rfl ht
theorem s113_63 : Runs 113 63 [x0, x1, x2, some (.int i), x4, x5] st h Q ↔ Runs 113 64 [x0, x1, x2, some (.int i), x4, x5] (.int i :: st) h Q := R_ildn rfl rfl
theorem s113_64 (ht : tg a = 23) : Runs 113 64 ls (.int i :: .ref a :: st) (n, tg, ln, I, J, O) Q ↔ ((0 ≤ i ∧ i < Int32.ofNat (ln a)) ∧ Runs 113 65 ls (zrf (O a i) :: st) (n, tg, ln, I, J, O) Q) := R_aald rfl ht (by decide)
theorem s113_64q (ht : tg a = 24) : Runs 113 64 ls (.int i :: .ref a :: st) (n, tg, ln, I, J, O) Q ↔ ((0 ≤ i ∧ i < Int32.ofNat (ln a)) ∧ Runs 113 65 ls (zrf (O a i) :: st) (n, tg, ln, I, J, O) Q) := R_aald rfl ht (by decide)
theorem s113_64p (ht : tg a = 25) : Runs 113 64 ls (.int i :: .ref a :: st) (n, tg, ln, I, J, O) Q ↔ ((0 ≤ i ∧ i < Int32.ofNat (ln a)) ∧ Runs 113 65 ls (zrf (O a i) :: st) (n, tg, ln, I, J, O) Q) := R_aald rfl ht (by decide)
theorem s113_65 : Runs 113 65 [x0, x1, x2, x3, some (.int i), x5] st h Q ↔ Runs 113 67 [x0, x1, x2, x3, some (.int i), x5] (.int i :: st) h Q := R_ild rfl rfl
theorem s113_67 : Runs 113 67 [x0, x1, x2, x3, x4, some (.int i)] st h Q ↔ Runs 113 69 [x0, x1, x2, x3, x4, some (.int i)] (.int i :: st) h Q := R_ild rfl rfl
theorem s113_69 (ht : tg a = 1) (hs : zsumc st ≤ 8) : Runs 113 69 ls (.int i1 :: .int i0 :: .ref a :: st) (n, tg, ln, I, J, O) Q ↔ Runs 7 0 [some (.ref a), some (.int i0), some (.int i1)] [] (n, tg, ln, I, J, O) (fun v h2 => Runs 113 72 ls (v.toList ++ st) h2 Q) := R_callv (a := a) (rest := st) rfl rfl rfl rfl rfl rfl rfl ht hs
theorem s113_72 : Runs 113 72 ls (.int i :: st) h Q ↔ if ¬ i = 0 then Runs 113 78 ls st h Q else Runs 113 75 ls st h Q := R_ifne rfl rfl
theorem s113_75 : Runs 113 75 ls st h Q ↔ Runs 113 77 ls (.int (-12) :: st) h Q := R_bipush rfl (by decide)
theorem s113_77 : Runs 113 77 ls [.int i] h Q ↔ Q (some (.int i)) h := R_iret rfl rfl
theorem s113_78 : Runs 113 78 [some (.ref a), x1, x2, x3, x4, x5] st h Q ↔ Runs 113 79 [some (.ref a), x1, x2, x3, x4, x5] (.ref a :: st) h Q := R_aldn rfl rfl
theorem s113_78q : Runs 113 78 [some (zrf r), x1, x2, x3, x4, x5] st h Q ↔ Runs 113 79 [some (zrf r), x1, x2, x3, x4, x5] (zrf r :: st) h Q := R_aldnq rfl rfl
theorem s113_79 (ht : tg a = 9) : Runs 113 79 ls (.ref a :: st) (n, tg, ln, I, J, O) Q ↔ Runs 113 82 ls (zrf (O a 7) :: st) (n, tg, ln, I, J, O) Q := R_getr rfl rfl rfl rfl ht
theorem s113_82 : Runs 113 82 [x0, x1, x2, some (.int i), x4, x5] st h Q ↔ Runs 113 83 [x0, x1, x2, some (.int i), x4, x5] (.int i :: st) h Q := R_ildn rfl rfl
theorem s113_83 (ht : tg a = 23) : Runs 113 83 ls (.int i :: .ref a :: st) (n, tg, ln, I, J, O) Q ↔ ((0 ≤ i ∧ i < Int32.ofNat (ln a)) ∧ Runs 113 84 ls (zrf (O a i) :: st) (n, tg, ln, I, J, O) Q) := R_aald rfl ht (by decide)
theorem s113_83q (ht : tg a = 24) : Runs 113 83 ls (.int i :: .ref a :: st) (n, tg, ln, I, J, O) Q ↔ ((0 ≤ i ∧ i < Int32.ofNat (ln a)) ∧ Runs 113 84 ls (zrf (O a i) :: st) (n, tg, ln, I, J, O) Q) := R_aald rfl ht (by decide)
theorem s113_83p (ht : tg a = 25) : Runs 113 83 ls (.int i :: .ref a :: st) (n, tg, ln, I, J, O) Q ↔ ((0 ≤ i ∧ i < Int32.ofNat (ln a)) ∧ Runs 113 84 ls (zrf (O a i) :: st) (n, tg, ln, I, J, O) Q) := R_aald rfl ht (by decide)
theorem s113_84 : Runs 113 84 [x0, x1, x2, x3, some (.int i), x5] st h Q ↔ Runs 113 86 [x0, x1, x2, x3, some (.int i), x5] (.int i :: st) h Q := R_ild rfl rfl
theorem s113_86 : Runs 113 86 [some (.ref a), x1, x2, x3, x4, x5] st h Q ↔ Runs 113 87 [some (.ref a), x1, x2, x3, x4, x5] (.ref a :: st) h Q := R_aldn rfl rfl
theorem s113_86q : Runs 113 86 [some (zrf r), x1, x2, x3, x4, x5] st h Q ↔ Runs 113 87 [some (zrf r), x1, x2, x3, x4, x5] (zrf r :: st) h Q := R_aldnq rfl rfl
theorem s113_87 (ht : tg a = 9) : Runs 113 87 ls (.ref a :: st) (n, tg, ln, I, J, O) Q ↔ Runs 113 90 ls (zrf (O a 7) :: st) (n, tg, ln, I, J, O) Q := R_getr rfl rfl rfl rfl ht
theorem s113_90 : Runs 113 90 [x0, some (.int i), x2, x3, x4, x5] st h Q ↔ Runs 113 91 [x0, some (.int i), x2, x3, x4, x5] (.int i :: st) h Q := R_ildn rfl rfl
theorem s113_91 (ht : tg a = 23) : Runs 113 91 ls (.int i :: .ref a :: st) (n, tg, ln, I, J, O) Q ↔ ((0 ≤ i ∧ i < Int32.ofNat (ln a)) ∧ Runs 113 92 ls (zrf (O a i) :: st) (n, tg, ln, I, J, O) Q) := R_aald rfl ht (by decide)
theorem s113_91q (ht : tg a = 24) : Runs 113 91 ls (.int i :: .ref a :: st) (n, tg, ln, I, J, O) Q ↔ ((0 ≤ i ∧ i < Int32.ofNat (ln a)) ∧ Runs 113 92 ls (zrf (O a i) :: st) (n, tg, ln, I, J, O) Q) := R_aald rfl ht (by decide)
theorem s113_91p (ht : tg a = 25) : Runs 113 91 ls (.int i :: .ref a :: st) (n, tg, ln, I, J, O) Q ↔ ((0 ≤ i ∧ i < Int32.ofNat (ln a)) ∧ Runs 113 92 ls (zrf (O a i) :: st) (n, tg, ln, I, J, O) Q) := R_aald rfl ht (by decide)
theorem s113_92 : Runs 113 92 [x0, x1, some (.int i), x3, x4, x5] st h Q ↔ Runs 113 93 [x0, x1, some (.int i), x3, x4, x5] (.int i :: st) h Q := R_ildn rfl rfl
theorem s113_93 : Runs 113 93 [x0, x1, x2, x3, x4, some (.int i)] st h Q ↔ Runs 113 95 [x0, x1, x2, x3, x4, some (.int i)] (.int i :: st) h Q := R_ild rfl rfl
theorem s113_95 (ht : tg a = 1) (hs : zsumc st ≤ 8) : Runs 113 95 ls (.int i3 :: .int i2 :: .ref b1 :: .int i0 :: .ref a :: st) (n, tg, ln, I, J, O) Q ↔ Runs 8 0 [some (.ref a), some (.int i0), some (.ref b1), some (.int i2), some (.int i3), none] [] (n, tg, ln, I, J, O) (fun v h2 => Runs 113 98 ls (v.toList ++ st) h2 Q) := R_callv (a := a) (rest := st) rfl rfl rfl rfl rfl rfl rfl ht hs
theorem s113_95q (ht : tg a = 1) (hs : zsumc st ≤ 8) : Runs 113 95 ls (.int i3 :: .int i2 :: zrf r1 :: .int i0 :: .ref a :: st) (n, tg, ln, I, J, O) Q ↔ Runs 8 0 [some (.ref a), some (.int i0), some (zrf r1), some (.int i2), some (.int i3), none] [] (n, tg, ln, I, J, O) (fun v h2 => Runs 113 98 ls (v.toList ++ st) h2 Q) := by cases r1 <;> exact R_callv (a := a) (rest := st) rfl rfl rfl rfl rfl rfl rfl ht hs
theorem s113_98 : Runs 113 98 [x0, x1, x2, x3, x4, some (.int i)] st h Q ↔ Runs 113 100 [x0, x1, x2, x3, x4, some (.int i)] (.int i :: st) h Q := R_ild rfl rfl
theorem s113_100 : Runs 113 100 ls [.int i] h Q ↔ Q (some (.int i)) h := R_iret rfl rfl
theorem s114_0 : Runs 114 0 [x0, some (.int i), x2] st h Q ↔ Runs 114 1 [x0, some (.int i), x2] (.int i :: st) h Q := R_ildn rfl rfl
theorem s114_1 (hs : zsumc st ≤ 8) : Runs 114 1 ls (.int i0 :: st) h Q ↔ Runs 118 0 [some (.int i0)] [] h (fun v h2 => Runs 114 4 ls (v.toList ++ st) h2 Q) := R_calls (rest := st) rfl rfl rfl (by simp) rfl rfl rfl rfl hs
theorem s114_4 : Runs 114 4 ls (.int i :: st) h Q ↔ if ¬ i = 0 then Runs 114 10 ls st h Q else Runs 114 7 ls st h Q := R_ifne rfl rfl
theorem s114_7 : Runs 114 7 ls st h Q ↔ Runs 114 9 ls (.int (-2) :: st) h Q := R_bipush rfl (by decide)
theorem s114_9 : Runs 114 9 ls [.int i] h Q ↔ Q (some (.int i)) h := R_iret rfl rfl
theorem s114_10 : Runs 114 10 [some (.ref a), x1, x2] st h Q ↔ Runs 114 11 [some (.ref a), x1, x2] (.ref a :: st) h Q := R_aldn rfl rfl
theorem s114_10q : Runs 114 10 [some (zrf r), x1, x2] st h Q ↔ Runs 114 11 [some (zrf r), x1, x2] (zrf r :: st) h Q := R_aldnq rfl rfl
theorem s114_11 (ht : tg a = 9) : Runs 114 11 ls (.ref a :: st) (n, tg, ln, I, J, O) Q ↔ Runs 114 14 ls (zrf (O a 7) :: st) (n, tg, ln, I, J, O) Q := R_getr rfl rfl rfl rfl ht
theorem s114_14 : Runs 114 14 [x0, some (.int i), x2] st h Q ↔ Runs 114 15 [x0, some (.int i), x2] (.int i :: st) h Q := R_ildn rfl rfl
theorem s114_15 (ht : tg a = 23) : Runs 114 15 ls (.int i :: .ref a :: st) (n, tg, ln, I, J, O) Q ↔ ((0 ≤ i ∧ i < Int32.ofNat (ln a)) ∧ Runs 114 16 ls (zrf (O a i) :: st) (n, tg, ln, I, J, O) Q) := R_aald rfl ht (by decide)
theorem s114_15q (ht : tg a = 24) : Runs 114 15 ls (.int i :: .ref a :: st) (n, tg, ln, I, J, O) Q ↔ ((0 ≤ i ∧ i < Int32.ofNat (ln a)) ∧ Runs 114 16 ls (zrf (O a i) :: st) (n, tg, ln, I, J, O) Q) := R_aald rfl ht (by decide)
theorem s114_15p (ht : tg a = 25) : Runs 114 15 ls (.int i :: .ref a :: st) (n, tg, ln, I, J, O) Q ↔ ((0 ≤ i ∧ i < Int32.ofNat (ln a)) ∧ Runs 114 16 ls (zrf (O a i) :: st) (n, tg, ln, I, J, O) Q) := R_aald rfl ht (by decide)
theorem s114_16 (ht : tg a = 1) (hs : zsumc st ≤ 8) : Runs 114 16 ls (.ref a :: st) (n, tg, ln, I, J, O) Q ↔ Runs 1 0 [some (.ref a)] [] (n, tg, ln, I, J, O) (fun v h2 => Runs 114 19 ls (v.toList ++ st) h2 Q) := R_callv (a := a) (rest := st) rfl rfl rfl rfl rfl rfl rfl ht hs
theorem s114_19 : Runs 114 19 ls (.int i :: st) h Q ↔ if i = 0 then Runs 114 25 ls st h Q else Runs 114 22 ls st h Q := R_ifeq rfl rfl
theorem s114_22 : Runs 114 22 ls st h Q ↔ Runs 114 24 ls (.int (-11) :: st) h Q := R_bipush rfl (by decide)
theorem s114_24 : Runs 114 24 ls [.int i] h Q ↔ Q (some (.int i)) h := R_iret rfl rfl
theorem s114_25 : Runs 114 25 [some (.ref a), x1, x2] st h Q ↔ Runs 114 26 [some (.ref a), x1, x2] (.ref a :: st) h Q := R_aldn rfl rfl
theorem s114_25q : Runs 114 25 [some (zrf r), x1, x2] st h Q ↔ Runs 114 26 [some (zrf r), x1, x2] (zrf r :: st) h Q := R_aldnq rfl rfl
theorem s114_26 (ht : tg a = 9) : Runs 114 26 ls (.ref a :: st) (n, tg, ln, I, J, O) Q ↔ Runs 114 29 ls (zrf (O a 7) :: st) (n, tg, ln, I, J, O) Q := R_getr rfl rfl rfl rfl ht
theorem s114_29 : Runs 114 29 [x0, some (.int i), x2] st h Q ↔ Runs 114 30 [x0, some (.int i), x2] (.int i :: st) h Q := R_ildn rfl rfl
theorem s114_30 (ht : tg a = 23) : Runs 114 30 ls (.int i :: .ref a :: st) (n, tg, ln, I, J, O) Q ↔ ((0 ≤ i ∧ i < Int32.ofNat (ln a)) ∧ Runs 114 31 ls (zrf (O a i) :: st) (n, tg, ln, I, J, O) Q) := R_aald rfl ht (by decide)
theorem s114_30q (ht : tg a = 24) : Runs 114 30 ls (.int i :: .ref a :: st) (n, tg, ln, I, J, O) Q ↔ ((0 ≤ i ∧ i < Int32.ofNat (ln a)) ∧ Runs 114 31 ls (zrf (O a i) :: st) (n, tg, ln, I, J, O) Q) := R_aald rfl ht (by decide)
theorem s114_30p (ht : tg a = 25) : Runs 114 30 ls (.int i :: .ref a :: st) (n, tg, ln, I, J, O) Q ↔ ((0 ≤ i ∧ i < Int32.ofNat (ln a)) ∧ Runs 114 31 ls (zrf (O a i) :: st) (n, tg, ln, I, J, O) Q) := R_aald rfl ht (by decide)
theorem s114_31 (ht : tg a = 1) (hs : zsumc st ≤ 8) : Runs 114 31 ls (.ref a :: st) (n, tg, ln, I, J, O) Q ↔ Runs 9 0 [some (.ref a), none, none] [] (n, tg, ln, I, J, O) (fun v h2 => Runs 114 34 ls (v.toList ++ st) h2 Q) := R_callv (a := a) (rest := st) rfl rfl rfl rfl rfl rfl rfl ht hs
theorem s114_34 : Runs 114 34 [x0, x1, x2] (.int i :: st) h Q ↔ Runs 114 35 [x0, zdrop x1, some (.int i)] st h Q := R_istn rfl rfl rfl
theorem s114_35 : Runs 114 35 [some (.ref a), x1, x2] st h Q ↔ Runs 114 36 [some (.ref a), x1, x2] (.ref a :: st) h Q := R_aldn rfl rfl
theorem s114_35q : Runs 114 35 [some (zrf r), x1, x2] st h Q ↔ Runs 114 36 [some (zrf r), x1, x2] (zrf r :: st) h Q := R_aldnq rfl rfl
theorem s114_36 (ht : tg a = 9) : Runs 114 36 ls (.ref a :: st) (n, tg, ln, I, J, O) Q ↔ Runs 114 39 ls (zrf (O a 7) :: st) (n, tg, ln, I, J, O) Q := R_getr rfl rfl rfl rfl ht
theorem s114_39 : Runs 114 39 [x0, some (.int i), x2] st h Q ↔ Runs 114 40 [x0, some (.int i), x2] (.int i :: st) h Q := R_ildn rfl rfl
theorem s114_40 (ht : tg a = 23) : Runs 114 40 ls (.int i :: .ref a :: st) (n, tg, ln, I, J, O) Q ↔ ((0 ≤ i ∧ i < Int32.ofNat (ln a)) ∧ Runs 114 41 ls (zrf (O a i) :: st) (n, tg, ln, I, J, O) Q) := R_aald rfl ht (by decide)
theorem s114_40q (ht : tg a = 24) : Runs 114 40 ls (.int i :: .ref a :: st) (n, tg, ln, I, J, O) Q ↔ ((0 ≤ i ∧ i < Int32.ofNat (ln a)) ∧ Runs 114 41 ls (zrf (O a i) :: st) (n, tg, ln, I, J, O) Q) := R_aald rfl ht (by decide)
theorem s114_40p (ht : tg a = 25) : Runs 114 40 ls (.int i :: .ref a :: st) (n, tg, ln, I, J, O) Q ↔ ((0 ≤ i ∧ i < Int32.ofNat (ln a)) ∧ Runs 114 41 ls (zrf (O a i) :: st) (n, tg, ln, I, J, O) Q) := R_aald rfl ht (by decide)
theorem s114_41 (ht : tg a = 1) (hs : zsumc st ≤ 8) : Runs 114 41 ls (.ref a :: st) (n, tg, ln, I, J, O) Q ↔ Runs 2 0 [some (.ref a)] [] (n, tg, ln, I, J, O) (fun v h2 => Runs 114 44 ls (v.toList ++ st) h2 Q) := R_callv (a := a) (rest := st) rfl rfl rfl rfl rfl rfl rfl ht hs
theorem s114_44 : Runs 114 44 [x0, x1, some (.int i)] st h Q ↔ Runs 114 45 [x0, x1, some (.int i)] (.int i :: st) h Q := R_ildn rfl rfl
theorem s114_45 : Runs 114 45 ls [.int i] h Q ↔ Q (some (.int i)) h := R_iret rfl rfl
theorem s115_0 : Runs 115 0 [x0, some (.int i)] st h Q ↔ Runs 115 1 [x0, some (.int i)] (.int i :: st) h Q := R_ildn rfl rfl
theorem s115_1 : Runs 115 1 ls (.int i :: st) h Q ↔ if i = 0 then Runs 115 64 ls st h Q else if i = 1 then Runs 115 72 ls st h Q else if i = 2 then Runs 115 84 ls st h Q else if i = 3 then Runs 115 96 ls st h Q else if i = 4 then Runs 115 104 ls st h Q else if i = 5 then Runs 115 112 ls st h Q else if i = 6 then Runs 115 120 ls st h Q else if i = 7 then Runs 115 129 ls st h Q else if i = 8 then Runs 115 138 ls st h Q else if i = 9 then Runs 115 146 ls st h Q else if i = 10 then Runs 115 151 ls st h Q else if i = 11 then Runs 115 159 ls st h Q else Runs 115 170 ls st h Q := by
  by_cases h0 : i = 0
  · rw [if_pos h0]; subst h0; exact R_tabI rfl (by decide) rfl rfl
  rw [if_neg h0]
  by_cases h1 : i = 1
  · rw [if_pos h1]; subst h1; exact R_tabI rfl (by decide) rfl rfl
  rw [if_neg h1]
  by_cases h2 : i = 2
  · rw [if_pos h2]; subst h2; exact R_tabI rfl (by decide) rfl rfl
  rw [if_neg h2]
  by_cases h3 : i = 3
  · rw [if_pos h3]; subst h3; exact R_tabI rfl (by decide) rfl rfl
  rw [if_neg h3]
  by_cases h4 : i = 4
  · rw [if_pos h4]; subst h4; exact R_tabI rfl (by decide) rfl rfl
  rw [if_neg h4]
  by_cases h5 : i = 5
  · rw [if_pos h5]; subst h5; exact R_tabI rfl (by decide) rfl rfl
  rw [if_neg h5]
  by_cases h6 : i = 6
  · rw [if_pos h6]; subst h6; exact R_tabI rfl (by decide) rfl rfl
  rw [if_neg h6]
  by_cases h7 : i = 7
  · rw [if_pos h7]; subst h7; exact R_tabI rfl (by decide) rfl rfl
  rw [if_neg h7]
  by_cases h8 : i = 8
  · rw [if_pos h8]; subst h8; exact R_tabI rfl (by decide) rfl rfl
  rw [if_neg h8]
  by_cases h9 : i = 9
  · rw [if_pos h9]; subst h9; exact R_tabI rfl (by decide) rfl rfl
  rw [if_neg h9]
  by_cases h10 : i = 10
  · rw [if_pos h10]; subst h10; exact R_tabI rfl (by decide) rfl rfl
  rw [if_neg h10]
  by_cases h11 : i = 11
  · rw [if_pos h11]; subst h11; exact R_tabI rfl (by decide) rfl rfl
  rw [if_neg h11]
  exact R_tabO rfl (zout 11 i (by decide) (fun v hv => match v, hv with
    | 0, _ => h0
    | 1, _ => h1
    | 2, _ => h2
    | 3, _ => h3
    | 4, _ => h4
    | 5, _ => h5
    | 6, _ => h6
    | 7, _ => h7
    | 8, _ => h8
    | 9, _ => h9
    | 10, _ => h10
    | 11, _ => h11
    | z + 12, hv => absurd hv (by omega))) rfl
theorem s115_64 : Runs 115 64 [some (.ref a), x1] st h Q ↔ Runs 115 65 [some (.ref a), x1] (.ref a :: st) h Q := R_aldn rfl rfl
theorem s115_64q : Runs 115 64 [some (zrf r), x1] st h Q ↔ Runs 115 65 [some (zrf r), x1] (zrf r :: st) h Q := R_aldnq rfl rfl
theorem s115_65 (ht : tg a = 9) : Runs 115 65 ls (.ref a :: st) (n, tg, ln, I, J, O) Q ↔ Runs 115 68 ls (zrf (O a 0) :: st) (n, tg, ln, I, J, O) Q := R_getr rfl rfl rfl rfl ht
theorem s115_68 (ht : tg a = 5) : Runs 115 68 ls (.ref a :: st) (n, tg, ln, I, J, O) Q ↔ Runs 115 71 ls (.int (I a 5) :: st) (n, tg, ln, I, J, O) Q := R_geti rfl rfl rfl rfl ht
theorem s115_71 : Runs 115 71 ls [.int i] h Q ↔ Q (some (.int i)) h := R_iret rfl rfl
theorem s115_72 : Runs 115 72 [some (.ref a), x1] st h Q ↔ Runs 115 73 [some (.ref a), x1] (.ref a :: st) h Q := R_aldn rfl rfl
theorem s115_72q : Runs 115 72 [some (zrf r), x1] st h Q ↔ Runs 115 73 [some (zrf r), x1] (zrf r :: st) h Q := R_aldnq rfl rfl
theorem s115_73 (ht : tg a = 9) : Runs 115 73 ls (.ref a :: st) (n, tg, ln, I, J, O) Q ↔ Runs 115 76 ls (zrf (O a 0) :: st) (n, tg, ln, I, J, O) Q := R_getr rfl rfl rfl rfl ht
theorem s115_76 : Runs 115 76 ls st h Q ↔ Runs 115 77 ls (.int 0 :: st) h Q := R_iconst rfl rfl
theorem s115_77 (ht : tg a = 5) (hs : zsumc st ≤ 8) : Runs 115 77 ls (.int i0 :: .ref a :: st) (n, tg, ln, I, J, O) Q ↔ Runs 41 0 [some (.ref a), some (.int i0)] [] (n, tg, ln, I, J, O) (fun v h2 => Runs 115 80 ls (v.toList ++ st) h2 Q) := R_callv (a := a) (rest := st) rfl rfl rfl rfl rfl rfl rfl ht hs
theorem s115_80 (ht : tg a = 4) : Runs 115 80 ls (.ref a :: st) (n, tg, ln, I, J, O) Q ↔ Runs 115 83 ls (.int (I a 1) :: st) (n, tg, ln, I, J, O) Q := R_geti rfl rfl rfl rfl ht
theorem s115_83 : Runs 115 83 ls [.int i] h Q ↔ Q (some (.int i)) h := R_iret rfl rfl
theorem s115_84 : Runs 115 84 [some (.ref a), x1] st h Q ↔ Runs 115 85 [some (.ref a), x1] (.ref a :: st) h Q := R_aldn rfl rfl
theorem s115_84q : Runs 115 84 [some (zrf r), x1] st h Q ↔ Runs 115 85 [some (zrf r), x1] (zrf r :: st) h Q := R_aldnq rfl rfl
theorem s115_85 (ht : tg a = 9) : Runs 115 85 ls (.ref a :: st) (n, tg, ln, I, J, O) Q ↔ Runs 115 88 ls (zrf (O a 0) :: st) (n, tg, ln, I, J, O) Q := R_getr rfl rfl rfl rfl ht
theorem s115_88 : Runs 115 88 ls st h Q ↔ Runs 115 89 ls (.int 1 :: st) h Q := R_iconst rfl rfl
theorem s115_89 (ht : tg a = 5) (hs : zsumc st ≤ 8) : Runs 115 89 ls (.int i0 :: .ref a :: st) (n, tg, ln, I, J, O) Q ↔ Runs 41 0 [some (.ref a), some (.int i0)] [] (n, tg, ln, I, J, O) (fun v h2 => Runs 115 92 ls (v.toList ++ st) h2 Q) := R_callv (a := a) (rest := st) rfl rfl rfl rfl rfl rfl rfl ht hs
theorem s115_92 (ht : tg a = 4) : Runs 115 92 ls (.ref a :: st) (n, tg, ln, I, J, O) Q ↔ Runs 115 95 ls (.int (I a 1) :: st) (n, tg, ln, I, J, O) Q := R_geti rfl rfl rfl rfl ht
theorem s115_95 : Runs 115 95 ls [.int i] h Q ↔ Q (some (.int i)) h := R_iret rfl rfl
theorem s115_96 : Runs 115 96 [some (.ref a), x1] st h Q ↔ Runs 115 97 [some (.ref a), x1] (.ref a :: st) h Q := R_aldn rfl rfl
theorem s115_96q : Runs 115 96 [some (zrf r), x1] st h Q ↔ Runs 115 97 [some (zrf r), x1] (zrf r :: st) h Q := R_aldnq rfl rfl
theorem s115_97 (ht : tg a = 9) : Runs 115 97 ls (.ref a :: st) (n, tg, ln, I, J, O) Q ↔ Runs 115 100 ls (zrf (O a 0) :: st) (n, tg, ln, I, J, O) Q := R_getr rfl rfl rfl rfl ht
theorem s115_100 (ht : tg a = 5) : Runs 115 100 ls (.ref a :: st) (n, tg, ln, I, J, O) Q ↔ Runs 115 103 ls (.int (I a 6) :: st) (n, tg, ln, I, J, O) Q := R_geti rfl rfl rfl rfl ht
theorem s115_103 : Runs 115 103 ls [.int i] h Q ↔ Q (some (.int i)) h := R_iret rfl rfl
theorem s115_104 : Runs 115 104 [some (.ref a), x1] st h Q ↔ Runs 115 105 [some (.ref a), x1] (.ref a :: st) h Q := R_aldn rfl rfl
theorem s115_104q : Runs 115 104 [some (zrf r), x1] st h Q ↔ Runs 115 105 [some (zrf r), x1] (zrf r :: st) h Q := R_aldnq rfl rfl
theorem s115_105 (ht : tg a = 9) : Runs 115 105 ls (.ref a :: st) (n, tg, ln, I, J, O) Q ↔ Runs 115 108 ls (zrf (O a 0) :: st) (n, tg, ln, I, J, O) Q := R_getr rfl rfl rfl rfl ht
theorem s115_108 (ht : tg a = 5) : Runs 115 108 ls (.ref a :: st) (n, tg, ln, I, J, O) Q ↔ Runs 115 111 ls (.int (I a 8) :: st) (n, tg, ln, I, J, O) Q := R_geti rfl rfl rfl rfl ht
theorem s115_111 : Runs 115 111 ls [.int i] h Q ↔ Q (some (.int i)) h := R_iret rfl rfl
theorem s115_112 : Runs 115 112 [some (.ref a), x1] st h Q ↔ Runs 115 113 [some (.ref a), x1] (.ref a :: st) h Q := R_aldn rfl rfl
theorem s115_112q : Runs 115 112 [some (zrf r), x1] st h Q ↔ Runs 115 113 [some (zrf r), x1] (zrf r :: st) h Q := R_aldnq rfl rfl
theorem s115_113 (ht : tg a = 9) : Runs 115 113 ls (.ref a :: st) (n, tg, ln, I, J, O) Q ↔ Runs 115 116 ls (zrf (O a 0) :: st) (n, tg, ln, I, J, O) Q := R_getr rfl rfl rfl rfl ht
theorem s115_116 (ht : tg a = 5) : Runs 115 116 ls (.ref a :: st) (n, tg, ln, I, J, O) Q ↔ Runs 115 119 ls (.int (I a 7) :: st) (n, tg, ln, I, J, O) Q := R_geti rfl rfl rfl rfl ht
theorem s115_119 : Runs 115 119 ls [.int i] h Q ↔ Q (some (.int i)) h := R_iret rfl rfl
theorem s115_120 : Runs 115 120 [some (.ref a), x1] st h Q ↔ Runs 115 121 [some (.ref a), x1] (.ref a :: st) h Q := R_aldn rfl rfl
theorem s115_120q : Runs 115 120 [some (zrf r), x1] st h Q ↔ Runs 115 121 [some (zrf r), x1] (zrf r :: st) h Q := R_aldnq rfl rfl
theorem s115_121 (ht : tg a = 9) : Runs 115 121 ls (.ref a :: st) (n, tg, ln, I, J, O) Q ↔ Runs 115 124 ls (zrf (O a 0) :: st) (n, tg, ln, I, J, O) Q := R_getr rfl rfl rfl rfl ht
theorem s115_124 : Runs 115 124 ls st h Q ↔ Runs 115 125 ls (.int 1 :: st) h Q := R_iconst rfl rfl
theorem s115_125 (ht : tg a = 5) (hs : zsumc st ≤ 8) : Runs 115 125 ls (.int i0 :: .ref a :: st) (n, tg, ln, I, J, O) Q ↔ Runs 44 0 [some (.ref a), some (.int i0), none, none] [] (n, tg, ln, I, J, O) (fun v h2 => Runs 115 128 ls (v.toList ++ st) h2 Q) := R_callv (a := a) (rest := st) rfl rfl rfl rfl rfl rfl rfl ht hs
theorem s115_128 : Runs 115 128 ls [.int i] h Q ↔ Q (some (.int i)) h := R_iret rfl rfl
theorem s115_129 : Runs 115 129 [some (.ref a), x1] st h Q ↔ Runs 115 130 [some (.ref a), x1] (.ref a :: st) h Q := R_aldn rfl rfl
theorem s115_129q : Runs 115 129 [some (zrf r), x1] st h Q ↔ Runs 115 130 [some (zrf r), x1] (zrf r :: st) h Q := R_aldnq rfl rfl
theorem s115_130 (ht : tg a = 9) : Runs 115 130 ls (.ref a :: st) (n, tg, ln, I, J, O) Q ↔ Runs 115 133 ls (zrf (O a 0) :: st) (n, tg, ln, I, J, O) Q := R_getr rfl rfl rfl rfl ht
theorem s115_133 : Runs 115 133 ls st h Q ↔ Runs 115 134 ls (.int 2 :: st) h Q := R_iconst rfl rfl
theorem s115_134 (ht : tg a = 5) (hs : zsumc st ≤ 8) : Runs 115 134 ls (.int i0 :: .ref a :: st) (n, tg, ln, I, J, O) Q ↔ Runs 44 0 [some (.ref a), some (.int i0), none, none] [] (n, tg, ln, I, J, O) (fun v h2 => Runs 115 137 ls (v.toList ++ st) h2 Q) := R_callv (a := a) (rest := st) rfl rfl rfl rfl rfl rfl rfl ht hs
theorem s115_137 : Runs 115 137 ls [.int i] h Q ↔ Q (some (.int i)) h := R_iret rfl rfl
theorem s115_138 : Runs 115 138 [some (.ref a), x1] st h Q ↔ Runs 115 139 [some (.ref a), x1] (.ref a :: st) h Q := R_aldn rfl rfl
theorem s115_138q : Runs 115 138 [some (zrf r), x1] st h Q ↔ Runs 115 139 [some (zrf r), x1] (zrf r :: st) h Q := R_aldnq rfl rfl
theorem s115_139 (ht : tg a = 9) : Runs 115 139 ls (.ref a :: st) (n, tg, ln, I, J, O) Q ↔ Runs 115 142 ls (zrf (O a 6) :: st) (n, tg, ln, I, J, O) Q := R_getr rfl rfl rfl rfl ht
theorem s115_142 (ht : tg a = 7) : Runs 115 142 ls (.ref a :: st) (n, tg, ln, I, J, O) Q ↔ Runs 115 145 ls (.int (I a 2) :: st) (n, tg, ln, I, J, O) Q := R_geti rfl rfl rfl rfl ht
theorem s115_145 : Runs 115 145 ls [.int i] h Q ↔ Q (some (.int i)) h := R_iret rfl rfl
theorem s115_146 : Runs 115 146 [some (.ref a), x1] st h Q ↔ Runs 115 147 [some (.ref a), x1] (.ref a :: st) h Q := R_aldn rfl rfl
theorem s115_146q : Runs 115 146 [some (zrf r), x1] st h Q ↔ Runs 115 147 [some (zrf r), x1] (zrf r :: st) h Q := R_aldnq rfl rfl
theorem s115_147 (ht : tg a = 9) (hs : zsumc st ≤ 8) : Runs 115 147 ls (.ref a :: st) (n, tg, ln, I, J, O) Q ↔ Runs 125 0 [some (.ref a), none, none] [] (n, tg, ln, I, J, O) (fun v h2 => Runs 115 150 ls (v.toList ++ st) h2 Q) := R_callv (a := a) (rest := st) rfl rfl rfl rfl rfl rfl rfl ht hs
theorem s115_150 : Runs 115 150 ls [.int i] h Q ↔ Q (some (.int i)) h := R_iret rfl rfl
theorem s115_151 : Runs 115 151 [some (.ref a), x1] st h Q ↔ Runs 115 152 [some (.ref a), x1] (.ref a :: st) h Q := R_aldn rfl rfl
theorem s115_151q : Runs 115 151 [some (zrf r), x1] st h Q ↔ Runs 115 152 [some (zrf r), x1] (zrf r :: st) h Q := R_aldnq rfl rfl
theorem s115_152 (ht : tg a = 9) : Runs 115 152 ls (.ref a :: st) (n, tg, ln, I, J, O) Q ↔ Runs 115 155 ls (zrf (O a 3) :: st) (n, tg, ln, I, J, O) Q := R_getr rfl rfl rfl rfl ht
theorem s115_155 (ht : tg a = 2) : Runs 115 155 ls (.ref a :: st) (n, tg, ln, I, J, O) Q ↔ Runs 115 158 ls (.int (I a 2) :: st) (n, tg, ln, I, J, O) Q := R_geti rfl rfl rfl rfl ht
theorem s115_158 : Runs 115 158 ls [.int i] h Q ↔ Q (some (.int i)) h := R_iret rfl rfl
theorem s115_159 : Runs 115 159 [some (.ref a), x1] st h Q ↔ Runs 115 160 [some (.ref a), x1] (.ref a :: st) h Q := R_aldn rfl rfl
theorem s115_159q : Runs 115 159 [some (zrf r), x1] st h Q ↔ Runs 115 160 [some (zrf r), x1] (zrf r :: st) h Q := R_aldnq rfl rfl
theorem s115_160 (ht : tg a = 9) : Runs 115 160 ls (.ref a :: st) (n, tg, ln, I, J, O) Q ↔ Runs 115 163 ls (zrf (O a 2) :: st) (n, tg, ln, I, J, O) Q := R_getr rfl rfl rfl rfl ht
theorem s115_163 (ht : tg a = 6) : Runs 115 163 ls (.ref a :: st) (n, tg, ln, I, J, O) Q ↔ Runs 115 166 ls (zrf (O a 0) :: st) (n, tg, ln, I, J, O) Q := R_getr rfl rfl rfl rfl ht
theorem s115_166 (ht : tg a = 8) : Runs 115 166 ls (.ref a :: st) (n, tg, ln, I, J, O) Q ↔ Runs 115 169 ls (.int (I a 1) :: st) (n, tg, ln, I, J, O) Q := R_geti rfl rfl rfl rfl ht
theorem s115_169 : Runs 115 169 ls [.int i] h Q ↔ Q (some (.int i)) h := R_iret rfl rfl
theorem s115_170 : Runs 115 170 ls st h Q ↔ Runs 115 172 ls (.int (-3) :: st) h Q := R_bipush rfl (by decide)
theorem s115_172 : Runs 115 172 ls [.int i] h Q ↔ Q (some (.int i)) h := R_iret rfl rfl
theorem s116_0 : Runs 116 0 [some (.int i)] st h Q ↔ Runs 116 1 [some (.int i)] (.int i :: st) h Q := R_ildn rfl rfl
theorem s116_1 : Runs 116 1 ls (.int i :: st) h Q ↔ if i < 0 then Runs 116 13 ls st h Q else Runs 116 4 ls st h Q := R_iflt rfl rfl
theorem s116_4 : Runs 116 4 [some (.int i)] st h Q ↔ Runs 116 5 [some (.int i)] (.int i :: st) h Q := R_ildn rfl rfl
theorem s116_5 : Runs 116 5 ls st h Q ↔ Runs 116 6 ls (.int 2 :: st) h Q := R_iconst rfl rfl
theorem s116_6 : Runs 116 6 ls (.int j :: .int i :: st) h Q ↔ if j ≤ i then Runs 116 13 ls st h Q else Runs 116 9 ls st h Q := R_icge rfl rfl
theorem s116_9 : Runs 116 9 ls st h Q ↔ Runs 116 10 ls (.int 1 :: st) h Q := R_iconst rfl rfl
theorem s116_10 : Runs 116 10 ls st h Q ↔ Runs 116 14 ls st h Q := R_goto rfl rfl
theorem s116_13 : Runs 116 13 ls st h Q ↔ Runs 116 14 ls (.int 0 :: st) h Q := R_iconst rfl rfl
theorem s116_14 (hx : i = 0 ∨ i = 1) : Runs 116 14 ls [.int i] h Q ↔ Q (some (.int i)) h := R_zret rfl rfl hx
theorem s117_0 : Runs 117 0 [some (.int i)] st h Q ↔ Runs 117 1 [some (.int i)] (.int i :: st) h Q := R_ildn rfl rfl
theorem s117_1 : Runs 117 1 ls (.int i :: st) h Q ↔ if i < 0 then Runs 117 13 ls st h Q else Runs 117 4 ls st h Q := R_iflt rfl rfl
theorem s117_4 : Runs 117 4 [some (.int i)] st h Q ↔ Runs 117 5 [some (.int i)] (.int i :: st) h Q := R_ildn rfl rfl
theorem s117_5 : Runs 117 5 ls st h Q ↔ Runs 117 6 ls (.int 2 :: st) h Q := R_iconst rfl rfl
theorem s117_6 : Runs 117 6 ls (.int j :: .int i :: st) h Q ↔ if j ≤ i then Runs 117 13 ls st h Q else Runs 117 9 ls st h Q := R_icge rfl rfl
theorem s117_9 : Runs 117 9 ls st h Q ↔ Runs 117 10 ls (.int 1 :: st) h Q := R_iconst rfl rfl
theorem s117_10 : Runs 117 10 ls st h Q ↔ Runs 117 14 ls st h Q := R_goto rfl rfl
theorem s117_13 : Runs 117 13 ls st h Q ↔ Runs 117 14 ls (.int 0 :: st) h Q := R_iconst rfl rfl
theorem s117_14 (hx : i = 0 ∨ i = 1) : Runs 117 14 ls [.int i] h Q ↔ Q (some (.int i)) h := R_zret rfl rfl hx
theorem s118_0 : Runs 118 0 [some (.int i)] st h Q ↔ Runs 118 1 [some (.int i)] (.int i :: st) h Q := R_ildn rfl rfl
theorem s118_1 : Runs 118 1 ls (.int i :: st) h Q ↔ if i < 0 then Runs 118 13 ls st h Q else Runs 118 4 ls st h Q := R_iflt rfl rfl
theorem s118_4 : Runs 118 4 [some (.int i)] st h Q ↔ Runs 118 5 [some (.int i)] (.int i :: st) h Q := R_ildn rfl rfl
theorem s118_5 : Runs 118 5 ls st h Q ↔ Runs 118 6 ls (.int 3 :: st) h Q := R_iconst rfl rfl
theorem s118_6 : Runs 118 6 ls (.int j :: .int i :: st) h Q ↔ if j ≤ i then Runs 118 13 ls st h Q else Runs 118 9 ls st h Q := R_icge rfl rfl
theorem s118_9 : Runs 118 9 ls st h Q ↔ Runs 118 10 ls (.int 1 :: st) h Q := R_iconst rfl rfl
theorem s118_10 : Runs 118 10 ls st h Q ↔ Runs 118 14 ls st h Q := R_goto rfl rfl
theorem s118_13 : Runs 118 13 ls st h Q ↔ Runs 118 14 ls (.int 0 :: st) h Q := R_iconst rfl rfl
theorem s118_14 (hx : i = 0 ∨ i = 1) : Runs 118 14 ls [.int i] h Q ↔ Q (some (.int i)) h := R_zret rfl rfl hx
theorem s119_0 : Runs 119 0 [some (.int i), x1] st h Q ↔ Runs 119 1 [some (.int i), x1] (.int i :: st) h Q := R_ildn rfl rfl
theorem s119_1 : Runs 119 1 ls (.int i :: st) h Q ↔ if i < 0 then Runs 119 23 ls st h Q else Runs 119 4 ls st h Q := R_iflt rfl rfl
theorem s119_4 : Runs 119 4 [some (.int i), x1] st h Q ↔ Runs 119 5 [some (.int i), x1] (.int i :: st) h Q := R_ildn rfl rfl
theorem s119_5 : Runs 119 5 ls st h Q ↔ Runs 119 6 ls (.int 4 :: st) h Q := R_iconst rfl rfl
theorem s119_6 : Runs 119 6 ls (.int j :: .int i :: st) h Q ↔ if j < i then Runs 119 23 ls st h Q else Runs 119 9 ls st h Q := R_icgt rfl rfl
theorem s119_9 : Runs 119 9 [x0, some (.int i)] st h Q ↔ Runs 119 10 [x0, some (.int i)] (.int i :: st) h Q := R_ildn rfl rfl
theorem s119_10 : Runs 119 10 ls (.int i :: st) h Q ↔ if i < 0 then Runs 119 23 ls st h Q else Runs 119 13 ls st h Q := R_iflt rfl rfl
theorem s119_13 : Runs 119 13 [x0, some (.int i)] st h Q ↔ Runs 119 14 [x0, some (.int i)] (.int i :: st) h Q := R_ildn rfl rfl
theorem s119_14 : Runs 119 14 ls st h Q ↔ Runs 119 16 ls (.int 99 :: st) h Q := R_bipush rfl (by decide)
theorem s119_16 : Runs 119 16 ls (.int j :: .int i :: st) h Q ↔ if j < i then Runs 119 23 ls st h Q else Runs 119 19 ls st h Q := R_icgt rfl rfl
theorem s119_19 : Runs 119 19 ls st h Q ↔ Runs 119 20 ls (.int 1 :: st) h Q := R_iconst rfl rfl
theorem s119_20 : Runs 119 20 ls st h Q ↔ Runs 119 24 ls st h Q := R_goto rfl rfl
theorem s119_23 : Runs 119 23 ls st h Q ↔ Runs 119 24 ls (.int 0 :: st) h Q := R_iconst rfl rfl
theorem s119_24 (hx : i = 0 ∨ i = 1) : Runs 119 24 ls [.int i] h Q ↔ Q (some (.int i)) h := R_zret rfl rfl hx
theorem s120_0 : Runs 120 0 ls st h Q ↔ Runs 120 1 ls (.int 1 :: st) h Q := R_iconst rfl rfl
theorem s120_1 : Runs 120 1 [x0, x1, x2, x3] (.int i :: st) h Q ↔ Runs 120 2 [x0, x1, zdrop x2, some (.int i)] st h Q := R_istn rfl rfl rfl
theorem s120_2 : Runs 120 2 [x0, x1, x2, some (.int i)] st h Q ↔ Runs 120 3 [x0, x1, x2, some (.int i)] (.int i :: st) h Q := R_ildn rfl rfl
theorem s120_3 : Runs 120 3 [x0, x1, some (.int i), x3] st h Q ↔ Runs 120 4 [x0, x1, some (.int i), x3] (.int i :: st) h Q := R_ildn rfl rfl
theorem s120_4 : Runs 120 4 ls (.int j :: .int i :: st) h Q ↔ if j < i then Runs 120 26 ls st h Q else Runs 120 7 ls st h Q := R_icgt rfl rfl
theorem s120_7 : Runs 120 7 [some (.ref a), x1, x2, x3] st h Q ↔ Runs 120 8 [some (.ref a), x1, x2, x3] (.ref a :: st) h Q := R_aldn rfl rfl
theorem s120_7q : Runs 120 7 [some (zrf r), x1, x2, x3] st h Q ↔ Runs 120 8 [some (zrf r), x1, x2, x3] (zrf r :: st) h Q := R_aldnq rfl rfl
theorem s120_8 (ht : tg a = 9) : Runs 120 8 ls (.ref a :: st) (n, tg, ln, I, J, O) Q ↔ Runs 120 11 ls (zrf (O a 1) :: st) (n, tg, ln, I, J, O) Q := R_getr rfl rfl rfl rfl ht
theorem s120_11 (ht : tg a = 5) (hs : zsumc st ≤ 8) : Runs 120 11 ls (.ref a :: st) (n, tg, ln, I, J, O) Q ↔ Runs 51 0 [some (.ref a), none, none] [] (n, tg, ln, I, J, O) (fun v h2 => Runs 120 14 ls (v.toList ++ st) h2 Q) := R_callv (a := a) (rest := st) rfl rfl rfl rfl rfl rfl rfl ht hs
theorem s120_14 : Runs 120 14 [x0, some (.int i), x2, x3] st h Q ↔ Runs 120 15 [x0, some (.int i), x2, x3] (.int i :: st) h Q := R_ildn rfl rfl
theorem s120_15 : Runs 120 15 ls (.int j :: .int i :: st) h Q ↔ if ¬ i = j then Runs 120 20 ls st h Q else Runs 120 18 ls st h Q := R_icne rfl rfl
theorem s120_18 : Runs 120 18 [x0, x1, x2, some (.int i)] st h Q ↔ Runs 120 19 [x0, x1, x2, some (.int i)] (.int i :: st) h Q := R_ildn rfl rfl
theorem s120_19 : Runs 120 19 ls [.int i] h Q ↔ Q (some (.int i)) h := R_iret rfl rfl
theorem s120_20 : Runs 120 20 [x0, x1, x2, some (.int i)] st h Q ↔ Runs 120 23 [x0, x1, zdrop x2, some (.int (i + 1))] st h Q := R_iinc rfl rfl rfl rfl rfl
theorem s120_23 : Runs 120 23 ls st h Q ↔ Runs 120 2 ls st h Q := R_goto rfl rfl
theorem s120_26 : Runs 120 26 ls st h Q ↔ Runs 120 27 ls (.int (-1) :: st) h Q := R_iconst rfl rfl
theorem s120_27 : Runs 120 27 ls [.int i] h Q ↔ Q (some (.int i)) h := R_iret rfl rfl
theorem s121_0 : Runs 121 0 [some (.ref a), x1, x2, x3] st h Q ↔ Runs 121 1 [some (.ref a), x1, x2, x3] (.ref a :: st) h Q := R_aldn rfl rfl
theorem s121_0q : Runs 121 0 [some (zrf r), x1, x2, x3] st h Q ↔ Runs 121 1 [some (zrf r), x1, x2, x3] (zrf r :: st) h Q := R_aldnq rfl rfl
theorem s121_1 (ht : tg a = 9) : Runs 121 1 ls (.ref a :: st) (n, tg, ln, I, J, O) Q ↔ Runs 121 4 ls (zrf (O a 1) :: st) (n, tg, ln, I, J, O) Q := R_getr rfl rfl rfl rfl ht
theorem s121_4 : Runs 121 4 [some (.ref a), x1, x2, x3] st h Q ↔ Runs 121 5 [some (.ref a), x1, x2, x3] (.ref a :: st) h Q := R_aldn rfl rfl
theorem s121_4q : Runs 121 4 [some (zrf r), x1, x2, x3] st h Q ↔ Runs 121 5 [some (zrf r), x1, x2, x3] (zrf r :: st) h Q := R_aldnq rfl rfl
theorem s121_5 (ht : tg a = 9) : Runs 121 5 ls (.ref a :: st) (n, tg, ln, I, J, O) Q ↔ Runs 121 8 ls (zrf (O a 0) :: st) (n, tg, ln, I, J, O) Q := R_getr rfl rfl rfl rfl ht
theorem s121_8 (ht : tg a = 5) (hs : zsumc st ≤ 8) : Runs 121 8 ls (.ref b0 :: .ref a :: st) (n, tg, ln, I, J, O) Q ↔ Runs 38 0 [some (.ref a), some (.ref b0)] [] (n, tg, ln, I, J, O) (fun v h2 => Runs 121 11 ls (v.toList ++ st) h2 Q) := R_callv (a := a) (rest := st) rfl rfl rfl rfl rfl rfl rfl ht hs
theorem s121_8q (ht : tg a = 5) (hs : zsumc st ≤ 8) : Runs 121 8 ls (zrf r0 :: .ref a :: st) (n, tg, ln, I, J, O) Q ↔ Runs 38 0 [some (.ref a), some (zrf r0)] [] (n, tg, ln, I, J, O) (fun v h2 => Runs 121 11 ls (v.toList ++ st) h2 Q) := by cases r0 <;> exact R_callv (a := a) (rest := st) rfl rfl rfl rfl rfl rfl rfl ht hs
theorem s121_11 : Runs 121 11 [some (.ref a), x1, x2, x3] st h Q ↔ Runs 121 12 [some (.ref a), x1, x2, x3] (.ref a :: st) h Q := R_aldn rfl rfl
theorem s121_11q : Runs 121 11 [some (zrf r), x1, x2, x3] st h Q ↔ Runs 121 12 [some (zrf r), x1, x2, x3] (zrf r :: st) h Q := R_aldnq rfl rfl
theorem s121_12 (ht : tg a = 9) : Runs 121 12 ls (.ref a :: st) (n, tg, ln, I, J, O) Q ↔ Runs 121 15 ls (zrf (O a 1) :: st) (n, tg, ln, I, J, O) Q := R_getr rfl rfl rfl rfl ht
theorem s121_15 : Runs 121 15 [x0, some (.int i), x2, x3] st h Q ↔ Runs 121 16 [x0, some (.int i), x2, x3] (.int i :: st) h Q := R_ildn rfl rfl
theorem s121_16 (ht : tg a = 5) (hs : zsumc st ≤ 8) : Runs 121 16 ls (.int i0 :: .ref a :: st) (n, tg, ln, I, J, O) Q ↔ Runs 45 0 [some (.ref a), some (.int i0)] [] (n, tg, ln, I, J, O) (fun v h2 => Runs 121 19 ls (v.toList ++ st) h2 Q) := R_callv (a := a) (rest := st) rfl rfl rfl rfl rfl rfl rfl ht hs
theorem s121_19 : Runs 121 19 ls (.int i :: st) h Q ↔ if ¬ i = 0 then Runs 121 24 ls st h Q else Runs 121 22 ls st h Q := R_ifne rfl rfl
theorem s121_22 : Runs 121 22 ls st h Q ↔ Runs 121 23 ls (.int (-1) :: st) h Q := R_iconst rfl rfl
theorem s121_23 : Runs 121 23 ls [.int i] h Q ↔ Q (some (.int i)) h := R_iret rfl rfl
theorem s121_24 : Runs 121 24 [some (.ref a), x1, x2, x3] st h Q ↔ Runs 121 25 [some (.ref a), x1, x2, x3] (.ref a :: st) h Q := R_aldn rfl rfl
theorem s121_24q : Runs 121 24 [some (zrf r), x1, x2, x3] st h Q ↔ Runs 121 25 [some (zrf r), x1, x2, x3] (zrf r :: st) h Q := R_aldnq rfl rfl
theorem s121_25 : Runs 121 25 [some (.ref a), x1, x2, x3] st h Q ↔ Runs 121 26 [some (.ref a), x1, x2, x3] (.ref a :: st) h Q := R_aldn rfl rfl
theorem s121_25q : Runs 121 25 [some (zrf r), x1, x2, x3] st h Q ↔ Runs 121 26 [some (zrf r), x1, x2, x3] (zrf r :: st) h Q := R_aldnq rfl rfl
theorem s121_26 (ht : tg a = 9) : Runs 121 26 ls (.ref a :: st) (n, tg, ln, I, J, O) Q ↔ Runs 121 29 ls (zrf (O a 1) :: st) (n, tg, ln, I, J, O) Q := R_getr rfl rfl rfl rfl ht
theorem s121_29 : Runs 121 29 [x0, some (.int i), x2, x3] st h Q ↔ Runs 121 30 [x0, some (.int i), x2, x3] (.int i :: st) h Q := R_ildn rfl rfl
theorem s121_30 : Runs 121 30 [x0, x1, some (.int i), x3] st h Q ↔ Runs 121 31 [x0, x1, some (.int i), x3] (.int i :: st) h Q := R_ildn rfl rfl
theorem s121_31 : Runs 121 31 [x0, x1, x2, some (.int i)] st h Q ↔ Runs 121 32 [x0, x1, x2, some (.int i)] (.int i :: st) h Q := R_ildn rfl rfl
theorem s121_32 (ht : tg a = 5) (hs : zsumc st ≤ 8) : Runs 121 32 ls (.int i2 :: .int i1 :: .int i0 :: .ref a :: st) (n, tg, ln, I, J, O) Q ↔ Runs 46 0 [some (.ref a), some (.int i0), some (.int i1), some (.int i2), none] [] (n, tg, ln, I, J, O) (fun v h2 => Runs 121 35 ls (v.toList ++ st) h2 Q) := R_callv (a := a) (rest := st) rfl rfl rfl rfl rfl rfl rfl ht hs
theorem s121_35 : Runs 121 35 ls st h Q ↔ Runs 121 37 ls (.int 60 :: st) h Q := R_bipush rfl (by decide)
theorem s121_37 (ht : tg a = 9) (hs : zsumc st ≤ 8) : Runs 121 37 ls (.int i1 :: .int i0 :: .ref a :: st) (n, tg, ln, I, J, O) Q ↔ Runs 120 0 [some (.ref a), some (.int i0), some (.int i1), none] [] (n, tg, ln, I, J, O) (fun v h2 => Runs 121 40 ls (v.toList ++ st) h2 Q) := R_callv (a := a) (rest := st) rfl rfl rfl rfl rfl rfl rfl ht hs
theorem s121_40 : Runs 121 40 ls [.int i] h Q ↔ Q (some (.int i)) h := R_iret rfl rfl
theorem s122_0 : Runs 122 0 [some (.ref a), x1, x2, x3, x4, x5] st h Q ↔ Runs 122 1 [some (.ref a), x1, x2, x3, x4, x5] (.ref a :: st) h Q := R_aldn rfl rfl
theorem s122_0q : Runs 122 0 [some (zrf r), x1, x2, x3, x4, x5] st h Q ↔ Runs 122 1 [some (zrf r), x1, x2, x3, x4, x5] (zrf r :: st) h Q := R_aldnq rfl rfl
theorem s122_1 : Runs 122 1 ls st h Q ↔ Runs 122 2 ls (.int 0 :: st) h Q := R_iconst rfl rfl
theorem s122_2 : Runs 122 2 [x0, some (.int i), x2, x3, x4, x5] st h Q ↔ Runs 122 3 [x0, some (.int i), x2, x3, x4, x5] (.int i :: st) h Q := R_ildn rfl rfl
theorem s122_3 : Runs 122 3 [x0, x1, some (.int i), x3, x4, x5] st h Q ↔ Runs 122 4 [x0, x1, some (.int i), x3, x4, x5] (.int i :: st) h Q := R_ildn rfl rfl
theorem s122_4 (ht : tg a = 9) (hs : zsumc st ≤ 8) : Runs 122 4 ls (.int i2 :: .int i1 :: .int i0 :: .ref a :: st) (n, tg, ln, I, J, O) Q ↔ Runs 123 0 [some (.ref a), some (.int i0), some (.int i1), some (.int i2), none, none] [] (n, tg, ln, I, J, O) (fun v h2 => Runs 122 7 ls (v.toList ++ st) h2 Q) := R_callv (a := a) (rest := st) rfl rfl rfl rfl rfl rfl rfl ht hs
theorem s122_7 : Runs 122 7 ls (.int i :: st) h Q ↔ if i = 0 then Runs 122 12 ls st h Q else Runs 122 10 ls st h Q := R_ifeq rfl rfl
theorem s122_10 : Runs 122 10 ls st h Q ↔ Runs 122 11 ls (.int 0 :: st) h Q := R_iconst rfl rfl
theorem s122_11 : Runs 122 11 ls [.int i] h Q ↔ Q (some (.int i)) h := R_iret rfl rfl
theorem s122_12 : Runs 122 12 ls st h Q ↔ Runs 122 13 ls (.int 0 :: st) h Q := R_iconst rfl rfl
theorem s122_13 : Runs 122 13 [x0, x1, x2, x3, x4, x5] (.int i :: st) h Q ↔ Runs 122 14 [x0, x1, zdrop x2, some (.int i), x4, x5] st h Q := R_istn rfl rfl rfl
theorem s122_14 : Runs 122 14 [x0, x1, x2, some (.int i), x4, x5] st h Q ↔ Runs 122 15 [x0, x1, x2, some (.int i), x4, x5] (.int i :: st) h Q := R_ildn rfl rfl
theorem s122_15 : Runs 122 15 [some (.ref a), x1, x2, x3, x4, x5] st h Q ↔ Runs 122 16 [some (.ref a), x1, x2, x3, x4, x5] (.ref a :: st) h Q := R_aldn rfl rfl
theorem s122_15q : Runs 122 15 [some (zrf r), x1, x2, x3, x4, x5] st h Q ↔ Runs 122 16 [some (zrf r), x1, x2, x3, x4, x5] (zrf r :: st) h Q := R_aldnq rfl rfl
theorem s122_16 (ht : tg a = 9) : Runs 122 16 ls (.ref a :: st) (n, tg, ln, I, J, O) Q ↔ Runs 122 19 ls (zrf (O a 0) :: st) (n, tg, ln, I, J, O) Q := R_getr rfl rfl rfl rfl ht
theorem s122_19 (ht : tg a = 5) : Runs 122 19 ls (.ref a :: st) (n, tg, ln, I, J, O) Q ↔ Runs 122 22 ls (.int (I a 5) :: st) (n, tg, ln, I, J, O) Q := R_geti rfl rfl rfl rfl ht
theorem s122_22 : Runs 122 22 ls (.int j :: .int i :: st) h Q ↔ if j ≤ i then Runs 122 47 ls st h Q else Runs 122 25 ls st h Q := R_icge rfl rfl
theorem s122_25 : Runs 122 25 [some (.ref a), x1, x2, x3, x4, x5] st h Q ↔ Runs 122 26 [some (.ref a), x1, x2, x3, x4, x5] (.ref a :: st) h Q := R_aldn rfl rfl
theorem s122_25q : Runs 122 25 [some (zrf r), x1, x2, x3, x4, x5] st h Q ↔ Runs 122 26 [some (zrf r), x1, x2, x3, x4, x5] (zrf r :: st) h Q := R_aldnq rfl rfl
theorem s122_26 : Runs 122 26 ls st h Q ↔ Runs 122 27 ls (.int 1 :: st) h Q := R_iconst rfl rfl
theorem s122_27 : Runs 122 27 [x0, x1, x2, some (.int i), x4, x5] st h Q ↔ Runs 122 28 [x0, x1, x2, some (.int i), x4, x5] (.int i :: st) h Q := R_ildn rfl rfl
theorem s122_28 : Runs 122 28 ls (.int j :: .int i :: st) h Q ↔ Runs 122 29 ls (.int (i <<< (j &&& 31)) :: st) h Q := R_ishl rfl
theorem s122_29 : Runs 122 29 [x0, some (.int i), x2, x3, x4, x5] st h Q ↔ Runs 122 30 [x0, some (.int i), x2, x3, x4, x5] (.int i :: st) h Q := R_ildn rfl rfl
theorem s122_30 : Runs 122 30 [x0, x1, some (.int i), x3, x4, x5] st h Q ↔ Runs 122 31 [x0, x1, some (.int i), x3, x4, x5] (.int i :: st) h Q := R_ildn rfl rfl
theorem s122_31 (ht : tg a = 9) (hs : zsumc st ≤ 8) : Runs 122 31 ls (.int i2 :: .int i1 :: .int i0 :: .ref a :: st) (n, tg, ln, I, J, O) Q ↔ Runs 123 0 [some (.ref a), some (.int i0), some (.int i1), some (.int i2), none, none] [] (n, tg, ln, I, J, O) (fun v h2 => Runs 122 34 ls (v.toList ++ st) h2 Q) := R_callv (a := a) (rest := st) rfl rfl rfl rfl rfl rfl rfl ht hs
theorem s122_34 : Runs 122 34 ls (.int i :: st) h Q ↔ if i = 0 then Runs 122 41 ls st h Q else Runs 122 37 ls st h Q := R_ifeq rfl rfl
theorem s122_37 : Runs 122 37 ls st h Q ↔ Runs 122 38 ls (.int 1 :: st) h Q := R_iconst rfl rfl
theorem s122_38 : Runs 122 38 [x0, x1, x2, some (.int i), x4, x5] st h Q ↔ Runs 122 39 [x0, x1, x2, some (.int i), x4, x5] (.int i :: st) h Q := R_ildn rfl rfl
theorem s122_39 : Runs 122 39 ls (.int j :: .int i :: st) h Q ↔ Runs 122 40 ls (.int (i <<< (j &&& 31)) :: st) h Q := R_ishl rfl
theorem s122_40 : Runs 122 40 ls [.int i] h Q ↔ Q (some (.int i)) h := R_iret rfl rfl
theorem s122_41 : Runs 122 41 [x0, x1, x2, some (.int i), x4, x5] st h Q ↔ Runs 122 44 [x0, x1, zdrop x2, some (.int (i + 1)), x4, x5] st h Q := R_iinc rfl rfl rfl rfl rfl
theorem s122_44 : Runs 122 44 ls st h Q ↔ Runs 122 14 ls st h Q := R_goto rfl rfl
theorem s122_47 : Runs 122 47 ls st h Q ↔ Runs 122 48 ls (.int 1 :: st) h Q := R_iconst rfl rfl
theorem s122_48 : Runs 122 48 [x0, x1, x2, x3, x4, x5] (.int i :: st) h Q ↔ Runs 122 49 [x0, x1, zdrop x2, some (.int i), x4, x5] st h Q := R_istn rfl rfl rfl
theorem s122_49 : Runs 122 49 [x0, x1, x2, some (.int i), x4, x5] st h Q ↔ Runs 122 50 [x0, x1, x2, some (.int i), x4, x5] (.int i :: st) h Q := R_ildn rfl rfl
theorem s122_50 : Runs 122 50 [some (.ref a), x1, x2, x3, x4, x5] st h Q ↔ Runs 122 51 [some (.ref a), x1, x2, x3, x4, x5] (.ref a :: st) h Q := R_aldn rfl rfl
theorem s122_50q : Runs 122 50 [some (zrf r), x1, x2, x3, x4, x5] st h Q ↔ Runs 122 51 [some (zrf r), x1, x2, x3, x4, x5] (zrf r :: st) h Q := R_aldnq rfl rfl
theorem s122_51 (ht : tg a = 9) : Runs 122 51 ls (.ref a :: st) (n, tg, ln, I, J, O) Q ↔ Runs 122 54 ls (zrf (O a 0) :: st) (n, tg, ln, I, J, O) Q := R_getr rfl rfl rfl rfl ht
theorem s122_54 (ht : tg a = 5) : Runs 122 54 ls (.ref a :: st) (n, tg, ln, I, J, O) Q ↔ Runs 122 57 ls (.int (I a 5) :: st) (n, tg, ln, I, J, O) Q := R_geti rfl rfl rfl rfl ht
theorem s122_57 : Runs 122 57 ls (.int j :: .int i :: st) h Q ↔ if j ≤ i then Runs 122 105 ls st h Q else Runs 122 60 ls st h Q := R_icge rfl rfl
theorem s122_60 : Runs 122 60 ls st h Q ↔ Runs 122 61 ls (.int 0 :: st) h Q := R_iconst rfl rfl
theorem s122_61 : Runs 122 61 [x0, x1, x2, x3, x4, x5] (.int i :: st) h Q ↔ Runs 122 63 [x0, x1, x2, zdrop x3, some (.int i), x5] st h Q := R_ist rfl rfl rfl
theorem s122_63 : Runs 122 63 [x0, x1, x2, x3, some (.int i), x5] st h Q ↔ Runs 122 65 [x0, x1, x2, x3, some (.int i), x5] (.int i :: st) h Q := R_ild rfl rfl
theorem s122_65 : Runs 122 65 [x0, x1, x2, some (.int i), x4, x5] st h Q ↔ Runs 122 66 [x0, x1, x2, some (.int i), x4, x5] (.int i :: st) h Q := R_ildn rfl rfl
theorem s122_66 : Runs 122 66 ls (.int j :: .int i :: st) h Q ↔ if j ≤ i then Runs 122 99 ls st h Q else Runs 122 69 ls st h Q := R_icge rfl rfl
theorem s122_69 : Runs 122 69 ls st h Q ↔ Runs 122 70 ls (.int 1 :: st) h Q := R_iconst rfl rfl
theorem s122_70 : Runs 122 70 [x0, x1, x2, some (.int i), x4, x5] st h Q ↔ Runs 122 71 [x0, x1, x2, some (.int i), x4, x5] (.int i :: st) h Q := R_ildn rfl rfl
theorem s122_71 : Runs 122 71 ls (.int j :: .int i :: st) h Q ↔ Runs 122 72 ls (.int (i <<< (j &&& 31)) :: st) h Q := R_ishl rfl
theorem s122_72 : Runs 122 72 ls st h Q ↔ Runs 122 73 ls (.int 1 :: st) h Q := R_iconst rfl rfl
theorem s122_73 : Runs 122 73 [x0, x1, x2, x3, some (.int i), x5] st h Q ↔ Runs 122 75 [x0, x1, x2, x3, some (.int i), x5] (.int i :: st) h Q := R_ild rfl rfl
theorem s122_75 : Runs 122 75 ls (.int j :: .int i :: st) h Q ↔ Runs 122 76 ls (.int (i <<< (j &&& 31)) :: st) h Q := R_ishl rfl
theorem s122_76 : Runs 122 76 ls (.int j :: .int i :: st) h Q ↔ Runs 122 77 ls (.int (i ||| j) :: st) h Q := R_ior rfl
theorem s122_77 : Runs 122 77 [x0, x1, x2, x3, x4, x5] (.int i :: st) h Q ↔ Runs 122 79 [x0, x1, x2, x3, zdrop x4, some (.int i)] st h Q := R_ist rfl rfl rfl
theorem s122_79 : Runs 122 79 [some (.ref a), x1, x2, x3, x4, x5] st h Q ↔ Runs 122 80 [some (.ref a), x1, x2, x3, x4, x5] (.ref a :: st) h Q := R_aldn rfl rfl
theorem s122_79q : Runs 122 79 [some (zrf r), x1, x2, x3, x4, x5] st h Q ↔ Runs 122 80 [some (zrf r), x1, x2, x3, x4, x5] (zrf r :: st) h Q := R_aldnq rfl rfl
theorem s122_80 : Runs 122 80 [x0, x1, x2, x3, x4, some (.int i)] st h Q ↔ Runs 122 82 [x0, x1, x2, x3, x4, some (.int i)] (.int i :: st) h Q := R_ild rfl rfl
theorem s122_82 : Runs 122 82 [x0, some (.int i), x2, x3, x4, x5] st h Q ↔ Runs 122 83 [x0, some (.int i), x2, x3, x4, x5] (.int i :: st) h Q := R_ildn rfl rfl
theorem s122_83 : Runs 122 83 [x0, x1, some (.int i), x3, x4, x5] st h Q ↔ Runs 122 84 [x0, x1, some (.int i), x3, x4, x5] (.int i :: st) h Q := R_ildn rfl rfl
theorem s122_84 (ht : tg a = 9) (hs : zsumc st ≤ 8) : Runs 122 84 ls (.int i2 :: .int i1 :: .int i0 :: .ref a :: st) (n, tg, ln, I, J, O) Q ↔ Runs 123 0 [some (.ref a), some (.int i0), some (.int i1), some (.int i2), none, none] [] (n, tg, ln, I, J, O) (fun v h2 => Runs 122 87 ls (v.toList ++ st) h2 Q) := R_callv (a := a) (rest := st) rfl rfl rfl rfl rfl rfl rfl ht hs
theorem s122_87 : Runs 122 87 ls (.int i :: st) h Q ↔ if i = 0 then Runs 122 93 ls st h Q else Runs 122 90 ls st h Q := R_ifeq rfl rfl
theorem s122_90 : Runs 122 90 [x0, x1, x2, x3, x4, some (.int i)] st h Q ↔ Runs 122 92 [x0, x1, x2, x3, x4, some (.int i)] (.int i :: st) h Q := R_ild rfl rfl
theorem s122_92 : Runs 122 92 ls [.int i] h Q ↔ Q (some (.int i)) h := R_iret rfl rfl
theorem s122_93 : Runs 122 93 [x0, x1, x2, x3, some (.int i), x5] st h Q ↔ Runs 122 96 [x0, x1, x2, zdrop x3, some (.int (i + 1)), x5] st h Q := R_iinc rfl rfl rfl rfl rfl
theorem s122_96 : Runs 122 96 ls st h Q ↔ Runs 122 63 ls st h Q := R_goto rfl rfl
theorem s122_99 : Runs 122 99 [x0, x1, x2, some (.int i), x4, x5] st h Q ↔ Runs 122 102 [x0, x1, zdrop x2, some (.int (i + 1)), x4, x5] st h Q := R_iinc rfl rfl rfl rfl rfl
theorem s122_102 : Runs 122 102 ls st h Q ↔ Runs 122 49 ls st h Q := R_goto rfl rfl
theorem s122_105 : Runs 122 105 ls st h Q ↔ Runs 122 106 ls (.int (-1) :: st) h Q := R_iconst rfl rfl
theorem s122_106 : Runs 122 106 ls [.int i] h Q ↔ Q (some (.int i)) h := R_iret rfl rfl
theorem s123_0 : Runs 123 0 [some (.ref a), x1, x2, x3, x4, x5] st h Q ↔ Runs 123 1 [some (.ref a), x1, x2, x3, x4, x5] (.ref a :: st) h Q := R_aldn rfl rfl
theorem s123_0q : Runs 123 0 [some (zrf r), x1, x2, x3, x4, x5] st h Q ↔ Runs 123 1 [some (zrf r), x1, x2, x3, x4, x5] (zrf r :: st) h Q := R_aldnq rfl rfl
theorem s123_1 (ht : tg a = 9) : Runs 123 1 ls (.ref a :: st) (n, tg, ln, I, J, O) Q ↔ Runs 123 4 ls (zrf (O a 0) :: st) (n, tg, ln, I, J, O) Q := R_getr rfl rfl rfl rfl ht
theorem s123_4 : Runs 123 4 ls st h Q ↔ Runs 123 5 ls (.int 0 :: st) h Q := R_iconst rfl rfl
theorem s123_5 (ht : tg a = 5) (hs : zsumc st ≤ 8) : Runs 123 5 ls (.int i0 :: .ref a :: st) (n, tg, ln, I, J, O) Q ↔ Runs 44 0 [some (.ref a), some (.int i0), none, none] [] (n, tg, ln, I, J, O) (fun v h2 => Runs 123 8 ls (v.toList ++ st) h2 Q) := R_callv (a := a) (rest := st) rfl rfl rfl rfl rfl rfl rfl ht hs
theorem s123_8 : Runs 123 8 ls st h Q ↔ Runs 123 9 ls (.int 1 :: st) h Q := R_iconst rfl rfl
theorem s123_9 : Runs 123 9 [x0, x1, some (.int i), x3, x4, x5] st h Q ↔ Runs 123 10 [x0, x1, some (.int i), x3, x4, x5] (.int i :: st) h Q := R_ildn rfl rfl
theorem s123_10 : Runs 123 10 ls (.int j :: .int i :: st) h Q ↔ Runs 123 11 ls (.int (i <<< (j &&& 31)) :: st) h Q := R_ishl rfl
theorem s123_11 : Runs 123 11 ls st h Q ↔ Runs 123 12 ls (.int (-1) :: st) h Q := R_iconst rfl rfl
theorem s123_12 : Runs 123 12 ls (.int j :: .int i :: st) h Q ↔ Runs 123 13 ls (.int (i ^^^ j) :: st) h Q := R_ixor rfl
theorem s123_13 : Runs 123 13 ls (.int j :: .int i :: st) h Q ↔ Runs 123 14 ls (.int (i &&& j) :: st) h Q := R_iand rfl
theorem s123_14 : Runs 123 14 [x0, x1, x2, x3, x4, x5] (.int i :: st) h Q ↔ Runs 123 16 [x0, x1, x2, zdrop x3, some (.int i), x5] st h Q := R_ist rfl rfl rfl
theorem s123_16 : Runs 123 16 [x0, some (.int i), x2, x3, x4, x5] st h Q ↔ Runs 123 17 [x0, some (.int i), x2, x3, x4, x5] (.int i :: st) h Q := R_ildn rfl rfl
theorem s123_17 : Runs 123 17 [x0, x1, x2, x3, some (.int i), x5] st h Q ↔ Runs 123 19 [x0, x1, x2, x3, some (.int i), x5] (.int i :: st) h Q := R_ild rfl rfl
theorem s123_19 : Runs 123 19 ls st h Q ↔ Runs 123 20 ls (.int (-1) :: st) h Q := R_iconst rfl rfl
theorem s123_20 : Runs 123 20 ls (.int j :: .int i :: st) h Q ↔ Runs 123 21 ls (.int (i ^^^ j) :: st) h Q := R_ixor rfl
theorem s123_21 : Runs 123 21 ls (.int j :: .int i :: st) h Q ↔ Runs 123 22 ls (.int (i &&& j) :: st) h Q := R_iand rfl
theorem s123_22 : Runs 123 22 ls (.int i :: st) h Q ↔ if i = 0 then Runs 123 27 ls st h Q else Runs 123 25 ls st h Q := R_ifeq rfl rfl
theorem s123_25 : Runs 123 25 ls st h Q ↔ Runs 123 26 ls (.int 0 :: st) h Q := R_iconst rfl rfl
theorem s123_26 (hx : i = 0 ∨ i = 1) : Runs 123 26 ls [.int i] h Q ↔ Q (some (.int i)) h := R_zret rfl rfl hx
theorem s123_27 : Runs 123 27 [some (.ref a), x1, x2, x3, x4, x5] st h Q ↔ Runs 123 28 [some (.ref a), x1, x2, x3, x4, x5] (.ref a :: st) h Q := R_aldn rfl rfl
theorem s123_27q : Runs 123 27 [some (zrf r), x1, x2, x3, x4, x5] st h Q ↔ Runs 123 28 [some (zrf r), x1, x2, x3, x4, x5] (zrf r :: st) h Q := R_aldnq rfl rfl
theorem s123_28 (ht : tg a = 9) : Runs 123 28 ls (.ref a :: st) (n, tg, ln, I, J, O) Q ↔ Runs 123 31 ls (zrf (O a 1) :: st) (n, tg, ln, I, J, O) Q := R_getr rfl rfl rfl rfl ht
theorem s123_31 : Runs 123 31 [some (.ref a), x1, x2, x3, x4, x5] st h Q ↔ Runs 123 32 [some (.ref a), x1, x2, x3, x4, x5] (.ref a :: st) h Q := R_aldn rfl rfl
theorem s123_31q : Runs 123 31 [some (zrf r), x1, x2, x3, x4, x5] st h Q ↔ Runs 123 32 [some (zrf r), x1, x2, x3, x4, x5] (zrf r :: st) h Q := R_aldnq rfl rfl
theorem s123_32 (ht : tg a = 9) : Runs 123 32 ls (.ref a :: st) (n, tg, ln, I, J, O) Q ↔ Runs 123 35 ls (zrf (O a 0) :: st) (n, tg, ln, I, J, O) Q := R_getr rfl rfl rfl rfl ht
theorem s123_35 (ht : tg a = 5) (hs : zsumc st ≤ 8) : Runs 123 35 ls (.ref b0 :: .ref a :: st) (n, tg, ln, I, J, O) Q ↔ Runs 38 0 [some (.ref a), some (.ref b0)] [] (n, tg, ln, I, J, O) (fun v h2 => Runs 123 38 ls (v.toList ++ st) h2 Q) := R_callv (a := a) (rest := st) rfl rfl rfl rfl rfl rfl rfl ht hs
theorem s123_35q (ht : tg a = 5) (hs : zsumc st ≤ 8) : Runs 123 35 ls (zrf r0 :: .ref a :: st) (n, tg, ln, I, J, O) Q ↔ Runs 38 0 [some (.ref a), some (zrf r0)] [] (n, tg, ln, I, J, O) (fun v h2 => Runs 123 38 ls (v.toList ++ st) h2 Q) := by cases r0 <;> exact R_callv (a := a) (rest := st) rfl rfl rfl rfl rfl rfl rfl ht hs
theorem s123_38 : Runs 123 38 ls st h Q ↔ Runs 123 39 ls (.int 0 :: st) h Q := R_iconst rfl rfl
theorem s123_39 : Runs 123 39 [x0, x1, x2, x3, x4, x5] (.int i :: st) h Q ↔ Runs 123 41 [x0, x1, x2, x3, zdrop x4, some (.int i)] st h Q := R_ist rfl rfl rfl
theorem s123_41 : Runs 123 41 [x0, x1, x2, x3, x4, some (.int i)] st h Q ↔ Runs 123 43 [x0, x1, x2, x3, x4, some (.int i)] (.int i :: st) h Q := R_ild rfl rfl
theorem s123_43 : Runs 123 43 [some (.ref a), x1, x2, x3, x4, x5] st h Q ↔ Runs 123 44 [some (.ref a), x1, x2, x3, x4, x5] (.ref a :: st) h Q := R_aldn rfl rfl
theorem s123_43q : Runs 123 43 [some (zrf r), x1, x2, x3, x4, x5] st h Q ↔ Runs 123 44 [some (zrf r), x1, x2, x3, x4, x5] (zrf r :: st) h Q := R_aldnq rfl rfl
theorem s123_44 (ht : tg a = 9) : Runs 123 44 ls (.ref a :: st) (n, tg, ln, I, J, O) Q ↔ Runs 123 47 ls (zrf (O a 0) :: st) (n, tg, ln, I, J, O) Q := R_getr rfl rfl rfl rfl ht
theorem s123_47 (ht : tg a = 5) : Runs 123 47 ls (.ref a :: st) (n, tg, ln, I, J, O) Q ↔ Runs 123 50 ls (.int (I a 5) :: st) (n, tg, ln, I, J, O) Q := R_geti rfl rfl rfl rfl ht
theorem s123_50 : Runs 123 50 ls (.int j :: .int i :: st) h Q ↔ if j ≤ i then Runs 123 79 ls st h Q else Runs 123 53 ls st h Q := R_icge rfl rfl
theorem s123_53 : Runs 123 53 [x0, some (.int i), x2, x3, x4, x5] st h Q ↔ Runs 123 54 [x0, some (.int i), x2, x3, x4, x5] (.int i :: st) h Q := R_ildn rfl rfl
theorem s123_54 : Runs 123 54 [x0, x1, x2, x3, x4, some (.int i)] st h Q ↔ Runs 123 56 [x0, x1, x2, x3, x4, some (.int i)] (.int i :: st) h Q := R_ild rfl rfl
theorem s123_56 : Runs 123 56 ls (.int j :: .int i :: st) h Q ↔ Runs 123 57 ls (.int (i >>> (j &&& 31)) :: st) h Q := R_ishr rfl
theorem s123_57 : Runs 123 57 ls st h Q ↔ Runs 123 58 ls (.int 1 :: st) h Q := R_iconst rfl rfl
theorem s123_58 : Runs 123 58 ls (.int j :: .int i :: st) h Q ↔ Runs 123 59 ls (.int (i &&& j) :: st) h Q := R_iand rfl
theorem s123_59 : Runs 123 59 ls st h Q ↔ Runs 123 60 ls (.int 1 :: st) h Q := R_iconst rfl rfl
theorem s123_60 : Runs 123 60 ls (.int j :: .int i :: st) h Q ↔ if ¬ i = j then Runs 123 73 ls st h Q else Runs 123 63 ls st h Q := R_icne rfl rfl
theorem s123_63 : Runs 123 63 [some (.ref a), x1, x2, x3, x4, x5] st h Q ↔ Runs 123 64 [some (.ref a), x1, x2, x3, x4, x5] (.ref a :: st) h Q := R_aldn rfl rfl
theorem s123_63q : Runs 123 63 [some (zrf r), x1, x2, x3, x4, x5] st h Q ↔ Runs 123 64 [some (zrf r), x1, x2, x3, x4, x5] (zrf r :: st) h Q := R_aldnq rfl rfl
theorem s123_64 (ht : tg a = 9) : Runs 123 64 ls (.ref a :: st) (n, tg, ln, I, J, O) Q ↔ Runs 123 67 ls (zrf (O a 1) :: st) (n, tg, ln, I, J, O) Q := R_getr rfl rfl rfl rfl ht
theorem s123_67 : Runs 123 67 [x0, x1, x2, x3, x4, some (.int i)] st h Q ↔ Runs 123 69 [x0, x1, x2, x3, x4, some (.int i)] (.int i :: st) h Q := R_ild rfl rfl
theorem s123_69 (ht : tg a = 5) (hs : zsumc st ≤ 8) : Runs 123 69 ls (.int i0 :: .ref a :: st) (n, tg, ln, I, J, O) Q ↔ Runs 47 0 [some (.ref a), some (.int i0), none] [] (n, tg, ln, I, J, O) (fun v h2 => Runs 123 72 ls (v.toList ++ st) h2 Q) := R_callv (a := a) (rest := st) rfl rfl rfl rfl rfl rfl rfl ht hs
theorem s123_72 : Runs 123 72 ls (.int i :: st) h Q ↔ Runs 123 73 ls st h Q := R_pop rfl
theorem s123_73 : Runs 123 73 [x0, x1, x2, x3, x4, some (.int i)] st h Q ↔ Runs 123 76 [x0, x1, x2, x3, zdrop x4, some (.int (i + 1))] st h Q := R_iinc rfl rfl rfl rfl rfl
theorem s123_76 : Runs 123 76 ls st h Q ↔ Runs 123 41 ls st h Q := R_goto rfl rfl
theorem s123_79 : Runs 123 79 [some (.ref a), x1, x2, x3, x4, x5] st h Q ↔ Runs 123 80 [some (.ref a), x1, x2, x3, x4, x5] (.ref a :: st) h Q := R_aldn rfl rfl
theorem s123_79q : Runs 123 79 [some (zrf r), x1, x2, x3, x4, x5] st h Q ↔ Runs 123 80 [some (zrf r), x1, x2, x3, x4, x5] (zrf r :: st) h Q := R_aldnq rfl rfl
theorem s123_80 : Runs 123 80 [x0, x1, some (.int i), x3, x4, x5] st h Q ↔ Runs 123 81 [x0, x1, some (.int i), x3, x4, x5] (.int i :: st) h Q := R_ildn rfl rfl
theorem s123_81 : Runs 123 81 [x0, x1, x2, some (.int i), x4, x5] st h Q ↔ Runs 123 82 [x0, x1, x2, some (.int i), x4, x5] (.int i :: st) h Q := R_ildn rfl rfl
theorem s123_82 (ht : tg a = 9) (hs : zsumc st ≤ 8) : Runs 123 82 ls (.int i1 :: .int i0 :: .ref a :: st) (n, tg, ln, I, J, O) Q ↔ Runs 120 0 [some (.ref a), some (.int i0), some (.int i1), none] [] (n, tg, ln, I, J, O) (fun v h2 => Runs 123 85 ls (v.toList ++ st) h2 Q) := R_callv (a := a) (rest := st) rfl rfl rfl rfl rfl rfl rfl ht hs
theorem s123_85 : Runs 123 85 ls st h Q ↔ Runs 123 86 ls (.int (-1) :: st) h Q := R_iconst rfl rfl
theorem s123_86 : Runs 123 86 ls (.int j :: .int i :: st) h Q ↔ if i = j then Runs 123 93 ls st h Q else Runs 123 89 ls st h Q := R_iceq rfl rfl
theorem s123_89 : Runs 123 89 ls st h Q ↔ Runs 123 90 ls (.int 1 :: st) h Q := R_iconst rfl rfl
theorem s123_90 : Runs 123 90 ls st h Q ↔ Runs 123 94 ls st h Q := R_goto rfl rfl
theorem s123_93 : Runs 123 93 ls st h Q ↔ Runs 123 94 ls (.int 0 :: st) h Q := R_iconst rfl rfl
theorem s123_94 (hx : i = 0 ∨ i = 1) : Runs 123 94 ls [.int i] h Q ↔ Q (some (.int i)) h := R_zret rfl rfl hx
theorem s124_0 : Runs 124 0 ls st h Q ↔ Runs 124 1 ls (.int 0 :: st) h Q := R_iconst rfl rfl
theorem s124_1 : Runs 124 1 [x0, x1, x2] (.int i :: st) h Q ↔ Runs 124 2 [zdrop x0, some (.int i), x2] st h Q := R_istn rfl rfl rfl
theorem s124_2 : Runs 124 2 ls st h Q ↔ Runs 124 3 ls (.int 1 :: st) h Q := R_iconst rfl rfl
theorem s124_3 : Runs 124 3 [x0, x1, x2] (.int i :: st) h Q ↔ Runs 124 4 [x0, zdrop x1, some (.int i)] st h Q := R_istn rfl rfl rfl
theorem s124_4 : Runs 124 4 [x0, x1, some (.int i)] st h Q ↔ Runs 124 5 [x0, x1, some (.int i)] (.int i :: st) h Q := R_ildn rfl rfl
theorem s124_5 : Runs 124 5 ls st h Q ↔ Runs 124 7 ls (.int 20 :: st) h Q := R_bipush rfl (by decide)
theorem s124_7 : Runs 124 7 ls (.int j :: .int i :: st) h Q ↔ if j < i then Runs 124 45 ls st h Q else Runs 124 10 ls st h Q := R_icgt rfl rfl
theorem s124_10 : Runs 124 10 [some (.ref a), x1, x2] st h Q ↔ Runs 124 11 [some (.ref a), x1, x2] (.ref a :: st) h Q := R_aldn rfl rfl
theorem s124_10q : Runs 124 10 [some (zrf r), x1, x2] st h Q ↔ Runs 124 11 [some (zrf r), x1, x2] (zrf r :: st) h Q := R_aldnq rfl rfl
theorem s124_11 (ht : tg a = 9) : Runs 124 11 ls (.ref a :: st) (n, tg, ln, I, J, O) Q ↔ Runs 124 14 ls (zrf (O a 1) :: st) (n, tg, ln, I, J, O) Q := R_getr rfl rfl rfl rfl ht
theorem s124_14 (ht : tg a = 5) (hs : zsumc st ≤ 8) : Runs 124 14 ls (.ref a :: st) (n, tg, ln, I, J, O) Q ↔ Runs 51 0 [some (.ref a), none, none] [] (n, tg, ln, I, J, O) (fun v h2 => Runs 124 17 ls (v.toList ++ st) h2 Q) := R_callv (a := a) (rest := st) rfl rfl rfl rfl rfl rfl rfl ht hs
theorem s124_17 : Runs 124 17 ls st h Q ↔ Runs 124 19 ls (.int 99 :: st) h Q := R_bipush rfl (by decide)
theorem s124_19 : Runs 124 19 ls (.int j :: .int i :: st) h Q ↔ if i = j then Runs 124 25 ls st h Q else Runs 124 22 ls st h Q := R_iceq rfl rfl
theorem s124_22 : Runs 124 22 [x0, some (.int i), x2] st h Q ↔ Runs 124 25 [zdrop x0, some (.int (i + 1)), x2] st h Q := R_iinc rfl rfl rfl rfl rfl
theorem s124_25 : Runs 124 25 [some (.ref a), x1, x2] st h Q ↔ Runs 124 26 [some (.ref a), x1, x2] (.ref a :: st) h Q := R_aldn rfl rfl
theorem s124_25q : Runs 124 25 [some (zrf r), x1, x2] st h Q ↔ Runs 124 26 [some (zrf r), x1, x2] (zrf r :: st) h Q := R_aldnq rfl rfl
theorem s124_26 (ht : tg a = 9) : Runs 124 26 ls (.ref a :: st) (n, tg, ln, I, J, O) Q ↔ Runs 124 29 ls (zrf (O a 6) :: st) (n, tg, ln, I, J, O) Q := R_getr rfl rfl rfl rfl ht
theorem s124_29 : Runs 124 29 [x0, x1, some (.int i)] st h Q ↔ Runs 124 30 [x0, x1, some (.int i)] (.int i :: st) h Q := R_ildn rfl rfl
theorem s124_30 : Runs 124 30 [x0, some (.int i), x2] st h Q ↔ Runs 124 31 [x0, some (.int i), x2] (.int i :: st) h Q := R_ildn rfl rfl
theorem s124_31 (ht : tg a = 7) (hs : zsumc st ≤ 8) : Runs 124 31 ls (.int i1 :: .int i0 :: .ref a :: st) (n, tg, ln, I, J, O) Q ↔ Runs 75 0 [some (.ref a), some (.int i0), some (.int i1), none] [] (n, tg, ln, I, J, O) (fun v h2 => Runs 124 34 ls (v.toList ++ st) h2 Q) := R_callv (a := a) (rest := st) rfl rfl rfl rfl rfl rfl rfl ht hs
theorem s124_34 : Runs 124 34 ls (.int i :: st) h Q ↔ if ¬ i = 0 then Runs 124 39 ls st h Q else Runs 124 37 ls st h Q := R_ifne rfl rfl
theorem s124_37 : Runs 124 37 ls st h Q ↔ Runs 124 38 ls (.int 0 :: st) h Q := R_iconst rfl rfl
theorem s124_38 (hx : i = 0 ∨ i = 1) : Runs 124 38 ls [.int i] h Q ↔ Q (some (.int i)) h := R_zret rfl rfl hx
theorem s124_39 : Runs 124 39 [x0, x1, some (.int i)] st h Q ↔ Runs 124 42 [x0, zdrop x1, some (.int (i + 1))] st h Q := R_iinc rfl rfl rfl rfl rfl
theorem s124_42 : Runs 124 42 ls st h Q ↔ Runs 124 4 ls st h Q := R_goto rfl rfl
theorem s124_45 : Runs 124 45 ls st h Q ↔ Runs 124 46 ls (.int 1 :: st) h Q := R_iconst rfl rfl
theorem s124_46 (hx : i = 0 ∨ i = 1) : Runs 124 46 ls [.int i] h Q ↔ Q (some (.int i)) h := R_zret rfl rfl hx
theorem s125_0 : Runs 125 0 ls st h Q ↔ Runs 125 1 ls (.int 0 :: st) h Q := R_iconst rfl rfl
theorem s125_1 : Runs 125 1 [x0, x1, x2] (.int i :: st) h Q ↔ Runs 125 2 [zdrop x0, some (.int i), x2] st h Q := R_istn rfl rfl rfl
theorem s125_2 : Runs 125 2 ls st h Q ↔ Runs 125 3 ls (.int 0 :: st) h Q := R_iconst rfl rfl
theorem s125_3 : Runs 125 3 [x0, x1, x2] (.int i :: st) h Q ↔ Runs 125 4 [x0, zdrop x1, some (.int i)] st h Q := R_istn rfl rfl rfl
theorem s125_4 : Runs 125 4 [x0, x1, some (.int i)] st h Q ↔ Runs 125 5 [x0, x1, some (.int i)] (.int i :: st) h Q := R_ildn rfl rfl
theorem s125_5 : Runs 125 5 ls st h Q ↔ Runs 125 6 ls (.int 3 :: st) h Q := R_iconst rfl rfl
theorem s125_6 : Runs 125 6 ls (.int j :: .int i :: st) h Q ↔ if j ≤ i then Runs 125 30 ls st h Q else Runs 125 9 ls st h Q := R_icge rfl rfl
theorem s125_9 : Runs 125 9 [some (.ref a), x1, x2] st h Q ↔ Runs 125 10 [some (.ref a), x1, x2] (.ref a :: st) h Q := R_aldn rfl rfl
theorem s125_9q : Runs 125 9 [some (zrf r), x1, x2] st h Q ↔ Runs 125 10 [some (zrf r), x1, x2] (zrf r :: st) h Q := R_aldnq rfl rfl
theorem s125_10 (ht : tg a = 9) : Runs 125 10 ls (.ref a :: st) (n, tg, ln, I, J, O) Q ↔ Runs 125 13 ls (zrf (O a 7) :: st) (n, tg, ln, I, J, O) Q := R_getr rfl rfl rfl rfl ht
theorem s125_13 : Runs 125 13 [x0, x1, some (.int i)] st h Q ↔ Runs 125 14 [x0, x1, some (.int i)] (.int i :: st) h Q := R_ildn rfl rfl
theorem s125_14 (ht : tg a = 23) : Runs 125 14 ls (.int i :: .ref a :: st) (n, tg, ln, I, J, O) Q ↔ ((0 ≤ i ∧ i < Int32.ofNat (ln a)) ∧ Runs 125 15 ls (zrf (O a i) :: st) (n, tg, ln, I, J, O) Q) := R_aald rfl ht (by decide)
theorem s125_14q (ht : tg a = 24) : Runs 125 14 ls (.int i :: .ref a :: st) (n, tg, ln, I, J, O) Q ↔ ((0 ≤ i ∧ i < Int32.ofNat (ln a)) ∧ Runs 125 15 ls (zrf (O a i) :: st) (n, tg, ln, I, J, O) Q) := R_aald rfl ht (by decide)
theorem s125_14p (ht : tg a = 25) : Runs 125 14 ls (.int i :: .ref a :: st) (n, tg, ln, I, J, O) Q ↔ ((0 ≤ i ∧ i < Int32.ofNat (ln a)) ∧ Runs 125 15 ls (zrf (O a i) :: st) (n, tg, ln, I, J, O) Q) := R_aald rfl ht (by decide)
theorem s125_15 (ht : tg a = 1) (hs : zsumc st ≤ 8) : Runs 125 15 ls (.ref a :: st) (n, tg, ln, I, J, O) Q ↔ Runs 1 0 [some (.ref a)] [] (n, tg, ln, I, J, O) (fun v h2 => Runs 125 18 ls (v.toList ++ st) h2 Q) := R_callv (a := a) (rest := st) rfl rfl rfl rfl rfl rfl rfl ht hs
theorem s125_18 : Runs 125 18 ls (.int i :: st) h Q ↔ if ¬ i = 0 then Runs 125 24 ls st h Q else Runs 125 21 ls st h Q := R_ifne rfl rfl
theorem s125_21 : Runs 125 21 [x0, some (.int i), x2] st h Q ↔ Runs 125 24 [zdrop x0, some (.int (i + 1)), x2] st h Q := R_iinc rfl rfl rfl rfl rfl
theorem s125_24 : Runs 125 24 [x0, x1, some (.int i)] st h Q ↔ Runs 125 27 [x0, zdrop x1, some (.int (i + 1))] st h Q := R_iinc rfl rfl rfl rfl rfl
theorem s125_27 : Runs 125 27 ls st h Q ↔ Runs 125 4 ls st h Q := R_goto rfl rfl
theorem s125_30 : Runs 125 30 [x0, some (.int i), x2] st h Q ↔ Runs 125 31 [x0, some (.int i), x2] (.int i :: st) h Q := R_ildn rfl rfl
theorem s125_31 : Runs 125 31 ls [.int i] h Q ↔ Q (some (.int i)) h := R_iret rfl rfl
end ZROWS
