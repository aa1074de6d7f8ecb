section ZROWS
variable {ls : List (Option Value)} {st : List Value} {h : ZH} {Q : Option Value → ZH → Prop} {n : Nat} {tg ln : Nat → Nat} {I : Nat → Int32 → Int32} {J : Nat → Int32 → Int64} {O : Nat → Int32 → Option Nat} {i j i0 i1 i2 i3 i4 : Int32} {u w u0 u1 u2 u3 : Int64} {a b b0 b1 b2 : Nat} {r r0 r1 r2 : Option Nat}
variable {x0 x1 x2 x3 x4 x5 x6 x7 x8 x9 x10 x11 x12 x13 x14 x15 x16 x17 x18 x19 : Option Value}
theorem s80_0 : Runs 80 0 [x0, some (.int i)] st h Q ↔ Runs 80 1 [x0, some (.int i)] (.int i :: st) h Q := R_ildn rfl rfl
theorem s80_1 : Runs 80 1 ls (.int i :: st) h Q ↔ if i < 0 then Runs 80 11 ls st h Q else Runs 80 4 ls st h Q := R_iflt rfl rfl
theorem s80_4 : Runs 80 4 [x0, some (.int i)] st h Q ↔ Runs 80 5 [x0, some (.int i)] (.int i :: st) h Q := R_ildn rfl rfl
theorem s80_5 : Runs 80 5 ls st h Q ↔ Runs 80 8 ls (.int 255 :: st) h Q := R_sipush rfl (by decide)
theorem s80_8 : Runs 80 8 ls (.int j :: .int i :: st) h Q ↔ if i ≤ j then Runs 80 14 ls st h Q else Runs 80 11 ls st h Q := R_icle rfl rfl
theorem s80_11 : Runs 80 11 ls st h Q ↔ Runs 80 13 ls (.int (-3) :: st) h Q := R_bipush rfl (by decide)
theorem s80_13 : Runs 80 13 ls [.int i] h Q ↔ Q (some (.int i)) h := R_iret rfl rfl
theorem s80_14 : Runs 80 14 [some (.ref a), x1] st h Q ↔ Runs 80 15 [some (.ref a), x1] (.ref a :: st) h Q := R_aldn rfl rfl
theorem s80_14q : Runs 80 14 [some (zrf r), x1] st h Q ↔ Runs 80 15 [some (zrf r), x1] (zrf r :: st) h Q := R_aldnq rfl rfl
theorem s80_15 (ht : tg a = 9) : Runs 80 15 ls (.ref a :: st) (n, tg, ln, I, J, O) Q ↔ Runs 80 18 ls (zrf (O a 3) :: st) (n, tg, ln, I, J, O) Q := R_getr rfl rfl rfl rfl ht
theorem s80_18 : Runs 80 18 [x0, some (.int i)] st h Q ↔ Runs 80 19 [x0, some (.int i)] (.int i :: st) h Q := R_ildn rfl rfl
theorem s80_19 (ht : tg a = 8) (hs : zsumc st ≤ 8) : Runs 80 19 ls (.int i0 :: .ref a :: st) (n, tg, ln, I, J, O) Q ↔ Runs 77 0 [some (.ref a), some (.int i0)] [] (n, tg, ln, I, J, O) (fun v h2 => Runs 80 22 ls (v.toList ++ st) h2 Q) := R_callv (a := a) (rest := st) rfl rfl rfl rfl rfl rfl rfl ht hs
theorem s80_22 : Runs 80 22 ls (.int i :: st) h Q ↔ if i = 0 then Runs 80 35 ls st h Q else Runs 80 25 ls st h Q := R_ifeq rfl rfl
theorem s80_25 : Runs 80 25 [some (.ref a), x1] st h Q ↔ Runs 80 26 [some (.ref a), x1] (.ref a :: st) h Q := R_aldn rfl rfl
theorem s80_25q : Runs 80 25 [some (zrf r), x1] st h Q ↔ Runs 80 26 [some (zrf r), x1] (zrf r :: st) h Q := R_aldnq rfl rfl
theorem s80_26 (ht : tg a = 9) : Runs 80 26 ls (.ref a :: st) (n, tg, ln, I, J, O) Q ↔ Runs 80 29 ls (zrf (O a 3) :: st) (n, tg, ln, I, J, O) Q := R_getr rfl rfl rfl rfl ht
theorem s80_29 (ht : tg a = 8) : Runs 80 29 ls (.ref a :: st) (n, tg, ln, I, J, O) Q ↔ Runs 80 32 ls (.int (I a 1) :: st) (n, tg, ln, I, J, O) Q := R_geti rfl rfl rfl rfl ht
theorem s80_32 : Runs 80 32 ls st h Q ↔ Runs 80 37 ls st h Q := R_goto rfl rfl
theorem s80_35 : Runs 80 35 ls st h Q ↔ Runs 80 37 ls (.int (-5) :: st) h Q := R_bipush rfl (by decide)
theorem s80_37 : Runs 80 37 ls [.int i] h Q ↔ Q (some (.int i)) h := R_iret rfl rfl
theorem s81_0 : Runs 81 0 [some (.ref a), x1] st h Q ↔ Runs 81 1 [some (.ref a), x1] (.ref a :: st) h Q := R_aldn rfl rfl
theorem s81_0q : Runs 81 0 [some (zrf r), x1] st h Q ↔ Runs 81 1 [some (zrf r), x1] (zrf r :: st) h Q := R_aldnq rfl rfl
theorem s81_1 (ht : tg a = 9) : Runs 81 1 ls (.ref a :: st) (n, tg, ln, I, J, O) Q ↔ Runs 81 4 ls (zrf (O a 3) :: st) (n, tg, ln, I, J, O) Q := R_getr rfl rfl rfl rfl ht
theorem s81_4 (ht : tg a = 8) : Runs 81 4 ls (.ref a :: st) (n, tg, ln, I, J, O) Q ↔ Runs 81 7 ls (.int (I a 1) :: st) (n, tg, ln, I, J, O) Q := R_geti rfl rfl rfl rfl ht
theorem s81_7 : Runs 81 7 [x0, x1] (.int i :: st) h Q ↔ Runs 81 8 [zdrop x0, some (.int i)] st h Q := R_istn rfl rfl rfl
theorem s81_8 : Runs 81 8 [some (.ref a), x1] st h Q ↔ Runs 81 9 [some (.ref a), x1] (.ref a :: st) h Q := R_aldn rfl rfl
theorem s81_8q : Runs 81 8 [some (zrf r), x1] st h Q ↔ Runs 81 9 [some (zrf r), x1] (zrf r :: st) h Q := R_aldnq rfl rfl
theorem s81_9 (ht : tg a = 9) : Runs 81 9 ls (.ref a :: st) (n, tg, ln, I, J, O) Q ↔ Runs 81 12 ls (zrf (O a 3) :: st) (n, tg, ln, I, J, O) Q := R_getr rfl rfl rfl rfl ht
theorem s81_12 (ht : tg a = 8) (hs : zsumc st ≤ 8) : Runs 81 12 ls (.ref a :: st) (n, tg, ln, I, J, O) Q ↔ Runs 76 0 [some (.ref a)] [] (n, tg, ln, I, J, O) (fun v h2 => Runs 81 15 ls (v.toList ++ st) h2 Q) := R_callv (a := a) (rest := st) rfl rfl rfl rfl rfl rfl rfl ht hs
theorem s81_15 : Runs 81 15 [x0, some (.int i)] st h Q ↔ Runs 81 16 [x0, some (.int i)] (.int i :: st) h Q := R_ildn rfl rfl
theorem s81_16 : Runs 81 16 ls [.int i] h Q ↔ Q (some (.int i)) h := R_iret rfl rfl
theorem s82_0 : Runs 82 0 [some (.ref a)] st h Q ↔ Runs 82 1 [some (.ref a)] (.ref a :: st) h Q := R_aldn rfl rfl
theorem s82_0q : Runs 82 0 [some (zrf r)] st h Q ↔ Runs 82 1 [some (zrf r)] (zrf r :: st) h Q := R_aldnq rfl rfl
theorem s82_1 (ht : tg a = 9) : Runs 82 1 ls (.ref a :: st) (n, tg, ln, I, J, O) Q ↔ Runs 82 4 ls (zrf (O a 4) :: st) (n, tg, ln, I, J, O) Q := R_getr rfl rfl rfl rfl ht
theorem s82_4 (ht : tg a = 6) (hs : zsumc st ≤ 8) : Runs 82 4 ls (.ref a :: st) (n, tg, ln, I, J, O) Q ↔ Runs 59 0 [some (.ref a), none] [] (n, tg, ln, I, J, O) (fun v h2 => Runs 82 7 ls (v.toList ++ st) h2 Q) := R_callv (a := a) (rest := st) rfl rfl rfl rfl rfl rfl rfl ht hs
theorem s82_7 : Runs 82 7 ls [.int i] h Q ↔ Q (some (.int i)) h := R_iret rfl rfl
theorem s83_0 : Runs 83 0 [some (.ref a), x1] st h Q ↔ Runs 83 1 [some (.ref a), x1] (.ref a :: st) h Q := R_aldn rfl rfl
theorem s83_0q : Runs 83 0 [some (zrf r), x1] st h Q ↔ Runs 83 1 [some (zrf r), x1] (zrf r :: st) h Q := R_aldnq rfl rfl
theorem s83_1 (ht : tg a = 9) : Runs 83 1 ls (.ref a :: st) (n, tg, ln, I, J, O) Q ↔ Runs 83 4 ls (zrf (O a 4) :: st) (n, tg, ln, I, J, O) Q := R_getr rfl rfl rfl rfl ht
theorem s83_4 (ht : tg a = 6) (hs : zsumc st ≤ 8) : Runs 83 4 ls (.ref a :: st) (n, tg, ln, I, J, O) Q ↔ Runs 59 0 [some (.ref a), none] [] (n, tg, ln, I, J, O) (fun v h2 => Runs 83 7 ls (v.toList ++ st) h2 Q) := R_callv (a := a) (rest := st) rfl rfl rfl rfl rfl rfl rfl ht hs
theorem s83_7 : Runs 83 7 ls st h Q ↔ Runs 83 8 ls (.int (-1) :: st) h Q := R_iconst rfl rfl
theorem s83_8 : Runs 83 8 ls (.int j :: .int i :: st) h Q ↔ if i = j then Runs 83 14 ls st h Q else Runs 83 11 ls st h Q := R_iceq rfl rfl
theorem s83_11 : Runs 83 11 ls st h Q ↔ Runs 83 13 ls (.int (-4) :: st) h Q := R_bipush rfl (by decide)
theorem s83_13 : Runs 83 13 ls [.int i] h Q ↔ Q (some (.int i)) h := R_iret rfl rfl
theorem s83_14 : Runs 83 14 [some (.ref a), x1] st h Q ↔ Runs 83 15 [some (.ref a), x1] (.ref a :: st) h Q := R_aldn rfl rfl
theorem s83_14q : Runs 83 14 [some (zrf r), x1] st h Q ↔ Runs 83 15 [some (zrf r), x1] (zrf r :: st) h Q := R_aldnq rfl rfl
theorem s83_15 (ht : tg a = 9) : Runs 83 15 ls (.ref a :: st) (n, tg, ln, I, J, O) Q ↔ Runs 83 18 ls (zrf (O a 1) :: st) (n, tg, ln, I, J, O) Q := R_getr rfl rfl rfl rfl ht
theorem s83_18 : Runs 83 18 [some (.ref a), x1] st h Q ↔ Runs 83 19 [some (.ref a), x1] (.ref a :: st) h Q := R_aldn rfl rfl
theorem s83_18q : Runs 83 18 [some (zrf r), x1] st h Q ↔ Runs 83 19 [some (zrf r), x1] (zrf r :: st) h Q := R_aldnq rfl rfl
theorem s83_19 (ht : tg a = 9) : Runs 83 19 ls (.ref a :: st) (n, tg, ln, I, J, O) Q ↔ Runs 83 22 ls (zrf (O a 2) :: st) (n, tg, ln, I, J, O) Q := R_getr rfl rfl rfl rfl ht
theorem s83_22 (ht : tg a = 5) (hs : zsumc st ≤ 8) : Runs 83 22 ls (.ref b0 :: .ref a :: st) (n, tg, ln, I, J, O) Q ↔ Runs 38 0 [some (.ref a), some (.ref b0)] [] (n, tg, ln, I, J, O) (fun v h2 => Runs 83 25 ls (v.toList ++ st) h2 Q) := R_callv (a := a) (rest := st) rfl rfl rfl rfl rfl rfl rfl ht hs
theorem s83_22q (ht : tg a = 5) (hs : zsumc st ≤ 8) : Runs 83 22 ls (zrf r0 :: .ref a :: st) (n, tg, ln, I, J, O) Q ↔ Runs 38 0 [some (.ref a), some (zrf r0)] [] (n, tg, ln, I, J, O) (fun v h2 => Runs 83 25 ls (v.toList ++ st) h2 Q) := by cases r0 <;> exact R_callv (a := a) (rest := st) rfl rfl rfl rfl rfl rfl rfl ht hs
theorem s83_25 : Runs 83 25 [some (.ref a), x1] st h Q ↔ Runs 83 26 [some (.ref a), x1] (.ref a :: st) h Q := R_aldn rfl rfl
theorem s83_25q : Runs 83 25 [some (zrf r), x1] st h Q ↔ Runs 83 26 [some (zrf r), x1] (zrf r :: st) h Q := R_aldnq rfl rfl
theorem s83_26 (ht : tg a = 9) : Runs 83 26 ls (.ref a :: st) (n, tg, ln, I, J, O) Q ↔ Runs 83 29 ls (zrf (O a 0) :: st) (n, tg, ln, I, J, O) Q := R_getr rfl rfl rfl rfl ht
theorem s83_29 : Runs 83 29 [some (.ref a), x1] st h Q ↔ Runs 83 30 [some (.ref a), x1] (.ref a :: st) h Q := R_aldn rfl rfl
theorem s83_29q : Runs 83 29 [some (zrf r), x1] st h Q ↔ Runs 83 30 [some (zrf r), x1] (zrf r :: st) h Q := R_aldnq rfl rfl
theorem s83_30 (ht : tg a = 9) : Runs 83 30 ls (.ref a :: st) (n, tg, ln, I, J, O) Q ↔ Runs 83 33 ls (zrf (O a 1) :: st) (n, tg, ln, I, J, O) Q := R_getr rfl rfl rfl rfl ht
theorem s83_33 (ht : tg a = 5) (hs : zsumc st ≤ 8) : Runs 83 33 ls (.ref b0 :: .ref a :: st) (n, tg, ln, I, J, O) Q ↔ Runs 38 0 [some (.ref a), some (.ref b0)] [] (n, tg, ln, I, J, O) (fun v h2 => Runs 83 36 ls (v.toList ++ st) h2 Q) := R_callv (a := a) (rest := st) rfl rfl rfl rfl rfl rfl rfl ht hs
theorem s83_33q (ht : tg a = 5) (hs : zsumc st ≤ 8) : Runs 83 33 ls (zrf r0 :: .ref a :: st) (n, tg, ln, I, J, O) Q ↔ Runs 38 0 [some (.ref a), some (zrf r0)] [] (n, tg, ln, I, J, O) (fun v h2 => Runs 83 36 ls (v.toList ++ st) h2 Q) := by cases r0 <;> exact R_callv (a := a) (rest := st) rfl rfl rfl rfl rfl rfl rfl ht hs
theorem s83_36 : Runs 83 36 [some (.ref a), x1] st h Q ↔ Runs 83 37 [some (.ref a), x1] (.ref a :: st) h Q := R_aldn rfl rfl
theorem s83_36q : Runs 83 36 [some (zrf r), x1] st h Q ↔ Runs 83 37 [some (zrf r), x1] (zrf r :: st) h Q := R_aldnq rfl rfl
theorem s83_37 (ht : tg a = 9) : Runs 83 37 ls (.ref a :: st) (n, tg, ln, I, J, O) Q ↔ Runs 83 40 ls (zrf (O a 3) :: st) (n, tg, ln, I, J, O) Q := R_getr rfl rfl rfl rfl ht
theorem s83_40 (ht : tg a = 8) (hs : zsumc st ≤ 8) : Runs 83 40 ls (.ref a :: st) (n, tg, ln, I, J, O) Q ↔ Runs 76 0 [some (.ref a)] [] (n, tg, ln, I, J, O) (fun v h2 => Runs 83 43 ls (v.toList ++ st) h2 Q) := R_callv (a := a) (rest := st) rfl rfl rfl rfl rfl rfl rfl ht hs
theorem s83_43 : Runs 83 43 [some (.ref a), x1] st h Q ↔ Runs 83 44 [some (.ref a), x1] (.ref a :: st) h Q := R_aldn rfl rfl
theorem s83_43q : Runs 83 43 [some (zrf r), x1] st h Q ↔ Runs 83 44 [some (zrf r), x1] (zrf r :: st) h Q := R_aldnq rfl rfl
theorem s83_44 (ht : tg a = 9) : Runs 83 44 ls (.ref a :: st) (n, tg, ln, I, J, O) Q ↔ Runs 83 47 ls (zrf (O a 8) :: st) (n, tg, ln, I, J, O) Q := R_getr rfl rfl rfl rfl ht
theorem s83_47 (ht : tg a = 7) (hs : zsumc st ≤ 8) : Runs 83 47 ls (.ref a :: st) (n, tg, ln, I, J, O) Q ↔ Runs 72 0 [some (.ref a)] [] (n, tg, ln, I, J, O) (fun v h2 => Runs 83 50 ls (v.toList ++ st) h2 Q) := R_callv (a := a) (rest := st) rfl rfl rfl rfl rfl rfl rfl ht hs
theorem s83_50 : Runs 83 50 [some (.ref a), x1] st h Q ↔ Runs 83 51 [some (.ref a), x1] (.ref a :: st) h Q := R_aldn rfl rfl
theorem s83_50q : Runs 83 50 [some (zrf r), x1] st h Q ↔ Runs 83 51 [some (zrf r), x1] (zrf r :: st) h Q := R_aldnq rfl rfl
theorem s83_51 (ht : tg a = 9) : Runs 83 51 ls (.ref a :: st) (n, tg, ln, I, J, O) Q ↔ Runs 83 54 ls (zrf (O a 5) :: st) (n, tg, ln, I, J, O) Q := R_getr rfl rfl rfl rfl ht
theorem s83_54 (ht : tg a = 2) (hs : zsumc st ≤ 8) : Runs 83 54 ls (.ref a :: st) (n, tg, ln, I, J, O) Q ↔ Runs 11 0 [some (.ref a)] [] (n, tg, ln, I, J, O) (fun v h2 => Runs 83 57 ls (v.toList ++ st) h2 Q) := R_callv (a := a) (rest := st) rfl rfl rfl rfl rfl rfl rfl ht hs
theorem s83_57 : Runs 83 57 ls st h Q ↔ Runs 83 58 ls (.int 0 :: st) h Q := R_iconst rfl rfl
theorem s83_58 : Runs 83 58 [x0, x1] (.int i :: st) h Q ↔ Runs 83 59 [zdrop x0, some (.int i)] st h Q := R_istn rfl rfl rfl
theorem s83_59 : Runs 83 59 [x0, some (.int i)] st h Q ↔ Runs 83 60 [x0, some (.int i)] (.int i :: st) h Q := R_ildn rfl rfl
theorem s83_60 : Runs 83 60 ls st h Q ↔ Runs 83 61 ls (.int 2 :: st) h Q := R_iconst rfl rfl
theorem s83_61 : Runs 83 61 ls (.int j :: .int i :: st) h Q ↔ if j ≤ i then Runs 83 77 ls st h Q else Runs 83 64 ls st h Q := R_icge rfl rfl
theorem s83_64 : Runs 83 64 [some (.ref a), x1] st h Q ↔ Runs 83 65 [some (.ref a), x1] (.ref a :: st) h Q := R_aldn rfl rfl
theorem s83_64q : Runs 83 64 [some (zrf r), x1] st h Q ↔ Runs 83 65 [some (zrf r), x1] (zrf r :: st) h Q := R_aldnq rfl rfl
theorem s83_65 (ht : tg a = 9) : Runs 83 65 ls (.ref a :: st) (n, tg, ln, I, J, O) Q ↔ Runs 83 68 ls (zrf (O a 7) :: st) (n, tg, ln, I, J, O) Q := R_getr rfl rfl rfl rfl ht
theorem s83_68 : Runs 83 68 [x0, some (.int i)] st h Q ↔ Runs 83 69 [x0, some (.int i)] (.int i :: st) h Q := R_ildn rfl rfl
theorem s83_69 : Runs 83 69 ls st h Q ↔ Runs 83 70 ls (.int 0 :: st) h Q := R_iconst rfl rfl
theorem s83_70 (ht : tg a = 22) (hx : j = 0 ∨ j = 1) : Runs 83 70 ls (.int j :: .int i :: .ref a :: st) (n, tg, ln, I, J, O) Q ↔ ((0 ≤ i ∧ i < Int32.ofNat (ln a)) ∧ Runs 83 71 ls st (n, tg, ln, zu I a i j, J, O) Q) := R_bast rfl ht hx
theorem s83_71 : Runs 83 71 [x0, some (.int i)] st h Q ↔ Runs 83 74 [zdrop x0, some (.int (i + 1))] st h Q := R_iinc rfl rfl rfl rfl rfl
theorem s83_74 : Runs 83 74 ls st h Q ↔ Runs 83 59 ls st h Q := R_goto rfl rfl
theorem s83_77 : Runs 83 77 ls st h Q ↔ Runs 83 78 ls (.int 0 :: st) h Q := R_iconst rfl rfl
theorem s83_78 : Runs 83 78 [x0, x1] (.int i :: st) h Q ↔ Runs 83 79 [zdrop x0, some (.int i)] st h Q := R_istn rfl rfl rfl
theorem s83_79 : Runs 83 79 [x0, some (.int i)] st h Q ↔ Runs 83 80 [x0, some (.int i)] (.int i :: st) h Q := R_ildn rfl rfl
theorem s83_80 : Runs 83 80 ls st h Q ↔ Runs 83 81 ls (.int 3 :: st) h Q := R_iconst rfl rfl
theorem s83_81 : Runs 83 81 ls (.int j :: .int i :: st) h Q ↔ if j ≤ i then Runs 83 99 ls st h Q else Runs 83 84 ls st h Q := R_icge rfl rfl
theorem s83_84 : Runs 83 84 [some (.ref a), x1] st h Q ↔ Runs 83 85 [some (.ref a), x1] (.ref a :: st) h Q := R_aldn rfl rfl
theorem s83_84q : Runs 83 84 [some (zrf r), x1] st h Q ↔ Runs 83 85 [some (zrf r), x1] (zrf r :: st) h Q := R_aldnq rfl rfl
theorem s83_85 (ht : tg a = 9) : Runs 83 85 ls (.ref a :: st) (n, tg, ln, I, J, O) Q ↔ Runs 83 88 ls (zrf (O a 9) :: st) (n, tg, ln, I, J, O) Q := R_getr rfl rfl rfl rfl ht
theorem s83_88 : Runs 83 88 [x0, some (.int i)] st h Q ↔ Runs 83 89 [x0, some (.int i)] (.int i :: st) h Q := R_ildn rfl rfl
theorem s83_89 (ht : tg a = 23) : Runs 83 89 ls (.int i :: .ref a :: st) (n, tg, ln, I, J, O) Q ↔ ((0 ≤ i ∧ i < Int32.ofNat (ln a)) ∧ Runs 83 90 ls (zrf (O a i) :: st) (n, tg, ln, I, J, O) Q) := R_aald rfl ht (by decide)
theorem s83_89q (ht : tg a = 24) : Runs 83 89 ls (.int i :: .ref a :: st) (n, tg, ln, I, J, O) Q ↔ ((0 ≤ i ∧ i < Int32.ofNat (ln a)) ∧ Runs 83 90 ls (zrf (O a i) :: st) (n, tg, ln, I, J, O) Q) := R_aald rfl ht (by decide)
theorem s83_89p (ht : tg a = 25) : Runs 83 89 ls (.int i :: .ref a :: st) (n, tg, ln, I, J, O) Q ↔ ((0 ≤ i ∧ i < Int32.ofNat (ln a)) ∧ Runs 83 90 ls (zrf (O a i) :: st) (n, tg, ln, I, J, O) Q) := R_aald rfl ht (by decide)
theorem s83_90 (ht : tg a = 1) (hs : zsumc st ≤ 8) : Runs 83 90 ls (.ref a :: st) (n, tg, ln, I, J, O) Q ↔ Runs 2 0 [some (.ref a)] [] (n, tg, ln, I, J, O) (fun v h2 => Runs 83 93 ls (v.toList ++ st) h2 Q) := R_callv (a := a) (rest := st) rfl rfl rfl rfl rfl rfl rfl ht hs
theorem s83_93 : Runs 83 93 [x0, some (.int i)] st h Q ↔ Runs 83 96 [zdrop x0, some (.int (i + 1))] st h Q := R_iinc rfl rfl rfl rfl rfl
theorem s83_96 : Runs 83 96 ls st h Q ↔ Runs 83 79 ls st h Q := R_goto rfl rfl
theorem s83_99 : Runs 83 99 [some (.ref a), x1] st h Q ↔ Runs 83 100 [some (.ref a), x1] (.ref a :: st) h Q := R_aldn rfl rfl
theorem s83_99q : Runs 83 99 [some (zrf r), x1] st h Q ↔ Runs 83 100 [some (zrf r), x1] (zrf r :: st) h Q := R_aldnq rfl rfl
theorem s83_100 (ht : tg a = 9) : Runs 83 100 ls (.ref a :: st) (n, tg, ln, I, J, O) Q ↔ Runs 83 103 ls (zrf (O a 4) :: st) (n, tg, ln, I, J, O) Q := R_getr rfl rfl rfl rfl ht
theorem s83_103 (ht : tg a = 6) : Runs 83 103 ls (.ref a :: st) (n, tg, ln, I, J, O) Q ↔ Runs 83 106 ls (.int (I a 7) :: st) (n, tg, ln, I, J, O) Q := R_geti rfl rfl rfl rfl ht
theorem s83_106 : Runs 83 106 ls [.int i] h Q ↔ Q (some (.int i)) h := R_iret rfl rfl
theorem s84_0 : Runs 84 0 [some (.ref a), x1, x2] st h Q ↔ Runs 84 1 [some (.ref a), x1, x2] (.ref a :: st) h Q := R_aldn rfl rfl
theorem s84_0q : Runs 84 0 [some (zrf r), x1, x2] st h Q ↔ Runs 84 1 [some (zrf r), x1, x2] (zrf r :: st) h Q := R_aldnq rfl rfl
theorem s84_1 (ht : tg a = 9) : Runs 84 1 ls (.ref a :: st) (n, tg, ln, I, J, O) Q ↔ Runs 84 4 ls (zrf (O a 0) :: st) (n, tg, ln, I, J, O) Q := R_getr rfl rfl rfl rfl ht
theorem s84_4 : Runs 84 4 [x0, some (.int i), x2] st h Q ↔ Runs 84 5 [x0, some (.int i), x2] (.int i :: st) h Q := R_ildn rfl rfl
theorem s84_5 (ht : tg a = 5) (hs : zsumc st ≤ 8) : Runs 84 5 ls (.int i0 :: .ref a :: st) (n, tg, ln, I, J, O) Q ↔ Runs 39 0 [some (.ref a), some (.int i0)] [] (n, tg, ln, I, J, O) (fun v h2 => Runs 84 8 ls (v.toList ++ st) h2 Q) := R_callv (a := a) (rest := st) rfl rfl rfl rfl rfl rfl rfl ht hs
theorem s84_8 : Runs 84 8 ls (.int i :: st) h Q ↔ if ¬ i = 0 then Runs 84 14 ls st h Q else Runs 84 11 ls st h Q := R_ifne rfl rfl
theorem s84_11 : Runs 84 11 ls st h Q ↔ Runs 84 13 ls (.int (-2) :: st) h Q := R_bipush rfl (by decide)
theorem s84_13 : Runs 84 13 ls [.int i] h Q ↔ Q (some (.int i)) h := R_iret rfl rfl
theorem s84_14 : Runs 84 14 [x0, x1, some (.int i)] st h Q ↔ Runs 84 15 [x0, x1, some (.int i)] (.int i :: st) h Q := R_ildn rfl rfl
theorem s84_15 : Runs 84 15 ls (.int i :: st) h Q ↔ if i = 0 then Runs 84 52 ls st h Q else if i = 1 then Runs 84 62 ls st h Q else if i = 2 then Runs 84 72 ls st h Q else if i = 3 then Runs 84 97 ls st h Q else if i = 4 then Runs 84 106 ls st h Q else if i = 5 then Runs 84 116 ls st h Q else Runs 84 126 ls st h Q := by
  by_cases h0 : i = 0
  · rw [if_pos h0]; subst h0; exact R_tabI rfl (by decide) rfl rfl
  rw [if_neg h0]
  by_cases h1 : i = 1
  · rw [if_pos h1]; subst h1; exact R_tabI rfl (by decide) rfl rfl
  rw [if_neg h1]
  by_cases h2 : i = 2
  · rw [if_pos h2]; subst h2; exact R_tabI rfl (by decide) rfl rfl
  rw [if_neg h2]
  by_cases h3 : i = 3
  · rw [if_pos h3]; subst h3; exact R_tabI rfl (by decide) rfl rfl
  rw [if_neg h3]
  by_cases h4 : i = 4
  · rw [if_pos h4]; subst h4; exact R_tabI rfl (by decide) rfl rfl
  rw [if_neg h4]
  by_cases h5 : i = 5
  · rw [if_pos h5]; subst h5; exact R_tabI rfl (by decide) rfl rfl
  rw [if_neg h5]
  exact R_tabO rfl (zout 5 i (by decide) (fun v hv => match v, hv with
    | 0, _ => h0
    | 1, _ => h1
    | 2, _ => h2
    | 3, _ => h3
    | 4, _ => h4
    | 5, _ => h5
    | z + 6, hv => absurd hv (by omega))) rfl
theorem s84_52 : Runs 84 52 [some (.ref a), x1, x2] st h Q ↔ Runs 84 53 [some (.ref a), x1, x2] (.ref a :: st) h Q := R_aldn rfl rfl
theorem s84_52q : Runs 84 52 [some (zrf r), x1, x2] st h Q ↔ Runs 84 53 [some (zrf r), x1, x2] (zrf r :: st) h Q := R_aldnq rfl rfl
theorem s84_53 (ht : tg a = 9) : Runs 84 53 ls (.ref a :: st) (n, tg, ln, I, J, O) Q ↔ Runs 84 56 ls (zrf (O a 0) :: st) (n, tg, ln, I, J, O) Q := R_getr rfl rfl rfl rfl ht
theorem s84_56 (ht : tg a = 5) : Runs 84 56 ls (.ref a :: st) (n, tg, ln, I, J, O) Q ↔ Runs 84 59 ls (zrf (O a 0) :: st) (n, tg, ln, I, J, O) Q := R_getr rfl rfl rfl rfl ht
theorem s84_59 : Runs 84 59 [x0, some (.int i), x2] st h Q ↔ Runs 84 60 [x0, some (.int i), x2] (.int i :: st) h Q := R_ildn rfl rfl
theorem s84_60 (ht : tg a = 20) : Runs 84 60 ls (.int i :: .ref a :: st) (n, tg, ln, I, J, O) Q ↔ ((0 ≤ i ∧ i < Int32.ofNat (ln a)) ∧ Runs 84 61 ls (.int (I a i) :: st) (n, tg, ln, I, J, O) Q) := R_iald rfl ht
theorem s84_61 : Runs 84 61 ls [.int i] h Q ↔ Q (some (.int i)) h := R_iret rfl rfl
theorem s84_62 : Runs 84 62 [some (.ref a), x1, x2] st h Q ↔ Runs 84 63 [some (.ref a), x1, x2] (.ref a :: st) h Q := R_aldn rfl rfl
theorem s84_62q : Runs 84 62 [some (zrf r), x1, x2] st h Q ↔ Runs 84 63 [some (zrf r), x1, x2] (zrf r :: st) h Q := R_aldnq rfl rfl
theorem s84_63 (ht : tg a = 9) : Runs 84 63 ls (.ref a :: st) (n, tg, ln, I, J, O) Q ↔ Runs 84 66 ls (zrf (O a 0) :: st) (n, tg, ln, I, J, O) Q := R_getr rfl rfl rfl rfl ht
theorem s84_66 (ht : tg a = 5) : Runs 84 66 ls (.ref a :: st) (n, tg, ln, I, J, O) Q ↔ Runs 84 69 ls (zrf (O a 1) :: st) (n, tg, ln, I, J, O) Q := R_getr rfl rfl rfl rfl ht
theorem s84_69 : Runs 84 69 [x0, some (.int i), x2] st h Q ↔ Runs 84 70 [x0, some (.int i), x2] (.int i :: st) h Q := R_ildn rfl rfl
theorem s84_70 (ht : tg a = 20) : Runs 84 70 ls (.int i :: .ref a :: st) (n, tg, ln, I, J, O) Q ↔ ((0 ≤ i ∧ i < Int32.ofNat (ln a)) ∧ Runs 84 71 ls (.int (I a i) :: st) (n, tg, ln, I, J, O) Q) := R_iald rfl ht
theorem s84_71 : Runs 84 71 ls [.int i] h Q ↔ Q (some (.int i)) h := R_iret rfl rfl
theorem s84_72 : Runs 84 72 [some (.ref a), x1, x2] st h Q ↔ Runs 84 73 [some (.ref a), x1, x2] (.ref a :: st) h Q := R_aldn rfl rfl
theorem s84_72q : Runs 84 72 [some (zrf r), x1, x2] st h Q ↔ Runs 84 73 [some (zrf r), x1, x2] (zrf r :: st) h Q := R_aldnq rfl rfl
theorem s84_73 (ht : tg a = 9) : Runs 84 73 ls (.ref a :: st) (n, tg, ln, I, J, O) Q ↔ Runs 84 76 ls (zrf (O a 0) :: st) (n, tg, ln, I, J, O) Q := R_getr rfl rfl rfl rfl ht
theorem s84_76 : Runs 84 76 [x0, some (.int i), x2] st h Q ↔ Runs 84 77 [x0, some (.int i), x2] (.int i :: st) h Q := R_ildn rfl rfl
theorem s84_77 (ht : tg a = 5) (hs : zsumc st ≤ 8) : Runs 84 77 ls (.int i0 :: .ref a :: st) (n, tg, ln, I, J, O) Q ↔ Runs 40 0 [some (.ref a), some (.int i0)] [] (n, tg, ln, I, J, O) (fun v h2 => Runs 84 80 ls (v.toList ++ st) h2 Q) := R_callv (a := a) (rest := st) rfl rfl rfl rfl rfl rfl rfl ht hs
theorem s84_80 : Runs 84 80 ls (.int i :: st) h Q ↔ if i = 0 then Runs 84 95 ls st h Q else Runs 84 83 ls st h Q := R_ifeq rfl rfl
theorem s84_83 : Runs 84 83 [some (.ref a), x1, x2] st h Q ↔ Runs 84 84 [some (.ref a), x1, x2] (.ref a :: st) h Q := R_aldn rfl rfl
theorem s84_83q : Runs 84 83 [some (zrf r), x1, x2] st h Q ↔ Runs 84 84 [some (zrf r), x1, x2] (zrf r :: st) h Q := R_aldnq rfl rfl
theorem s84_84 (ht : tg a = 9) : Runs 84 84 ls (.ref a :: st) (n, tg, ln, I, J, O) Q ↔ Runs 84 87 ls (zrf (O a 0) :: st) (n, tg, ln, I, J, O) Q := R_getr rfl rfl rfl rfl ht
theorem s84_87 (ht : tg a = 5) : Runs 84 87 ls (.ref a :: st) (n, tg, ln, I, J, O) Q ↔ Runs 84 90 ls (zrf (O a 4) :: st) (n, tg, ln, I, J, O) Q := R_getr rfl rfl rfl rfl ht
theorem s84_90 : Runs 84 90 [x0, some (.int i), x2] st h Q ↔ Runs 84 91 [x0, some (.int i), x2] (.int i :: st) h Q := R_ildn rfl rfl
theorem s84_91 (ht : tg a = 20) : Runs 84 91 ls (.int i :: .ref a :: st) (n, tg, ln, I, J, O) Q ↔ ((0 ≤ i ∧ i < Int32.ofNat (ln a)) ∧ Runs 84 92 ls (.int (I a i) :: st) (n, tg, ln, I, J, O) Q) := R_iald rfl ht
theorem s84_92 : Runs 84 92 ls st h Q ↔ Runs 84 96 ls st h Q := R_goto rfl rfl
theorem s84_95 : Runs 84 95 ls st h Q ↔ Runs 84 96 ls (.int (-1) :: st) h Q := R_iconst rfl rfl
theorem s84_96 : Runs 84 96 ls [.int i] h Q ↔ Q (some (.int i)) h := R_iret rfl rfl
theorem s84_97 : Runs 84 97 [some (.ref a), x1, x2] st h Q ↔ Runs 84 98 [some (.ref a), x1, x2] (.ref a :: st) h Q := R_aldn rfl rfl
theorem s84_97q : Runs 84 97 [some (zrf r), x1, x2] st h Q ↔ Runs 84 98 [some (zrf r), x1, x2] (zrf r :: st) h Q := R_aldnq rfl rfl
theorem s84_98 (ht : tg a = 9) : Runs 84 98 ls (.ref a :: st) (n, tg, ln, I, J, O) Q ↔ Runs 84 101 ls (zrf (O a 0) :: st) (n, tg, ln, I, J, O) Q := R_getr rfl rfl rfl rfl ht
theorem s84_101 : Runs 84 101 [x0, some (.int i), x2] st h Q ↔ Runs 84 102 [x0, some (.int i), x2] (.int i :: st) h Q := R_ildn rfl rfl
theorem s84_102 (ht : tg a = 5) (hs : zsumc st ≤ 8) : Runs 84 102 ls (.int i0 :: .ref a :: st) (n, tg, ln, I, J, O) Q ↔ Runs 43 0 [some (.ref a), some (.int i0)] [] (n, tg, ln, I, J, O) (fun v h2 => Runs 84 105 ls (v.toList ++ st) h2 Q) := R_callv (a := a) (rest := st) rfl rfl rfl rfl rfl rfl rfl ht hs
theorem s84_105 : Runs 84 105 ls [.int i] h Q ↔ Q (some (.int i)) h := R_iret rfl rfl
theorem s84_106 : Runs 84 106 [some (.ref a), x1, x2] st h Q ↔ Runs 84 107 [some (.ref a), x1, x2] (.ref a :: st) h Q := R_aldn rfl rfl
theorem s84_106q : Runs 84 106 [some (zrf r), x1, x2] st h Q ↔ Runs 84 107 [some (zrf r), x1, x2] (zrf r :: st) h Q := R_aldnq rfl rfl
theorem s84_107 (ht : tg a = 9) : Runs 84 107 ls (.ref a :: st) (n, tg, ln, I, J, O) Q ↔ Runs 84 110 ls (zrf (O a 0) :: st) (n, tg, ln, I, J, O) Q := R_getr rfl rfl rfl rfl ht
theorem s84_110 (ht : tg a = 5) : Runs 84 110 ls (.ref a :: st) (n, tg, ln, I, J, O) Q ↔ Runs 84 113 ls (zrf (O a 3) :: st) (n, tg, ln, I, J, O) Q := R_getr rfl rfl rfl rfl ht
theorem s84_113 : Runs 84 113 [x0, some (.int i), x2] st h Q ↔ Runs 84 114 [x0, some (.int i), x2] (.int i :: st) h Q := R_ildn rfl rfl
theorem s84_114 (ht : tg a = 20) : Runs 84 114 ls (.int i :: .ref a :: st) (n, tg, ln, I, J, O) Q ↔ ((0 ≤ i ∧ i < Int32.ofNat (ln a)) ∧ Runs 84 115 ls (.int (I a i) :: st) (n, tg, ln, I, J, O) Q) := R_iald rfl ht
theorem s84_115 : Runs 84 115 ls [.int i] h Q ↔ Q (some (.int i)) h := R_iret rfl rfl
theorem s84_116 : Runs 84 116 [some (.ref a), x1, x2] st h Q ↔ Runs 84 117 [some (.ref a), x1, x2] (.ref a :: st) h Q := R_aldn rfl rfl
theorem s84_116q : Runs 84 116 [some (zrf r), x1, x2] st h Q ↔ Runs 84 117 [some (zrf r), x1, x2] (zrf r :: st) h Q := R_aldnq rfl rfl
theorem s84_117 (ht : tg a = 9) : Runs 84 117 ls (.ref a :: st) (n, tg, ln, I, J, O) Q ↔ Runs 84 120 ls (zrf (O a 0) :: st) (n, tg, ln, I, J, O) Q := R_getr rfl rfl rfl rfl ht
theorem s84_120 (ht : tg a = 5) : Runs 84 120 ls (.ref a :: st) (n, tg, ln, I, J, O) Q ↔ Runs 84 123 ls (zrf (O a 2) :: st) (n, tg, ln, I, J, O) Q := R_getr rfl rfl rfl rfl ht
theorem s84_123 : Runs 84 123 [x0, some (.int i), x2] st h Q ↔ Runs 84 124 [x0, some (.int i), x2] (.int i :: st) h Q := R_ildn rfl rfl
theorem s84_124 (ht : tg a = 20) : Runs 84 124 ls (.int i :: .ref a :: st) (n, tg, ln, I, J, O) Q ↔ ((0 ≤ i ∧ i < Int32.ofNat (ln a)) ∧ Runs 84 125 ls (.int (I a i) :: st) (n, tg, ln, I, J, O) Q) := R_iald rfl ht
theorem s84_125 : Runs 84 125 ls [.int i] h Q ↔ Q (some (.int i)) h := R_iret rfl rfl
theorem s84_126 : Runs 84 126 ls st h Q ↔ Runs 84 128 ls (.int (-3) :: st) h Q := R_bipush rfl (by decide)
theorem s84_128 : Runs 84 128 ls [.int i] h Q ↔ Q (some (.int i)) h := R_iret rfl rfl
theorem s85_0 : Runs 85 0 [x0, some (.int i), x2] st h Q ↔ Runs 85 1 [x0, some (.int i), x2] (.int i :: st) h Q := R_ildn rfl rfl
theorem s85_1 (hs : zsumc st ≤ 8) : Runs 85 1 ls (.int i0 :: st) h Q ↔ Runs 115 0 [some (.int i0)] [] h (fun v h2 => Runs 85 4 ls (v.toList ++ st) h2 Q) := R_calls (rest := st) rfl rfl rfl (by simp) rfl rfl rfl rfl hs
theorem s85_4 : Runs 85 4 ls (.int i :: st) h Q ↔ if i = 0 then Runs 85 22 ls st h Q else Runs 85 7 ls st h Q := R_ifeq rfl rfl
theorem s85_7 : Runs 85 7 [some (.ref a), x1, x2] st h Q ↔ Runs 85 8 [some (.ref a), x1, x2] (.ref a :: st) h Q := R_aldn rfl rfl
theorem s85_7q : Runs 85 7 [some (zrf r), x1, x2] st h Q ↔ Runs 85 8 [some (zrf r), x1, x2] (zrf r :: st) h Q := R_aldnq rfl rfl
theorem s85_8 (ht : tg a = 9) : Runs 85 8 ls (.ref a :: st) (n, tg, ln, I, J, O) Q ↔ Runs 85 11 ls (zrf (O a 0) :: st) (n, tg, ln, I, J, O) Q := R_getr rfl rfl rfl rfl ht
theorem s85_11 : Runs 85 11 [x0, some (.int i), x2] st h Q ↔ Runs 85 12 [x0, some (.int i), x2] (.int i :: st) h Q := R_ildn rfl rfl
theorem s85_12 (ht : tg a = 5) (hs : zsumc st ≤ 8) : Runs 85 12 ls (.int i0 :: .ref a :: st) (n, tg, ln, I, J, O) Q ↔ Runs 41 0 [some (.ref a), some (.int i0)] [] (n, tg, ln, I, J, O) (fun v h2 => Runs 85 15 ls (v.toList ++ st) h2 Q) := R_callv (a := a) (rest := st) rfl rfl rfl rfl rfl rfl rfl ht hs
theorem s85_15 : Runs 85 15 [x0, x1, some (.int i)] st h Q ↔ Runs 85 16 [x0, x1, some (.int i)] (.int i :: st) h Q := R_ildn rfl rfl
theorem s85_16 (ht : tg a = 4) (hs : zsumc st ≤ 8) : Runs 85 16 ls (.int i0 :: .ref a :: st) (n, tg, ln, I, J, O) Q ↔ Runs 24 0 [some (.ref a), some (.int i0)] [] (n, tg, ln, I, J, O) (fun v h2 => Runs 85 19 ls (v.toList ++ st) h2 Q) := R_callv (a := a) (rest := st) rfl rfl rfl rfl rfl rfl rfl ht hs
theorem s85_19 : Runs 85 19 ls (.int i :: st) h Q ↔ if ¬ i = 0 then Runs 85 25 ls st h Q else Runs 85 22 ls st h Q := R_ifne rfl rfl
theorem s85_22 : Runs 85 22 ls st h Q ↔ Runs 85 24 ls (.int (-2) :: st) h Q := R_bipush rfl (by decide)
theorem s85_24 : Runs 85 24 ls [.int i] h Q ↔ Q (some (.int i)) h := R_iret rfl rfl
theorem s85_25 : Runs 85 25 [some (.ref a), x1, x2] st h Q ↔ Runs 85 26 [some (.ref a), x1, x2] (.ref a :: st) h Q := R_aldn rfl rfl
theorem s85_25q : Runs 85 25 [some (zrf r), x1, x2] st h Q ↔ Runs 85 26 [some (zrf r), x1, x2] (zrf r :: st) h Q := R_aldnq rfl rfl
theorem s85_26 (ht : tg a = 9) : Runs 85 26 ls (.ref a :: st) (n, tg, ln, I, J, O) Q ↔ Runs 85 29 ls (zrf (O a 0) :: st) (n, tg, ln, I, J, O) Q := R_getr rfl rfl rfl rfl ht
theorem s85_29 : Runs 85 29 [x0, some (.int i), x2] st h Q ↔ Runs 85 30 [x0, some (.int i), x2] (.int i :: st) h Q := R_ildn rfl rfl
theorem s85_30 (ht : tg a = 5) (hs : zsumc st ≤ 8) : Runs 85 30 ls (.int i0 :: .ref a :: st) (n, tg, ln, I, J, O) Q ↔ Runs 41 0 [some (.ref a), some (.int i0)] [] (n, tg, ln, I, J, O) (fun v h2 => Runs 85 33 ls (v.toList ++ st) h2 Q) := R_callv (a := a) (rest := st) rfl rfl rfl rfl rfl rfl rfl ht hs
theorem s85_33 (ht : tg a = 4) : Runs 85 33 ls (.ref a :: st) (n, tg, ln, I, J, O) Q ↔ Runs 85 36 ls (zrf (O a 0) :: st) (n, tg, ln, I, J, O) Q := R_getr rfl rfl rfl rfl ht
theorem s85_36 : Runs 85 36 [x0, x1, some (.int i)] st h Q ↔ Runs 85 37 [x0, x1, some (.int i)] (.int i :: st) h Q := R_ildn rfl rfl
theorem s85_37 (ht : tg a = 20) : Runs 85 37 ls (.int i :: .ref a :: st) (n, tg, ln, I, J, O) Q ↔ ((0 ≤ i ∧ i < Int32.ofNat (ln a)) ∧ Runs 85 38 ls (.int (I a i) :: st) (n, tg, ln, I, J, O) Q) := R_iald rfl ht
theorem s85_38 : Runs 85 38 ls [.int i] h Q ↔ Q (some (.int i)) h := R_iret rfl rfl
theorem s86_0 : Runs 86 0 [some (.ref a), x1, x2, x3] st h Q ↔ Runs 86 1 [some (.ref a), x1, x2, x3] (.ref a :: st) h Q := R_aldn rfl rfl
theorem s86_0q : Runs 86 0 [some (zrf r), x1, x2, x3] st h Q ↔ Runs 86 1 [some (zrf r), x1, x2, x3] (zrf r :: st) h Q := R_aldnq rfl rfl
theorem s86_1 (ht : tg a = 9) : Runs 86 1 ls (.ref a :: st) (n, tg, ln, I, J, O) Q ↔ Runs 86 4 ls (zrf (O a 0) :: st) (n, tg, ln, I, J, O) Q := R_getr rfl rfl rfl rfl ht
theorem s86_4 : Runs 86 4 [x0, some (.int i), x2, x3] st h Q ↔ Runs 86 5 [x0, some (.int i), x2, x3] (.int i :: st) h Q := R_ildn rfl rfl
theorem s86_5 (ht : tg a = 5) (hs : zsumc st ≤ 8) : Runs 86 5 ls (.int i0 :: .ref a :: st) (n, tg, ln, I, J, O) Q ↔ Runs 39 0 [some (.ref a), some (.int i0)] [] (n, tg, ln, I, J, O) (fun v h2 => Runs 86 8 ls (v.toList ++ st) h2 Q) := R_callv (a := a) (rest := st) rfl rfl rfl rfl rfl rfl rfl ht hs
theorem s86_8 : Runs 86 8 ls (.int i :: st) h Q ↔ if ¬ i = 0 then Runs 86 14 ls st h Q else Runs 86 11 ls st h Q := R_ifne rfl rfl
theorem s86_11 : Runs 86 11 ls st h Q ↔ Runs 86 13 ls (.int (-2) :: st) h Q := R_bipush rfl (by decide)
theorem s86_13 : Runs 86 13 ls [.int i] h Q ↔ Q (some (.int i)) h := R_iret rfl rfl
theorem s86_14 : Runs 86 14 [x0, x1, some (.int i), x3] st h Q ↔ Runs 86 15 [x0, x1, some (.int i), x3] (.int i :: st) h Q := R_ildn rfl rfl
theorem s86_15 : Runs 86 15 ls (.int i :: st) h Q ↔ if i < 0 then Runs 86 23 ls st h Q else Runs 86 18 ls st h Q := R_iflt rfl rfl
theorem s86_18 : Runs 86 18 [x0, x1, some (.int i), x3] st h Q ↔ Runs 86 19 [x0, x1, some (.int i), x3] (.int i :: st) h Q := R_ildn rfl rfl
theorem s86_19 : Runs 86 19 ls st h Q ↔ Runs 86 20 ls (.int 5 :: st) h Q := R_iconst rfl rfl
theorem s86_20 : Runs 86 20 ls (.int j :: .int i :: st) h Q ↔ if i ≤ j then Runs 86 26 ls st h Q else Runs 86 23 ls st h Q := R_icle rfl rfl
theorem s86_23 : Runs 86 23 ls st h Q ↔ Runs 86 25 ls (.int (-3) :: st) h Q := R_bipush rfl (by decide)
theorem s86_25 : Runs 86 25 ls [.int i] h Q ↔ Q (some (.int i)) h := R_iret rfl rfl
theorem s86_26 : Runs 86 26 [some (.ref a), x1, x2, x3] st h Q ↔ Runs 86 27 [some (.ref a), x1, x2, x3] (.ref a :: st) h Q := R_aldn rfl rfl
theorem s86_26q : Runs 86 26 [some (zrf r), x1, x2, x3] st h Q ↔ Runs 86 27 [some (zrf r), x1, x2, x3] (zrf r :: st) h Q := R_aldnq rfl rfl
theorem s86_27 (ht : tg a = 9) : Runs 86 27 ls (.ref a :: st) (n, tg, ln, I, J, O) Q ↔ Runs 86 30 ls (zrf (O a 0) :: st) (n, tg, ln, I, J, O) Q := R_getr rfl rfl rfl rfl ht
theorem s86_30 (ht : tg a = 5) : Runs 86 30 ls (.ref a :: st) (n, tg, ln, I, J, O) Q ↔ Runs 86 33 ls (zrf (O a 0) :: st) (n, tg, ln, I, J, O) Q := R_getr rfl rfl rfl rfl ht
theorem s86_33 : Runs 86 33 [x0, some (.int i), x2, x3] st h Q ↔ Runs 86 34 [x0, some (.int i), x2, x3] (.int i :: st) h Q := R_ildn rfl rfl
theorem s86_34 (ht : tg a = 20) : Runs 86 34 ls (.int i :: .ref a :: st) (n, tg, ln, I, J, O) Q ↔ ((0 ≤ i ∧ i < Int32.ofNat (ln a)) ∧ Runs 86 35 ls (.int (I a i) :: st) (n, tg, ln, I, J, O) Q) := R_iald rfl ht
theorem s86_35 : Runs 86 35 [x0, x1, x2, x3] (.int i :: st) h Q ↔ Runs 86 36 [x0, x1, zdrop x2, some (.int i)] st h Q := R_istn rfl rfl rfl
theorem s86_36 : Runs 86 36 [x0, x1, x2, some (.int i)] st h Q ↔ Runs 86 37 [x0, x1, x2, some (.int i)] (.int i :: st) h Q := R_ildn rfl rfl
theorem s86_37 : Runs 86 37 [x0, x1, some (.int i), x3] st h Q ↔ Runs 86 38 [x0, x1, some (.int i), x3] (.int i :: st) h Q := R_ildn rfl rfl
theorem s86_38 (hs : zsumc st ≤ 8) : Runs 86 38 ls (.int i1 :: .int i0 :: st) h Q ↔ Runs 20 0 [some (.int i0), some (.int i1)] [] h (fun v h2 => Runs 86 41 ls (v.toList ++ st) h2 Q) := R_calls (rest := st) rfl rfl rfl (by simp) rfl rfl rfl rfl hs
theorem s86_41 : Runs 86 41 ls (.int i :: st) h Q ↔ if i = 0 then Runs 86 51 ls st h Q else Runs 86 44 ls st h Q := R_ifeq rfl rfl
theorem s86_44 : Runs 86 44 [x0, x1, x2, some (.int i)] st h Q ↔ Runs 86 45 [x0, x1, x2, some (.int i)] (.int i :: st) h Q := R_ildn rfl rfl
theorem s86_45 (hs : zsumc st ≤ 8) : Runs 86 45 ls (.int i0 :: st) h Q ↔ Runs 17 0 [some (.int i0)] [] h (fun v h2 => Runs 86 48 ls (v.toList ++ st) h2 Q) := R_calls (rest := st) rfl rfl rfl (by simp) rfl rfl rfl rfl hs
theorem s86_48 : Runs 86 48 ls st h Q ↔ Runs 86 53 ls st h Q := R_goto rfl rfl
theorem s86_51 : Runs 86 51 ls st h Q ↔ Runs 86 53 ls (.int (-4) :: st) h Q := R_bipush rfl (by decide)
theorem s86_53 : Runs 86 53 ls [.int i] h Q ↔ Q (some (.int i)) h := R_iret rfl rfl
theorem s87_0 : Runs 87 0 [some (.ref a)] st h Q ↔ Runs 87 1 [some (.ref a)] (.ref a :: st) h Q := R_aldn rfl rfl
theorem s87_0q : Runs 87 0 [some (zrf r)] st h Q ↔ Runs 87 1 [some (zrf r)] (zrf r :: st) h Q := R_aldnq rfl rfl
theorem s87_1 (ht : tg a = 9) : Runs 87 1 ls (.ref a :: st) (n, tg, ln, I, J, O) Q ↔ Runs 87 4 ls (zrf (O a 0) :: st) (n, tg, ln, I, J, O) Q := R_getr rfl rfl rfl rfl ht
theorem s87_4 (ht : tg a = 5) (hs : zsumc st ≤ 8) : Runs 87 4 ls (.ref a :: st) (n, tg, ln, I, J, O) Q ↔ Runs 42 0 [some (.ref a)] [] (n, tg, ln, I, J, O) (fun v h2 => Runs 87 7 ls (v.toList ++ st) h2 Q) := R_callv (a := a) (rest := st) rfl rfl rfl rfl rfl rfl rfl ht hs
theorem s87_7 : Runs 87 7 ls (.int i :: st) h Q ↔ if i = 0 then Runs 87 13 ls st h Q else Runs 87 10 ls st h Q := R_ifeq rfl rfl
theorem s87_10 : Runs 87 10 ls st h Q ↔ Runs 87 12 ls (.int (-4) :: st) h Q := R_bipush rfl (by decide)
theorem s87_12 : Runs 87 12 ls [.int i] h Q ↔ Q (some (.int i)) h := R_iret rfl rfl
theorem s87_13 : Runs 87 13 [some (.ref a)] st h Q ↔ Runs 87 14 [some (.ref a)] (.ref a :: st) h Q := R_aldn rfl rfl
theorem s87_13q : Runs 87 13 [some (zrf r)] st h Q ↔ Runs 87 14 [some (zrf r)] (zrf r :: st) h Q := R_aldnq rfl rfl
theorem s87_14 (ht : tg a = 9) : Runs 87 14 ls (.ref a :: st) (n, tg, ln, I, J, O) Q ↔ Runs 87 17 ls (zrf (O a 0) :: st) (n, tg, ln, I, J, O) Q := R_getr rfl rfl rfl rfl ht
theorem s87_17 (ht : tg a = 5) : Runs 87 17 ls (.ref a :: st) (n, tg, ln, I, J, O) Q ↔ Runs 87 20 ls (.int (I a 8) :: st) (n, tg, ln, I, J, O) Q := R_geti rfl rfl rfl rfl ht
theorem s87_20 : Runs 87 20 ls st h Q ↔ Runs 87 23 ls (.int 999 :: st) h Q := R_sipush rfl (by decide)
theorem s87_23 : Runs 87 23 ls (.int j :: .int i :: st) h Q ↔ if i < j then Runs 87 29 ls st h Q else Runs 87 26 ls st h Q := R_iclt rfl rfl
theorem s87_26 : Runs 87 26 ls st h Q ↔ Runs 87 28 ls (.int (-5) :: st) h Q := R_bipush rfl (by decide)
theorem s87_28 : Runs 87 28 ls [.int i] h Q ↔ Q (some (.int i)) h := R_iret rfl rfl
theorem s87_29 : Runs 87 29 [some (.ref a)] st h Q ↔ Runs 87 30 [some (.ref a)] (.ref a :: st) h Q := R_aldn rfl rfl
theorem s87_29q : Runs 87 29 [some (zrf r)] st h Q ↔ Runs 87 30 [some (zrf r)] (zrf r :: st) h Q := R_aldnq rfl rfl
theorem s87_30 (ht : tg a = 9) : Runs 87 30 ls (.ref a :: st) (n, tg, ln, I, J, O) Q ↔ Runs 87 33 ls (zrf (O a 5) :: st) (n, tg, ln, I, J, O) Q := R_getr rfl rfl rfl rfl ht
theorem s87_33 : Runs 87 33 [some (.ref a)] st h Q ↔ Runs 87 34 [some (.ref a)] (.ref a :: st) h Q := R_aldn rfl rfl
theorem s87_33q : Runs 87 33 [some (zrf r)] st h Q ↔ Runs 87 34 [some (zrf r)] (zrf r :: st) h Q := R_aldnq rfl rfl
theorem s87_34 (ht : tg a = 9) : Runs 87 34 ls (.ref a :: st) (n, tg, ln, I, J, O) Q ↔ Runs 87 37 ls (zrf (O a 0) :: st) (n, tg, ln, I, J, O) Q := R_getr rfl rfl rfl rfl ht
theorem s87_37 (ht : tg a = 2) (hs : zsumc st ≤ 8) : Runs 87 37 ls (.ref b0 :: .ref a :: st) (n, tg, ln, I, J, O) Q ↔ Runs 12 0 [some (.ref a), some (.ref b0)] [] (n, tg, ln, I, J, O) (fun v h2 => Runs 87 40 ls (v.toList ++ st) h2 Q) := R_callv (a := a) (rest := st) rfl rfl rfl rfl rfl rfl rfl ht hs
theorem s87_37q (ht : tg a = 2) (hs : zsumc st ≤ 8) : Runs 87 37 ls (zrf r0 :: .ref a :: st) (n, tg, ln, I, J, O) Q ↔ Runs 12 0 [some (.ref a), some (zrf r0)] [] (n, tg, ln, I, J, O) (fun v h2 => Runs 87 40 ls (v.toList ++ st) h2 Q) := by cases r0 <;> exact R_callv (a := a) (rest := st) rfl rfl rfl rfl rfl rfl rfl ht hs
theorem s87_40 : Runs 87 40 [some (.ref a)] st h Q ↔ Runs 87 41 [some (.ref a)] (.ref a :: st) h Q := R_aldn rfl rfl
theorem s87_40q : Runs 87 40 [some (zrf r)] st h Q ↔ Runs 87 41 [some (zrf r)] (zrf r :: st) h Q := R_aldnq rfl rfl
theorem s87_41 (ht : tg a = 9) : Runs 87 41 ls (.ref a :: st) (n, tg, ln, I, J, O) Q ↔ Runs 87 44 ls (zrf (O a 0) :: st) (n, tg, ln, I, J, O) Q := R_getr rfl rfl rfl rfl ht
theorem s87_44 (ht : tg a = 5) (hs : zsumc st ≤ 8) : Runs 87 44 ls (.ref a :: st) (n, tg, ln, I, J, O) Q ↔ Runs 51 0 [some (.ref a), none, none] [] (n, tg, ln, I, J, O) (fun v h2 => Runs 87 47 ls (v.toList ++ st) h2 Q) := R_callv (a := a) (rest := st) rfl rfl rfl rfl rfl rfl rfl ht hs
theorem s87_47 : Runs 87 47 ls [.int i] h Q ↔ Q (some (.int i)) h := R_iret rfl rfl
theorem s88_0 : Runs 88 0 [x0, some (.int i), x2, x3] st h Q ↔ Runs 88 1 [x0, some (.int i), x2, x3] (.int i :: st) h Q := R_ildn rfl rfl
theorem s88_1 (hs : zsumc st ≤ 8) : Runs 88 1 ls (.int i0 :: st) h Q ↔ Runs 115 0 [some (.int i0)] [] h (fun v h2 => Runs 88 4 ls (v.toList ++ st) h2 Q) := R_calls (rest := st) rfl rfl rfl (by simp) rfl rfl rfl rfl hs
theorem s88_4 : Runs 88 4 ls (.int i :: st) h Q ↔ if ¬ i = 0 then Runs 88 10 ls st h Q else Runs 88 7 ls st h Q := R_ifne rfl rfl
theorem s88_7 : Runs 88 7 ls st h Q ↔ Runs 88 9 ls (.int (-2) :: st) h Q := R_bipush rfl (by decide)
theorem s88_9 : Runs 88 9 ls [.int i] h Q ↔ Q (some (.int i)) h := R_iret rfl rfl
theorem s88_10 : Runs 88 10 [x0, x1, some (.int i), x3] st h Q ↔ Runs 88 11 [x0, x1, some (.int i), x3] (.int i :: st) h Q := R_ildn rfl rfl
theorem s88_11 : Runs 88 11 [x0, x1, x2, some (.int i)] st h Q ↔ Runs 88 12 [x0, x1, x2, some (.int i)] (.int i :: st) h Q := R_ildn rfl rfl
theorem s88_12 (hs : zsumc st ≤ 8) : Runs 88 12 ls (.int i1 :: .int i0 :: st) h Q ↔ Runs 118 0 [some (.int i0), some (.int i1)] [] h (fun v h2 => Runs 88 15 ls (v.toList ++ st) h2 Q) := R_calls (rest := st) rfl rfl rfl (by simp) rfl rfl rfl rfl hs
theorem s88_15 : Runs 88 15 ls (.int i :: st) h Q ↔ if ¬ i = 0 then Runs 88 21 ls st h Q else Runs 88 18 ls st h Q := R_ifne rfl rfl
theorem s88_18 : Runs 88 18 ls st h Q ↔ Runs 88 20 ls (.int (-3) :: st) h Q := R_bipush rfl (by decide)
theorem s88_20 : Runs 88 20 ls [.int i] h Q ↔ Q (some (.int i)) h := R_iret rfl rfl
theorem s88_21 : Runs 88 21 [some (.ref a), x1, x2, x3] st h Q ↔ Runs 88 22 [some (.ref a), x1, x2, x3] (.ref a :: st) h Q := R_aldn rfl rfl
theorem s88_21q : Runs 88 21 [some (zrf r), x1, x2, x3] st h Q ↔ Runs 88 22 [some (zrf r), x1, x2, x3] (zrf r :: st) h Q := R_aldnq rfl rfl
theorem s88_22 (ht : tg a = 9) : Runs 88 22 ls (.ref a :: st) (n, tg, ln, I, J, O) Q ↔ Runs 88 25 ls (zrf (O a 0) :: st) (n, tg, ln, I, J, O) Q := R_getr rfl rfl rfl rfl ht
theorem s88_25 : Runs 88 25 [x0, some (.int i), x2, x3] st h Q ↔ Runs 88 26 [x0, some (.int i), x2, x3] (.int i :: st) h Q := R_ildn rfl rfl
theorem s88_26 (ht : tg a = 5) (hs : zsumc st ≤ 8) : Runs 88 26 ls (.int i0 :: .ref a :: st) (n, tg, ln, I, J, O) Q ↔ Runs 45 0 [some (.ref a), some (.int i0)] [] (n, tg, ln, I, J, O) (fun v h2 => Runs 88 29 ls (v.toList ++ st) h2 Q) := R_callv (a := a) (rest := st) rfl rfl rfl rfl rfl rfl rfl ht hs
theorem s88_29 : Runs 88 29 ls (.int i :: st) h Q ↔ if ¬ i = 0 then Runs 88 35 ls st h Q else Runs 88 32 ls st h Q := R_ifne rfl rfl
theorem s88_32 : Runs 88 32 ls st h Q ↔ Runs 88 34 ls (.int (-5) :: st) h Q := R_bipush rfl (by decide)
theorem s88_34 : Runs 88 34 ls [.int i] h Q ↔ Q (some (.int i)) h := R_iret rfl rfl
theorem s88_35 : Runs 88 35 [some (.ref a), x1, x2, x3] st h Q ↔ Runs 88 36 [some (.ref a), x1, x2, x3] (.ref a :: st) h Q := R_aldn rfl rfl
theorem s88_35q : Runs 88 35 [some (zrf r), x1, x2, x3] st h Q ↔ Runs 88 36 [some (zrf r), x1, x2, x3] (zrf r :: st) h Q := R_aldnq rfl rfl
theorem s88_36 (ht : tg a = 9) : Runs 88 36 ls (.ref a :: st) (n, tg, ln, I, J, O) Q ↔ Runs 88 39 ls (zrf (O a 5) :: st) (n, tg, ln, I, J, O) Q := R_getr rfl rfl rfl rfl ht
theorem s88_39 : Runs 88 39 [some (.ref a), x1, x2, x3] st h Q ↔ Runs 88 40 [some (.ref a), x1, x2, x3] (.ref a :: st) h Q := R_aldn rfl rfl
theorem s88_39q : Runs 88 39 [some (zrf r), x1, x2, x3] st h Q ↔ Runs 88 40 [some (zrf r), x1, x2, x3] (zrf r :: st) h Q := R_aldnq rfl rfl
theorem s88_40 (ht : tg a = 9) : Runs 88 40 ls (.ref a :: st) (n, tg, ln, I, J, O) Q ↔ Runs 88 43 ls (zrf (O a 0) :: st) (n, tg, ln, I, J, O) Q := R_getr rfl rfl rfl rfl ht
theorem s88_43 (ht : tg a = 2) (hs : zsumc st ≤ 8) : Runs 88 43 ls (.ref b0 :: .ref a :: st) (n, tg, ln, I, J, O) Q ↔ Runs 12 0 [some (.ref a), some (.ref b0)] [] (n, tg, ln, I, J, O) (fun v h2 => Runs 88 46 ls (v.toList ++ st) h2 Q) := R_callv (a := a) (rest := st) rfl rfl rfl rfl rfl rfl rfl ht hs
theorem s88_43q (ht : tg a = 2) (hs : zsumc st ≤ 8) : Runs 88 43 ls (zrf r0 :: .ref a :: st) (n, tg, ln, I, J, O) Q ↔ Runs 12 0 [some (.ref a), some (zrf r0)] [] (n, tg, ln, I, J, O) (fun v h2 => Runs 88 46 ls (v.toList ++ st) h2 Q) := by cases r0 <;> exact R_callv (a := a) (rest := st) rfl rfl rfl rfl rfl rfl rfl ht hs
theorem s88_46 : Runs 88 46 [some (.ref a), x1, x2, x3] st h Q ↔ Runs 88 47 [some (.ref a), x1, x2, x3] (.ref a :: st) h Q := R_aldn rfl rfl
theorem s88_46q : Runs 88 46 [some (zrf r), x1, x2, x3] st h Q ↔ Runs 88 47 [some (zrf r), x1, x2, x3] (zrf r :: st) h Q := R_aldnq rfl rfl
theorem s88_47 (ht : tg a = 9) : Runs 88 47 ls (.ref a :: st) (n, tg, ln, I, J, O) Q ↔ Runs 88 50 ls (zrf (O a 0) :: st) (n, tg, ln, I, J, O) Q := R_getr rfl rfl rfl rfl ht
theorem s88_50 : Runs 88 50 [x0, some (.int i), x2, x3] st h Q ↔ Runs 88 51 [x0, some (.int i), x2, x3] (.int i :: st) h Q := R_ildn rfl rfl
theorem s88_51 : Runs 88 51 [x0, x1, some (.int i), x3] st h Q ↔ Runs 88 52 [x0, x1, some (.int i), x3] (.int i :: st) h Q := R_ildn rfl rfl
theorem s88_52 : Runs 88 52 [x0, x1, x2, some (.int i)] st h Q ↔ Runs 88 53 [x0, x1, x2, some (.int i)] (.int i :: st) h Q := R_ildn rfl rfl
theorem s88_53 (ht : tg a = 5) (hs : zsumc st ≤ 8) : Runs 88 53 ls (.int i2 :: .int i1 :: .int i0 :: .ref a :: st) (n, tg, ln, I, J, O) Q ↔ Runs 46 0 [some (.ref a), some (.int i0), some (.int i1), some (.int i2), none] [] (n, tg, ln, I, J, O) (fun v h2 => Runs 88 56 ls (v.toList ++ st) h2 Q) := R_callv (a := a) (rest := st) rfl rfl rfl rfl rfl rfl rfl ht hs
theorem s88_56 : Runs 88 56 ls [.int i] h Q ↔ Q (some (.int i)) h := R_iret rfl rfl
theorem s89_0 : Runs 89 0 [some (.ref a), x1] st h Q ↔ Runs 89 1 [some (.ref a), x1] (.ref a :: st) h Q := R_aldn rfl rfl
theorem s89_0q : Runs 89 0 [some (zrf r), x1] st h Q ↔ Runs 89 1 [some (zrf r), x1] (zrf r :: st) h Q := R_aldnq rfl rfl
theorem s89_1 (ht : tg a = 9) : Runs 89 1 ls (.ref a :: st) (n, tg, ln, I, J, O) Q ↔ Runs 89 4 ls (zrf (O a 0) :: st) (n, tg, ln, I, J, O) Q := R_getr rfl rfl rfl rfl ht
theorem s89_4 : Runs 89 4 [x0, some (.int i)] st h Q ↔ Runs 89 5 [x0, some (.int i)] (.int i :: st) h Q := R_ildn rfl rfl
theorem s89_5 (ht : tg a = 5) (hs : zsumc st ≤ 8) : Runs 89 5 ls (.int i0 :: .ref a :: st) (n, tg, ln, I, J, O) Q ↔ Runs 39 0 [some (.ref a), some (.int i0)] [] (n, tg, ln, I, J, O) (fun v h2 => Runs 89 8 ls (v.toList ++ st) h2 Q) := R_callv (a := a) (rest := st) rfl rfl rfl rfl rfl rfl rfl ht hs
theorem s89_8 : Runs 89 8 ls (.int i :: st) h Q ↔ if ¬ i = 0 then Runs 89 14 ls st h Q else Runs 89 11 ls st h Q := R_ifne rfl rfl
theorem s89_11 : Runs 89 11 ls st h Q ↔ Runs 89 13 ls (.int (-2) :: st) h Q := R_bipush rfl (by decide)
theorem s89_13 : Runs 89 13 ls [.int i] h Q ↔ Q (some (.int i)) h := R_iret rfl rfl
theorem s89_14 : Runs 89 14 [some (.ref a), x1] st h Q ↔ Runs 89 15 [some (.ref a), x1] (.ref a :: st) h Q := R_aldn rfl rfl
theorem s89_14q : Runs 89 14 [some (zrf r), x1] st h Q ↔ Runs 89 15 [some (zrf r), x1] (zrf r :: st) h Q := R_aldnq rfl rfl
theorem s89_15 (ht : tg a = 9) : Runs 89 15 ls (.ref a :: st) (n, tg, ln, I, J, O) Q ↔ Runs 89 18 ls (zrf (O a 0) :: st) (n, tg, ln, I, J, O) Q := R_getr rfl rfl rfl rfl ht
theorem s89_18 : Runs 89 18 [x0, some (.int i)] st h Q ↔ Runs 89 19 [x0, some (.int i)] (.int i :: st) h Q := R_ildn rfl rfl
theorem s89_19 (ht : tg a = 5) (hs : zsumc st ≤ 8) : Runs 89 19 ls (.int i0 :: .ref a :: st) (n, tg, ln, I, J, O) Q ↔ Runs 40 0 [some (.ref a), some (.int i0)] [] (n, tg, ln, I, J, O) (fun v h2 => Runs 89 22 ls (v.toList ++ st) h2 Q) := R_callv (a := a) (rest := st) rfl rfl rfl rfl rfl rfl rfl ht hs
theorem s89_22 : Runs 89 22 ls (.int i :: st) h Q ↔ if ¬ i = 0 then Runs 89 28 ls st h Q else Runs 89 25 ls st h Q := R_ifne rfl rfl
theorem s89_25 : Runs 89 25 ls st h Q ↔ Runs 89 27 ls (.int (-4) :: st) h Q := R_bipush rfl (by decide)
theorem s89_27 : Runs 89 27 ls [.int i] h Q ↔ Q (some (.int i)) h := R_iret rfl rfl
theorem s89_28 : Runs 89 28 [some (.ref a), x1] st h Q ↔ Runs 89 29 [some (.ref a), x1] (.ref a :: st) h Q := R_aldn rfl rfl
theorem s89_28q : Runs 89 28 [some (zrf r), x1] st h Q ↔ Runs 89 29 [some (zrf r), x1] (zrf r :: st) h Q := R_aldnq rfl rfl
theorem s89_29 (ht : tg a = 9) : Runs 89 29 ls (.ref a :: st) (n, tg, ln, I, J, O) Q ↔ Runs 89 32 ls (zrf (O a 5) :: st) (n, tg, ln, I, J, O) Q := R_getr rfl rfl rfl rfl ht
theorem s89_32 : Runs 89 32 [some (.ref a), x1] st h Q ↔ Runs 89 33 [some (.ref a), x1] (.ref a :: st) h Q := R_aldn rfl rfl
theorem s89_32q : Runs 89 32 [some (zrf r), x1] st h Q ↔ Runs 89 33 [some (zrf r), x1] (zrf r :: st) h Q := R_aldnq rfl rfl
theorem s89_33 (ht : tg a = 9) : Runs 89 33 ls (.ref a :: st) (n, tg, ln, I, J, O) Q ↔ Runs 89 36 ls (zrf (O a 0) :: st) (n, tg, ln, I, J, O) Q := R_getr rfl rfl rfl rfl ht
theorem s89_36 (ht : tg a = 2) (hs : zsumc st ≤ 8) : Runs 89 36 ls (.ref b0 :: .ref a :: st) (n, tg, ln, I, J, O) Q ↔ Runs 12 0 [some (.ref a), some (.ref b0)] [] (n, tg, ln, I, J, O) (fun v h2 => Runs 89 39 ls (v.toList ++ st) h2 Q) := R_callv (a := a) (rest := st) rfl rfl rfl rfl rfl rfl rfl ht hs
theorem s89_36q (ht : tg a = 2) (hs : zsumc st ≤ 8) : Runs 89 36 ls (zrf r0 :: .ref a :: st) (n, tg, ln, I, J, O) Q ↔ Runs 12 0 [some (.ref a), some (zrf r0)] [] (n, tg, ln, I, J, O) (fun v h2 => Runs 89 39 ls (v.toList ++ st) h2 Q) := by cases r0 <;> exact R_callv (a := a) (rest := st) rfl rfl rfl rfl rfl rfl rfl ht hs
theorem s89_39 : Runs 89 39 [some (.ref a), x1] st h Q ↔ Runs 89 40 [some (.ref a), x1] (.ref a :: st) h Q := R_aldn rfl rfl
theorem s89_39q : Runs 89 39 [some (zrf r), x1] st h Q ↔ Runs 89 40 [some (zrf r), x1] (zrf r :: st) h Q := R_aldnq rfl rfl
theorem s89_40 (ht : tg a = 9) : Runs 89 40 ls (.ref a :: st) (n, tg, ln, I, J, O) Q ↔ Runs 89 43 ls (zrf (O a 0) :: st) (n, tg, ln, I, J, O) Q := R_getr rfl rfl rfl rfl ht
theorem s89_43 : Runs 89 43 [x0, some (.int i)] st h Q ↔ Runs 89 44 [x0, some (.int i)] (.int i :: st) h Q := R_ildn rfl rfl
theorem s89_44 (ht : tg a = 5) (hs : zsumc st ≤ 8) : Runs 89 44 ls (.int i0 :: .ref a :: st) (n, tg, ln, I, J, O) Q ↔ Runs 47 0 [some (.ref a), some (.int i0), none] [] (n, tg, ln, I, J, O) (fun v h2 => Runs 89 47 ls (v.toList ++ st) h2 Q) := R_callv (a := a) (rest := st) rfl rfl rfl rfl rfl rfl rfl ht hs
theorem s89_47 : Runs 89 47 ls [.int i] h Q ↔ Q (some (.int i)) h := R_iret rfl rfl
theorem s90_0 : Runs 90 0 [some (.ref a), x1] st h Q ↔ Runs 90 1 [some (.ref a), x1] (.ref a :: st) h Q := R_aldn rfl rfl
theorem s90_0q : Runs 90 0 [some (zrf r), x1] st h Q ↔ Runs 90 1 [some (zrf r), x1] (zrf r :: st) h Q := R_aldnq rfl rfl
theorem s90_1 (ht : tg a = 9) : Runs 90 1 ls (.ref a :: st) (n, tg, ln, I, J, O) Q ↔ Runs 90 4 ls (zrf (O a 0) :: st) (n, tg, ln, I, J, O) Q := R_getr rfl rfl rfl rfl ht
theorem s90_4 : Runs 90 4 [x0, some (.int i)] st h Q ↔ Runs 90 5 [x0, some (.int i)] (.int i :: st) h Q := R_ildn rfl rfl
theorem s90_5 (ht : tg a = 5) (hs : zsumc st ≤ 8) : Runs 90 5 ls (.int i0 :: .ref a :: st) (n, tg, ln, I, J, O) Q ↔ Runs 39 0 [some (.ref a), some (.int i0)] [] (n, tg, ln, I, J, O) (fun v h2 => Runs 90 8 ls (v.toList ++ st) h2 Q) := R_callv (a := a) (rest := st) rfl rfl rfl rfl rfl rfl rfl ht hs
theorem s90_8 : Runs 90 8 ls (.int i :: st) h Q ↔ if ¬ i = 0 then Runs 90 14 ls st h Q else Runs 90 11 ls st h Q := R_ifne rfl rfl
theorem s90_11 : Runs 90 11 ls st h Q ↔ Runs 90 13 ls (.int (-2) :: st) h Q := R_bipush rfl (by decide)
theorem s90_13 : Runs 90 13 ls [.int i] h Q ↔ Q (some (.int i)) h := R_iret rfl rfl
theorem s90_14 : Runs 90 14 [some (.ref a), x1] st h Q ↔ Runs 90 15 [some (.ref a), x1] (.ref a :: st) h Q := R_aldn rfl rfl
theorem s90_14q : Runs 90 14 [some (zrf r), x1] st h Q ↔ Runs 90 15 [some (zrf r), x1] (zrf r :: st) h Q := R_aldnq rfl rfl
theorem s90_15 (ht : tg a = 9) : Runs 90 15 ls (.ref a :: st) (n, tg, ln, I, J, O) Q ↔ Runs 90 18 ls (zrf (O a 0) :: st) (n, tg, ln, I, J, O) Q := R_getr rfl rfl rfl rfl ht
theorem s90_18 (ht : tg a = 5) : Runs 90 18 ls (.ref a :: st) (n, tg, ln, I, J, O) Q ↔ Runs 90 21 ls (zrf (O a 3) :: st) (n, tg, ln, I, J, O) Q := R_getr rfl rfl rfl rfl ht
theorem s90_21 : Runs 90 21 [x0, some (.int i)] st h Q ↔ Runs 90 22 [x0, some (.int i)] (.int i :: st) h Q := R_ildn rfl rfl
theorem s90_22 (ht : tg a = 20) : Runs 90 22 ls (.int i :: .ref a :: st) (n, tg, ln, I, J, O) Q ↔ ((0 ≤ i ∧ i < Int32.ofNat (ln a)) ∧ Runs 90 23 ls (.int (I a i) :: st) (n, tg, ln, I, J, O) Q) := R_iald rfl ht
theorem s90_23 : Runs 90 23 ls st h Q ↔ Runs 90 24 ls (.int 2 :: st) h Q := R_iconst rfl rfl
theorem s90_24 : Runs 90 24 ls (.int j :: .int i :: st) h Q ↔ if i = j then Runs 90 30 ls st h Q else Runs 90 27 ls st h Q := R_iceq rfl rfl
theorem s90_27 : Runs 90 27 ls st h Q ↔ Runs 90 29 ls (.int (-4) :: st) h Q := R_bipush rfl (by decide)
theorem s90_29 : Runs 90 29 ls [.int i] h Q ↔ Q (some (.int i)) h := R_iret rfl rfl
theorem s90_30 : Runs 90 30 [some (.ref a), x1] st h Q ↔ Runs 90 31 [some (.ref a), x1] (.ref a :: st) h Q := R_aldn rfl rfl
theorem s90_30q : Runs 90 30 [some (zrf r), x1] st h Q ↔ Runs 90 31 [some (zrf r), x1] (zrf r :: st) h Q := R_aldnq rfl rfl
theorem s90_31 (ht : tg a = 9) : Runs 90 31 ls (.ref a :: st) (n, tg, ln, I, J, O) Q ↔ Runs 90 34 ls (zrf (O a 0) :: st) (n, tg, ln, I, J, O) Q := R_getr rfl rfl rfl rfl ht
theorem s90_34 : Runs 90 34 [x0, some (.int i)] st h Q ↔ Runs 90 35 [x0, some (.int i)] (.int i :: st) h Q := R_ildn rfl rfl
theorem s90_35 (ht : tg a = 5) (hs : zsumc st ≤ 8) : Runs 90 35 ls (.int i0 :: .ref a :: st) (n, tg, ln, I, J, O) Q ↔ Runs 48 0 [some (.ref a), some (.int i0)] [] (n, tg, ln, I, J, O) (fun v h2 => Runs 90 38 ls (v.toList ++ st) h2 Q) := R_callv (a := a) (rest := st) rfl rfl rfl rfl rfl rfl rfl ht hs
theorem s90_38 : Runs 90 38 ls (.int i :: st) h Q ↔ if ¬ i = 0 then Runs 90 44 ls st h Q else Runs 90 41 ls st h Q := R_ifne rfl rfl
theorem s90_41 : Runs 90 41 ls st h Q ↔ Runs 90 43 ls (.int (-5) :: st) h Q := R_bipush rfl (by decide)
theorem s90_43 : Runs 90 43 ls [.int i] h Q ↔ Q (some (.int i)) h := R_iret rfl rfl
theorem s90_44 : Runs 90 44 [some (.ref a), x1] st h Q ↔ Runs 90 45 [some (.ref a), x1] (.ref a :: st) h Q := R_aldn rfl rfl
theorem s90_44q : Runs 90 44 [some (zrf r), x1] st h Q ↔ Runs 90 45 [some (zrf r), x1] (zrf r :: st) h Q := R_aldnq rfl rfl
theorem s90_45 (ht : tg a = 9) : Runs 90 45 ls (.ref a :: st) (n, tg, ln, I, J, O) Q ↔ Runs 90 48 ls (zrf (O a 5) :: st) (n, tg, ln, I, J, O) Q := R_getr rfl rfl rfl rfl ht
theorem s90_48 : Runs 90 48 [some (.ref a), x1] st h Q ↔ Runs 90 49 [some (.ref a), x1] (.ref a :: st) h Q := R_aldn rfl rfl
theorem s90_48q : Runs 90 48 [some (zrf r), x1] st h Q ↔ Runs 90 49 [some (zrf r), x1] (zrf r :: st) h Q := R_aldnq rfl rfl
theorem s90_49 (ht : tg a = 9) : Runs 90 49 ls (.ref a :: st) (n, tg, ln, I, J, O) Q ↔ Runs 90 52 ls (zrf (O a 0) :: st) (n, tg, ln, I, J, O) Q := R_getr rfl rfl rfl rfl ht
theorem s90_52 (ht : tg a = 2) (hs : zsumc st ≤ 8) : Runs 90 52 ls (.ref b0 :: .ref a :: st) (n, tg, ln, I, J, O) Q ↔ Runs 12 0 [some (.ref a), some (.ref b0)] [] (n, tg, ln, I, J, O) (fun v h2 => Runs 90 55 ls (v.toList ++ st) h2 Q) := R_callv (a := a) (rest := st) rfl rfl rfl rfl rfl rfl rfl ht hs
theorem s90_52q (ht : tg a = 2) (hs : zsumc st ≤ 8) : Runs 90 52 ls (zrf r0 :: .ref a :: st) (n, tg, ln, I, J, O) Q ↔ Runs 12 0 [some (.ref a), some (zrf r0)] [] (n, tg, ln, I, J, O) (fun v h2 => Runs 90 55 ls (v.toList ++ st) h2 Q) := by cases r0 <;> exact R_callv (a := a) (rest := st) rfl rfl rfl rfl rfl rfl rfl ht hs
theorem s90_55 : Runs 90 55 [some (.ref a), x1] st h Q ↔ Runs 90 56 [some (.ref a), x1] (.ref a :: st) h Q := R_aldn rfl rfl
theorem s90_55q : Runs 90 55 [some (zrf r), x1] st h Q ↔ Runs 90 56 [some (zrf r), x1] (zrf r :: st) h Q := R_aldnq rfl rfl
theorem s90_56 (ht : tg a = 9) : Runs 90 56 ls (.ref a :: st) (n, tg, ln, I, J, O) Q ↔ Runs 90 59 ls (zrf (O a 0) :: st) (n, tg, ln, I, J, O) Q := R_getr rfl rfl rfl rfl ht
theorem s90_59 : Runs 90 59 [x0, some (.int i)] st h Q ↔ Runs 90 60 [x0, some (.int i)] (.int i :: st) h Q := R_ildn rfl rfl
theorem s90_60 (ht : tg a = 5) (hs : zsumc st ≤ 8) : Runs 90 60 ls (.int i0 :: .ref a :: st) (n, tg, ln, I, J, O) Q ↔ Runs 49 0 [some (.ref a), some (.int i0), none] [] (n, tg, ln, I, J, O) (fun v h2 => Runs 90 63 ls (v.toList ++ st) h2 Q) := R_callv (a := a) (rest := st) rfl rfl rfl rfl rfl rfl rfl ht hs
theorem s90_63 : Runs 90 63 ls [.int i] h Q ↔ Q (some (.int i)) h := R_iret rfl rfl
theorem s91_0 : Runs 91 0 [some (.ref a), x1, x2] st h Q ↔ Runs 91 1 [some (.ref a), x1, x2] (.ref a :: st) h Q := R_aldn rfl rfl
theorem s91_0q : Runs 91 0 [some (zrf r), x1, x2] st h Q ↔ Runs 91 1 [some (zrf r), x1, x2] (zrf r :: st) h Q := R_aldnq rfl rfl
theorem s91_1 (ht : tg a = 9) : Runs 91 1 ls (.ref a :: st) (n, tg, ln, I, J, O) Q ↔ Runs 91 4 ls (zrf (O a 0) :: st) (n, tg, ln, I, J, O) Q := R_getr rfl rfl rfl rfl ht
theorem s91_4 : Runs 91 4 [x0, some (.int i), x2] st h Q ↔ Runs 91 5 [x0, some (.int i), x2] (.int i :: st) h Q := R_ildn rfl rfl
theorem s91_5 (ht : tg a = 5) (hs : zsumc st ≤ 8) : Runs 91 5 ls (.int i0 :: .ref a :: st) (n, tg, ln, I, J, O) Q ↔ Runs 39 0 [some (.ref a), some (.int i0)] [] (n, tg, ln, I, J, O) (fun v h2 => Runs 91 8 ls (v.toList ++ st) h2 Q) := R_callv (a := a) (rest := st) rfl rfl rfl rfl rfl rfl rfl ht hs
theorem s91_8 : Runs 91 8 ls (.int i :: st) h Q ↔ if ¬ i = 0 then Runs 91 14 ls st h Q else Runs 91 11 ls st h Q := R_ifne rfl rfl
theorem s91_11 : Runs 91 11 ls st h Q ↔ Runs 91 13 ls (.int (-2) :: st) h Q := R_bipush rfl (by decide)
theorem s91_13 : Runs 91 13 ls [.int i] h Q ↔ Q (some (.int i)) h := R_iret rfl rfl
theorem s91_14 : Runs 91 14 [some (.ref a), x1, x2] st h Q ↔ Runs 91 15 [some (.ref a), x1, x2] (.ref a :: st) h Q := R_aldn rfl rfl
theorem s91_14q : Runs 91 14 [some (zrf r), x1, x2] st h Q ↔ Runs 91 15 [some (zrf r), x1, x2] (zrf r :: st) h Q := R_aldnq rfl rfl
theorem s91_15 (ht : tg a = 9) : Runs 91 15 ls (.ref a :: st) (n, tg, ln, I, J, O) Q ↔ Runs 91 18 ls (zrf (O a 0) :: st) (n, tg, ln, I, J, O) Q := R_getr rfl rfl rfl rfl ht
theorem s91_18 (ht : tg a = 5) : Runs 91 18 ls (.ref a :: st) (n, tg, ln, I, J, O) Q ↔ Runs 91 21 ls (zrf (O a 0) :: st) (n, tg, ln, I, J, O) Q := R_getr rfl rfl rfl rfl ht
theorem s91_21 : Runs 91 21 [x0, some (.int i), x2] st h Q ↔ Runs 91 22 [x0, some (.int i), x2] (.int i :: st) h Q := R_ildn rfl rfl
theorem s91_22 (ht : tg a = 20) : Runs 91 22 ls (.int i :: .ref a :: st) (n, tg, ln, I, J, O) Q ↔ ((0 ≤ i ∧ i < Int32.ofNat (ln a)) ∧ Runs 91 23 ls (.int (I a i) :: st) (n, tg, ln, I, J, O) Q) := R_iald rfl ht
theorem s91_23 : Runs 91 23 [x0, x1, x2] (.int i :: st) h Q ↔ Runs 91 24 [x0, zdrop x1, some (.int i)] st h Q := R_istn rfl rfl rfl
theorem s91_24 : Runs 91 24 [some (.ref a), x1, x2] st h Q ↔ Runs 91 25 [some (.ref a), x1, x2] (.ref a :: st) h Q := R_aldn rfl rfl
theorem s91_24q : Runs 91 24 [some (zrf r), x1, x2] st h Q ↔ Runs 91 25 [some (zrf r), x1, x2] (zrf r :: st) h Q := R_aldnq rfl rfl
theorem s91_25 (ht : tg a = 9) : Runs 91 25 ls (.ref a :: st) (n, tg, ln, I, J, O) Q ↔ Runs 91 28 ls (zrf (O a 0) :: st) (n, tg, ln, I, J, O) Q := R_getr rfl rfl rfl rfl ht
theorem s91_28 : Runs 91 28 [x0, some (.int i), x2] st h Q ↔ Runs 91 29 [x0, some (.int i), x2] (.int i :: st) h Q := R_ildn rfl rfl
theorem s91_29 (ht : tg a = 5) (hs : zsumc st ≤ 8) : Runs 91 29 ls (.int i0 :: .ref a :: st) (n, tg, ln, I, J, O) Q ↔ Runs 40 0 [some (.ref a), some (.int i0)] [] (n, tg, ln, I, J, O) (fun v h2 => Runs 91 32 ls (v.toList ++ st) h2 Q) := R_callv (a := a) (rest := st) rfl rfl rfl rfl rfl rfl rfl ht hs
theorem s91_32 : Runs 91 32 ls (.int i :: st) h Q ↔ if i = 0 then Runs 91 40 ls st h Q else Runs 91 35 ls st h Q := R_ifeq rfl rfl
theorem s91_35 : Runs 91 35 [x0, x1, some (.int i)] st h Q ↔ Runs 91 36 [x0, x1, some (.int i)] (.int i :: st) h Q := R_ildn rfl rfl
theorem s91_36 : Runs 91 36 ls st h Q ↔ Runs 91 37 ls (.int 4 :: st) h Q := R_iconst rfl rfl
theorem s91_37 : Runs 91 37 ls (.int j :: .int i :: st) h Q ↔ if ¬ i = j then Runs 91 43 ls st h Q else Runs 91 40 ls st h Q := R_icne rfl rfl
theorem s91_40 : Runs 91 40 ls st h Q ↔ Runs 91 42 ls (.int (-4) :: st) h Q := R_bipush rfl (by decide)
theorem s91_42 : Runs 91 42 ls [.int i] h Q ↔ Q (some (.int i)) h := R_iret rfl rfl
theorem s91_43 : Runs 91 43 [some (.ref a), x1, x2] st h Q ↔ Runs 91 44 [some (.ref a), x1, x2] (.ref a :: st) h Q := R_aldn rfl rfl
theorem s91_43q : Runs 91 43 [some (zrf r), x1, x2] st h Q ↔ Runs 91 44 [some (zrf r), x1, x2] (zrf r :: st) h Q := R_aldnq rfl rfl
theorem s91_44 (ht : tg a = 9) : Runs 91 44 ls (.ref a :: st) (n, tg, ln, I, J, O) Q ↔ Runs 91 47 ls (zrf (O a 5) :: st) (n, tg, ln, I, J, O) Q := R_getr rfl rfl rfl rfl ht
theorem s91_47 : Runs 91 47 [some (.ref a), x1, x2] st h Q ↔ Runs 91 48 [some (.ref a), x1, x2] (.ref a :: st) h Q := R_aldn rfl rfl
theorem s91_47q : Runs 91 47 [some (zrf r), x1, x2] st h Q ↔ Runs 91 48 [some (zrf r), x1, x2] (zrf r :: st) h Q := R_aldnq rfl rfl
theorem s91_48 (ht : tg a = 9) : Runs 91 48 ls (.ref a :: st) (n, tg, ln, I, J, O) Q ↔ Runs 91 51 ls (zrf (O a 0) :: st) (n, tg, ln, I, J, O) Q := R_getr rfl rfl rfl rfl ht
theorem s91_51 (ht : tg a = 2) (hs : zsumc st ≤ 8) : Runs 91 51 ls (.ref b0 :: .ref a :: st) (n, tg, ln, I, J, O) Q ↔ Runs 12 0 [some (.ref a), some (.ref b0)] [] (n, tg, ln, I, J, O) (fun v h2 => Runs 91 54 ls (v.toList ++ st) h2 Q) := R_callv (a := a) (rest := st) rfl rfl rfl rfl rfl rfl rfl ht hs
theorem s91_51q (ht : tg a = 2) (hs : zsumc st ≤ 8) : Runs 91 51 ls (zrf r0 :: .ref a :: st) (n, tg, ln, I, J, O) Q ↔ Runs 12 0 [some (.ref a), some (zrf r0)] [] (n, tg, ln, I, J, O) (fun v h2 => Runs 91 54 ls (v.toList ++ st) h2 Q) := by cases r0 <;> exact R_callv (a := a) (rest := st) rfl rfl rfl rfl rfl rfl rfl ht hs
theorem s91_54 : Runs 91 54 [some (.ref a), x1, x2] st h Q ↔ Runs 91 55 [some (.ref a), x1, x2] (.ref a :: st) h Q := R_aldn rfl rfl
theorem s91_54q : Runs 91 54 [some (zrf r), x1, x2] st h Q ↔ Runs 91 55 [some (zrf r), x1, x2] (zrf r :: st) h Q := R_aldnq rfl rfl
theorem s91_55 (ht : tg a = 9) : Runs 91 55 ls (.ref a :: st) (n, tg, ln, I, J, O) Q ↔ Runs 91 58 ls (zrf (O a 0) :: st) (n, tg, ln, I, J, O) Q := R_getr rfl rfl rfl rfl ht
theorem s91_58 (ht : tg a = 5) : Runs 91 58 ls (.ref a :: st) (n, tg, ln, I, J, O) Q ↔ Runs 91 61 ls (zrf (O a 0) :: st) (n, tg, ln, I, J, O) Q := R_getr rfl rfl rfl rfl ht
theorem s91_61 : Runs 91 61 [x0, some (.int i), x2] st h Q ↔ Runs 91 62 [x0, some (.int i), x2] (.int i :: st) h Q := R_ildn rfl rfl
theorem s91_62 : Runs 91 62 ls st h Q ↔ Runs 91 63 ls (.int 4 :: st) h Q := R_iconst rfl rfl
theorem s91_63 (ht : tg a = 20) : Runs 91 63 ls (.int j :: .int i :: .ref a :: st) (n, tg, ln, I, J, O) Q ↔ ((0 ≤ i ∧ i < Int32.ofNat (ln a)) ∧ Runs 91 64 ls st (n, tg, ln, zu I a i j, J, O) Q) := R_iast rfl ht
theorem s91_64 : Runs 91 64 [some (.ref a), x1, x2] st h Q ↔ Runs 91 65 [some (.ref a), x1, x2] (.ref a :: st) h Q := R_aldn rfl rfl
theorem s91_64q : Runs 91 64 [some (zrf r), x1, x2] st h Q ↔ Runs 91 65 [some (zrf r), x1, x2] (zrf r :: st) h Q := R_aldnq rfl rfl
theorem s91_65 (ht : tg a = 9) : Runs 91 65 ls (.ref a :: st) (n, tg, ln, I, J, O) Q ↔ Runs 91 68 ls (zrf (O a 0) :: st) (n, tg, ln, I, J, O) Q := R_getr rfl rfl rfl rfl ht
theorem s91_68 (ht : tg a = 5) : Runs 91 68 ls (.ref a :: st) (n, tg, ln, I, J, O) Q ↔ Runs 91 71 ls (zrf (O a 2) :: st) (n, tg, ln, I, J, O) Q := R_getr rfl rfl rfl rfl ht
theorem s91_71 : Runs 91 71 [x0, some (.int i), x2] st h Q ↔ Runs 91 72 [x0, some (.int i), x2] (.int i :: st) h Q := R_ildn rfl rfl
theorem s91_72 : Runs 91 72 ls st h Q ↔ Runs 91 73 ls (.int 0 :: st) h Q := R_iconst rfl rfl
theorem s91_73 (ht : tg a = 20) : Runs 91 73 ls (.int j :: .int i :: .ref a :: st) (n, tg, ln, I, J, O) Q ↔ ((0 ≤ i ∧ i < Int32.ofNat (ln a)) ∧ Runs 91 74 ls st (n, tg, ln, zu I a i j, J, O) Q) := R_iast rfl ht
theorem s91_74 : Runs 91 74 [x0, x1, some (.int i)] st h Q ↔ Runs 91 75 [x0, x1, some (.int i)] (.int i :: st) h Q := R_ildn rfl rfl
theorem s91_75 : Runs 91 75 ls [.int i] h Q ↔ Q (some (.int i)) h := R_iret rfl rfl
theorem s92_0 : Runs 92 0 [x0, some (.int i), x2] st h Q ↔ Runs 92 1 [x0, some (.int i), x2] (.int i :: st) h Q := R_ildn rfl rfl
theorem s92_1 : Runs 92 1 ls (.int i :: st) h Q ↔ if i < 0 then Runs 92 9 ls st h Q else Runs 92 4 ls st h Q := R_iflt rfl rfl
theorem s92_4 : Runs 92 4 [x0, some (.int i), x2] st h Q ↔ Runs 92 5 [x0, some (.int i), x2] (.int i :: st) h Q := R_ildn rfl rfl
theorem s92_5 : Runs 92 5 ls st h Q ↔ Runs 92 6 ls (.int 2 :: st) h Q := R_iconst rfl rfl
theorem s92_6 : Runs 92 6 ls (.int j :: .int i :: st) h Q ↔ if i ≤ j then Runs 92 12 ls st h Q else Runs 92 9 ls st h Q := R_icle rfl rfl
theorem s92_9 : Runs 92 9 ls st h Q ↔ Runs 92 11 ls (.int (-3) :: st) h Q := R_bipush rfl (by decide)
theorem s92_11 : Runs 92 11 ls [.int i] h Q ↔ Q (some (.int i)) h := R_iret rfl rfl
theorem s92_12 : Runs 92 12 [some (.ref a), x1, x2] st h Q ↔ Runs 92 13 [some (.ref a), x1, x2] (.ref a :: st) h Q := R_aldn rfl rfl
theorem s92_12q : Runs 92 12 [some (zrf r), x1, x2] st h Q ↔ Runs 92 13 [some (zrf r), x1, x2] (zrf r :: st) h Q := R_aldnq rfl rfl
theorem s92_13 (ht : tg a = 9) : Runs 92 13 ls (.ref a :: st) (n, tg, ln, I, J, O) Q ↔ Runs 92 16 ls (zrf (O a 0) :: st) (n, tg, ln, I, J, O) Q := R_getr rfl rfl rfl rfl ht
theorem s92_16 (ht : tg a = 5) : Runs 92 16 ls (.ref a :: st) (n, tg, ln, I, J, O) Q ↔ Runs 92 19 ls (.int (I a 6) :: st) (n, tg, ln, I, J, O) Q := R_geti rfl rfl rfl rfl ht
theorem s92_19 : Runs 92 19 [x0, x1, x2] (.int i :: st) h Q ↔ Runs 92 20 [x0, zdrop x1, some (.int i)] st h Q := R_istn rfl rfl rfl
theorem s92_20 : Runs 92 20 [x0, some (.int i), x2] st h Q ↔ Runs 92 21 [x0, some (.int i), x2] (.int i :: st) h Q := R_ildn rfl rfl
theorem s92_21 : Runs 92 21 [x0, x1, some (.int i)] st h Q ↔ Runs 92 22 [x0, x1, some (.int i)] (.int i :: st) h Q := R_ildn rfl rfl
theorem s92_22 : Runs 92 22 ls (.int j :: .int i :: st) h Q ↔ if ¬ i = j then Runs 92 28 ls st h Q else Runs 92 25 ls st h Q := R_icne rfl rfl
theorem s92_25 : Runs 92 25 ls st h Q ↔ Runs 92 27 ls (.int (-4) :: st) h Q := R_bipush rfl (by decide)
theorem s92_27 : Runs 92 27 ls [.int i] h Q ↔ Q (some (.int i)) h := R_iret rfl rfl
theorem s92_28 : Runs 92 28 [some (.ref a), x1, x2] st h Q ↔ Runs 92 29 [some (.ref a), x1, x2] (.ref a :: st) h Q := R_aldn rfl rfl
theorem s92_28q : Runs 92 28 [some (zrf r), x1, x2] st h Q ↔ Runs 92 29 [some (zrf r), x1, x2] (zrf r :: st) h Q := R_aldnq rfl rfl
theorem s92_29 (ht : tg a = 9) : Runs 92 29 ls (.ref a :: st) (n, tg, ln, I, J, O) Q ↔ Runs 92 32 ls (zrf (O a 5) :: st) (n, tg, ln, I, J, O) Q := R_getr rfl rfl rfl rfl ht
theorem s92_32 : Runs 92 32 [some (.ref a), x1, x2] st h Q ↔ Runs 92 33 [some (.ref a), x1, x2] (.ref a :: st) h Q := R_aldn rfl rfl
theorem s92_32q : Runs 92 32 [some (zrf r), x1, x2] st h Q ↔ Runs 92 33 [some (zrf r), x1, x2] (zrf r :: st) h Q := R_aldnq rfl rfl
theorem s92_33 (ht : tg a = 9) : Runs 92 33 ls (.ref a :: st) (n, tg, ln, I, J, O) Q ↔ Runs 92 36 ls (zrf (O a 0) :: st) (n, tg, ln, I, J, O) Q := R_getr rfl rfl rfl rfl ht
theorem s92_36 (ht : tg a = 2) (hs : zsumc st ≤ 8) : Runs 92 36 ls (.ref b0 :: .ref a :: st) (n, tg, ln, I, J, O) Q ↔ Runs 12 0 [some (.ref a), some (.ref b0)] [] (n, tg, ln, I, J, O) (fun v h2 => Runs 92 39 ls (v.toList ++ st) h2 Q) := R_callv (a := a) (rest := st) rfl rfl rfl rfl rfl rfl rfl ht hs
theorem s92_36q (ht : tg a = 2) (hs : zsumc st ≤ 8) : Runs 92 36 ls (zrf r0 :: .ref a :: st) (n, tg, ln, I, J, O) Q ↔ Runs 12 0 [some (.ref a), some (zrf r0)] [] (n, tg, ln, I, J, O) (fun v h2 => Runs 92 39 ls (v.toList ++ st) h2 Q) := by cases r0 <;> exact R_callv (a := a) (rest := st) rfl rfl rfl rfl rfl rfl rfl ht hs
theorem s92_39 : Runs 92 39 [some (.ref a), x1, x2] st h Q ↔ Runs 92 40 [some (.ref a), x1, x2] (.ref a :: st) h Q := R_aldn rfl rfl
theorem s92_39q : Runs 92 39 [some (zrf r), x1, x2] st h Q ↔ Runs 92 40 [some (zrf r), x1, x2] (zrf r :: st) h Q := R_aldnq rfl rfl
theorem s92_40 (ht : tg a = 9) : Runs 92 40 ls (.ref a :: st) (n, tg, ln, I, J, O) Q ↔ Runs 92 43 ls (zrf (O a 0) :: st) (n, tg, ln, I, J, O) Q := R_getr rfl rfl rfl rfl ht
theorem s92_43 : Runs 92 43 [x0, some (.int i), x2] st h Q ↔ Runs 92 44 [x0, some (.int i), x2] (.int i :: st) h Q := R_ildn rfl rfl
theorem s92_44 (ht : tg a = 5) : Runs 92 44 ls (.int i :: .ref a :: st) (n, tg, ln, I, J, O) Q ↔ Runs 92 47 ls st (n, tg, ln, zu I a 6 i, J, O) Q := R_puti rfl rfl rfl rfl rfl rfl ht
theorem s92_47 : Runs 92 47 [x0, x1, some (.int i)] st h Q ↔ Runs 92 48 [x0, x1, some (.int i)] (.int i :: st) h Q := R_ildn rfl rfl
theorem s92_48 : Runs 92 48 ls [.int i] h Q ↔ Q (some (.int i)) h := R_iret rfl rfl
theorem s93_0 : Runs 93 0 [some (.ref a)] st h Q ↔ Runs 93 1 [some (.ref a)] (.ref a :: st) h Q := R_aldn rfl rfl
theorem s93_0q : Runs 93 0 [some (zrf r)] st h Q ↔ Runs 93 1 [some (zrf r)] (zrf r :: st) h Q := R_aldnq rfl rfl
theorem s93_1 (ht : tg a = 9) : Runs 93 1 ls (.ref a :: st) (n, tg, ln, I, J, O) Q ↔ Runs 93 4 ls (zrf (O a 5) :: st) (n, tg, ln, I, J, O) Q := R_getr rfl rfl rfl rfl ht
theorem s93_4 : Runs 93 4 [some (.ref a)] st h Q ↔ Runs 93 5 [some (.ref a)] (.ref a :: st) h Q := R_aldn rfl rfl
theorem s93_4q : Runs 93 4 [some (zrf r)] st h Q ↔ Runs 93 5 [some (zrf r)] (zrf r :: st) h Q := R_aldnq rfl rfl
theorem s93_5 (ht : tg a = 9) : Runs 93 5 ls (.ref a :: st) (n, tg, ln, I, J, O) Q ↔ Runs 93 8 ls (zrf (O a 0) :: st) (n, tg, ln, I, J, O) Q := R_getr rfl rfl rfl rfl ht
theorem s93_8 (ht : tg a = 2) (hs : zsumc st ≤ 8) : Runs 93 8 ls (.ref b0 :: .ref a :: st) (n, tg, ln, I, J, O) Q ↔ Runs 13 0 [some (.ref a), some (.ref b0)] [] (n, tg, ln, I, J, O) (fun v h2 => Runs 93 11 ls (v.toList ++ st) h2 Q) := R_callv (a := a) (rest := st) rfl rfl rfl rfl rfl rfl rfl ht hs
theorem s93_8q (ht : tg a = 2) (hs : zsumc st ≤ 8) : Runs 93 8 ls (zrf r0 :: .ref a :: st) (n, tg, ln, I, J, O) Q ↔ Runs 13 0 [some (.ref a), some (zrf r0)] [] (n, tg, ln, I, J, O) (fun v h2 => Runs 93 11 ls (v.toList ++ st) h2 Q) := by cases r0 <;> exact R_callv (a := a) (rest := st) rfl rfl rfl rfl rfl rfl rfl ht hs
theorem s93_11 : Runs 93 11 ls (.int i :: st) h Q ↔ if i = 0 then Runs 93 24 ls st h Q else Runs 93 14 ls st h Q := R_ifeq rfl rfl
theorem s93_14 : Runs 93 14 [some (.ref a)] st h Q ↔ Runs 93 15 [some (.ref a)] (.ref a :: st) h Q := R_aldn rfl rfl
theorem s93_14q : Runs 93 14 [some (zrf r)] st h Q ↔ Runs 93 15 [some (zrf r)] (zrf r :: st) h Q := R_aldnq rfl rfl
theorem s93_15 (ht : tg a = 9) : Runs 93 15 ls (.ref a :: st) (n, tg, ln, I, J, O) Q ↔ Runs 93 18 ls (zrf (O a 5) :: st) (n, tg, ln, I, J, O) Q := R_getr rfl rfl rfl rfl ht
theorem s93_18 (ht : tg a = 2) : Runs 93 18 ls (.ref a :: st) (n, tg, ln, I, J, O) Q ↔ Runs 93 21 ls (.int (I a 2) :: st) (n, tg, ln, I, J, O) Q := R_geti rfl rfl rfl rfl ht
theorem s93_21 : Runs 93 21 ls st h Q ↔ Runs 93 26 ls st h Q := R_goto rfl rfl
theorem s93_24 : Runs 93 24 ls st h Q ↔ Runs 93 26 ls (.int (-4) :: st) h Q := R_bipush rfl (by decide)
theorem s93_26 : Runs 93 26 ls [.int i] h Q ↔ Q (some (.int i)) h := R_iret rfl rfl
theorem s94_0 : Runs 94 0 [x0, some (.int i)] st h Q ↔ Runs 94 1 [x0, some (.int i)] (.int i :: st) h Q := R_ildn rfl rfl
theorem s94_1 (hs : zsumc st ≤ 8) : Runs 94 1 ls (.int i0 :: st) h Q ↔ Runs 116 0 [some (.int i0)] [] h (fun v h2 => Runs 94 4 ls (v.toList ++ st) h2 Q) := R_calls (rest := st) rfl rfl rfl (by simp) rfl rfl rfl rfl hs
theorem s94_4 : Runs 94 4 ls (.int i :: st) h Q ↔ if ¬ i = 0 then Runs 94 10 ls st h Q else Runs 94 7 ls st h Q := R_ifne rfl rfl
theorem s94_7 : Runs 94 7 ls st h Q ↔ Runs 94 9 ls (.int (-2) :: st) h Q := R_bipush rfl (by decide)
theorem s94_9 : Runs 94 9 ls [.int i] h Q ↔ Q (some (.int i)) h := R_iret rfl rfl
theorem s94_10 : Runs 94 10 [some (.ref a), x1] st h Q ↔ Runs 94 11 [some (.ref a), x1] (.ref a :: st) h Q := R_aldn rfl rfl
theorem s94_10q : Runs 94 10 [some (zrf r), x1] st h Q ↔ Runs 94 11 [some (zrf r), x1] (zrf r :: st) h Q := R_aldnq rfl rfl
theorem s94_11 (ht : tg a = 9) : Runs 94 11 ls (.ref a :: st) (n, tg, ln, I, J, O) Q ↔ Runs 94 14 ls (zrf (O a 6) :: st) (n, tg, ln, I, J, O) Q := R_getr rfl rfl rfl rfl ht
theorem s94_14 : Runs 94 14 [x0, some (.int i)] st h Q ↔ Runs 94 15 [x0, some (.int i)] (.int i :: st) h Q := R_ildn rfl rfl
theorem s94_15 (ht : tg a = 23) : Runs 94 15 ls (.int i :: .ref a :: st) (n, tg, ln, I, J, O) Q ↔ ((0 ≤ i ∧ i < Int32.ofNat (ln a)) ∧ Runs 94 16 ls (zrf (O a i) :: st) (n, tg, ln, I, J, O) Q) := R_aald rfl ht (by decide)
theorem s94_15q (ht : tg a = 24) : Runs 94 15 ls (.int i :: .ref a :: st) (n, tg, ln, I, J, O) Q ↔ ((0 ≤ i ∧ i < Int32.ofNat (ln a)) ∧ Runs 94 16 ls (zrf (O a i) :: st) (n, tg, ln, I, J, O) Q) := R_aald rfl ht (by decide)
theorem s94_15p (ht : tg a = 25) : Runs 94 15 ls (.int i :: .ref a :: st) (n, tg, ln, I, J, O) Q ↔ ((0 ≤ i ∧ i < Int32.ofNat (ln a)) ∧ Runs 94 16 ls (zrf (O a i) :: st) (n, tg, ln, I, J, O) Q) := R_aald rfl ht (by decide)
theorem s94_16 : Runs 94 16 [some (.ref a), x1] st h Q ↔ Runs 94 17 [some (.ref a), x1] (.ref a :: st) h Q := R_aldn rfl rfl
theorem s94_16q : Runs 94 16 [some (zrf r), x1] st h Q ↔ Runs 94 17 [some (zrf r), x1] (zrf r :: st) h Q := R_aldnq rfl rfl
theorem s94_17 (ht : tg a = 9) : Runs 94 17 ls (.ref a :: st) (n, tg, ln, I, J, O) Q ↔ Runs 94 20 ls (zrf (O a 0) :: st) (n, tg, ln, I, J, O) Q := R_getr rfl rfl rfl rfl ht
theorem s94_20 (ht : tg a = 5) (hs : zsumc st ≤ 8) : Runs 94 20 ls (.ref b0 :: .ref a :: st) (n, tg, ln, I, J, O) Q ↔ Runs 38 0 [some (.ref a), some (.ref b0)] [] (n, tg, ln, I, J, O) (fun v h2 => Runs 94 23 ls (v.toList ++ st) h2 Q) := R_callv (a := a) (rest := st) rfl rfl rfl rfl rfl rfl rfl ht hs
theorem s94_20q (ht : tg a = 5) (hs : zsumc st ≤ 8) : Runs 94 20 ls (zrf r0 :: .ref a :: st) (n, tg, ln, I, J, O) Q ↔ Runs 38 0 [some (.ref a), some (zrf r0)] [] (n, tg, ln, I, J, O) (fun v h2 => Runs 94 23 ls (v.toList ++ st) h2 Q) := by cases r0 <;> exact R_callv (a := a) (rest := st) rfl rfl rfl rfl rfl rfl rfl ht hs
theorem s94_23 : Runs 94 23 [some (.ref a), x1] st h Q ↔ Runs 94 24 [some (.ref a), x1] (.ref a :: st) h Q := R_aldn rfl rfl
theorem s94_23q : Runs 94 23 [some (zrf r), x1] st h Q ↔ Runs 94 24 [some (zrf r), x1] (zrf r :: st) h Q := R_aldnq rfl rfl
theorem s94_24 (ht : tg a = 9) : Runs 94 24 ls (.ref a :: st) (n, tg, ln, I, J, O) Q ↔ Runs 94 27 ls (zrf (O a 7) :: st) (n, tg, ln, I, J, O) Q := R_getr rfl rfl rfl rfl ht
theorem s94_27 : Runs 94 27 [x0, some (.int i)] st h Q ↔ Runs 94 28 [x0, some (.int i)] (.int i :: st) h Q := R_ildn rfl rfl
theorem s94_28 : Runs 94 28 ls st h Q ↔ Runs 94 29 ls (.int 1 :: st) h Q := R_iconst rfl rfl
theorem s94_29 (ht : tg a = 22) (hx : j = 0 ∨ j = 1) : Runs 94 29 ls (.int j :: .int i :: .ref a :: st) (n, tg, ln, I, J, O) Q ↔ ((0 ≤ i ∧ i < Int32.ofNat (ln a)) ∧ Runs 94 30 ls st (n, tg, ln, zu I a i j, J, O) Q) := R_bast rfl ht hx
theorem s94_30 : Runs 94 30 [some (.ref a), x1] st h Q ↔ Runs 94 31 [some (.ref a), x1] (.ref a :: st) h Q := R_aldn rfl rfl
theorem s94_30q : Runs 94 30 [some (zrf r), x1] st h Q ↔ Runs 94 31 [some (zrf r), x1] (zrf r :: st) h Q := R_aldnq rfl rfl
theorem s94_31 (ht : tg a = 9) : Runs 94 31 ls (.ref a :: st) (n, tg, ln, I, J, O) Q ↔ Runs 94 34 ls (zrf (O a 0) :: st) (n, tg, ln, I, J, O) Q := R_getr rfl rfl rfl rfl ht
theorem s94_34 (ht : tg a = 5) : Runs 94 34 ls (.ref a :: st) (n, tg, ln, I, J, O) Q ↔ Runs 94 37 ls (.int (I a 8) :: st) (n, tg, ln, I, J, O) Q := R_geti rfl rfl rfl rfl ht
theorem s94_37 : Runs 94 37 ls [.int i] h Q ↔ Q (some (.int i)) h := R_iret rfl rfl
theorem s95_0 : Runs 95 0 [x0, some (.int i)] st h Q ↔ Runs 95 1 [x0, some (.int i)] (.int i :: st) h Q := R_ildn rfl rfl
theorem s95_1 (hs : zsumc st ≤ 8) : Runs 95 1 ls (.int i0 :: st) h Q ↔ Runs 116 0 [some (.int i0)] [] h (fun v h2 => Runs 95 4 ls (v.toList ++ st) h2 Q) := R_calls (rest := st) rfl rfl rfl (by simp) rfl rfl rfl rfl hs
theorem s95_4 : Runs 95 4 ls (.int i :: st) h Q ↔ if ¬ i = 0 then Runs 95 10 ls st h Q else Runs 95 7 ls st h Q := R_ifne rfl rfl
theorem s95_7 : Runs 95 7 ls st h Q ↔ Runs 95 9 ls (.int (-2) :: st) h Q := R_bipush rfl (by decide)
theorem s95_9 : Runs 95 9 ls [.int i] h Q ↔ Q (some (.int i)) h := R_iret rfl rfl
theorem s95_10 : Runs 95 10 [some (.ref a), x1] st h Q ↔ Runs 95 11 [some (.ref a), x1] (.ref a :: st) h Q := R_aldn rfl rfl
theorem s95_10q : Runs 95 10 [some (zrf r), x1] st h Q ↔ Runs 95 11 [some (zrf r), x1] (zrf r :: st) h Q := R_aldnq rfl rfl
theorem s95_11 (ht : tg a = 9) : Runs 95 11 ls (.ref a :: st) (n, tg, ln, I, J, O) Q ↔ Runs 95 14 ls (zrf (O a 7) :: st) (n, tg, ln, I, J, O) Q := R_getr rfl rfl rfl rfl ht
theorem s95_14 : Runs 95 14 [x0, some (.int i)] st h Q ↔ Runs 95 15 [x0, some (.int i)] (.int i :: st) h Q := R_ildn rfl rfl
theorem s95_15 (ht : tg a = 22) : Runs 95 15 ls (.int i :: .ref a :: st) (n, tg, ln, I, J, O) Q ↔ ((0 ≤ i ∧ i < Int32.ofNat (ln a)) ∧ Runs 95 16 ls (.int (I a i) :: st) (n, tg, ln, I, J, O) Q) := R_bald rfl ht
theorem s95_16 : Runs 95 16 ls (.int i :: st) h Q ↔ if ¬ i = 0 then Runs 95 22 ls st h Q else Runs 95 19 ls st h Q := R_ifne rfl rfl
theorem s95_19 : Runs 95 19 ls st h Q ↔ Runs 95 21 ls (.int (-4) :: st) h Q := R_bipush rfl (by decide)
theorem s95_21 : Runs 95 21 ls [.int i] h Q ↔ Q (some (.int i)) h := R_iret rfl rfl
theorem s95_22 : Runs 95 22 [some (.ref a), x1] st h Q ↔ Runs 95 23 [some (.ref a), x1] (.ref a :: st) h Q := R_aldn rfl rfl
theorem s95_22q : Runs 95 22 [some (zrf r), x1] st h Q ↔ Runs 95 23 [some (zrf r), x1] (zrf r :: st) h Q := R_aldnq rfl rfl
theorem s95_23 (ht : tg a = 9) : Runs 95 23 ls (.ref a :: st) (n, tg, ln, I, J, O) Q ↔ Runs 95 26 ls (zrf (O a 0) :: st) (n, tg, ln, I, J, O) Q := R_getr rfl rfl rfl rfl ht
theorem s95_26 : Runs 95 26 [some (.ref a), x1] st h Q ↔ Runs 95 27 [some (.ref a), x1] (.ref a :: st) h Q := R_aldn rfl rfl
theorem s95_26q : Runs 95 26 [some (zrf r), x1] st h Q ↔ Runs 95 27 [some (zrf r), x1] (zrf r :: st) h Q := R_aldnq rfl rfl
theorem s95_27 (ht : tg a = 9) : Runs 95 27 ls (.ref a :: st) (n, tg, ln, I, J, O) Q ↔ Runs 95 30 ls (zrf (O a 6) :: st) (n, tg, ln, I, J, O) Q := R_getr rfl rfl rfl rfl ht
theorem s95_30 : Runs 95 30 [x0, some (.int i)] st h Q ↔ Runs 95 31 [x0, some (.int i)] (.int i :: st) h Q := R_ildn rfl rfl
theorem s95_31 (ht : tg a = 23) : Runs 95 31 ls (.int i :: .ref a :: st) (n, tg, ln, I, J, O) Q ↔ ((0 ≤ i ∧ i < Int32.ofNat (ln a)) ∧ Runs 95 32 ls (zrf (O a i) :: st) (n, tg, ln, I, J, O) Q) := R_aald rfl ht (by decide)
theorem s95_31q (ht : tg a = 24) : Runs 95 31 ls (.int i :: .ref a :: st) (n, tg, ln, I, J, O) Q ↔ ((0 ≤ i ∧ i < Int32.ofNat (ln a)) ∧ Runs 95 32 ls (zrf (O a i) :: st) (n, tg, ln, I, J, O) Q) := R_aald rfl ht (by decide)
theorem s95_31p (ht : tg a = 25) : Runs 95 31 ls (.int i :: .ref a :: st) (n, tg, ln, I, J, O) Q ↔ ((0 ≤ i ∧ i < Int32.ofNat (ln a)) ∧ Runs 95 32 ls (zrf (O a i) :: st) (n, tg, ln, I, J, O) Q) := R_aald rfl ht (by decide)
theorem s95_32 (ht : tg a = 5) (hs : zsumc st ≤ 8) : Runs 95 32 ls (.ref b0 :: .ref a :: st) (n, tg, ln, I, J, O) Q ↔ Runs 38 0 [some (.ref a), some (.ref b0)] [] (n, tg, ln, I, J, O) (fun v h2 => Runs 95 35 ls (v.toList ++ st) h2 Q) := R_callv (a := a) (rest := st) rfl rfl rfl rfl rfl rfl rfl ht hs
theorem s95_32q (ht : tg a = 5) (hs : zsumc st ≤ 8) : Runs 95 32 ls (zrf r0 :: .ref a :: st) (n, tg, ln, I, J, O) Q ↔ Runs 38 0 [some (.ref a), some (zrf r0)] [] (n, tg, ln, I, J, O) (fun v h2 => Runs 95 35 ls (v.toList ++ st) h2 Q) := by cases r0 <;> exact R_callv (a := a) (rest := st) rfl rfl rfl rfl rfl rfl rfl ht hs
theorem s95_35 : Runs 95 35 [some (.ref a), x1] st h Q ↔ Runs 95 36 [some (.ref a), x1] (.ref a :: st) h Q := R_aldn rfl rfl
theorem s95_35q : Runs 95 35 [some (zrf r), x1] st h Q ↔ Runs 95 36 [some (zrf r), x1] (zrf r :: st) h Q := R_aldnq rfl rfl
theorem s95_36 (ht : tg a = 9) : Runs 95 36 ls (.ref a :: st) (n, tg, ln, I, J, O) Q ↔ Runs 95 39 ls (zrf (O a 5) :: st) (n, tg, ln, I, J, O) Q := R_getr rfl rfl rfl rfl ht
theorem s95_39 (ht : tg a = 2) (hs : zsumc st ≤ 8) : Runs 95 39 ls (.ref a :: st) (n, tg, ln, I, J, O) Q ↔ Runs 11 0 [some (.ref a)] [] (n, tg, ln, I, J, O) (fun v h2 => Runs 95 42 ls (v.toList ++ st) h2 Q) := R_callv (a := a) (rest := st) rfl rfl rfl rfl rfl rfl rfl ht hs
theorem s95_42 : Runs 95 42 [some (.ref a), x1] st h Q ↔ Runs 95 43 [some (.ref a), x1] (.ref a :: st) h Q := R_aldn rfl rfl
theorem s95_42q : Runs 95 42 [some (zrf r), x1] st h Q ↔ Runs 95 43 [some (zrf r), x1] (zrf r :: st) h Q := R_aldnq rfl rfl
theorem s95_43 (ht : tg a = 9) : Runs 95 43 ls (.ref a :: st) (n, tg, ln, I, J, O) Q ↔ Runs 95 46 ls (zrf (O a 0) :: st) (n, tg, ln, I, J, O) Q := R_getr rfl rfl rfl rfl ht
theorem s95_46 (ht : tg a = 5) : Runs 95 46 ls (.ref a :: st) (n, tg, ln, I, J, O) Q ↔ Runs 95 49 ls (.int (I a 8) :: st) (n, tg, ln, I, J, O) Q := R_geti rfl rfl rfl rfl ht
theorem s95_49 : Runs 95 49 ls [.int i] h Q ↔ Q (some (.int i)) h := R_iret rfl rfl
theorem s96_0 : Runs 96 0 [some (.ref a), x1] st h Q ↔ Runs 96 1 [some (.ref a), x1] (.ref a :: st) h Q := R_aldn rfl rfl
theorem s96_0q : Runs 96 0 [some (zrf r), x1] st h Q ↔ Runs 96 1 [some (zrf r), x1] (zrf r :: st) h Q := R_aldnq rfl rfl
theorem s96_1 (ht : tg a = 9) : Runs 96 1 ls (.ref a :: st) (n, tg, ln, I, J, O) Q ↔ Runs 96 4 ls (zrf (O a 0) :: st) (n, tg, ln, I, J, O) Q := R_getr rfl rfl rfl rfl ht
theorem s96_4 : Runs 96 4 [x0, some (.int i)] st h Q ↔ Runs 96 5 [x0, some (.int i)] (.int i :: st) h Q := R_ildn rfl rfl
theorem s96_5 (ht : tg a = 5) (hs : zsumc st ≤ 8) : Runs 96 5 ls (.int i0 :: .ref a :: st) (n, tg, ln, I, J, O) Q ↔ Runs 39 0 [some (.ref a), some (.int i0)] [] (n, tg, ln, I, J, O) (fun v h2 => Runs 96 8 ls (v.toList ++ st) h2 Q) := R_callv (a := a) (rest := st) rfl rfl rfl rfl rfl rfl rfl ht hs
theorem s96_8 : Runs 96 8 ls (.int i :: st) h Q ↔ if ¬ i = 0 then Runs 96 14 ls st h Q else Runs 96 11 ls st h Q := R_ifne rfl rfl
theorem s96_11 : Runs 96 11 ls st h Q ↔ Runs 96 13 ls (.int (-2) :: st) h Q := R_bipush rfl (by decide)
theorem s96_13 : Runs 96 13 ls [.int i] h Q ↔ Q (some (.int i)) h := R_iret rfl rfl
theorem s96_14 : Runs 96 14 [some (.ref a), x1] st h Q ↔ Runs 96 15 [some (.ref a), x1] (.ref a :: st) h Q := R_aldn rfl rfl
theorem s96_14q : Runs 96 14 [some (zrf r), x1] st h Q ↔ Runs 96 15 [some (zrf r), x1] (zrf r :: st) h Q := R_aldnq rfl rfl
theorem s96_15 (ht : tg a = 9) : Runs 96 15 ls (.ref a :: st) (n, tg, ln, I, J, O) Q ↔ Runs 96 18 ls (zrf (O a 0) :: st) (n, tg, ln, I, J, O) Q := R_getr rfl rfl rfl rfl ht
theorem s96_18 : Runs 96 18 [x0, some (.int i)] st h Q ↔ Runs 96 19 [x0, some (.int i)] (.int i :: st) h Q := R_ildn rfl rfl
theorem s96_19 (ht : tg a = 5) (hs : zsumc st ≤ 8) : Runs 96 19 ls (.int i0 :: .ref a :: st) (n, tg, ln, I, J, O) Q ↔ Runs 40 0 [some (.ref a), some (.int i0)] [] (n, tg, ln, I, J, O) (fun v h2 => Runs 96 22 ls (v.toList ++ st) h2 Q) := R_callv (a := a) (rest := st) rfl rfl rfl rfl rfl rfl rfl ht hs
theorem s96_22 : Runs 96 22 ls (.int i :: st) h Q ↔ if ¬ i = 0 then Runs 96 28 ls st h Q else Runs 96 25 ls st h Q := R_ifne rfl rfl
theorem s96_25 : Runs 96 25 ls st h Q ↔ Runs 96 27 ls (.int (-4) :: st) h Q := R_bipush rfl (by decide)
theorem s96_27 : Runs 96 27 ls [.int i] h Q ↔ Q (some (.int i)) h := R_iret rfl rfl
theorem s96_28 : Runs 96 28 [some (.ref a), x1] st h Q ↔ Runs 96 29 [some (.ref a), x1] (.ref a :: st) h Q := R_aldn rfl rfl
theorem s96_28q : Runs 96 28 [some (zrf r), x1] st h Q ↔ Runs 96 29 [some (zrf r), x1] (zrf r :: st) h Q := R_aldnq rfl rfl
theorem s96_29 (ht : tg a = 9) : Runs 96 29 ls (.ref a :: st) (n, tg, ln, I, J, O) Q ↔ Runs 96 32 ls (zrf (O a 2) :: st) (n, tg, ln, I, J, O) Q := R_getr rfl rfl rfl rfl ht
theorem s96_32 : Runs 96 32 [some (.ref a), x1] st h Q ↔ Runs 96 33 [some (.ref a), x1] (.ref a :: st) h Q := R_aldn rfl rfl
theorem s96_32q : Runs 96 32 [some (zrf r), x1] st h Q ↔ Runs 96 33 [some (zrf r), x1] (zrf r :: st) h Q := R_aldnq rfl rfl
theorem s96_33 (ht : tg a = 9) : Runs 96 33 ls (.ref a :: st) (n, tg, ln, I, J, O) Q ↔ Runs 96 36 ls (zrf (O a 0) :: st) (n, tg, ln, I, J, O) Q := R_getr rfl rfl rfl rfl ht
theorem s96_36 (ht : tg a = 5) (hs : zsumc st ≤ 8) : Runs 96 36 ls (.ref b0 :: .ref a :: st) (n, tg, ln, I, J, O) Q ↔ Runs 38 0 [some (.ref a), some (.ref b0)] [] (n, tg, ln, I, J, O) (fun v h2 => Runs 96 39 ls (v.toList ++ st) h2 Q) := R_callv (a := a) (rest := st) rfl rfl rfl rfl rfl rfl rfl ht hs
theorem s96_36q (ht : tg a = 5) (hs : zsumc st ≤ 8) : Runs 96 36 ls (zrf r0 :: .ref a :: st) (n, tg, ln, I, J, O) Q ↔ Runs 38 0 [some (.ref a), some (zrf r0)] [] (n, tg, ln, I, J, O) (fun v h2 => Runs 96 39 ls (v.toList ++ st) h2 Q) := by cases r0 <;> exact R_callv (a := a) (rest := st) rfl rfl rfl rfl rfl rfl rfl ht hs
theorem s96_39 : Runs 96 39 [some (.ref a), x1] st h Q ↔ Runs 96 40 [some (.ref a), x1] (.ref a :: st) h Q := R_aldn rfl rfl
theorem s96_39q : Runs 96 39 [some (zrf r), x1] st h Q ↔ Runs 96 40 [some (zrf r), x1] (zrf r :: st) h Q := R_aldnq rfl rfl
theorem s96_40 : Runs 96 40 [x0, some (.int i)] st h Q ↔ Runs 96 41 [x0, some (.int i)] (.int i :: st) h Q := R_ildn rfl rfl
theorem s96_41 : Runs 96 41 ls st h Q ↔ Runs 96 43 ls (.int 60 :: st) h Q := R_bipush rfl (by decide)
theorem s96_43 (ht : tg a = 9) (hs : zsumc st ≤ 8) : Runs 96 43 ls (.int i1 :: .int i0 :: .ref a :: st) (n, tg, ln, I, J, O) Q ↔ Runs 119 0 [some (.ref a), some (.int i0), some (.int i1), none] [] (n, tg, ln, I, J, O) (fun v h2 => Runs 96 46 ls (v.toList ++ st) h2 Q) := R_callv (a := a) (rest := st) rfl rfl rfl rfl rfl rfl rfl ht hs
theorem s96_46 : Runs 96 46 ls [.int i] h Q ↔ Q (some (.int i)) h := R_iret rfl rfl
theorem s97_0 : Runs 97 0 [some (.ref a), x1, x2, x3] st h Q ↔ Runs 97 1 [some (.ref a), x1, x2, x3] (.ref a :: st) h Q := R_aldn rfl rfl
theorem s97_0q : Runs 97 0 [some (zrf r), x1, x2, x3] st h Q ↔ Runs 97 1 [some (zrf r), x1, x2, x3] (zrf r :: st) h Q := R_aldnq rfl rfl
theorem s97_1 (ht : tg a = 9) : Runs 97 1 ls (.ref a :: st) (n, tg, ln, I, J, O) Q ↔ Runs 97 4 ls (zrf (O a 0) :: st) (n, tg, ln, I, J, O) Q := R_getr rfl rfl rfl rfl ht
theorem s97_4 : Runs 97 4 [x0, some (.int i), x2, x3] st h Q ↔ Runs 97 5 [x0, some (.int i), x2, x3] (.int i :: st) h Q := R_ildn rfl rfl
theorem s97_5 (ht : tg a = 5) (hs : zsumc st ≤ 8) : Runs 97 5 ls (.int i0 :: .ref a :: st) (n, tg, ln, I, J, O) Q ↔ Runs 39 0 [some (.ref a), some (.int i0)] [] (n, tg, ln, I, J, O) (fun v h2 => Runs 97 8 ls (v.toList ++ st) h2 Q) := R_callv (a := a) (rest := st) rfl rfl rfl rfl rfl rfl rfl ht hs
theorem s97_8 : Runs 97 8 ls (.int i :: st) h Q ↔ if ¬ i = 0 then Runs 97 14 ls st h Q else Runs 97 11 ls st h Q := R_ifne rfl rfl
theorem s97_11 : Runs 97 11 ls st h Q ↔ Runs 97 13 ls (.int (-2) :: st) h Q := R_bipush rfl (by decide)
theorem s97_13 : Runs 97 13 ls [.int i] h Q ↔ Q (some (.int i)) h := R_iret rfl rfl
theorem s97_14 : Runs 97 14 [x0, x1, some (.int i), x3] st h Q ↔ Runs 97 15 [x0, x1, some (.int i), x3] (.int i :: st) h Q := R_ildn rfl rfl
theorem s97_15 : Runs 97 15 ls (.int i :: st) h Q ↔ if i < 0 then Runs 97 24 ls st h Q else Runs 97 18 ls st h Q := R_iflt rfl rfl
theorem s97_18 : Runs 97 18 [x0, x1, some (.int i), x3] st h Q ↔ Runs 97 19 [x0, x1, some (.int i), x3] (.int i :: st) h Q := R_ildn rfl rfl
theorem s97_19 : Runs 97 19 ls st h Q ↔ Runs 97 21 ls (.int 60 :: st) h Q := R_bipush rfl (by decide)
theorem s97_21 : Runs 97 21 ls (.int j :: .int i :: st) h Q ↔ if i ≤ j then Runs 97 27 ls st h Q else Runs 97 24 ls st h Q := R_icle rfl rfl
theorem s97_24 : Runs 97 24 ls st h Q ↔ Runs 97 26 ls (.int (-3) :: st) h Q := R_bipush rfl (by decide)
theorem s97_26 : Runs 97 26 ls [.int i] h Q ↔ Q (some (.int i)) h := R_iret rfl rfl
theorem s97_27 : Runs 97 27 [some (.ref a), x1, x2, x3] st h Q ↔ Runs 97 28 [some (.ref a), x1, x2, x3] (.ref a :: st) h Q := R_aldn rfl rfl
theorem s97_27q : Runs 97 27 [some (zrf r), x1, x2, x3] st h Q ↔ Runs 97 28 [some (zrf r), x1, x2, x3] (zrf r :: st) h Q := R_aldnq rfl rfl
theorem s97_28 (ht : tg a = 9) : Runs 97 28 ls (.ref a :: st) (n, tg, ln, I, J, O) Q ↔ Runs 97 31 ls (zrf (O a 2) :: st) (n, tg, ln, I, J, O) Q := R_getr rfl rfl rfl rfl ht
theorem s97_31 : Runs 97 31 [some (.ref a), x1, x2, x3] st h Q ↔ Runs 97 32 [some (.ref a), x1, x2, x3] (.ref a :: st) h Q := R_aldn rfl rfl
theorem s97_31q : Runs 97 31 [some (zrf r), x1, x2, x3] st h Q ↔ Runs 97 32 [some (zrf r), x1, x2, x3] (zrf r :: st) h Q := R_aldnq rfl rfl
theorem s97_32 (ht : tg a = 9) : Runs 97 32 ls (.ref a :: st) (n, tg, ln, I, J, O) Q ↔ Runs 97 35 ls (zrf (O a 0) :: st) (n, tg, ln, I, J, O) Q := R_getr rfl rfl rfl rfl ht
theorem s97_35 (ht : tg a = 5) (hs : zsumc st ≤ 8) : Runs 97 35 ls (.ref b0 :: .ref a :: st) (n, tg, ln, I, J, O) Q ↔ Runs 38 0 [some (.ref a), some (.ref b0)] [] (n, tg, ln, I, J, O) (fun v h2 => Runs 97 38 ls (v.toList ++ st) h2 Q) := R_callv (a := a) (rest := st) rfl rfl rfl rfl rfl rfl rfl ht hs
theorem s97_35q (ht : tg a = 5) (hs : zsumc st ≤ 8) : Runs 97 35 ls (zrf r0 :: .ref a :: st) (n, tg, ln, I, J, O) Q ↔ Runs 38 0 [some (.ref a), some (zrf r0)] [] (n, tg, ln, I, J, O) (fun v h2 => Runs 97 38 ls (v.toList ++ st) h2 Q) := by cases r0 <;> exact R_callv (a := a) (rest := st) rfl rfl rfl rfl rfl rfl rfl ht hs
theorem s97_38 : Runs 97 38 ls st h Q ↔ Runs 97 39 ls (.int 0 :: st) h Q := R_iconst rfl rfl
theorem s97_39 : Runs 97 39 [x0, x1, x2, x3] (.int i :: st) h Q ↔ Runs 97 40 [x0, x1, zdrop x2, some (.int i)] st h Q := R_istn rfl rfl rfl
theorem s97_40 : Runs 97 40 [x0, x1, x2, some (.int i)] st h Q ↔ Runs 97 41 [x0, x1, x2, some (.int i)] (.int i :: st) h Q := R_ildn rfl rfl
theorem s97_41 : Runs 97 41 [x0, x1, some (.int i), x3] st h Q ↔ Runs 97 42 [x0, x1, some (.int i), x3] (.int i :: st) h Q := R_ildn rfl rfl
theorem s97_42 : Runs 97 42 ls (.int j :: .int i :: st) h Q ↔ if j ≤ i then Runs 97 59 ls st h Q else Runs 97 45 ls st h Q := R_icge rfl rfl
theorem s97_45 : Runs 97 45 [some (.ref a), x1, x2, x3] st h Q ↔ Runs 97 46 [some (.ref a), x1, x2, x3] (.ref a :: st) h Q := R_aldn rfl rfl
theorem s97_45q : Runs 97 45 [some (zrf r), x1, x2, x3] st h Q ↔ Runs 97 46 [some (zrf r), x1, x2, x3] (zrf r :: st) h Q := R_aldnq rfl rfl
theorem s97_46 (ht : tg a = 9) : Runs 97 46 ls (.ref a :: st) (n, tg, ln, I, J, O) Q ↔ Runs 97 49 ls (zrf (O a 2) :: st) (n, tg, ln, I, J, O) Q := R_getr rfl rfl rfl rfl ht
theorem s97_49 (ht : tg a = 5) (hs : zsumc st ≤ 8) : Runs 97 49 ls (.ref a :: st) (n, tg, ln, I, J, O) Q ↔ Runs 51 0 [some (.ref a), none, none] [] (n, tg, ln, I, J, O) (fun v h2 => Runs 97 52 ls (v.toList ++ st) h2 Q) := R_callv (a := a) (rest := st) rfl rfl rfl rfl rfl rfl rfl ht hs
theorem s97_52 : Runs 97 52 ls (.int i :: st) h Q ↔ Runs 97 53 ls st h Q := R_pop rfl
theorem s97_53 : Runs 97 53 [x0, x1, x2, some (.int i)] st h Q ↔ Runs 97 56 [x0, x1, zdrop x2, some (.int (i + 1))] st h Q := R_iinc rfl rfl rfl rfl rfl
theorem s97_56 : Runs 97 56 ls st h Q ↔ Runs 97 40 ls st h Q := R_goto rfl rfl
theorem s97_59 : Runs 97 59 [some (.ref a), x1, x2, x3] st h Q ↔ Runs 97 60 [some (.ref a), x1, x2, x3] (.ref a :: st) h Q := R_aldn rfl rfl
theorem s97_59q : Runs 97 59 [some (zrf r), x1, x2, x3] st h Q ↔ Runs 97 60 [some (zrf r), x1, x2, x3] (zrf r :: st) h Q := R_aldnq rfl rfl
theorem s97_60 (ht : tg a = 9) : Runs 97 60 ls (.ref a :: st) (n, tg, ln, I, J, O) Q ↔ Runs 97 63 ls (zrf (O a 2) :: st) (n, tg, ln, I, J, O) Q := R_getr rfl rfl rfl rfl ht
theorem s97_63 : Runs 97 63 [x0, some (.int i), x2, x3] st h Q ↔ Runs 97 64 [x0, some (.int i), x2, x3] (.int i :: st) h Q := R_ildn rfl rfl
theorem s97_64 (ht : tg a = 5) (hs : zsumc st ≤ 8) : Runs 97 64 ls (.int i0 :: .ref a :: st) (n, tg, ln, I, J, O) Q ↔ Runs 40 0 [some (.ref a), some (.int i0)] [] (n, tg, ln, I, J, O) (fun v h2 => Runs 97 67 ls (v.toList ++ st) h2 Q) := R_callv (a := a) (rest := st) rfl rfl rfl rfl rfl rfl rfl ht hs
theorem s97_67 : Runs 97 67 ls (.int i :: st) h Q ↔ if i = 0 then Runs 97 94 ls st h Q else Runs 97 70 ls st h Q := R_ifeq rfl rfl
theorem s97_70 : Runs 97 70 ls st h Q ↔ Runs 97 72 ls (.int 100 :: st) h Q := R_bipush rfl (by decide)
theorem s97_72 : Runs 97 72 [some (.ref a), x1, x2, x3] st h Q ↔ Runs 97 73 [some (.ref a), x1, x2, x3] (.ref a :: st) h Q := R_aldn rfl rfl
theorem s97_72q : Runs 97 72 [some (zrf r), x1, x2, x3] st h Q ↔ Runs 97 73 [some (zrf r), x1, x2, x3] (zrf r :: st) h Q := R_aldnq rfl rfl
theorem s97_73 (ht : tg a = 9) : Runs 97 73 ls (.ref a :: st) (n, tg, ln, I, J, O) Q ↔ Runs 97 76 ls (zrf (O a 2) :: st) (n, tg, ln, I, J, O) Q := R_getr rfl rfl rfl rfl ht
theorem s97_76 (ht : tg a = 5) : Runs 97 76 ls (.ref a :: st) (n, tg, ln, I, J, O) Q ↔ Runs 97 79 ls (zrf (O a 4) :: st) (n, tg, ln, I, J, O) Q := R_getr rfl rfl rfl rfl ht
theorem s97_79 : Runs 97 79 [x0, some (.int i), x2, x3] st h Q ↔ Runs 97 80 [x0, some (.int i), x2, x3] (.int i :: st) h Q := R_ildn rfl rfl
theorem s97_80 (ht : tg a = 20) : Runs 97 80 ls (.int i :: .ref a :: st) (n, tg, ln, I, J, O) Q ↔ ((0 ≤ i ∧ i < Int32.ofNat (ln a)) ∧ Runs 97 81 ls (.int (I a i) :: st) (n, tg, ln, I, J, O) Q) := R_iald rfl ht
theorem s97_81 : Runs 97 81 ls (.int j :: .int i :: st) h Q ↔ Runs 97 82 ls (.int (i * j) :: st) h Q := R_imul rfl
theorem s97_82 : Runs 97 82 [some (.ref a), x1, x2, x3] st h Q ↔ Runs 97 83 [some (.ref a), x1, x2, x3] (.ref a :: st) h Q := R_aldn rfl rfl
theorem s97_82q : Runs 97 82 [some (zrf r), x1, x2, x3] st h Q ↔ Runs 97 83 [some (zrf r), x1, x2, x3] (zrf r :: st) h Q := R_aldnq rfl rfl
theorem s97_83 (ht : tg a = 9) : Runs 97 83 ls (.ref a :: st) (n, tg, ln, I, J, O) Q ↔ Runs 97 86 ls (zrf (O a 2) :: st) (n, tg, ln, I, J, O) Q := R_getr rfl rfl rfl rfl ht
theorem s97_86 : Runs 97 86 [x0, some (.int i), x2, x3] st h Q ↔ Runs 97 87 [x0, some (.int i), x2, x3] (.int i :: st) h Q := R_ildn rfl rfl
theorem s97_87 (ht : tg a = 5) (hs : zsumc st ≤ 8) : Runs 97 87 ls (.int i0 :: .ref a :: st) (n, tg, ln, I, J, O) Q ↔ Runs 43 0 [some (.ref a), some (.int i0)] [] (n, tg, ln, I, J, O) (fun v h2 => Runs 97 90 ls (v.toList ++ st) h2 Q) := R_callv (a := a) (rest := st) rfl rfl rfl rfl rfl rfl rfl ht hs
theorem s97_90 : Runs 97 90 ls (.int j :: .int i :: st) h Q ↔ Runs 97 91 ls (.int (i + j) :: st) h Q := R_iadd rfl
theorem s97_91 : Runs 97 91 ls st h Q ↔ Runs 97 95 ls st h Q := R_goto rfl rfl
theorem s97_94 : Runs 97 94 ls st h Q ↔ Runs 97 95 ls (.int (-1) :: st) h Q := R_iconst rfl rfl
theorem s97_95 : Runs 97 95 ls [.int i] h Q ↔ Q (some (.int i)) h := R_iret rfl rfl
theorem s98_0 : Runs 98 0 [x0, some (.int i), x2, x3, x4] st h Q ↔ Runs 98 1 [x0, some (.int i), x2, x3, x4] (.int i :: st) h Q := R_ildn rfl rfl
theorem s98_1 : Runs 98 1 ls (.int i :: st) h Q ↔ if i < 0 then Runs 98 10 ls st h Q else Runs 98 4 ls st h Q := R_iflt rfl rfl
theorem s98_4 : Runs 98 4 [x0, some (.int i), x2, x3, x4] st h Q ↔ Runs 98 5 [x0, some (.int i), x2, x3, x4] (.int i :: st) h Q := R_ildn rfl rfl
theorem s98_5 : Runs 98 5 ls st h Q ↔ Runs 98 7 ls (.int 12 :: st) h Q := R_bipush rfl (by decide)
theorem s98_7 : Runs 98 7 ls (.int j :: .int i :: st) h Q ↔ if i < j then Runs 98 13 ls st h Q else Runs 98 10 ls st h Q := R_iclt rfl rfl
theorem s98_10 : Runs 98 10 ls st h Q ↔ Runs 98 12 ls (.int (-3) :: st) h Q := R_bipush rfl (by decide)
theorem s98_12 : Runs 98 12 ls [.int i] h Q ↔ Q (some (.int i)) h := R_iret rfl rfl
theorem s98_13 : Runs 98 13 [some (.ref a), x1, x2, x3, x4] st h Q ↔ Runs 98 14 [some (.ref a), x1, x2, x3, x4] (.ref a :: st) h Q := R_aldn rfl rfl
theorem s98_13q : Runs 98 13 [some (zrf r), x1, x2, x3, x4] st h Q ↔ Runs 98 14 [some (zrf r), x1, x2, x3, x4] (zrf r :: st) h Q := R_aldnq rfl rfl
theorem s98_14 (ht : tg a = 9) : Runs 98 14 ls (.ref a :: st) (n, tg, ln, I, J, O) Q ↔ Runs 98 17 ls (zrf (O a 2) :: st) (n, tg, ln, I, J, O) Q := R_getr rfl rfl rfl rfl ht
theorem s98_17 : Runs 98 17 [some (.ref a), x1, x2, x3, x4] st h Q ↔ Runs 98 18 [some (.ref a), x1, x2, x3, x4] (.ref a :: st) h Q := R_aldn rfl rfl
theorem s98_17q : Runs 98 17 [some (zrf r), x1, x2, x3, x4] st h Q ↔ Runs 98 18 [some (zrf r), x1, x2, x3, x4] (zrf r :: st) h Q := R_aldnq rfl rfl
theorem s98_18 (ht : tg a = 9) : Runs 98 18 ls (.ref a :: st) (n, tg, ln, I, J, O) Q ↔ Runs 98 21 ls (zrf (O a 0) :: st) (n, tg, ln, I, J, O) Q := R_getr rfl rfl rfl rfl ht
theorem s98_21 (ht : tg a = 5) (hs : zsumc st ≤ 8) : Runs 98 21 ls (.ref b0 :: .ref a :: st) (n, tg, ln, I, J, O) Q ↔ Runs 38 0 [some (.ref a), some (.ref b0)] [] (n, tg, ln, I, J, O) (fun v h2 => Runs 98 24 ls (v.toList ++ st) h2 Q) := R_callv (a := a) (rest := st) rfl rfl rfl rfl rfl rfl rfl ht hs
theorem s98_21q (ht : tg a = 5) (hs : zsumc st ≤ 8) : Runs 98 21 ls (zrf r0 :: .ref a :: st) (n, tg, ln, I, J, O) Q ↔ Runs 38 0 [some (.ref a), some (zrf r0)] [] (n, tg, ln, I, J, O) (fun v h2 => Runs 98 24 ls (v.toList ++ st) h2 Q) := by cases r0 <;> exact R_callv (a := a) (rest := st) rfl rfl rfl rfl rfl rfl rfl ht hs
theorem s98_24 : Runs 98 24 [x0, some (.int i), x2, x3, x4] st h Q ↔ Runs 98 25 [x0, some (.int i), x2, x3, x4] (.int i :: st) h Q := R_ildn rfl rfl
theorem s98_25 : Runs 98 25 [x0, x1, x2, x3, x4] (.int i :: st) h Q ↔ Runs 98 26 [x0, zdrop x1, some (.int i), x3, x4] st h Q := R_istn rfl rfl rfl
theorem s98_26 : Runs 98 26 ls st h Q ↔ Runs 98 27 ls (.int 0 :: st) h Q := R_iconst rfl rfl
theorem s98_27 : Runs 98 27 [x0, x1, x2, x3, x4] (.int i :: st) h Q ↔ Runs 98 28 [x0, x1, zdrop x2, some (.int i), x4] st h Q := R_istn rfl rfl rfl
theorem s98_28 : Runs 98 28 [x0, x1, x2, some (.int i), x4] st h Q ↔ Runs 98 29 [x0, x1, x2, some (.int i), x4] (.int i :: st) h Q := R_ildn rfl rfl
theorem s98_29 : Runs 98 29 ls st h Q ↔ Runs 98 31 ls (.int 60 :: st) h Q := R_bipush rfl (by decide)
theorem s98_31 : Runs 98 31 ls (.int j :: .int i :: st) h Q ↔ if j ≤ i then Runs 98 73 ls st h Q else Runs 98 34 ls st h Q := R_icge rfl rfl
theorem s98_34 : Runs 98 34 [some (.ref a), x1, x2, x3, x4] st h Q ↔ Runs 98 35 [some (.ref a), x1, x2, x3, x4] (.ref a :: st) h Q := R_aldn rfl rfl
theorem s98_34q : Runs 98 34 [some (zrf r), x1, x2, x3, x4] st h Q ↔ Runs 98 35 [some (zrf r), x1, x2, x3, x4] (zrf r :: st) h Q := R_aldnq rfl rfl
theorem s98_35 (ht : tg a = 9) : Runs 98 35 ls (.ref a :: st) (n, tg, ln, I, J, O) Q ↔ Runs 98 38 ls (zrf (O a 2) :: st) (n, tg, ln, I, J, O) Q := R_getr rfl rfl rfl rfl ht
theorem s98_38 (ht : tg a = 5) (hs : zsumc st ≤ 8) : Runs 98 38 ls (.ref a :: st) (n, tg, ln, I, J, O) Q ↔ Runs 51 0 [some (.ref a), none, none] [] (n, tg, ln, I, J, O) (fun v h2 => Runs 98 41 ls (v.toList ++ st) h2 Q) := R_callv (a := a) (rest := st) rfl rfl rfl rfl rfl rfl rfl ht hs
theorem s98_41 : Runs 98 41 [x0, x1, x2, x3, x4] (.int i :: st) h Q ↔ Runs 98 43 [x0, x1, x2, zdrop x3, some (.int i)] st h Q := R_ist rfl rfl rfl
theorem s98_43 : Runs 98 43 [x0, x1, x2, x3, some (.int i)] st h Q ↔ Runs 98 45 [x0, x1, x2, x3, some (.int i)] (.int i :: st) h Q := R_ild rfl rfl
theorem s98_45 : Runs 98 45 ls st h Q ↔ Runs 98 47 ls (.int 99 :: st) h Q := R_bipush rfl (by decide)
theorem s98_47 : Runs 98 47 ls (.int j :: .int i :: st) h Q ↔ if i = j then Runs 98 57 ls st h Q else Runs 98 50 ls st h Q := R_iceq rfl rfl
theorem s98_50 : Runs 98 50 [x0, x1, some (.int i), x3, x4] st h Q ↔ Runs 98 51 [x0, x1, some (.int i), x3, x4] (.int i :: st) h Q := R_ildn rfl rfl
theorem s98_51 : Runs 98 51 ls (.int i :: st) h Q ↔ if ¬ i = 0 then Runs 98 57 ls st h Q else Runs 98 54 ls st h Q := R_ifne rfl rfl
theorem s98_54 : Runs 98 54 [x0, x1, x2, x3, some (.int i)] st h Q ↔ Runs 98 56 [x0, x1, x2, x3, some (.int i)] (.int i :: st) h Q := R_ild rfl rfl
theorem s98_56 : Runs 98 56 ls [.int i] h Q ↔ Q (some (.int i)) h := R_iret rfl rfl
theorem s98_57 : Runs 98 57 [x0, x1, x2, x3, some (.int i)] st h Q ↔ Runs 98 59 [x0, x1, x2, x3, some (.int i)] (.int i :: st) h Q := R_ild rfl rfl
theorem s98_59 : Runs 98 59 ls st h Q ↔ Runs 98 61 ls (.int 99 :: st) h Q := R_bipush rfl (by decide)
theorem s98_61 : Runs 98 61 ls (.int j :: .int i :: st) h Q ↔ if i = j then Runs 98 67 ls st h Q else Runs 98 64 ls st h Q := R_iceq rfl rfl
theorem s98_64 : Runs 98 64 [x0, x1, some (.int i), x3, x4] st h Q ↔ Runs 98 67 [x0, zdrop x1, some (.int (i + (-1))), x3, x4] st h Q := R_iinc rfl rfl rfl rfl rfl
theorem s98_67 : Runs 98 67 [x0, x1, x2, some (.int i), x4] st h Q ↔ Runs 98 70 [x0, x1, zdrop x2, some (.int (i + 1)), x4] st h Q := R_iinc rfl rfl rfl rfl rfl
theorem s98_70 : Runs 98 70 ls st h Q ↔ Runs 98 28 ls st h Q := R_goto rfl rfl
theorem s98_73 : Runs 98 73 ls st h Q ↔ Runs 98 74 ls (.int (-1) :: st) h Q := R_iconst rfl rfl
theorem s98_74 : Runs 98 74 ls [.int i] h Q ↔ Q (some (.int i)) h := R_iret rfl rfl
theorem s99_0 : Runs 99 0 [x0, some (.int i), x2, x3, x4, x5, x6] st h Q ↔ Runs 99 1 [x0, some (.int i), x2, x3, x4, x5, x6] (.int i :: st) h Q := R_ildn rfl rfl
theorem s99_1 : Runs 99 1 [x0, x1, some (.int i), x3, x4, x5, x6] st h Q ↔ Runs 99 2 [x0, x1, some (.int i), x3, x4, x5, x6] (.int i :: st) h Q := R_ildn rfl rfl
theorem s99_2 (hs : zsumc st ≤ 8) : Runs 99 2 ls (.int i1 :: .int i0 :: st) h Q ↔ Runs 118 0 [some (.int i0), some (.int i1)] [] h (fun v h2 => Runs 99 5 ls (v.toList ++ st) h2 Q) := R_calls (rest := st) rfl rfl rfl (by simp) rfl rfl rfl rfl hs
theorem s99_5 : Runs 99 5 ls (.int i :: st) h Q ↔ if ¬ i = 0 then Runs 99 11 ls st h Q else Runs 99 8 ls st h Q := R_ifne rfl rfl
theorem s99_8 : Runs 99 8 ls st h Q ↔ Runs 99 10 ls (.int (-3) :: st) h Q := R_bipush rfl (by decide)
theorem s99_10 : Runs 99 10 ls [.int i] h Q ↔ Q (some (.int i)) h := R_iret rfl rfl
theorem s99_11 : Runs 99 11 [some (.ref a), x1, x2, x3, x4, x5, x6] st h Q ↔ Runs 99 12 [some (.ref a), x1, x2, x3, x4, x5, x6] (.ref a :: st) h Q := R_aldn rfl rfl
theorem s99_11q : Runs 99 11 [some (zrf r), x1, x2, x3, x4, x5, x6] st h Q ↔ Runs 99 12 [some (zrf r), x1, x2, x3, x4, x5, x6] (zrf r :: st) h Q := R_aldnq rfl rfl
theorem s99_12 (ht : tg a = 9) : Runs 99 12 ls (.ref a :: st) (n, tg, ln, I, J, O) Q ↔ Runs 99 15 ls (zrf (O a 0) :: st) (n, tg, ln, I, J, O) Q := R_getr rfl rfl rfl rfl ht
theorem s99_15 (ht : tg a = 5) : Runs 99 15 ls (.ref a :: st) (n, tg, ln, I, J, O) Q ↔ Runs 99 18 ls (.int (I a 5) :: st) (n, tg, ln, I, J, O) Q := R_geti rfl rfl rfl rfl ht
theorem s99_18 : Runs 99 18 ls st h Q ↔ Runs 99 20 ls (.int 12 :: st) h Q := R_bipush rfl (by decide)
theorem s99_20 : Runs 99 20 ls (.int j :: .int i :: st) h Q ↔ if i < j then Runs 99 26 ls st h Q else Runs 99 23 ls st h Q := R_iclt rfl rfl
theorem s99_23 : Runs 99 23 ls st h Q ↔ Runs 99 25 ls (.int (-5) :: st) h Q := R_bipush rfl (by decide)
theorem s99_25 : Runs 99 25 ls [.int i] h Q ↔ Q (some (.int i)) h := R_iret rfl rfl
theorem s99_26 : Runs 99 26 ls st h Q ↔ Runs 99 27 ls (.int (-1) :: st) h Q := R_iconst rfl rfl
theorem s99_27 : Runs 99 27 [x0, x1, x2, x3, x4, x5, x6] (.int i :: st) h Q ↔ Runs 99 28 [x0, x1, zdrop x2, some (.int i), x4, x5, x6] st h Q := R_istn rfl rfl rfl
theorem s99_28 : Runs 99 28 ls st h Q ↔ Runs 99 30 ls (.int 61 :: st) h Q := R_bipush rfl (by decide)
theorem s99_30 : Runs 99 30 [x0, x1, x2, x3, x4, x5, x6] (.int i :: st) h Q ↔ Runs 99 32 [x0, x1, x2, zdrop x3, some (.int i), x5, x6] st h Q := R_ist rfl rfl rfl
theorem s99_32 : Runs 99 32 ls st h Q ↔ Runs 99 33 ls (.int 0 :: st) h Q := R_iconst rfl rfl
theorem s99_33 : Runs 99 33 [x0, x1, x2, x3, x4, x5, x6] (.int i :: st) h Q ↔ Runs 99 35 [x0, x1, x2, x3, zdrop x4, some (.int i), x6] st h Q := R_ist rfl rfl rfl
theorem s99_35 : Runs 99 35 [x0, x1, x2, x3, x4, some (.int i), x6] st h Q ↔ Runs 99 37 [x0, x1, x2, x3, x4, some (.int i), x6] (.int i :: st) h Q := R_ild rfl rfl
theorem s99_37 : Runs 99 37 ls st h Q ↔ Runs 99 38 ls (.int 2 :: st) h Q := R_iconst rfl rfl
theorem s99_38 : Runs 99 38 ls (.int j :: .int i :: st) h Q ↔ if j ≤ i then Runs 99 77 ls st h Q else Runs 99 41 ls st h Q := R_icge rfl rfl
theorem s99_41 : Runs 99 41 [some (.ref a), x1, x2, x3, x4, x5, x6] st h Q ↔ Runs 99 42 [some (.ref a), x1, x2, x3, x4, x5, x6] (.ref a :: st) h Q := R_aldn rfl rfl
theorem s99_41q : Runs 99 41 [some (zrf r), x1, x2, x3, x4, x5, x6] st h Q ↔ Runs 99 42 [some (zrf r), x1, x2, x3, x4, x5, x6] (zrf r :: st) h Q := R_aldnq rfl rfl
theorem s99_42 : Runs 99 42 [x0, x1, x2, x3, x4, some (.int i), x6] st h Q ↔ Runs 99 44 [x0, x1, x2, x3, x4, some (.int i), x6] (.int i :: st) h Q := R_ild rfl rfl
theorem s99_44 : Runs 99 44 [x0, some (.int i), x2, x3, x4, x5, x6] st h Q ↔ Runs 99 45 [x0, some (.int i), x2, x3, x4, x5, x6] (.int i :: st) h Q := R_ildn rfl rfl
theorem s99_45 : Runs 99 45 [x0, x1, some (.int i), x3, x4, x5, x6] st h Q ↔ Runs 99 46 [x0, x1, some (.int i), x3, x4, x5, x6] (.int i :: st) h Q := R_ildn rfl rfl
theorem s99_46 (ht : tg a = 9) (hs : zsumc st ≤ 8) : Runs 99 46 ls (.int i2 :: .int i1 :: .int i0 :: .ref a :: st) (n, tg, ln, I, J, O) Q ↔ Runs 120 0 [some (.ref a), some (.int i0), some (.int i1), some (.int i2)] [] (n, tg, ln, I, J, O) (fun v h2 => Runs 99 49 ls (v.toList ++ st) h2 Q) := R_callv (a := a) (rest := st) rfl rfl rfl rfl rfl rfl rfl ht hs
theorem s99_49 : Runs 99 49 [x0, x1, x2, x3, x4, x5, x6] (.int i :: st) h Q ↔ Runs 99 51 [x0, x1, x2, x3, x4, zdrop x5, some (.int i)] st h Q := R_ist rfl rfl rfl
theorem s99_51 : Runs 99 51 [x0, x1, x2, x3, x4, x5, some (.int i)] st h Q ↔ Runs 99 53 [x0, x1, x2, x3, x4, x5, some (.int i)] (.int i :: st) h Q := R_ild rfl rfl
theorem s99_53 : Runs 99 53 ls st h Q ↔ Runs 99 54 ls (.int (-1) :: st) h Q := R_iconst rfl rfl
theorem s99_54 : Runs 99 54 ls (.int j :: .int i :: st) h Q ↔ if i = j then Runs 99 71 ls st h Q else Runs 99 57 ls st h Q := R_iceq rfl rfl
theorem s99_57 : Runs 99 57 [x0, x1, x2, x3, x4, x5, some (.int i)] st h Q ↔ Runs 99 59 [x0, x1, x2, x3, x4, x5, some (.int i)] (.int i :: st) h Q := R_ild rfl rfl
theorem s99_59 : Runs 99 59 [x0, x1, x2, x3, some (.int i), x5, x6] st h Q ↔ Runs 99 61 [x0, x1, x2, x3, some (.int i), x5, x6] (.int i :: st) h Q := R_ild rfl rfl
theorem s99_61 : Runs 99 61 ls (.int j :: .int i :: st) h Q ↔ if j ≤ i then Runs 99 71 ls st h Q else Runs 99 64 ls st h Q := R_icge rfl rfl
theorem s99_64 : Runs 99 64 [x0, x1, x2, x3, x4, some (.int i), x6] st h Q ↔ Runs 99 66 [x0, x1, x2, x3, x4, some (.int i), x6] (.int i :: st) h Q := R_ild rfl rfl
theorem s99_66 : Runs 99 66 [x0, x1, x2, x3, x4, x5, x6] (.int i :: st) h Q ↔ Runs 99 67 [x0, x1, zdrop x2, some (.int i), x4, x5, x6] st h Q := R_istn rfl rfl rfl
theorem s99_67 : Runs 99 67 [x0, x1, x2, x3, x4, x5, some (.int i)] st h Q ↔ Runs 99 69 [x0, x1, x2, x3, x4, x5, some (.int i)] (.int i :: st) h Q := R_ild rfl rfl
theorem s99_69 : Runs 99 69 [x0, x1, x2, x3, x4, x5, x6] (.int i :: st) h Q ↔ Runs 99 71 [x0, x1, x2, zdrop x3, some (.int i), x5, x6] st h Q := R_ist rfl rfl rfl
theorem s99_71 : Runs 99 71 [x0, x1, x2, x3, x4, some (.int i), x6] st h Q ↔ Runs 99 74 [x0, x1, x2, x3, zdrop x4, some (.int (i + 1)), x6] st h Q := R_iinc rfl rfl rfl rfl rfl
theorem s99_74 : Runs 99 74 ls st h Q ↔ Runs 99 35 ls st h Q := R_goto rfl rfl
theorem s99_77 : Runs 99 77 [x0, x1, x2, some (.int i), x4, x5, x6] st h Q ↔ Runs 99 78 [x0, x1, x2, some (.int i), x4, x5, x6] (.int i :: st) h Q := R_ildn rfl rfl
theorem s99_78 : Runs 99 78 ls [.int i] h Q ↔ Q (some (.int i)) h := R_iret rfl rfl
theorem s100_0 : Runs 100 0 [some (.ref a), x1, x2] st h Q ↔ Runs 100 1 [some (.ref a), x1, x2] (.ref a :: st) h Q := R_aldn rfl rfl
theorem s100_0q : Runs 100 0 [some (zrf r), x1, x2] st h Q ↔ Runs 100 1 [some (zrf r), x1, x2] (zrf r :: st) h Q := R_aldnq rfl rfl
theorem s100_1 (ht : tg a = 9) : Runs 100 1 ls (.ref a :: st) (n, tg, ln, I, J, O) Q ↔ Runs 100 4 ls (zrf (O a 0) :: st) (n, tg, ln, I, J, O) Q := R_getr rfl rfl rfl rfl ht
theorem s100_4 : Runs 100 4 [x0, some (.int i), x2] st h Q ↔ Runs 100 5 [x0, some (.int i), x2] (.int i :: st) h Q := R_ildn rfl rfl
theorem s100_5 (ht : tg a = 5) (hs : zsumc st ≤ 8) : Runs 100 5 ls (.int i0 :: .ref a :: st) (n, tg, ln, I, J, O) Q ↔ Runs 39 0 [some (.ref a), some (.int i0)] [] (n, tg, ln, I, J, O) (fun v h2 => Runs 100 8 ls (v.toList ++ st) h2 Q) := R_callv (a := a) (rest := st) rfl rfl rfl rfl rfl rfl rfl ht hs
theorem s100_8 : Runs 100 8 ls (.int i :: st) h Q ↔ if ¬ i = 0 then Runs 100 14 ls st h Q else Runs 100 11 ls st h Q := R_ifne rfl rfl
theorem s100_11 : Runs 100 11 ls st h Q ↔ Runs 100 13 ls (.int (-2) :: st) h Q := R_bipush rfl (by decide)
theorem s100_13 : Runs 100 13 ls [.int i] h Q ↔ Q (some (.int i)) h := R_iret rfl rfl
theorem s100_14 : Runs 100 14 [x0, x1, some (.int i)] st h Q ↔ Runs 100 15 [x0, x1, some (.int i)] (.int i :: st) h Q := R_ildn rfl rfl
theorem s100_15 : Runs 100 15 ls st h Q ↔ Runs 100 16 ls (.int 1 :: st) h Q := R_iconst rfl rfl
theorem s100_16 : Runs 100 16 ls (.int j :: .int i :: st) h Q ↔ if i < j then Runs 100 25 ls st h Q else Runs 100 19 ls st h Q := R_iclt rfl rfl
theorem s100_19 : Runs 100 19 [x0, x1, some (.int i)] st h Q ↔ Runs 100 20 [x0, x1, some (.int i)] (.int i :: st) h Q := R_ildn rfl rfl
theorem s100_20 : Runs 100 20 ls st h Q ↔ Runs 100 22 ls (.int 60 :: st) h Q := R_bipush rfl (by decide)
theorem s100_22 : Runs 100 22 ls (.int j :: .int i :: st) h Q ↔ if i ≤ j then Runs 100 28 ls st h Q else Runs 100 25 ls st h Q := R_icle rfl rfl
theorem s100_25 : Runs 100 25 ls st h Q ↔ Runs 100 27 ls (.int (-3) :: st) h Q := R_bipush rfl (by decide)
theorem s100_27 : Runs 100 27 ls [.int i] h Q ↔ Q (some (.int i)) h := R_iret rfl rfl
theorem s100_28 : Runs 100 28 [some (.ref a), x1, x2] st h Q ↔ Runs 100 29 [some (.ref a), x1, x2] (.ref a :: st) h Q := R_aldn rfl rfl
theorem s100_28q : Runs 100 28 [some (zrf r), x1, x2] st h Q ↔ Runs 100 29 [some (zrf r), x1, x2] (zrf r :: st) h Q := R_aldnq rfl rfl
theorem s100_29 (ht : tg a = 9) : Runs 100 29 ls (.ref a :: st) (n, tg, ln, I, J, O) Q ↔ Runs 100 32 ls (zrf (O a 0) :: st) (n, tg, ln, I, J, O) Q := R_getr rfl rfl rfl rfl ht
theorem s100_32 : Runs 100 32 [x0, some (.int i), x2] st h Q ↔ Runs 100 33 [x0, some (.int i), x2] (.int i :: st) h Q := R_ildn rfl rfl
theorem s100_33 (ht : tg a = 5) (hs : zsumc st ≤ 8) : Runs 100 33 ls (.int i0 :: .ref a :: st) (n, tg, ln, I, J, O) Q ↔ Runs 40 0 [some (.ref a), some (.int i0)] [] (n, tg, ln, I, J, O) (fun v h2 => Runs 100 36 ls (v.toList ++ st) h2 Q) := R_callv (a := a) (rest := st) rfl rfl rfl rfl rfl rfl rfl ht hs
theorem s100_36 : Runs 100 36 ls (.int i :: st) h Q ↔ if ¬ i = 0 then Runs 100 42 ls st h Q else Runs 100 39 ls st h Q := R_ifne rfl rfl
theorem s100_39 : Runs 100 39 ls st h Q ↔ Runs 100 41 ls (.int (-4) :: st) h Q := R_bipush rfl (by decide)
theorem s100_41 : Runs 100 41 ls [.int i] h Q ↔ Q (some (.int i)) h := R_iret rfl rfl
theorem s100_42 : Runs 100 42 [some (.ref a), x1, x2] st h Q ↔ Runs 100 43 [some (.ref a), x1, x2] (.ref a :: st) h Q := R_aldn rfl rfl
theorem s100_42q : Runs 100 42 [some (zrf r), x1, x2] st h Q ↔ Runs 100 43 [some (zrf r), x1, x2] (zrf r :: st) h Q := R_aldnq rfl rfl
theorem s100_43 : Runs 100 43 [x0, some (.int i), x2] st h Q ↔ Runs 100 44 [x0, some (.int i), x2] (.int i :: st) h Q := R_ildn rfl rfl
theorem s100_44 : Runs 100 44 [x0, x1, some (.int i)] st h Q ↔ Runs 100 45 [x0, x1, some (.int i)] (.int i :: st) h Q := R_ildn rfl rfl
theorem s100_45 (ht : tg a = 9) (hs : zsumc st ≤ 8) : Runs 100 45 ls (.int i1 :: .int i0 :: .ref a :: st) (n, tg, ln, I, J, O) Q ↔ Runs 121 0 [some (.ref a), some (.int i0), some (.int i1), none, none, none] [] (n, tg, ln, I, J, O) (fun v h2 => Runs 100 48 ls (v.toList ++ st) h2 Q) := R_callv (a := a) (rest := st) rfl rfl rfl rfl rfl rfl rfl ht hs
theorem s100_48 : Runs 100 48 ls [.int i] h Q ↔ Q (some (.int i)) h := R_iret rfl rfl
theorem s101_0 : Runs 101 0 [x0, some (.int i), x2, x3] st h Q ↔ Runs 101 1 [x0, some (.int i), x2, x3] (.int i :: st) h Q := R_ildn rfl rfl
theorem s101_1 : Runs 101 1 ls (.int i :: st) h Q ↔ if i < 0 then Runs 101 9 ls st h Q else Runs 101 4 ls st h Q := R_iflt rfl rfl
theorem s101_4 : Runs 101 4 [x0, some (.int i), x2, x3] st h Q ↔ Runs 101 5 [x0, some (.int i), x2, x3] (.int i :: st) h Q := R_ildn rfl rfl
theorem s101_5 : Runs 101 5 ls st h Q ↔ Runs 101 6 ls (.int 2 :: st) h Q := R_iconst rfl rfl
theorem s101_6 : Runs 101 6 ls (.int j :: .int i :: st) h Q ↔ if i ≤ j then Runs 101 12 ls st h Q else Runs 101 9 ls st h Q := R_icle rfl rfl
theorem s101_9 : Runs 101 9 ls st h Q ↔ Runs 101 11 ls (.int (-3) :: st) h Q := R_bipush rfl (by decide)
theorem s101_11 : Runs 101 11 ls [.int i] h Q ↔ Q (some (.int i)) h := R_iret rfl rfl
theorem s101_12 : Runs 101 12 [some (.ref a), x1, x2, x3] st h Q ↔ Runs 101 13 [some (.ref a), x1, x2, x3] (.ref a :: st) h Q := R_aldn rfl rfl
theorem s101_12q : Runs 101 12 [some (zrf r), x1, x2, x3] st h Q ↔ Runs 101 13 [some (zrf r), x1, x2, x3] (zrf r :: st) h Q := R_aldnq rfl rfl
theorem s101_13 (ht : tg a = 9) : Runs 101 13 ls (.ref a :: st) (n, tg, ln, I, J, O) Q ↔ Runs 101 16 ls (zrf (O a 2) :: st) (n, tg, ln, I, J, O) Q := R_getr rfl rfl rfl rfl ht
theorem s101_16 : Runs 101 16 [some (.ref a), x1, x2, x3] st h Q ↔ Runs 101 17 [some (.ref a), x1, x2, x3] (.ref a :: st) h Q := R_aldn rfl rfl
theorem s101_16q : Runs 101 16 [some (zrf r), x1, x2, x3] st h Q ↔ Runs 101 17 [some (zrf r), x1, x2, x3] (zrf r :: st) h Q := R_aldnq rfl rfl
theorem s101_17 (ht : tg a = 9) : Runs 101 17 ls (.ref a :: st) (n, tg, ln, I, J, O) Q ↔ Runs 101 20 ls (zrf (O a 0) :: st) (n, tg, ln, I, J, O) Q := R_getr rfl rfl rfl rfl ht
theorem s101_20 (ht : tg a = 5) (hs : zsumc st ≤ 8) : Runs 101 20 ls (.ref b0 :: .ref a :: st) (n, tg, ln, I, J, O) Q ↔ Runs 38 0 [some (.ref a), some (.ref b0)] [] (n, tg, ln, I, J, O) (fun v h2 => Runs 101 23 ls (v.toList ++ st) h2 Q) := R_callv (a := a) (rest := st) rfl rfl rfl rfl rfl rfl rfl ht hs
theorem s101_20q (ht : tg a = 5) (hs : zsumc st ≤ 8) : Runs 101 20 ls (zrf r0 :: .ref a :: st) (n, tg, ln, I, J, O) Q ↔ Runs 38 0 [some (.ref a), some (zrf r0)] [] (n, tg, ln, I, J, O) (fun v h2 => Runs 101 23 ls (v.toList ++ st) h2 Q) := by cases r0 <;> exact R_callv (a := a) (rest := st) rfl rfl rfl rfl rfl rfl rfl ht hs
theorem s101_23 : Runs 101 23 [some (.ref a), x1, x2, x3] st h Q ↔ Runs 101 24 [some (.ref a), x1, x2, x3] (.ref a :: st) h Q := R_aldn rfl rfl
theorem s101_23q : Runs 101 23 [some (zrf r), x1, x2, x3] st h Q ↔ Runs 101 24 [some (zrf r), x1, x2, x3] (zrf r :: st) h Q := R_aldnq rfl rfl
theorem s101_24 (ht : tg a = 9) : Runs 101 24 ls (.ref a :: st) (n, tg, ln, I, J, O) Q ↔ Runs 101 27 ls (zrf (O a 2) :: st) (n, tg, ln, I, J, O) Q := R_getr rfl rfl rfl rfl ht
theorem s101_27 : Runs 101 27 [x0, some (.int i), x2, x3] st h Q ↔ Runs 101 28 [x0, some (.int i), x2, x3] (.int i :: st) h Q := R_ildn rfl rfl
theorem s101_28 (ht : tg a = 5) : Runs 101 28 ls (.int i :: .ref a :: st) (n, tg, ln, I, J, O) Q ↔ Runs 101 31 ls st (n, tg, ln, zu I a 6 i, J, O) Q := R_puti rfl rfl rfl rfl rfl rfl ht
theorem s101_31 : Runs 101 31 ls st h Q ↔ Runs 101 32 ls (.int 0 :: st) h Q := R_iconst rfl rfl
theorem s101_32 : Runs 101 32 [x0, x1, x2, x3] (.int i :: st) h Q ↔ Runs 101 33 [x0, zdrop x1, some (.int i), x3] st h Q := R_istn rfl rfl rfl
theorem s101_33 : Runs 101 33 ls st h Q ↔ Runs 101 34 ls (.int 1 :: st) h Q := R_iconst rfl rfl
theorem s101_34 : Runs 101 34 [x0, x1, x2, x3] (.int i :: st) h Q ↔ Runs 101 35 [x0, x1, zdrop x2, some (.int i)] st h Q := R_istn rfl rfl rfl
theorem s101_35 : Runs 101 35 [x0, x1, x2, some (.int i)] st h Q ↔ Runs 101 36 [x0, x1, x2, some (.int i)] (.int i :: st) h Q := R_ildn rfl rfl
theorem s101_36 : Runs 101 36 ls st h Q ↔ Runs 101 38 ls (.int 60 :: st) h Q := R_bipush rfl (by decide)
theorem s101_38 : Runs 101 38 ls (.int j :: .int i :: st) h Q ↔ if j < i then Runs 101 63 ls st h Q else Runs 101 41 ls st h Q := R_icgt rfl rfl
theorem s101_41 : Runs 101 41 [some (.ref a), x1, x2, x3] st h Q ↔ Runs 101 42 [some (.ref a), x1, x2, x3] (.ref a :: st) h Q := R_aldn rfl rfl
theorem s101_41q : Runs 101 41 [some (zrf r), x1, x2, x3] st h Q ↔ Runs 101 42 [some (zrf r), x1, x2, x3] (zrf r :: st) h Q := R_aldnq rfl rfl
theorem s101_42 (ht : tg a = 9) : Runs 101 42 ls (.ref a :: st) (n, tg, ln, I, J, O) Q ↔ Runs 101 45 ls (zrf (O a 2) :: st) (n, tg, ln, I, J, O) Q := R_getr rfl rfl rfl rfl ht
theorem s101_45 (ht : tg a = 5) (hs : zsumc st ≤ 8) : Runs 101 45 ls (.ref a :: st) (n, tg, ln, I, J, O) Q ↔ Runs 51 0 [some (.ref a), none, none] [] (n, tg, ln, I, J, O) (fun v h2 => Runs 101 48 ls (v.toList ++ st) h2 Q) := R_callv (a := a) (rest := st) rfl rfl rfl rfl rfl rfl rfl ht hs
theorem s101_48 : Runs 101 48 ls st h Q ↔ Runs 101 50 ls (.int 99 :: st) h Q := R_bipush rfl (by decide)
theorem s101_50 : Runs 101 50 ls (.int j :: .int i :: st) h Q ↔ if i = j then Runs 101 57 ls st h Q else Runs 101 53 ls st h Q := R_iceq rfl rfl
theorem s101_53 : Runs 101 53 [x0, x1, some (.int i), x3] st h Q ↔ Runs 101 54 [x0, x1, some (.int i), x3] (.int i :: st) h Q := R_ildn rfl rfl
theorem s101_54 : Runs 101 54 [x0, x1, x2, some (.int i)] st h Q ↔ Runs 101 55 [x0, x1, x2, some (.int i)] (.int i :: st) h Q := R_ildn rfl rfl
theorem s101_55 : Runs 101 55 ls (.int j :: .int i :: st) h Q ↔ Runs 101 56 ls (.int (i + j) :: st) h Q := R_iadd rfl
theorem s101_56 : Runs 101 56 [x0, x1, x2, x3] (.int i :: st) h Q ↔ Runs 101 57 [x0, zdrop x1, some (.int i), x3] st h Q := R_istn rfl rfl rfl
theorem s101_57 : Runs 101 57 [x0, x1, x2, some (.int i)] st h Q ↔ Runs 101 60 [x0, x1, zdrop x2, some (.int (i + 1))] st h Q := R_iinc rfl rfl rfl rfl rfl
theorem s101_60 : Runs 101 60 ls st h Q ↔ Runs 101 35 ls st h Q := R_goto rfl rfl
theorem s101_63 : Runs 101 63 [x0, x1, some (.int i), x3] st h Q ↔ Runs 101 64 [x0, x1, some (.int i), x3] (.int i :: st) h Q := R_ildn rfl rfl
theorem s101_64 : Runs 101 64 ls st h Q ↔ Runs 101 66 ls (.int 60 :: st) h Q := R_bipush rfl (by decide)
theorem s101_66 : Runs 101 66 [some (.ref a), x1, x2, x3] st h Q ↔ Runs 101 67 [some (.ref a), x1, x2, x3] (.ref a :: st) h Q := R_aldn rfl rfl
theorem s101_66q : Runs 101 66 [some (zrf r), x1, x2, x3] st h Q ↔ Runs 101 67 [some (zrf r), x1, x2, x3] (zrf r :: st) h Q := R_aldnq rfl rfl
theorem s101_67 (ht : tg a = 9) : Runs 101 67 ls (.ref a :: st) (n, tg, ln, I, J, O) Q ↔ Runs 101 70 ls (zrf (O a 2) :: st) (n, tg, ln, I, J, O) Q := R_getr rfl rfl rfl rfl ht
theorem s101_70 : Runs 101 70 ls st h Q ↔ Runs 101 71 ls (.int 0 :: st) h Q := R_iconst rfl rfl
theorem s101_71 (ht : tg a = 5) (hs : zsumc st ≤ 8) : Runs 101 71 ls (.int i0 :: .ref a :: st) (n, tg, ln, I, J, O) Q ↔ Runs 44 0 [some (.ref a), some (.int i0), none, none] [] (n, tg, ln, I, J, O) (fun v h2 => Runs 101 74 ls (v.toList ++ st) h2 Q) := R_callv (a := a) (rest := st) rfl rfl rfl rfl rfl rfl rfl ht hs
theorem s101_74 (hs : zsumc st ≤ 8) : Runs 101 74 ls (.int i0 :: st) h Q ↔ Runs 204 0 [some (.int i0)] [] h (fun v h2 => Runs 101 77 ls (v.toList ++ st) h2 Q) := R_calls (rest := st) rfl rfl rfl (by simp) rfl rfl rfl rfl hs
theorem s101_77 : Runs 101 77 ls (.int j :: .int i :: st) h Q ↔ Runs 101 78 ls (.int (i * j) :: st) h Q := R_imul rfl
theorem s101_78 : Runs 101 78 ls (.int j :: .int i :: st) h Q ↔ Runs 101 79 ls (.int (i + j) :: st) h Q := R_iadd rfl
theorem s101_79 : Runs 101 79 ls [.int i] h Q ↔ Q (some (.int i)) h := R_iret rfl rfl
theorem s102_0 : Runs 102 0 [x0, some (.int i), x2] st h Q ↔ Runs 102 1 [x0, some (.int i), x2] (.int i :: st) h Q := R_ildn rfl rfl
theorem s102_1 : Runs 102 1 ls st h Q ↔ Runs 102 2 ls (.int 1 :: st) h Q := R_iconst rfl rfl
theorem s102_2 : Runs 102 2 ls (.int j :: .int i :: st) h Q ↔ if i < j then Runs 102 21 ls st h Q else Runs 102 5 ls st h Q := R_iclt rfl rfl
theorem s102_5 : Runs 102 5 [x0, some (.int i), x2] st h Q ↔ Runs 102 6 [x0, some (.int i), x2] (.int i :: st) h Q := R_ildn rfl rfl
theorem s102_6 : Runs 102 6 ls st h Q ↔ Runs 102 8 ls (.int 20 :: st) h Q := R_bipush rfl (by decide)
theorem s102_8 : Runs 102 8 ls (.int j :: .int i :: st) h Q ↔ if j < i then Runs 102 21 ls st h Q else Runs 102 11 ls st h Q := R_icgt rfl rfl
theorem s102_11 : Runs 102 11 [x0, x1, some (.int i)] st h Q ↔ Runs 102 12 [x0, x1, some (.int i)] (.int i :: st) h Q := R_ildn rfl rfl
theorem s102_12 : Runs 102 12 ls (.int i :: st) h Q ↔ if i < 0 then Runs 102 21 ls st h Q else Runs 102 15 ls st h Q := R_iflt rfl rfl
theorem s102_15 : Runs 102 15 [x0, x1, some (.int i)] st h Q ↔ Runs 102 16 [x0, x1, some (.int i)] (.int i :: st) h Q := R_ildn rfl rfl
theorem s102_16 : Runs 102 16 ls st h Q ↔ Runs 102 18 ls (.int 20 :: st) h Q := R_bipush rfl (by decide)
theorem s102_18 : Runs 102 18 ls (.int j :: .int i :: st) h Q ↔ if i ≤ j then Runs 102 24 ls st h Q else Runs 102 21 ls st h Q := R_icle rfl rfl
theorem s102_21 : Runs 102 21 ls st h Q ↔ Runs 102 23 ls (.int (-3) :: st) h Q := R_bipush rfl (by decide)
theorem s102_23 : Runs 102 23 ls [.int i] h Q ↔ Q (some (.int i)) h := R_iret rfl rfl
theorem s102_24 : Runs 102 24 [some (.ref a), x1, x2] st h Q ↔ Runs 102 25 [some (.ref a), x1, x2] (.ref a :: st) h Q := R_aldn rfl rfl
theorem s102_24q : Runs 102 24 [some (zrf r), x1, x2] st h Q ↔ Runs 102 25 [some (zrf r), x1, x2] (zrf r :: st) h Q := R_aldnq rfl rfl
theorem s102_25 (ht : tg a = 9) : Runs 102 25 ls (.ref a :: st) (n, tg, ln, I, J, O) Q ↔ Runs 102 28 ls (zrf (O a 8) :: st) (n, tg, ln, I, J, O) Q := R_getr rfl rfl rfl rfl ht
theorem s102_28 : Runs 102 28 [x0, some (.int i), x2] st h Q ↔ Runs 102 29 [x0, some (.int i), x2] (.int i :: st) h Q := R_ildn rfl rfl
theorem s102_29 : Runs 102 29 [x0, x1, some (.int i)] st h Q ↔ Runs 102 30 [x0, x1, some (.int i)] (.int i :: st) h Q := R_ildn rfl rfl
theorem s102_30 (ht : tg a = 7) (hs : zsumc st ≤ 8) : Runs 102 30 ls (.int i1 :: .int i0 :: .ref a :: st) (n, tg, ln, I, J, O) Q ↔ Runs 73 0 [some (.ref a), some (.int i0), some (.int i1)] [] (n, tg, ln, I, J, O) (fun v h2 => Runs 102 33 ls (v.toList ++ st) h2 Q) := R_callv (a := a) (rest := st) rfl rfl rfl rfl rfl rfl rfl ht hs
theorem s102_33 : Runs 102 33 ls (.int i :: st) h Q ↔ if i = 0 then Runs 102 46 ls st h Q else Runs 102 36 ls st h Q := R_ifeq rfl rfl
theorem s102_36 : Runs 102 36 [some (.ref a), x1, x2] st h Q ↔ Runs 102 37 [some (.ref a), x1, x2] (.ref a :: st) h Q := R_aldn rfl rfl
theorem s102_36q : Runs 102 36 [some (zrf r), x1, x2] st h Q ↔ Runs 102 37 [some (zrf r), x1, x2] (zrf r :: st) h Q := R_aldnq rfl rfl
theorem s102_37 (ht : tg a = 9) : Runs 102 37 ls (.ref a :: st) (n, tg, ln, I, J, O) Q ↔ Runs 102 40 ls (zrf (O a 8) :: st) (n, tg, ln, I, J, O) Q := R_getr rfl rfl rfl rfl ht
theorem s102_40 (ht : tg a = 7) : Runs 102 40 ls (.ref a :: st) (n, tg, ln, I, J, O) Q ↔ Runs 102 43 ls (.int (I a 2) :: st) (n, tg, ln, I, J, O) Q := R_geti rfl rfl rfl rfl ht
theorem s102_43 : Runs 102 43 ls st h Q ↔ Runs 102 48 ls st h Q := R_goto rfl rfl
theorem s102_46 : Runs 102 46 ls st h Q ↔ Runs 102 48 ls (.int (-5) :: st) h Q := R_bipush rfl (by decide)
theorem s102_48 : Runs 102 48 ls [.int i] h Q ↔ Q (some (.int i)) h := R_iret rfl rfl
theorem s103_0 : Runs 103 0 [some (.ref a), x1] st h Q ↔ Runs 103 1 [some (.ref a), x1] (.ref a :: st) h Q := R_aldn rfl rfl
theorem s103_0q : Runs 103 0 [some (zrf r), x1] st h Q ↔ Runs 103 1 [some (zrf r), x1] (zrf r :: st) h Q := R_aldnq rfl rfl
theorem s103_1 (ht : tg a = 9) : Runs 103 1 ls (.ref a :: st) (n, tg, ln, I, J, O) Q ↔ Runs 103 4 ls (zrf (O a 8) :: st) (n, tg, ln, I, J, O) Q := R_getr rfl rfl rfl rfl ht
theorem s103_4 (ht : tg a = 7) : Runs 103 4 ls (.ref a :: st) (n, tg, ln, I, J, O) Q ↔ Runs 103 7 ls (.int (I a 2) :: st) (n, tg, ln, I, J, O) Q := R_geti rfl rfl rfl rfl ht
theorem s103_7 : Runs 103 7 [x0, x1] (.int i :: st) h Q ↔ Runs 103 8 [zdrop x0, some (.int i)] st h Q := R_istn rfl rfl rfl
theorem s103_8 : Runs 103 8 [some (.ref a), x1] st h Q ↔ Runs 103 9 [some (.ref a), x1] (.ref a :: st) h Q := R_aldn rfl rfl
theorem s103_8q : Runs 103 8 [some (zrf r), x1] st h Q ↔ Runs 103 9 [some (zrf r), x1] (zrf r :: st) h Q := R_aldnq rfl rfl
theorem s103_9 (ht : tg a = 9) : Runs 103 9 ls (.ref a :: st) (n, tg, ln, I, J, O) Q ↔ Runs 103 12 ls (zrf (O a 8) :: st) (n, tg, ln, I, J, O) Q := R_getr rfl rfl rfl rfl ht
theorem s103_12 (ht : tg a = 7) (hs : zsumc st ≤ 8) : Runs 103 12 ls (.ref a :: st) (n, tg, ln, I, J, O) Q ↔ Runs 72 0 [some (.ref a)] [] (n, tg, ln, I, J, O) (fun v h2 => Runs 103 15 ls (v.toList ++ st) h2 Q) := R_callv (a := a) (rest := st) rfl rfl rfl rfl rfl rfl rfl ht hs
theorem s103_15 : Runs 103 15 [x0, some (.int i)] st h Q ↔ Runs 103 16 [x0, some (.int i)] (.int i :: st) h Q := R_ildn rfl rfl
theorem s103_16 : Runs 103 16 ls [.int i] h Q ↔ Q (some (.int i)) h := R_iret rfl rfl
theorem s104_0 : Runs 104 0 ls st h Q ↔ Runs 104 1 ls (.int 0 :: st) h Q := R_iconst rfl rfl
theorem s104_1 : Runs 104 1 [x0, x1, x2] (.int i :: st) h Q ↔ Runs 104 2 [zdrop x0, some (.int i), x2] st h Q := R_istn rfl rfl rfl
theorem s104_2 : Runs 104 2 ls st h Q ↔ Runs 104 3 ls (.int 0 :: st) h Q := R_iconst rfl rfl
theorem s104_3 : Runs 104 3 [x0, x1, x2] (.int i :: st) h Q ↔ Runs 104 4 [x0, zdrop x1, some (.int i)] st h Q := R_istn rfl rfl rfl
theorem s104_4 : Runs 104 4 [x0, x1, some (.int i)] st h Q ↔ Runs 104 5 [x0, x1, some (.int i)] (.int i :: st) h Q := R_ildn rfl rfl
theorem s104_5 : Runs 104 5 ls st h Q ↔ Runs 104 6 ls (.int 2 :: st) h Q := R_iconst rfl rfl
theorem s104_6 : Runs 104 6 ls (.int j :: .int i :: st) h Q ↔ if j < i then Runs 104 47 ls st h Q else Runs 104 9 ls st h Q := R_icgt rfl rfl
theorem s104_9 : Runs 104 9 [some (.ref a), x1, x2] st h Q ↔ Runs 104 10 [some (.ref a), x1, x2] (.ref a :: st) h Q := R_aldn rfl rfl
theorem s104_9q : Runs 104 9 [some (zrf r), x1, x2] st h Q ↔ Runs 104 10 [some (zrf r), x1, x2] (zrf r :: st) h Q := R_aldnq rfl rfl
theorem s104_10 (ht : tg a = 9) : Runs 104 10 ls (.ref a :: st) (n, tg, ln, I, J, O) Q ↔ Runs 104 13 ls (zrf (O a 2) :: st) (n, tg, ln, I, J, O) Q := R_getr rfl rfl rfl rfl ht
theorem s104_13 : Runs 104 13 [some (.ref a), x1, x2] st h Q ↔ Runs 104 14 [some (.ref a), x1, x2] (.ref a :: st) h Q := R_aldn rfl rfl
theorem s104_13q : Runs 104 13 [some (zrf r), x1, x2] st h Q ↔ Runs 104 14 [some (zrf r), x1, x2] (zrf r :: st) h Q := R_aldnq rfl rfl
theorem s104_14 (ht : tg a = 9) : Runs 104 14 ls (.ref a :: st) (n, tg, ln, I, J, O) Q ↔ Runs 104 17 ls (zrf (O a 0) :: st) (n, tg, ln, I, J, O) Q := R_getr rfl rfl rfl rfl ht
theorem s104_17 (ht : tg a = 5) (hs : zsumc st ≤ 8) : Runs 104 17 ls (.ref b0 :: .ref a :: st) (n, tg, ln, I, J, O) Q ↔ Runs 38 0 [some (.ref a), some (.ref b0)] [] (n, tg, ln, I, J, O) (fun v h2 => Runs 104 20 ls (v.toList ++ st) h2 Q) := R_callv (a := a) (rest := st) rfl rfl rfl rfl rfl rfl rfl ht hs
theorem s104_17q (ht : tg a = 5) (hs : zsumc st ≤ 8) : Runs 104 17 ls (zrf r0 :: .ref a :: st) (n, tg, ln, I, J, O) Q ↔ Runs 38 0 [some (.ref a), some (zrf r0)] [] (n, tg, ln, I, J, O) (fun v h2 => Runs 104 20 ls (v.toList ++ st) h2 Q) := by cases r0 <;> exact R_callv (a := a) (rest := st) rfl rfl rfl rfl rfl rfl rfl ht hs
theorem s104_20 : Runs 104 20 [some (.ref a), x1, x2] st h Q ↔ Runs 104 21 [some (.ref a), x1, x2] (.ref a :: st) h Q := R_aldn rfl rfl
theorem s104_20q : Runs 104 20 [some (zrf r), x1, x2] st h Q ↔ Runs 104 21 [some (zrf r), x1, x2] (zrf r :: st) h Q := R_aldnq rfl rfl
theorem s104_21 (ht : tg a = 9) : Runs 104 21 ls (.ref a :: st) (n, tg, ln, I, J, O) Q ↔ Runs 104 24 ls (zrf (O a 2) :: st) (n, tg, ln, I, J, O) Q := R_getr rfl rfl rfl rfl ht
theorem s104_24 : Runs 104 24 [x0, x1, some (.int i)] st h Q ↔ Runs 104 25 [x0, x1, some (.int i)] (.int i :: st) h Q := R_ildn rfl rfl
theorem s104_25 (ht : tg a = 5) : Runs 104 25 ls (.int i :: .ref a :: st) (n, tg, ln, I, J, O) Q ↔ Runs 104 28 ls st (n, tg, ln, zu I a 6 i, J, O) Q := R_puti rfl rfl rfl rfl rfl rfl ht
theorem s104_28 : Runs 104 28 [some (.ref a), x1, x2] st h Q ↔ Runs 104 29 [some (.ref a), x1, x2] (.ref a :: st) h Q := R_aldn rfl rfl
theorem s104_28q : Runs 104 28 [some (zrf r), x1, x2] st h Q ↔ Runs 104 29 [some (zrf r), x1, x2] (zrf r :: st) h Q := R_aldnq rfl rfl
theorem s104_29 (ht : tg a = 9) (hs : zsumc st ≤ 8) : Runs 104 29 ls (.ref a :: st) (n, tg, ln, I, J, O) Q ↔ Runs 123 0 [some (.ref a), none, none] [] (n, tg, ln, I, J, O) (fun v h2 => Runs 104 32 ls (v.toList ++ st) h2 Q) := R_callv (a := a) (rest := st) rfl rfl rfl rfl rfl rfl rfl ht hs
theorem s104_32 : Runs 104 32 ls (.int i :: st) h Q ↔ if i = 0 then Runs 104 41 ls st h Q else Runs 104 35 ls st h Q := R_ifeq rfl rfl
theorem s104_35 : Runs 104 35 [x0, some (.int i), x2] st h Q ↔ Runs 104 36 [x0, some (.int i), x2] (.int i :: st) h Q := R_ildn rfl rfl
theorem s104_36 : Runs 104 36 ls st h Q ↔ Runs 104 37 ls (.int 1 :: st) h Q := R_iconst rfl rfl
theorem s104_37 : Runs 104 37 [x0, x1, some (.int i)] st h Q ↔ Runs 104 38 [x0, x1, some (.int i)] (.int i :: st) h Q := R_ildn rfl rfl
theorem s104_38 : Runs 104 38 ls (.int j :: .int i :: st) h Q ↔ Runs 104 39 ls (.int (i <<< (j &&& 31)) :: st) h Q := R_ishl rfl
theorem s104_39 : Runs 104 39 ls (.int j :: .int i :: st) h Q ↔ Runs 104 40 ls (.int (i ||| j) :: st) h Q := R_ior rfl
theorem s104_40 : Runs 104 40 [x0, x1, x2] (.int i :: st) h Q ↔ Runs 104 41 [zdrop x0, some (.int i), x2] st h Q := R_istn rfl rfl rfl
theorem s104_41 : Runs 104 41 [x0, x1, some (.int i)] st h Q ↔ Runs 104 44 [x0, zdrop x1, some (.int (i + 1))] st h Q := R_iinc rfl rfl rfl rfl rfl
theorem s104_44 : Runs 104 44 ls st h Q ↔ Runs 104 4 ls st h Q := R_goto rfl rfl
theorem s104_47 : Runs 104 47 [x0, some (.int i), x2] st h Q ↔ Runs 104 48 [x0, some (.int i), x2] (.int i :: st) h Q := R_ildn rfl rfl
theorem s104_48 : Runs 104 48 ls [.int i] h Q ↔ Q (some (.int i)) h := R_iret rfl rfl
theorem s105_0 : Runs 105 0 [some (.ref a), x1, x2, x3] st h Q ↔ Runs 105 1 [some (.ref a), x1, x2, x3] (.ref a :: st) h Q := R_aldn rfl rfl
theorem s105_0q : Runs 105 0 [some (zrf r), x1, x2, x3] st h Q ↔ Runs 105 1 [some (zrf r), x1, x2, x3] (zrf r :: st) h Q := R_aldnq rfl rfl
theorem s105_1 (ht : tg a = 9) : Runs 105 1 ls (.ref a :: st) (n, tg, ln, I, J, O) Q ↔ Runs 105 4 ls (zrf (O a 0) :: st) (n, tg, ln, I, J, O) Q := R_getr rfl rfl rfl rfl ht
theorem s105_4 : Runs 105 4 [x0, some (.int i), x2, x3] st h Q ↔ Runs 105 5 [x0, some (.int i), x2, x3] (.int i :: st) h Q := R_ildn rfl rfl
theorem s105_5 (ht : tg a = 5) (hs : zsumc st ≤ 8) : Runs 105 5 ls (.int i0 :: .ref a :: st) (n, tg, ln, I, J, O) Q ↔ Runs 39 0 [some (.ref a), some (.int i0)] [] (n, tg, ln, I, J, O) (fun v h2 => Runs 105 8 ls (v.toList ++ st) h2 Q) := R_callv (a := a) (rest := st) rfl rfl rfl rfl rfl rfl rfl ht hs
theorem s105_8 : Runs 105 8 ls (.int i :: st) h Q ↔ if ¬ i = 0 then Runs 105 14 ls st h Q else Runs 105 11 ls st h Q := R_ifne rfl rfl
theorem s105_11 : Runs 105 11 ls st h Q ↔ Runs 105 13 ls (.int (-2) :: st) h Q := R_bipush rfl (by decide)
theorem s105_13 : Runs 105 13 ls [.int i] h Q ↔ Q (some (.int i)) h := R_iret rfl rfl
theorem s105_14 : Runs 105 14 [some (.ref a), x1, x2, x3] st h Q ↔ Runs 105 15 [some (.ref a), x1, x2, x3] (.ref a :: st) h Q := R_aldn rfl rfl
theorem s105_14q : Runs 105 14 [some (zrf r), x1, x2, x3] st h Q ↔ Runs 105 15 [some (zrf r), x1, x2, x3] (zrf r :: st) h Q := R_aldnq rfl rfl
theorem s105_15 (ht : tg a = 9) : Runs 105 15 ls (.ref a :: st) (n, tg, ln, I, J, O) Q ↔ Runs 105 18 ls (zrf (O a 0) :: st) (n, tg, ln, I, J, O) Q := R_getr rfl rfl rfl rfl ht
theorem s105_18 : Runs 105 18 [x0, some (.int i), x2, x3] st h Q ↔ Runs 105 19 [x0, some (.int i), x2, x3] (.int i :: st) h Q := R_ildn rfl rfl
theorem s105_19 (ht : tg a = 5) (hs : zsumc st ≤ 8) : Runs 105 19 ls (.int i0 :: .ref a :: st) (n, tg, ln, I, J, O) Q ↔ Runs 40 0 [some (.ref a), some (.int i0)] [] (n, tg, ln, I, J, O) (fun v h2 => Runs 105 22 ls (v.toList ++ st) h2 Q) := R_callv (a := a) (rest := st) rfl rfl rfl rfl rfl rfl rfl ht hs
theorem s105_22 : Runs 105 22 ls (.int i :: st) h Q ↔ if ¬ i = 0 then Runs 105 28 ls st h Q else Runs 105 25 ls st h Q := R_ifne rfl rfl
theorem s105_25 : Runs 105 25 ls st h Q ↔ Runs 105 27 ls (.int (-4) :: st) h Q := R_bipush rfl (by decide)
theorem s105_27 : Runs 105 27 ls [.int i] h Q ↔ Q (some (.int i)) h := R_iret rfl rfl
theorem s105_28 : Runs 105 28 ls st h Q ↔ Runs 105 29 ls (.int 0 :: st) h Q := R_iconst rfl rfl
theorem s105_29 : Runs 105 29 [x0, x1, x2, x3] (.int i :: st) h Q ↔ Runs 105 30 [x0, zdrop x1, some (.int i), x3] st h Q := R_istn rfl rfl rfl
theorem s105_30 : Runs 105 30 ls st h Q ↔ Runs 105 31 ls (.int 0 :: st) h Q := R_iconst rfl rfl
theorem s105_31 : Runs 105 31 [x0, x1, x2, x3] (.int i :: st) h Q ↔ Runs 105 32 [x0, x1, zdrop x2, some (.int i)] st h Q := R_istn rfl rfl rfl
theorem s105_32 : Runs 105 32 [x0, x1, x2, some (.int i)] st h Q ↔ Runs 105 33 [x0, x1, x2, some (.int i)] (.int i :: st) h Q := R_ildn rfl rfl
theorem s105_33 : Runs 105 33 ls st h Q ↔ Runs 105 34 ls (.int 4 :: st) h Q := R_iconst rfl rfl
theorem s105_34 : Runs 105 34 ls (.int j :: .int i :: st) h Q ↔ if j < i then Runs 105 77 ls st h Q else Runs 105 37 ls st h Q := R_icgt rfl rfl
theorem s105_37 : Runs 105 37 [some (.ref a), x1, x2, x3] st h Q ↔ Runs 105 38 [some (.ref a), x1, x2, x3] (.ref a :: st) h Q := R_aldn rfl rfl
theorem s105_37q : Runs 105 37 [some (zrf r), x1, x2, x3] st h Q ↔ Runs 105 38 [some (zrf r), x1, x2, x3] (zrf r :: st) h Q := R_aldnq rfl rfl
theorem s105_38 (ht : tg a = 9) : Runs 105 38 ls (.ref a :: st) (n, tg, ln, I, J, O) Q ↔ Runs 105 41 ls (zrf (O a 2) :: st) (n, tg, ln, I, J, O) Q := R_getr rfl rfl rfl rfl ht
theorem s105_41 : Runs 105 41 [some (.ref a), x1, x2, x3] st h Q ↔ Runs 105 42 [some (.ref a), x1, x2, x3] (.ref a :: st) h Q := R_aldn rfl rfl
theorem s105_41q : Runs 105 41 [some (zrf r), x1, x2, x3] st h Q ↔ Runs 105 42 [some (zrf r), x1, x2, x3] (zrf r :: st) h Q := R_aldnq rfl rfl
theorem s105_42 (ht : tg a = 9) : Runs 105 42 ls (.ref a :: st) (n, tg, ln, I, J, O) Q ↔ Runs 105 45 ls (zrf (O a 0) :: st) (n, tg, ln, I, J, O) Q := R_getr rfl rfl rfl rfl ht
theorem s105_45 (ht : tg a = 5) (hs : zsumc st ≤ 8) : Runs 105 45 ls (.ref b0 :: .ref a :: st) (n, tg, ln, I, J, O) Q ↔ Runs 38 0 [some (.ref a), some (.ref b0)] [] (n, tg, ln, I, J, O) (fun v h2 => Runs 105 48 ls (v.toList ++ st) h2 Q) := R_callv (a := a) (rest := st) rfl rfl rfl rfl rfl rfl rfl ht hs
theorem s105_45q (ht : tg a = 5) (hs : zsumc st ≤ 8) : Runs 105 45 ls (zrf r0 :: .ref a :: st) (n, tg, ln, I, J, O) Q ↔ Runs 38 0 [some (.ref a), some (zrf r0)] [] (n, tg, ln, I, J, O) (fun v h2 => Runs 105 48 ls (v.toList ++ st) h2 Q) := by cases r0 <;> exact R_callv (a := a) (rest := st) rfl rfl rfl rfl rfl rfl rfl ht hs
theorem s105_48 : Runs 105 48 [some (.ref a), x1, x2, x3] st h Q ↔ Runs 105 49 [some (.ref a), x1, x2, x3] (.ref a :: st) h Q := R_aldn rfl rfl
theorem s105_48q : Runs 105 48 [some (zrf r), x1, x2, x3] st h Q ↔ Runs 105 49 [some (zrf r), x1, x2, x3] (zrf r :: st) h Q := R_aldnq rfl rfl
theorem s105_49 (ht : tg a = 9) : Runs 105 49 ls (.ref a :: st) (n, tg, ln, I, J, O) Q ↔ Runs 105 52 ls (zrf (O a 2) :: st) (n, tg, ln, I, J, O) Q := R_getr rfl rfl rfl rfl ht
theorem s105_52 (ht : tg a = 5) : Runs 105 52 ls (.ref a :: st) (n, tg, ln, I, J, O) Q ↔ Runs 105 55 ls (zrf (O a 0) :: st) (n, tg, ln, I, J, O) Q := R_getr rfl rfl rfl rfl ht
theorem s105_55 : Runs 105 55 [x0, some (.int i), x2, x3] st h Q ↔ Runs 105 56 [x0, some (.int i), x2, x3] (.int i :: st) h Q := R_ildn rfl rfl
theorem s105_56 : Runs 105 56 [x0, x1, x2, some (.int i)] st h Q ↔ Runs 105 57 [x0, x1, x2, some (.int i)] (.int i :: st) h Q := R_ildn rfl rfl
theorem s105_57 (ht : tg a = 20) : Runs 105 57 ls (.int j :: .int i :: .ref a :: st) (n, tg, ln, I, J, O) Q ↔ ((0 ≤ i ∧ i < Int32.ofNat (ln a)) ∧ Runs 105 58 ls st (n, tg, ln, zu I a i j, J, O) Q) := R_iast rfl ht
theorem s105_58 : Runs 105 58 [some (.ref a), x1, x2, x3] st h Q ↔ Runs 105 59 [some (.ref a), x1, x2, x3] (.ref a :: st) h Q := R_aldn rfl rfl
theorem s105_58q : Runs 105 58 [some (zrf r), x1, x2, x3] st h Q ↔ Runs 105 59 [some (zrf r), x1, x2, x3] (zrf r :: st) h Q := R_aldnq rfl rfl
theorem s105_59 (ht : tg a = 9) (hs : zsumc st ≤ 8) : Runs 105 59 ls (.ref a :: st) (n, tg, ln, I, J, O) Q ↔ Runs 123 0 [some (.ref a), none, none] [] (n, tg, ln, I, J, O) (fun v h2 => Runs 105 62 ls (v.toList ++ st) h2 Q) := R_callv (a := a) (rest := st) rfl rfl rfl rfl rfl rfl rfl ht hs
theorem s105_62 : Runs 105 62 ls (.int i :: st) h Q ↔ if i = 0 then Runs 105 71 ls st h Q else Runs 105 65 ls st h Q := R_ifeq rfl rfl
theorem s105_65 : Runs 105 65 [x0, x1, some (.int i), x3] st h Q ↔ Runs 105 66 [x0, x1, some (.int i), x3] (.int i :: st) h Q := R_ildn rfl rfl
theorem s105_66 : Runs 105 66 ls st h Q ↔ Runs 105 67 ls (.int 1 :: st) h Q := R_iconst rfl rfl
theorem s105_67 : Runs 105 67 [x0, x1, x2, some (.int i)] st h Q ↔ Runs 105 68 [x0, x1, x2, some (.int i)] (.int i :: st) h Q := R_ildn rfl rfl
theorem s105_68 : Runs 105 68 ls (.int j :: .int i :: st) h Q ↔ Runs 105 69 ls (.int (i <<< (j &&& 31)) :: st) h Q := R_ishl rfl
theorem s105_69 : Runs 105 69 ls (.int j :: .int i :: st) h Q ↔ Runs 105 70 ls (.int (i ||| j) :: st) h Q := R_ior rfl
theorem s105_70 : Runs 105 70 [x0, x1, x2, x3] (.int i :: st) h Q ↔ Runs 105 71 [x0, zdrop x1, some (.int i), x3] st h Q := R_istn rfl rfl rfl
theorem s105_71 : Runs 105 71 [x0, x1, x2, some (.int i)] st h Q ↔ Runs 105 74 [x0, x1, zdrop x2, some (.int (i + 1))] st h Q := R_iinc rfl rfl rfl rfl rfl
theorem s105_74 : Runs 105 74 ls st h Q ↔ Runs 105 32 ls st h Q := R_goto rfl rfl
theorem s105_77 : Runs 105 77 [x0, x1, some (.int i), x3] st h Q ↔ Runs 105 78 [x0, x1, some (.int i), x3] (.int i :: st) h Q := R_ildn rfl rfl
theorem s105_78 : Runs 105 78 ls [.int i] h Q ↔ Q (some (.int i)) h := R_iret rfl rfl
theorem s106_0 : Runs 106 0 [x0, some (.int i), x2, x3, x4, x5, x6, x7, x8, x9, x10] st h Q ↔ Runs 106 1 [x0, some (.int i), x2, x3, x4, x5, x6, x7, x8, x9, x10] (.int i :: st) h Q := R_ildn rfl rfl
theorem s106_1 : Runs 106 1 ls (.int i :: st) h Q ↔ if i < 0 then Runs 106 30 ls st h Q else Runs 106 4 ls st h Q := R_iflt rfl rfl
theorem s106_4 : Runs 106 4 [x0, some (.int i), x2, x3, x4, x5, x6, x7, x8, x9, x10] st h Q ↔ Runs 106 5 [x0, some (.int i), x2, x3, x4, x5, x6, x7, x8, x9, x10] (.int i :: st) h Q := R_ildn rfl rfl
theorem s106_5 : Runs 106 5 ls st h Q ↔ Runs 106 7 ls (.int 9 :: st) h Q := R_bipush rfl (by decide)
theorem s106_7 : Runs 106 7 ls (.int j :: .int i :: st) h Q ↔ if j < i then Runs 106 30 ls st h Q else Runs 106 10 ls st h Q := R_icgt rfl rfl
theorem s106_10 : Runs 106 10 [x0, x1, some (.int i), x3, x4, x5, x6, x7, x8, x9, x10] st h Q ↔ Runs 106 11 [x0, x1, some (.int i), x3, x4, x5, x6, x7, x8, x9, x10] (.int i :: st) h Q := R_ildn rfl rfl
theorem s106_11 : Runs 106 11 ls (.int i :: st) h Q ↔ if i < 0 then Runs 106 30 ls st h Q else Runs 106 14 ls st h Q := R_iflt rfl rfl
theorem s106_14 : Runs 106 14 [x0, x1, some (.int i), x3, x4, x5, x6, x7, x8, x9, x10] st h Q ↔ Runs 106 15 [x0, x1, some (.int i), x3, x4, x5, x6, x7, x8, x9, x10] (.int i :: st) h Q := R_ildn rfl rfl
theorem s106_15 : Runs 106 15 ls st h Q ↔ Runs 106 17 ls (.int 10 :: st) h Q := R_bipush rfl (by decide)
theorem s106_17 : Runs 106 17 ls (.int j :: .int i :: st) h Q ↔ if j < i then Runs 106 30 ls st h Q else Runs 106 20 ls st h Q := R_icgt rfl rfl
theorem s106_20 : Runs 106 20 [x0, x1, x2, some (.int i), x4, x5, x6, x7, x8, x9, x10] st h Q ↔ Runs 106 21 [x0, x1, x2, some (.int i), x4, x5, x6, x7, x8, x9, x10] (.int i :: st) h Q := R_ildn rfl rfl
theorem s106_21 : Runs 106 21 ls (.int i :: st) h Q ↔ if i < 0 then Runs 106 30 ls st h Q else Runs 106 24 ls st h Q := R_iflt rfl rfl
theorem s106_24 : Runs 106 24 [x0, x1, x2, some (.int i), x4, x5, x6, x7, x8, x9, x10] st h Q ↔ Runs 106 25 [x0, x1, x2, some (.int i), x4, x5, x6, x7, x8, x9, x10] (.int i :: st) h Q := R_ildn rfl rfl
theorem s106_25 : Runs 106 25 ls st h Q ↔ Runs 106 27 ls (.int 9 :: st) h Q := R_bipush rfl (by decide)
theorem s106_27 : Runs 106 27 ls (.int j :: .int i :: st) h Q ↔ if i ≤ j then Runs 106 33 ls st h Q else Runs 106 30 ls st h Q := R_icle rfl rfl
theorem s106_30 : Runs 106 30 ls st h Q ↔ Runs 106 32 ls (.int (-3) :: st) h Q := R_bipush rfl (by decide)
theorem s106_32 : Runs 106 32 ls [.int i] h Q ↔ Q (some (.int i)) h := R_iret rfl rfl
theorem s106_33 : Runs 106 33 [x0, x1, x2, x3, some (.int i), x5, x6, x7, x8, x9, x10] st h Q ↔ Runs 106 35 [x0, x1, x2, x3, some (.int i), x5, x6, x7, x8, x9, x10] (.int i :: st) h Q := R_ild rfl rfl
theorem s106_35 : Runs 106 35 ls (.int i :: st) h Q ↔ if i < 0 then Runs 106 44 ls st h Q else Runs 106 38 ls st h Q := R_iflt rfl rfl
theorem s106_38 : Runs 106 38 [x0, x1, x2, x3, some (.int i), x5, x6, x7, x8, x9, x10] st h Q ↔ Runs 106 40 [x0, x1, x2, x3, some (.int i), x5, x6, x7, x8, x9, x10] (.int i :: st) h Q := R_ild rfl rfl
theorem s106_40 : Runs 106 40 ls st h Q ↔ Runs 106 41 ls (.int 1 :: st) h Q := R_iconst rfl rfl
theorem s106_41 : Runs 106 41 ls (.int j :: .int i :: st) h Q ↔ if i ≤ j then Runs 106 47 ls st h Q else Runs 106 44 ls st h Q := R_icle rfl rfl
theorem s106_44 : Runs 106 44 ls st h Q ↔ Runs 106 46 ls (.int (-3) :: st) h Q := R_bipush rfl (by decide)
theorem s106_46 : Runs 106 46 ls [.int i] h Q ↔ Q (some (.int i)) h := R_iret rfl rfl
theorem s106_47 : Runs 106 47 [x0, x1, x2, some (.int i), x4, x5, x6, x7, x8, x9, x10] st h Q ↔ Runs 106 48 [x0, x1, x2, some (.int i), x4, x5, x6, x7, x8, x9, x10] (.int i :: st) h Q := R_ildn rfl rfl
theorem s106_48 : Runs 106 48 [x0, some (.int i), x2, x3, x4, x5, x6, x7, x8, x9, x10] st h Q ↔ Runs 106 49 [x0, some (.int i), x2, x3, x4, x5, x6, x7, x8, x9, x10] (.int i :: st) h Q := R_ildn rfl rfl
theorem s106_49 : Runs 106 49 [x0, x1, some (.int i), x3, x4, x5, x6, x7, x8, x9, x10] st h Q ↔ Runs 106 50 [x0, x1, some (.int i), x3, x4, x5, x6, x7, x8, x9, x10] (.int i :: st) h Q := R_ildn rfl rfl
theorem s106_50 : Runs 106 50 ls st h Q ↔ Runs 106 52 ls (.int 10 :: st) h Q := R_bipush rfl (by decide)
theorem s106_52 : Runs 106 52 [x0, x1, some (.int i), x3, x4, x5, x6, x7, x8, x9, x10] st h Q ↔ Runs 106 53 [x0, x1, some (.int i), x3, x4, x5, x6, x7, x8, x9, x10] (.int i :: st) h Q := R_ildn rfl rfl
theorem s106_53 : Runs 106 53 ls (.int j :: .int i :: st) h Q ↔ Runs 106 54 ls (.int (i - j) :: st) h Q := R_isub rfl
theorem s106_54 (hs : zsumc st ≤ 8) : Runs 106 54 ls (.int i3 :: .int i2 :: .int i1 :: .int i0 :: st) h Q ↔ Runs 32 0 [some (.int i0), some (.int i1), some (.int i2), some (.int i3), none, none, none] [] h (fun v h2 => Runs 106 57 ls (v.toList ++ st) h2 Q) := R_calls (rest := st) rfl rfl rfl (by simp) rfl rfl rfl rfl hs
theorem s106_57 : Runs 106 57 [x0, x1, x2, x3, x4, x5, x6, x7, x8, x9, x10] (.long u :: st) h Q ↔ Runs 106 59 [x0, x1, x2, x3, zdrop x4, some (.long u), none, x7, x8, x9, x10] st h Q := R_lst rfl rfl rfl
theorem s106_59 : Runs 106 59 ls st h Q ↔ Runs 106 62 ls (.long 10 :: st) h Q := R_ldc2 rfl rfl
theorem s106_62 : Runs 106 62 [x0, some (.int i), x2, x3, x4, x5, x6, x7, x8, x9, x10] st h Q ↔ Runs 106 63 [x0, some (.int i), x2, x3, x4, x5, x6, x7, x8, x9, x10] (.int i :: st) h Q := R_ildn rfl rfl
theorem s106_63 (hs : zsumc st ≤ 8) : Runs 106 63 ls (.int i1 :: .long u0 :: st) h Q ↔ Runs 33 0 [some (.long u0), none, some (.int i1), none, none, none] [] h (fun v h2 => Runs 106 66 ls (v.toList ++ st) h2 Q) := R_calls (rest := st) rfl rfl rfl (by simp) rfl rfl rfl rfl hs
theorem s106_66 : Runs 106 66 [x0, x1, x2, x3, x4, x5, x6, x7, x8, x9, x10] (.long u :: st) h Q ↔ Runs 106 68 [x0, x1, x2, x3, x4, x5, zdrop x6, some (.long u), none, x9, x10] st h Q := R_lst rfl rfl rfl
theorem s106_68 : Runs 106 68 [x0, x1, x2, x3, x4, some (.long u), x6, x7, x8, x9, x10] st h Q ↔ Runs 106 70 [x0, x1, x2, x3, x4, some (.long u), x6, x7, x8, x9, x10] (.long u :: st) h Q := R_lld rfl rfl
theorem s106_70 : Runs 106 70 [x0, x1, x2, x3, x4, x5, x6, some (.long u), x8, x9, x10] st h Q ↔ Runs 106 72 [x0, x1, x2, x3, x4, x5, x6, some (.long u), x8, x9, x10] (.long u :: st) h Q := R_lld rfl rfl
theorem s106_72 (hs : zsumc st ≤ 8) : Runs 106 72 ls (.long u1 :: .long u0 :: st) h Q ↔ Runs 34 0 [some (.long u0), none, some (.long u1), none, none, none, none, none, none, none, none] [] h (fun v h2 => Runs 106 75 ls (v.toList ++ st) h2 Q) := R_calls (rest := st) rfl rfl rfl (by simp) rfl rfl rfl rfl hs
theorem s106_75 : Runs 106 75 [x0, x1, x2, x3, x4, x5, x6, x7, x8, x9, x10] (.long u :: st) h Q ↔ Runs 106 77 [x0, x1, x2, x3, x4, x5, x6, x7, zdrop x8, some (.long u), none] st h Q := R_lst rfl rfl rfl
theorem s106_77 : Runs 106 77 [x0, x1, x2, x3, x4, x5, x6, x7, x8, some (.long u), x10] st h Q ↔ Runs 106 79 [x0, x1, x2, x3, x4, x5, x6, x7, x8, some (.long u), x10] (.long u :: st) h Q := R_lld rfl rfl
theorem s106_79 : Runs 106 79 ls st h Q ↔ Runs 106 80 ls (.long 1 :: st) h Q := R_lconst rfl rfl
theorem s106_80 : Runs 106 80 ls (.long w :: .long u :: st) h Q ↔ Runs 106 81 ls (.int (lg_cmp u w) :: st) h Q := R_lcmp rfl
theorem s106_81 : Runs 106 81 ls (.int i :: st) h Q ↔ if 0 ≤ i then Runs 106 86 ls st h Q else Runs 106 84 ls st h Q := R_ifge rfl rfl
theorem s106_84 : Runs 106 84 ls st h Q ↔ Runs 106 85 ls (.int (-1) :: st) h Q := R_iconst rfl rfl
theorem s106_85 : Runs 106 85 ls [.int i] h Q ↔ Q (some (.int i)) h := R_iret rfl rfl
theorem s106_86 : Runs 106 86 [x0, x1, x2, x3, some (.int i), x5, x6, x7, x8, x9, x10] st h Q ↔ Runs 106 88 [x0, x1, x2, x3, some (.int i), x5, x6, x7, x8, x9, x10] (.int i :: st) h Q := R_ild rfl rfl
theorem s106_88 : Runs 106 88 ls (.int i :: st) h Q ↔ if ¬ i = 0 then Runs 106 96 ls st h Q else Runs 106 91 ls st h Q := R_ifne rfl rfl
theorem s106_91 : Runs 106 91 [x0, x1, x2, x3, x4, some (.long u), x6, x7, x8, x9, x10] st h Q ↔ Runs 106 93 [x0, x1, x2, x3, x4, some (.long u), x6, x7, x8, x9, x10] (.long u :: st) h Q := R_lld rfl rfl
theorem s106_93 : Runs 106 93 ls st h Q ↔ Runs 106 98 ls st h Q := R_goto rfl rfl
theorem s106_96 : Runs 106 96 [x0, x1, x2, x3, x4, x5, x6, some (.long u), x8, x9, x10] st h Q ↔ Runs 106 98 [x0, x1, x2, x3, x4, x5, x6, some (.long u), x8, x9, x10] (.long u :: st) h Q := R_lld rfl rfl
theorem s106_98 : Runs 106 98 [x0, x1, x2, x3, x4, x5, x6, x7, x8, some (.long u), x10] st h Q ↔ Runs 106 100 [x0, x1, x2, x3, x4, x5, x6, x7, x8, some (.long u), x10] (.long u :: st) h Q := R_lld rfl rfl
theorem s106_100 : Runs 106 100 ls (.long w :: .long u :: st) h Q ↔ (¬ w = 0 ∧ Runs 106 101 ls (.long (u / w) :: st) h Q) := R_ldiv rfl
theorem s106_101 : Runs 106 101 ls (.long u :: st) h Q ↔ Runs 106 102 ls (.int u.toInt32 :: st) h Q := R_l2i rfl
theorem s106_102 : Runs 106 102 ls [.int i] h Q ↔ Q (some (.int i)) h := R_iret rfl rfl
theorem s107_0 : Runs 107 0 [x0, some (.int i), x2] st h Q ↔ Runs 107 1 [x0, some (.int i), x2] (.int i :: st) h Q := R_ildn rfl rfl
theorem s107_1 (hs : zsumc st ≤ 8) : Runs 107 1 ls (.int i0 :: st) h Q ↔ Runs 117 0 [some (.int i0)] [] h (fun v h2 => Runs 107 4 ls (v.toList ++ st) h2 Q) := R_calls (rest := st) rfl rfl rfl (by simp) rfl rfl rfl rfl hs
theorem s107_4 : Runs 107 4 ls (.int i :: st) h Q ↔ if ¬ i = 0 then Runs 107 10 ls st h Q else Runs 107 7 ls st h Q := R_ifne rfl rfl
theorem s107_7 : Runs 107 7 ls st h Q ↔ Runs 107 9 ls (.int (-2) :: st) h Q := R_bipush rfl (by decide)
theorem s107_9 : Runs 107 9 ls [.int i] h Q ↔ Q (some (.int i)) h := R_iret rfl rfl
theorem s107_10 : Runs 107 10 [x0, x1, some (.int i)] st h Q ↔ Runs 107 11 [x0, x1, some (.int i)] (.int i :: st) h Q := R_ildn rfl rfl
theorem s107_11 : Runs 107 11 ls st h Q ↔ Runs 107 13 ls (.int 12 :: st) h Q := R_bipush rfl (by decide)
theorem s107_13 : Runs 107 13 ls (.int j :: .int i :: st) h Q ↔ if i ≤ j then Runs 107 19 ls st h Q else Runs 107 16 ls st h Q := R_icle rfl rfl
theorem s107_16 : Runs 107 16 ls st h Q ↔ Runs 107 18 ls (.int (-3) :: st) h Q := R_bipush rfl (by decide)
theorem s107_18 : Runs 107 18 ls [.int i] h Q ↔ Q (some (.int i)) h := R_iret rfl rfl
theorem s107_19 : Runs 107 19 [x0, x1, some (.int i)] st h Q ↔ Runs 107 20 [x0, x1, some (.int i)] (.int i :: st) h Q := R_ildn rfl rfl
theorem s107_20 : Runs 107 20 ls (.int i :: st) h Q ↔ if 0 ≤ i then Runs 107 26 ls st h Q else Runs 107 23 ls st h Q := R_ifge rfl rfl
theorem s107_23 : Runs 107 23 ls st h Q ↔ Runs 107 25 ls (.int (-15) :: st) h Q := R_bipush rfl (by decide)
theorem s107_25 : Runs 107 25 ls [.int i] h Q ↔ Q (some (.int i)) h := R_iret rfl rfl
theorem s107_26 : Runs 107 26 [some (.ref a), x1, x2] st h Q ↔ Runs 107 27 [some (.ref a), x1, x2] (.ref a :: st) h Q := R_aldn rfl rfl
theorem s107_26q : Runs 107 26 [some (zrf r), x1, x2] st h Q ↔ Runs 107 27 [some (zrf r), x1, x2] (zrf r :: st) h Q := R_aldnq rfl rfl
theorem s107_27 (ht : tg a = 9) : Runs 107 27 ls (.ref a :: st) (n, tg, ln, I, J, O) Q ↔ Runs 107 30 ls (zrf (O a 9) :: st) (n, tg, ln, I, J, O) Q := R_getr rfl rfl rfl rfl ht
theorem s107_30 : Runs 107 30 [x0, some (.int i), x2] st h Q ↔ Runs 107 31 [x0, some (.int i), x2] (.int i :: st) h Q := R_ildn rfl rfl
theorem s107_31 (ht : tg a = 23) : Runs 107 31 ls (.int i :: .ref a :: st) (n, tg, ln, I, J, O) Q ↔ ((0 ≤ i ∧ i < Int32.ofNat (ln a)) ∧ Runs 107 32 ls (zrf (O a i) :: st) (n, tg, ln, I, J, O) Q) := R_aald rfl ht (by decide)
theorem s107_31q (ht : tg a = 24) : Runs 107 31 ls (.int i :: .ref a :: st) (n, tg, ln, I, J, O) Q ↔ ((0 ≤ i ∧ i < Int32.ofNat (ln a)) ∧ Runs 107 32 ls (zrf (O a i) :: st) (n, tg, ln, I, J, O) Q) := R_aald rfl ht (by decide)
theorem s107_31p (ht : tg a = 25) : Runs 107 31 ls (.int i :: .ref a :: st) (n, tg, ln, I, J, O) Q ↔ ((0 ≤ i ∧ i < Int32.ofNat (ln a)) ∧ Runs 107 32 ls (zrf (O a i) :: st) (n, tg, ln, I, J, O) Q) := R_aald rfl ht (by decide)
theorem s107_32 : Runs 107 32 [x0, x1, some (.int i)] st h Q ↔ Runs 107 33 [x0, x1, some (.int i)] (.int i :: st) h Q := R_ildn rfl rfl
theorem s107_33 (ht : tg a = 1) (hs : zsumc st ≤ 8) : Runs 107 33 ls (.int i0 :: .ref a :: st) (n, tg, ln, I, J, O) Q ↔ Runs 3 0 [some (.ref a), some (.int i0), none] [] (n, tg, ln, I, J, O) (fun v h2 => Runs 107 36 ls (v.toList ++ st) h2 Q) := R_callv (a := a) (rest := st) rfl rfl rfl rfl rfl rfl rfl ht hs
theorem s107_36 : Runs 107 36 [x0, x1, some (.int i)] st h Q ↔ Runs 107 37 [x0, x1, some (.int i)] (.int i :: st) h Q := R_ildn rfl rfl
theorem s107_37 : Runs 107 37 ls [.int i] h Q ↔ Q (some (.int i)) h := R_iret rfl rfl
theorem s108_0 : Runs 108 0 [x0, some (.int i), x2, x3, x4, x5, x6] st h Q ↔ Runs 108 1 [x0, some (.int i), x2, x3, x4, x5, x6] (.int i :: st) h Q := R_ildn rfl rfl
theorem s108_1 (hs : zsumc st ≤ 8) : Runs 108 1 ls (.int i0 :: st) h Q ↔ Runs 117 0 [some (.int i0)] [] h (fun v h2 => Runs 108 4 ls (v.toList ++ st) h2 Q) := R_calls (rest := st) rfl rfl rfl (by simp) rfl rfl rfl rfl hs
theorem s108_4 : Runs 108 4 ls (.int i :: st) h Q ↔ if i = 0 then Runs 108 33 ls st h Q else Runs 108 7 ls st h Q := R_ifeq rfl rfl
theorem s108_7 : Runs 108 7 [x0, x1, x2, some (.int i), x4, x5, x6] st h Q ↔ Runs 108 8 [x0, x1, x2, some (.int i), x4, x5, x6] (.int i :: st) h Q := R_ildn rfl rfl
theorem s108_8 : Runs 108 8 ls st h Q ↔ Runs 108 9 ls (.int 1 :: st) h Q := R_iconst rfl rfl
theorem s108_9 : Runs 108 9 ls (.int j :: .int i :: st) h Q ↔ if ¬ i = j then Runs 108 36 ls st h Q else Runs 108 12 ls st h Q := R_icne rfl rfl
theorem s108_12 : Runs 108 12 [x0, x1, x2, x3, some (.long u), x5, x6] st h Q ↔ Runs 108 14 [x0, x1, x2, x3, some (.long u), x5, x6] (.long u :: st) h Q := R_lld rfl rfl
theorem s108_14 : Runs 108 14 ls st h Q ↔ Runs 108 15 ls (.long 0 :: st) h Q := R_lconst rfl rfl
theorem s108_15 : Runs 108 15 ls (.long w :: .long u :: st) h Q ↔ Runs 108 16 ls (.int (lg_cmp u w) :: st) h Q := R_lcmp rfl
theorem s108_16 : Runs 108 16 ls (.int i :: st) h Q ↔ if i < 0 then Runs 108 33 ls st h Q else Runs 108 19 ls st h Q := R_iflt rfl rfl
theorem s108_19 : Runs 108 19 [x0, x1, x2, x3, some (.long u), x5, x6] st h Q ↔ Runs 108 21 [x0, x1, x2, x3, some (.long u), x5, x6] (.long u :: st) h Q := R_lld rfl rfl
theorem s108_21 : Runs 108 21 [some (.ref a), x1, x2, x3, x4, x5, x6] st h Q ↔ Runs 108 22 [some (.ref a), x1, x2, x3, x4, x5, x6] (.ref a :: st) h Q := R_aldn rfl rfl
theorem s108_21q : Runs 108 21 [some (zrf r), x1, x2, x3, x4, x5, x6] st h Q ↔ Runs 108 22 [some (zrf r), x1, x2, x3, x4, x5, x6] (zrf r :: st) h Q := R_aldnq rfl rfl
theorem s108_22 (ht : tg a = 9) : Runs 108 22 ls (.ref a :: st) (n, tg, ln, I, J, O) Q ↔ Runs 108 25 ls (zrf (O a 0) :: st) (n, tg, ln, I, J, O) Q := R_getr rfl rfl rfl rfl ht
theorem s108_25 (ht : tg a = 5) : Runs 108 25 ls (.ref a :: st) (n, tg, ln, I, J, O) Q ↔ Runs 108 28 ls (.int (I a 5) :: st) (n, tg, ln, I, J, O) Q := R_geti rfl rfl rfl rfl ht
theorem s108_28 : Runs 108 28 ls (.int i :: st) h Q ↔ Runs 108 29 ls (.long i.toInt64 :: st) h Q := R_i2l rfl
theorem s108_29 : Runs 108 29 ls (.long w :: .long u :: st) h Q ↔ Runs 108 30 ls (.int (lg_cmp u w) :: st) h Q := R_lcmp rfl
theorem s108_30 : Runs 108 30 ls (.int i :: st) h Q ↔ if i < 0 then Runs 108 36 ls st h Q else Runs 108 33 ls st h Q := R_iflt rfl rfl
theorem s108_33 : Runs 108 33 ls st h Q ↔ Runs 108 35 ls (.int (-2) :: st) h Q := R_bipush rfl (by decide)
theorem s108_35 : Runs 108 35 ls [.int i] h Q ↔ Q (some (.int i)) h := R_iret rfl rfl
theorem s108_36 : Runs 108 36 [x0, x1, x2, some (.int i), x4, x5, x6] st h Q ↔ Runs 108 37 [x0, x1, x2, some (.int i), x4, x5, x6] (.int i :: st) h Q := R_ildn rfl rfl
theorem s108_37 : Runs 108 37 ls (.int i :: st) h Q ↔ if i < 0 then Runs 108 45 ls st h Q else Runs 108 40 ls st h Q := R_iflt rfl rfl
theorem s108_40 : Runs 108 40 [x0, x1, x2, some (.int i), x4, x5, x6] st h Q ↔ Runs 108 41 [x0, x1, x2, some (.int i), x4, x5, x6] (.int i :: st) h Q := R_ildn rfl rfl
theorem s108_41 : Runs 108 41 ls st h Q ↔ Runs 108 42 ls (.int 2 :: st) h Q := R_iconst rfl rfl
theorem s108_42 : Runs 108 42 ls (.int j :: .int i :: st) h Q ↔ if i ≤ j then Runs 108 48 ls st h Q else Runs 108 45 ls st h Q := R_icle rfl rfl
theorem s108_45 : Runs 108 45 ls st h Q ↔ Runs 108 47 ls (.int (-3) :: st) h Q := R_bipush rfl (by decide)
theorem s108_47 : Runs 108 47 ls [.int i] h Q ↔ Q (some (.int i)) h := R_iret rfl rfl
theorem s108_48 : Runs 108 48 [some (.ref a), x1, x2, x3, x4, x5, x6] st h Q ↔ Runs 108 49 [some (.ref a), x1, x2, x3, x4, x5, x6] (.ref a :: st) h Q := R_aldn rfl rfl
theorem s108_48q : Runs 108 48 [some (zrf r), x1, x2, x3, x4, x5, x6] st h Q ↔ Runs 108 49 [some (zrf r), x1, x2, x3, x4, x5, x6] (zrf r :: st) h Q := R_aldnq rfl rfl
theorem s108_49 (ht : tg a = 9) : Runs 108 49 ls (.ref a :: st) (n, tg, ln, I, J, O) Q ↔ Runs 108 52 ls (zrf (O a 9) :: st) (n, tg, ln, I, J, O) Q := R_getr rfl rfl rfl rfl ht
theorem s108_52 : Runs 108 52 [x0, some (.int i), x2, x3, x4, x5, x6] st h Q ↔ Runs 108 53 [x0, some (.int i), x2, x3, x4, x5, x6] (.int i :: st) h Q := R_ildn rfl rfl
theorem s108_53 (ht : tg a = 23) : Runs 108 53 ls (.int i :: .ref a :: st) (n, tg, ln, I, J, O) Q ↔ ((0 ≤ i ∧ i < Int32.ofNat (ln a)) ∧ Runs 108 54 ls (zrf (O a i) :: st) (n, tg, ln, I, J, O) Q) := R_aald rfl ht (by decide)
theorem s108_53q (ht : tg a = 24) : Runs 108 53 ls (.int i :: .ref a :: st) (n, tg, ln, I, J, O) Q ↔ ((0 ≤ i ∧ i < Int32.ofNat (ln a)) ∧ Runs 108 54 ls (zrf (O a i) :: st) (n, tg, ln, I, J, O) Q) := R_aald rfl ht (by decide)
theorem s108_53p (ht : tg a = 25) : Runs 108 53 ls (.int i :: .ref a :: st) (n, tg, ln, I, J, O) Q ↔ ((0 ≤ i ∧ i < Int32.ofNat (ln a)) ∧ Runs 108 54 ls (zrf (O a i) :: st) (n, tg, ln, I, J, O) Q) := R_aald rfl ht (by decide)
theorem s108_54 : Runs 108 54 [x0, x1, some (.int i), x3, x4, x5, x6] st h Q ↔ Runs 108 55 [x0, x1, some (.int i), x3, x4, x5, x6] (.int i :: st) h Q := R_ildn rfl rfl
theorem s108_55 (ht : tg a = 1) (hs : zsumc st ≤ 8) : Runs 108 55 ls (.int i0 :: .ref a :: st) (n, tg, ln, I, J, O) Q ↔ Runs 4 0 [some (.ref a), some (.int i0)] [] (n, tg, ln, I, J, O) (fun v h2 => Runs 108 58 ls (v.toList ++ st) h2 Q) := R_callv (a := a) (rest := st) rfl rfl rfl rfl rfl rfl rfl ht hs
theorem s108_58 : Runs 108 58 [x0, x1, x2, x3, x4, x5, x6] (.int i :: st) h Q ↔ Runs 108 60 [x0, x1, x2, x3, x4, zdrop x5, some (.int i)] st h Q := R_ist rfl rfl rfl
theorem s108_60 : Runs 108 60 [x0, x1, x2, x3, x4, x5, some (.int i)] st h Q ↔ Runs 108 62 [x0, x1, x2, x3, x4, x5, some (.int i)] (.int i :: st) h Q := R_ild rfl rfl
theorem s108_62 : Runs 108 62 ls (.int i :: st) h Q ↔ if 0 ≤ i then Runs 108 68 ls st h Q else Runs 108 65 ls st h Q := R_ifge rfl rfl
theorem s108_65 : Runs 108 65 [x0, x1, x2, x3, x4, x5, some (.int i)] st h Q ↔ Runs 108 67 [x0, x1, x2, x3, x4, x5, some (.int i)] (.int i :: st) h Q := R_ild rfl rfl
theorem s108_67 : Runs 108 67 ls [.int i] h Q ↔ Q (some (.int i)) h := R_iret rfl rfl
theorem s108_68 : Runs 108 68 [some (.ref a), x1, x2, x3, x4, x5, x6] st h Q ↔ Runs 108 69 [some (.ref a), x1, x2, x3, x4, x5, x6] (.ref a :: st) h Q := R_aldn rfl rfl
theorem s108_68q : Runs 108 68 [some (zrf r), x1, x2, x3, x4, x5, x6] st h Q ↔ Runs 108 69 [some (zrf r), x1, x2, x3, x4, x5, x6] (zrf r :: st) h Q := R_aldnq rfl rfl
theorem s108_69 (ht : tg a = 9) : Runs 108 69 ls (.ref a :: st) (n, tg, ln, I, J, O) Q ↔ Runs 108 72 ls (zrf (O a 9) :: st) (n, tg, ln, I, J, O) Q := R_getr rfl rfl rfl rfl ht
theorem s108_72 : Runs 108 72 [x0, some (.int i), x2, x3, x4, x5, x6] st h Q ↔ Runs 108 73 [x0, some (.int i), x2, x3, x4, x5, x6] (.int i :: st) h Q := R_ildn rfl rfl
theorem s108_73 (ht : tg a = 23) : Runs 108 73 ls (.int i :: .ref a :: st) (n, tg, ln, I, J, O) Q ↔ ((0 ≤ i ∧ i < Int32.ofNat (ln a)) ∧ Runs 108 74 ls (zrf (O a i) :: st) (n, tg, ln, I, J, O) Q) := R_aald rfl ht (by decide)
theorem s108_73q (ht : tg a = 24) : Runs 108 73 ls (.int i :: .ref a :: st) (n, tg, ln, I, J, O) Q ↔ ((0 ≤ i ∧ i < Int32.ofNat (ln a)) ∧ Runs 108 74 ls (zrf (O a i) :: st) (n, tg, ln, I, J, O) Q) := R_aald rfl ht (by decide)
theorem s108_73p (ht : tg a = 25) : Runs 108 73 ls (.int i :: .ref a :: st) (n, tg, ln, I, J, O) Q ↔ ((0 ≤ i ∧ i < Int32.ofNat (ln a)) ∧ Runs 108 74 ls (zrf (O a i) :: st) (n, tg, ln, I, J, O) Q) := R_aald rfl ht (by decide)
theorem s108_74 (ht : tg a = 1) : Runs 108 74 ls (.ref a :: st) (n, tg, ln, I, J, O) Q ↔ Runs 108 77 ls (zrf (O a 0) :: st) (n, tg, ln, I, J, O) Q := R_getr rfl rfl rfl rfl ht
theorem s108_77 : Runs 108 77 [x0, x1, some (.int i), x3, x4, x5, x6] st h Q ↔ Runs 108 78 [x0, x1, some (.int i), x3, x4, x5, x6] (.int i :: st) h Q := R_ildn rfl rfl
theorem s108_78 : Runs 108 78 [x0, x1, x2, some (.int i), x4, x5, x6] st h Q ↔ Runs 108 79 [x0, x1, x2, some (.int i), x4, x5, x6] (.int i :: st) h Q := R_ildn rfl rfl
theorem s108_79 : Runs 108 79 ls st h Q ↔ Runs 108 80 ls (.int 2 :: st) h Q := R_iconst rfl rfl
theorem s108_80 : Runs 108 80 ls (.int j :: .int i :: st) h Q ↔ if ¬ i = j then Runs 108 87 ls st h Q else Runs 108 83 ls st h Q := R_icne rfl rfl
theorem s108_83 : Runs 108 83 ls st h Q ↔ Runs 108 84 ls (zrf none :: st) h Q := R_null rfl
theorem s108_84 : Runs 108 84 ls st h Q ↔ Runs 108 98 ls st h Q := R_goto rfl rfl
theorem s108_87 : Runs 108 87 ls st (n, tg, ln, I, J, O) Q ↔ Runs 108 90 ls (.ref n :: st) (znew (n, tg, ln, I, J, O) 3 0) Q := R_new rfl rfl
theorem s108_90 : Runs 108 90 ls (.int i :: st) h Q ↔ Runs 108 91 ls (.int i :: .int i :: st) h Q := R_dupi rfl
theorem s108_90q : Runs 108 90 ls (.ref a :: st) h Q ↔ Runs 108 91 ls (.ref a :: .ref a :: st) h Q := R_dupr rfl
theorem s108_91 : Runs 108 91 [x0, x1, x2, some (.int i), x4, x5, x6] st h Q ↔ Runs 108 92 [x0, x1, x2, some (.int i), x4, x5, x6] (.int i :: st) h Q := R_ildn rfl rfl
theorem s108_92 : Runs 108 92 [x0, x1, x2, x3, some (.long u), x5, x6] st h Q ↔ Runs 108 94 [x0, x1, x2, x3, some (.long u), x5, x6] (.long u :: st) h Q := R_lld rfl rfl
theorem s108_94 : Runs 108 94 ls st h Q ↔ Runs 108 95 ls (zrf none :: st) h Q := R_null rfl
theorem s108_95 (hs : zsumc st ≤ 8) : Runs 108 95 ls (.ref b2 :: .long u1 :: .int i0 :: .ref a :: st) h Q ↔ Runs 14 0 [some (.ref a), some (.int i0), some (.long u1), none, some (.ref b2)] [] h (fun v h2 => Runs 108 98 ls (v.toList ++ st) h2 Q) := R_calli (a := a) (rest := st) rfl rfl rfl rfl rfl rfl rfl rfl hs
theorem s108_95q (hs : zsumc st ≤ 8) : Runs 108 95 ls (zrf r2 :: .long u1 :: .int i0 :: .ref a :: st) h Q ↔ Runs 14 0 [some (.ref a), some (.int i0), some (.long u1), none, some (zrf r2)] [] h (fun v h2 => Runs 108 98 ls (v.toList ++ st) h2 Q) := by cases r2 <;> exact R_calli (a := a) (rest := st) rfl rfl rfl rfl rfl rfl rfl rfl hs
theorem s108_98 (ht : tg a = 25) (hx : ∀ q, r = some q → tg q = 3) : Runs 108 98 ls (zrf r :: .int i :: .ref a :: st) (n, tg, ln, I, J, O) Q ↔ ((0 ≤ i ∧ i < Int32.ofNat (ln a)) ∧ Runs 108 99 ls st (n, tg, ln, I, J, zu O a i r) Q) := R_aasth rfl ht hx
theorem s108_99 : Runs 108 99 ls st h Q ↔ Runs 108 100 ls (.int 1 :: st) h Q := R_iconst rfl rfl
theorem s108_100 : Runs 108 100 ls [.int i] h Q ↔ Q (some (.int i)) h := R_iret rfl rfl
theorem s109_0 : Runs 109 0 [x0, some (.int i), x2, x3, x4] st h Q ↔ Runs 109 1 [x0, some (.int i), x2, x3, x4] (.int i :: st) h Q := R_ildn rfl rfl
theorem s109_1 (hs : zsumc st ≤ 8) : Runs 109 1 ls (.int i0 :: st) h Q ↔ Runs 117 0 [some (.int i0)] [] h (fun v h2 => Runs 109 4 ls (v.toList ++ st) h2 Q) := R_calls (rest := st) rfl rfl rfl (by simp) rfl rfl rfl rfl hs
theorem s109_4 : Runs 109 4 ls (.int i :: st) h Q ↔ if ¬ i = 0 then Runs 109 10 ls st h Q else Runs 109 7 ls st h Q := R_ifne rfl rfl
theorem s109_7 : Runs 109 7 ls st h Q ↔ Runs 109 9 ls (.int (-2) :: st) h Q := R_bipush rfl (by decide)
theorem s109_9 : Runs 109 9 ls [.int i] h Q ↔ Q (some (.int i)) h := R_iret rfl rfl
theorem s109_10 : Runs 109 10 [some (.ref a), x1, x2, x3, x4] st h Q ↔ Runs 109 11 [some (.ref a), x1, x2, x3, x4] (.ref a :: st) h Q := R_aldn rfl rfl
theorem s109_10q : Runs 109 10 [some (zrf r), x1, x2, x3, x4] st h Q ↔ Runs 109 11 [some (zrf r), x1, x2, x3, x4] (zrf r :: st) h Q := R_aldnq rfl rfl
theorem s109_11 (ht : tg a = 9) : Runs 109 11 ls (.ref a :: st) (n, tg, ln, I, J, O) Q ↔ Runs 109 14 ls (zrf (O a 9) :: st) (n, tg, ln, I, J, O) Q := R_getr rfl rfl rfl rfl ht
theorem s109_14 : Runs 109 14 [x0, some (.int i), x2, x3, x4] st h Q ↔ Runs 109 15 [x0, some (.int i), x2, x3, x4] (.int i :: st) h Q := R_ildn rfl rfl
theorem s109_15 (ht : tg a = 23) : Runs 109 15 ls (.int i :: .ref a :: st) (n, tg, ln, I, J, O) Q ↔ ((0 ≤ i ∧ i < Int32.ofNat (ln a)) ∧ Runs 109 16 ls (zrf (O a i) :: st) (n, tg, ln, I, J, O) Q) := R_aald rfl ht (by decide)
theorem s109_15q (ht : tg a = 24) : Runs 109 15 ls (.int i :: .ref a :: st) (n, tg, ln, I, J, O) Q ↔ ((0 ≤ i ∧ i < Int32.ofNat (ln a)) ∧ Runs 109 16 ls (zrf (O a i) :: st) (n, tg, ln, I, J, O) Q) := R_aald rfl ht (by decide)
theorem s109_15p (ht : tg a = 25) : Runs 109 15 ls (.int i :: .ref a :: st) (n, tg, ln, I, J, O) Q ↔ ((0 ≤ i ∧ i < Int32.ofNat (ln a)) ∧ Runs 109 16 ls (zrf (O a i) :: st) (n, tg, ln, I, J, O) Q) := R_aald rfl ht (by decide)
theorem s109_16 : Runs 109 16 [x0, x1, some (.int i), x3, x4] st h Q ↔ Runs 109 17 [x0, x1, some (.int i), x3, x4] (.int i :: st) h Q := R_ildn rfl rfl
theorem s109_17 (ht : tg a = 1) (hs : zsumc st ≤ 8) : Runs 109 17 ls (.int i0 :: .ref a :: st) (n, tg, ln, I, J, O) Q ↔ Runs 5 0 [some (.ref a), some (.int i0)] [] (n, tg, ln, I, J, O) (fun v h2 => Runs 109 20 ls (v.toList ++ st) h2 Q) := R_callv (a := a) (rest := st) rfl rfl rfl rfl rfl rfl rfl ht hs
theorem s109_20 : Runs 109 20 [x0, x1, x2, x3, x4] (.ref a :: st) h Q ↔ Runs 109 21 [x0, x1, zdrop x2, some (.ref a), x4] st h Q := R_astn rfl rfl rfl
theorem s109_20q : Runs 109 20 [x0, x1, x2, x3, x4] (zrf r :: st) h Q ↔ Runs 109 21 [x0, x1, zdrop x2, some (zrf r), x4] st h Q := R_astnq rfl rfl rfl
theorem s109_21 : Runs 109 21 [x0, x1, x2, some (.ref a), x4] st h Q ↔ Runs 109 22 [x0, x1, x2, some (.ref a), x4] (.ref a :: st) h Q := R_aldn rfl rfl
theorem s109_21q : Runs 109 21 [x0, x1, x2, some (zrf r), x4] st h Q ↔ Runs 109 22 [x0, x1, x2, some (zrf r), x4] (zrf r :: st) h Q := R_aldnq rfl rfl
theorem s109_22 : Runs 109 22 ls (zrf r :: st) h Q ↔ if r = none then Runs 109 25 ls st h Q else Runs 109 36 ls st h Q := R_ifnn rfl rfl
theorem s109_25 : Runs 109 25 [some (.ref a), x1, x2, x3, x4] st h Q ↔ Runs 109 26 [some (.ref a), x1, x2, x3, x4] (.ref a :: st) h Q := R_aldn rfl rfl
theorem s109_25q : Runs 109 25 [some (zrf r), x1, x2, x3, x4] st h Q ↔ Runs 109 26 [some (zrf r), x1, x2, x3, x4] (zrf r :: st) h Q := R_aldnq rfl rfl
theorem s109_26 (ht : tg a = 9) : Runs 109 26 ls (.ref a :: st) (n, tg, ln, I, J, O) Q ↔ Runs 109 29 ls (zrf (O a 9) :: st) (n, tg, ln, I, J, O) Q := R_getr rfl rfl rfl rfl ht
theorem s109_29 : Runs 109 29 [x0, some (.int i), x2, x3, x4] st h Q ↔ Runs 109 30 [x0, some (.int i), x2, x3, x4] (.int i :: st) h Q := R_ildn rfl rfl
theorem s109_30 (ht : tg a = 23) : Runs 109 30 ls (.int i :: .ref a :: st) (n, tg, ln, I, J, O) Q ↔ ((0 ≤ i ∧ i < Int32.ofNat (ln a)) ∧ Runs 109 31 ls (zrf (O a i) :: st) (n, tg, ln, I, J, O) Q) := R_aald rfl ht (by decide)
theorem s109_30q (ht : tg a = 24) : Runs 109 30 ls (.int i :: .ref a :: st) (n, tg, ln, I, J, O) Q ↔ ((0 ≤ i ∧ i < Int32.ofNat (ln a)) ∧ Runs 109 31 ls (zrf (O a i) :: st) (n, tg, ln, I, J, O) Q) := R_aald rfl ht (by decide)
theorem s109_30p (ht : tg a = 25) : Runs 109 30 ls (.int i :: .ref a :: st) (n, tg, ln, I, J, O) Q ↔ ((0 ≤ i ∧ i < Int32.ofNat (ln a)) ∧ Runs 109 31 ls (zrf (O a i) :: st) (n, tg, ln, I, J, O) Q) := R_aald rfl ht (by decide)
theorem s109_31 : Runs 109 31 [x0, x1, some (.int i), x3, x4] st h Q ↔ Runs 109 32 [x0, x1, some (.int i), x3, x4] (.int i :: st) h Q := R_ildn rfl rfl
theorem s109_32 (ht : tg a = 1) (hs : zsumc st ≤ 8) : Runs 109 32 ls (.int i0 :: .ref a :: st) (n, tg, ln, I, J, O) Q ↔ Runs 6 0 [some (.ref a), some (.int i0), none] [] (n, tg, ln, I, J, O) (fun v h2 => Runs 109 35 ls (v.toList ++ st) h2 Q) := R_callv (a := a) (rest := st) rfl rfl rfl rfl rfl rfl rfl ht hs
theorem s109_35 : Runs 109 35 ls [.int i] h Q ↔ Q (some (.int i)) h := R_iret rfl rfl
theorem s109_36 : Runs 109 36 [x0, x1, x2, some (.ref a), x4] st h Q ↔ Runs 109 37 [x0, x1, x2, some (.ref a), x4] (.ref a :: st) h Q := R_aldn rfl rfl
theorem s109_36q : Runs 109 36 [x0, x1, x2, some (zrf r), x4] st h Q ↔ Runs 109 37 [x0, x1, x2, some (zrf r), x4] (zrf r :: st) h Q := R_aldnq rfl rfl
theorem s109_37 (ht : tg a = 3) : Runs 109 37 ls (.ref a :: st) (n, tg, ln, I, J, O) Q ↔ Runs 109 40 ls (.int (I a 3) :: st) (n, tg, ln, I, J, O) Q := R_geti rfl rfl rfl rfl ht
theorem s109_40 : Runs 109 40 ls st h Q ↔ Runs 109 41 ls (.int 4 :: st) h Q := R_iconst rfl rfl
theorem s109_41 : Runs 109 41 ls (.int j :: .int i :: st) h Q ↔ if i < j then Runs 109 47 ls st h Q else Runs 109 44 ls st h Q := R_iclt rfl rfl
theorem s109_44 : Runs 109 44 ls st h Q ↔ Runs 109 46 ls (.int (-5) :: st) h Q := R_bipush rfl (by decide)
theorem s109_46 : Runs 109 46 ls [.int i] h Q ↔ Q (some (.int i)) h := R_iret rfl rfl
theorem s109_47 : Runs 109 47 ls st (n, tg, ln, I, J, O) Q ↔ Runs 109 50 ls (.ref n :: st) (znew (n, tg, ln, I, J, O) 3 0) Q := R_new rfl rfl
theorem s109_50 : Runs 109 50 ls (.int i :: st) h Q ↔ Runs 109 51 ls (.int i :: .int i :: st) h Q := R_dupi rfl
theorem s109_50q : Runs 109 50 ls (.ref a :: st) h Q ↔ Runs 109 51 ls (.ref a :: .ref a :: st) h Q := R_dupr rfl
theorem s109_51 : Runs 109 51 ls st h Q ↔ Runs 109 52 ls (.int 2 :: st) h Q := R_iconst rfl rfl
theorem s109_52 : Runs 109 52 ls st h Q ↔ Runs 109 53 ls (.long 0 :: st) h Q := R_lconst rfl rfl
theorem s109_53 : Runs 109 53 [x0, x1, x2, some (.ref a), x4] st h Q ↔ Runs 109 54 [x0, x1, x2, some (.ref a), x4] (.ref a :: st) h Q := R_aldn rfl rfl
theorem s109_53q : Runs 109 53 [x0, x1, x2, some (zrf r), x4] st h Q ↔ Runs 109 54 [x0, x1, x2, some (zrf r), x4] (zrf r :: st) h Q := R_aldnq rfl rfl
theorem s109_54 (hs : zsumc st ≤ 8) : Runs 109 54 ls (.ref b2 :: .long u1 :: .int i0 :: .ref a :: st) h Q ↔ Runs 14 0 [some (.ref a), some (.int i0), some (.long u1), none, some (.ref b2)] [] h (fun v h2 => Runs 109 57 ls (v.toList ++ st) h2 Q) := R_calli (a := a) (rest := st) rfl rfl rfl rfl rfl rfl rfl rfl hs
theorem s109_54q (hs : zsumc st ≤ 8) : Runs 109 54 ls (zrf r2 :: .long u1 :: .int i0 :: .ref a :: st) h Q ↔ Runs 14 0 [some (.ref a), some (.int i0), some (.long u1), none, some (zrf r2)] [] h (fun v h2 => Runs 109 57 ls (v.toList ++ st) h2 Q) := by cases r2 <;> exact R_calli (a := a) (rest := st) rfl rfl rfl rfl rfl rfl rfl rfl hs
theorem s109_57 : Runs 109 57 [x0, x1, x2, x3, x4] (.ref a :: st) h Q ↔ Runs 109 59 [x0, x1, x2, zdrop x3, some (.ref a)] st h Q := R_ast rfl rfl rfl
theorem s109_57q : Runs 109 57 [x0, x1, x2, x3, x4] (zrf r :: st) h Q ↔ Runs 109 59 [x0, x1, x2, zdrop x3, some (zrf r)] st h Q := R_astq rfl rfl rfl
theorem s109_59 : Runs 109 59 [some (.ref a), x1, x2, x3, x4] st h Q ↔ Runs 109 60 [some (.ref a), x1, x2, x3, x4] (.ref a :: st) h Q := R_aldn rfl rfl
theorem s109_59q : Runs 109 59 [some (zrf r), x1, x2, x3, x4] st h Q ↔ Runs 109 60 [some (zrf r), x1, x2, x3, x4] (zrf r :: st) h Q := R_aldnq rfl rfl
theorem s109_60 (ht : tg a = 9) : Runs 109 60 ls (.ref a :: st) (n, tg, ln, I, J, O) Q ↔ Runs 109 63 ls (zrf (O a 9) :: st) (n, tg, ln, I, J, O) Q := R_getr rfl rfl rfl rfl ht
theorem s109_63 : Runs 109 63 [x0, some (.int i), x2, x3, x4] st h Q ↔ Runs 109 64 [x0, some (.int i), x2, x3, x4] (.int i :: st) h Q := R_ildn rfl rfl
theorem s109_64 (ht : tg a = 23) : Runs 109 64 ls (.int i :: .ref a :: st) (n, tg, ln, I, J, O) Q ↔ ((0 ≤ i ∧ i < Int32.ofNat (ln a)) ∧ Runs 109 65 ls (zrf (O a i) :: st) (n, tg, ln, I, J, O) Q) := R_aald rfl ht (by decide)
theorem s109_64q (ht : tg a = 24) : Runs 109 64 ls (.int i :: .ref a :: st) (n, tg, ln, I, J, O) Q ↔ ((0 ≤ i ∧ i < Int32.ofNat (ln a)) ∧ Runs 109 65 ls (zrf (O a i) :: st) (n, tg, ln, I, J, O) Q) := R_aald rfl ht (by decide)
theorem s109_64p (ht : tg a = 25) : Runs 109 64 ls (.int i :: .ref a :: st) (n, tg, ln, I, J, O) Q ↔ ((0 ≤ i ∧ i < Int32.ofNat (ln a)) ∧ Runs 109 65 ls (zrf (O a i) :: st) (n, tg, ln, I, J, O) Q) := R_aald rfl ht (by decide)
theorem s109_65 (ht : tg a = 1) : Runs 109 65 ls (.ref a :: st) (n, tg, ln, I, J, O) Q ↔ Runs 109 68 ls (zrf (O a 0) :: st) (n, tg, ln, I, J, O) Q := R_getr rfl rfl rfl rfl ht
theorem s109_68 : Runs 109 68 [x0, x1, some (.int i), x3, x4] st h Q ↔ Runs 109 69 [x0, x1, some (.int i), x3, x4] (.int i :: st) h Q := R_ildn rfl rfl
theorem s109_69 : Runs 109 69 [x0, x1, x2, x3, some (.ref a)] st h Q ↔ Runs 109 71 [x0, x1, x2, x3, some (.ref a)] (.ref a :: st) h Q := R_ald rfl rfl
theorem s109_69q : Runs 109 69 [x0, x1, x2, x3, some (zrf r)] st h Q ↔ Runs 109 71 [x0, x1, x2, x3, some (zrf r)] (zrf r :: st) h Q := R_aldq rfl rfl
theorem s109_71 (ht : tg a = 25) (hx : ∀ q, r = some q → tg q = 3) : Runs 109 71 ls (zrf r :: .int i :: .ref a :: st) (n, tg, ln, I, J, O) Q ↔ ((0 ≤ i ∧ i < Int32.ofNat (ln a)) ∧ Runs 109 72 ls st (n, tg, ln, I, J, zu O a i r) Q) := R_aasth rfl ht hx
theorem s109_72 : Runs 109 72 [x0, x1, x2, x3, some (.ref a)] st h Q ↔ Runs 109 74 [x0, x1, x2, x3, some (.ref a)] (.ref a :: st) h Q := R_ald rfl rfl
theorem s109_72q : Runs 109 72 [x0, x1, x2, x3, some (zrf r)] st h Q ↔ Runs 109 74 [x0, x1, x2, x3, some (zrf r)] (zrf r :: st) h Q := R_aldq rfl rfl
theorem s109_74 (ht : tg a = 3) : Runs 109 74 ls (.ref a :: st) (n, tg, ln, I, J, O) Q ↔ Runs 109 77 ls (.int (I a 3) :: st) (n, tg, ln, I, J, O) Q := R_geti rfl rfl rfl rfl ht
theorem s109_77 : Runs 109 77 ls [.int i] h Q ↔ Q (some (.int i)) h := R_iret rfl rfl
theorem s110_0 : Runs 110 0 [x0, some (.int i), x2, x3, x4] st h Q ↔ Runs 110 1 [x0, some (.int i), x2, x3, x4] (.int i :: st) h Q := R_ildn rfl rfl
theorem s110_1 (hs : zsumc st ≤ 8) : Runs 110 1 ls (.int i0 :: st) h Q ↔ Runs 117 0 [some (.int i0)] [] h (fun v h2 => Runs 110 4 ls (v.toList ++ st) h2 Q) := R_calls (rest := st) rfl rfl rfl (by simp) rfl rfl rfl rfl hs
theorem s110_4 : Runs 110 4 ls (.int i :: st) h Q ↔ if ¬ i = 0 then Runs 110 10 ls st h Q else Runs 110 7 ls st h Q := R_ifne rfl rfl
theorem s110_7 : Runs 110 7 ls st h Q ↔ Runs 110 9 ls (.int (-2) :: st) h Q := R_bipush rfl (by decide)
theorem s110_9 : Runs 110 9 ls [.int i] h Q ↔ Q (some (.int i)) h := R_iret rfl rfl
theorem s110_10 : Runs 110 10 [some (.ref a), x1, x2, x3, x4] st h Q ↔ Runs 110 11 [some (.ref a), x1, x2, x3, x4] (.ref a :: st) h Q := R_aldn rfl rfl
theorem s110_10q : Runs 110 10 [some (zrf r), x1, x2, x3, x4] st h Q ↔ Runs 110 11 [some (zrf r), x1, x2, x3, x4] (zrf r :: st) h Q := R_aldnq rfl rfl
theorem s110_11 (ht : tg a = 9) : Runs 110 11 ls (.ref a :: st) (n, tg, ln, I, J, O) Q ↔ Runs 110 14 ls (zrf (O a 9) :: st) (n, tg, ln, I, J, O) Q := R_getr rfl rfl rfl rfl ht
theorem s110_14 : Runs 110 14 [x0, some (.int i), x2, x3, x4] st h Q ↔ Runs 110 15 [x0, some (.int i), x2, x3, x4] (.int i :: st) h Q := R_ildn rfl rfl
theorem s110_15 (ht : tg a = 23) : Runs 110 15 ls (.int i :: .ref a :: st) (n, tg, ln, I, J, O) Q ↔ ((0 ≤ i ∧ i < Int32.ofNat (ln a)) ∧ Runs 110 16 ls (zrf (O a i) :: st) (n, tg, ln, I, J, O) Q) := R_aald rfl ht (by decide)
theorem s110_15q (ht : tg a = 24) : Runs 110 15 ls (.int i :: .ref a :: st) (n, tg, ln, I, J, O) Q ↔ ((0 ≤ i ∧ i < Int32.ofNat (ln a)) ∧ Runs 110 16 ls (zrf (O a i) :: st) (n, tg, ln, I, J, O) Q) := R_aald rfl ht (by decide)
theorem s110_15p (ht : tg a = 25) : Runs 110 15 ls (.int i :: .ref a :: st) (n, tg, ln, I, J, O) Q ↔ ((0 ≤ i ∧ i < Int32.ofNat (ln a)) ∧ Runs 110 16 ls (zrf (O a i) :: st) (n, tg, ln, I, J, O) Q) := R_aald rfl ht (by decide)
theorem s110_16 : Runs 110 16 [x0, x1, some (.int i), x3, x4] st h Q ↔ Runs 110 17 [x0, x1, some (.int i), x3, x4] (.int i :: st) h Q := R_ildn rfl rfl
theorem s110_17 (ht : tg a = 1) (hs : zsumc st ≤ 8) : Runs 110 17 ls (.int i0 :: .ref a :: st) (n, tg, ln, I, J, O) Q ↔ Runs 5 0 [some (.ref a), some (.int i0)] [] (n, tg, ln, I, J, O) (fun v h2 => Runs 110 20 ls (v.toList ++ st) h2 Q) := R_callv (a := a) (rest := st) rfl rfl rfl rfl rfl rfl rfl ht hs
theorem s110_20 : Runs 110 20 [x0, x1, x2, x3, x4] (.ref a :: st) h Q ↔ Runs 110 21 [x0, x1, zdrop x2, some (.ref a), x4] st h Q := R_astn rfl rfl rfl
theorem s110_20q : Runs 110 20 [x0, x1, x2, x3, x4] (zrf r :: st) h Q ↔ Runs 110 21 [x0, x1, zdrop x2, some (zrf r), x4] st h Q := R_astnq rfl rfl rfl
theorem s110_21 : Runs 110 21 [x0, x1, x2, some (.ref a), x4] st h Q ↔ Runs 110 22 [x0, x1, x2, some (.ref a), x4] (.ref a :: st) h Q := R_aldn rfl rfl
theorem s110_21q : Runs 110 21 [x0, x1, x2, some (zrf r), x4] st h Q ↔ Runs 110 22 [x0, x1, x2, some (zrf r), x4] (zrf r :: st) h Q := R_aldnq rfl rfl
theorem s110_22 : Runs 110 22 ls (zrf r :: st) h Q ↔ if r = none then Runs 110 25 ls st h Q else Runs 110 36 ls st h Q := R_ifnn rfl rfl
theorem s110_25 : Runs 110 25 [some (.ref a), x1, x2, x3, x4] st h Q ↔ Runs 110 26 [some (.ref a), x1, x2, x3, x4] (.ref a :: st) h Q := R_aldn rfl rfl
theorem s110_25q : Runs 110 25 [some (zrf r), x1, x2, x3, x4] st h Q ↔ Runs 110 26 [some (zrf r), x1, x2, x3, x4] (zrf r :: st) h Q := R_aldnq rfl rfl
theorem s110_26 (ht : tg a = 9) : Runs 110 26 ls (.ref a :: st) (n, tg, ln, I, J, O) Q ↔ Runs 110 29 ls (zrf (O a 9) :: st) (n, tg, ln, I, J, O) Q := R_getr rfl rfl rfl rfl ht
theorem s110_29 : Runs 110 29 [x0, some (.int i), x2, x3, x4] st h Q ↔ Runs 110 30 [x0, some (.int i), x2, x3, x4] (.int i :: st) h Q := R_ildn rfl rfl
theorem s110_30 (ht : tg a = 23) : Runs 110 30 ls (.int i :: .ref a :: st) (n, tg, ln, I, J, O) Q ↔ ((0 ≤ i ∧ i < Int32.ofNat (ln a)) ∧ Runs 110 31 ls (zrf (O a i) :: st) (n, tg, ln, I, J, O) Q) := R_aald rfl ht (by decide)
theorem s110_30q (ht : tg a = 24) : Runs 110 30 ls (.int i :: .ref a :: st) (n, tg, ln, I, J, O) Q ↔ ((0 ≤ i ∧ i < Int32.ofNat (ln a)) ∧ Runs 110 31 ls (zrf (O a i) :: st) (n, tg, ln, I, J, O) Q) := R_aald rfl ht (by decide)
theorem s110_30p (ht : tg a = 25) : Runs 110 30 ls (.int i :: .ref a :: st) (n, tg, ln, I, J, O) Q ↔ ((0 ≤ i ∧ i < Int32.ofNat (ln a)) ∧ Runs 110 31 ls (zrf (O a i) :: st) (n, tg, ln, I, J, O) Q) := R_aald rfl ht (by decide)
theorem s110_31 : Runs 110 31 [x0, x1, some (.int i), x3, x4] st h Q ↔ Runs 110 32 [x0, x1, some (.int i), x3, x4] (.int i :: st) h Q := R_ildn rfl rfl
theorem s110_32 (ht : tg a = 1) (hs : zsumc st ≤ 8) : Runs 110 32 ls (.int i0 :: .ref a :: st) (n, tg, ln, I, J, O) Q ↔ Runs 6 0 [some (.ref a), some (.int i0), none] [] (n, tg, ln, I, J, O) (fun v h2 => Runs 110 35 ls (v.toList ++ st) h2 Q) := R_callv (a := a) (rest := st) rfl rfl rfl rfl rfl rfl rfl ht hs
theorem s110_35 : Runs 110 35 ls [.int i] h Q ↔ Q (some (.int i)) h := R_iret rfl rfl
theorem s110_36 : Runs 110 36 [x0, x1, x2, some (.ref a), x4] st h Q ↔ Runs 110 37 [x0, x1, x2, some (.ref a), x4] (.ref a :: st) h Q := R_aldn rfl rfl
theorem s110_36q : Runs 110 36 [x0, x1, x2, some (zrf r), x4] st h Q ↔ Runs 110 37 [x0, x1, x2, some (zrf r), x4] (zrf r :: st) h Q := R_aldnq rfl rfl
theorem s110_37 (ht : tg a = 3) : Runs 110 37 ls (.ref a :: st) (n, tg, ln, I, J, O) Q ↔ Runs 110 40 ls (zrf (O a 2) :: st) (n, tg, ln, I, J, O) Q := R_getr rfl rfl rfl rfl ht
theorem s110_40 : Runs 110 40 [x0, x1, x2, x3, x4] (.ref a :: st) h Q ↔ Runs 110 42 [x0, x1, x2, zdrop x3, some (.ref a)] st h Q := R_ast rfl rfl rfl
theorem s110_40q : Runs 110 40 [x0, x1, x2, x3, x4] (zrf r :: st) h Q ↔ Runs 110 42 [x0, x1, x2, zdrop x3, some (zrf r)] st h Q := R_astq rfl rfl rfl
theorem s110_42 : Runs 110 42 [x0, x1, x2, x3, some (.ref a)] st h Q ↔ Runs 110 44 [x0, x1, x2, x3, some (.ref a)] (.ref a :: st) h Q := R_ald rfl rfl
theorem s110_42q : Runs 110 42 [x0, x1, x2, x3, some (zrf r)] st h Q ↔ Runs 110 44 [x0, x1, x2, x3, some (zrf r)] (zrf r :: st) h Q := R_aldq rfl rfl
theorem s110_44 : Runs 110 44 ls (zrf r :: st) h Q ↔ if r = none then Runs 110 47 ls st h Q else Runs 110 50 ls st h Q := R_ifnn rfl rfl
theorem s110_47 : Runs 110 47 ls st h Q ↔ Runs 110 49 ls (.int (-14) :: st) h Q := R_bipush rfl (by decide)
theorem s110_49 : Runs 110 49 ls [.int i] h Q ↔ Q (some (.int i)) h := R_iret rfl rfl
theorem s110_50 : Runs 110 50 [some (.ref a), x1, x2, x3, x4] st h Q ↔ Runs 110 51 [some (.ref a), x1, x2, x3, x4] (.ref a :: st) h Q := R_aldn rfl rfl
theorem s110_50q : Runs 110 50 [some (zrf r), x1, x2, x3, x4] st h Q ↔ Runs 110 51 [some (zrf r), x1, x2, x3, x4] (zrf r :: st) h Q := R_aldnq rfl rfl
theorem s110_51 (ht : tg a = 9) : Runs 110 51 ls (.ref a :: st) (n, tg, ln, I, J, O) Q ↔ Runs 110 54 ls (zrf (O a 9) :: st) (n, tg, ln, I, J, O) Q := R_getr rfl rfl rfl rfl ht
theorem s110_54 : Runs 110 54 [x0, some (.int i), x2, x3, x4] st h Q ↔ Runs 110 55 [x0, some (.int i), x2, x3, x4] (.int i :: st) h Q := R_ildn rfl rfl
theorem s110_55 (ht : tg a = 23) : Runs 110 55 ls (.int i :: .ref a :: st) (n, tg, ln, I, J, O) Q ↔ ((0 ≤ i ∧ i < Int32.ofNat (ln a)) ∧ Runs 110 56 ls (zrf (O a i) :: st) (n, tg, ln, I, J, O) Q) := R_aald rfl ht (by decide)
theorem s110_55q (ht : tg a = 24) : Runs 110 55 ls (.int i :: .ref a :: st) (n, tg, ln, I, J, O) Q ↔ ((0 ≤ i ∧ i < Int32.ofNat (ln a)) ∧ Runs 110 56 ls (zrf (O a i) :: st) (n, tg, ln, I, J, O) Q) := R_aald rfl ht (by decide)
theorem s110_55p (ht : tg a = 25) : Runs 110 55 ls (.int i :: .ref a :: st) (n, tg, ln, I, J, O) Q ↔ ((0 ≤ i ∧ i < Int32.ofNat (ln a)) ∧ Runs 110 56 ls (zrf (O a i) :: st) (n, tg, ln, I, J, O) Q) := R_aald rfl ht (by decide)
theorem s110_56 (ht : tg a = 1) : Runs 110 56 ls (.ref a :: st) (n, tg, ln, I, J, O) Q ↔ Runs 110 59 ls (zrf (O a 0) :: st) (n, tg, ln, I, J, O) Q := R_getr rfl rfl rfl rfl ht
theorem s110_59 : Runs 110 59 [x0, x1, some (.int i), x3, x4] st h Q ↔ Runs 110 60 [x0, x1, some (.int i), x3, x4] (.int i :: st) h Q := R_ildn rfl rfl
theorem s110_60 : Runs 110 60 [x0, x1, x2, x3, some (.ref a)] st h Q ↔ Runs 110 62 [x0, x1, x2, x3, some (.ref a)] (.ref a :: st) h Q := R_ald rfl rfl
theorem s110_60q : Runs 110 60 [x0, x1, x2, x3, some (zrf r)] st h Q ↔ Runs 110 62 [x0, x1, x2, x3, some (zrf r)] (zrf r :: st) h Q := R_aldq rfl rfl
theorem s110_62 (ht : tg a = 25) (hx : ∀ q, r = some q → tg q = 3) : Runs 110 62 ls (zrf r :: .int i :: .ref a :: st) (n, tg, ln, I, J, O) Q ↔ ((0 ≤ i ∧ i < Int32.ofNat (ln a)) ∧ Runs 110 63 ls st (n, tg, ln, I, J, zu O a i r) Q) := R_aasth rfl ht hx
theorem s110_63 : Runs 110 63 [x0, x1, x2, x3, some (.ref a)] st h Q ↔ Runs 110 65 [x0, x1, x2, x3, some (.ref a)] (.ref a :: st) h Q := R_ald rfl rfl
theorem s110_63q : Runs 110 63 [x0, x1, x2, x3, some (zrf r)] st h Q ↔ Runs 110 65 [x0, x1, x2, x3, some (zrf r)] (zrf r :: st) h Q := R_aldq rfl rfl
theorem s110_65 (ht : tg a = 3) : Runs 110 65 ls (.ref a :: st) (n, tg, ln, I, J, O) Q ↔ Runs 110 68 ls (.int (I a 3) :: st) (n, tg, ln, I, J, O) Q := R_geti rfl rfl rfl rfl ht
theorem s110_68 : Runs 110 68 ls [.int i] h Q ↔ Q (some (.int i)) h := R_iret rfl rfl
theorem s111_0 : Runs 111 0 [x0, some (.int i), x2, x3, x4] st h Q ↔ Runs 111 1 [x0, some (.int i), x2, x3, x4] (.int i :: st) h Q := R_ildn rfl rfl
theorem s111_1 (hs : zsumc st ≤ 8) : Runs 111 1 ls (.int i0 :: st) h Q ↔ Runs 117 0 [some (.int i0)] [] h (fun v h2 => Runs 111 4 ls (v.toList ++ st) h2 Q) := R_calls (rest := st) rfl rfl rfl (by simp) rfl rfl rfl rfl hs
theorem s111_4 : Runs 111 4 ls (.int i :: st) h Q ↔ if ¬ i = 0 then Runs 111 10 ls st h Q else Runs 111 7 ls st h Q := R_ifne rfl rfl
theorem s111_7 : Runs 111 7 ls st h Q ↔ Runs 111 9 ls (.int (-2) :: st) h Q := R_bipush rfl (by decide)
theorem s111_9 : Runs 111 9 ls [.int i] h Q ↔ Q (some (.int i)) h := R_iret rfl rfl
theorem s111_10 : Runs 111 10 [x0, x1, x2, some (.int i), x4] st h Q ↔ Runs 111 11 [x0, x1, x2, some (.int i), x4] (.int i :: st) h Q := R_ildn rfl rfl
theorem s111_11 : Runs 111 11 ls (.int i :: st) h Q ↔ if i < 0 then Runs 111 19 ls st h Q else Runs 111 14 ls st h Q := R_iflt rfl rfl
theorem s111_14 : Runs 111 14 [x0, x1, x2, some (.int i), x4] st h Q ↔ Runs 111 15 [x0, x1, x2, some (.int i), x4] (.int i :: st) h Q := R_ildn rfl rfl
theorem s111_15 : Runs 111 15 ls st h Q ↔ Runs 111 16 ls (.int 2 :: st) h Q := R_iconst rfl rfl
theorem s111_16 : Runs 111 16 ls (.int j :: .int i :: st) h Q ↔ if i ≤ j then Runs 111 22 ls st h Q else Runs 111 19 ls st h Q := R_icle rfl rfl
theorem s111_19 : Runs 111 19 ls st h Q ↔ Runs 111 21 ls (.int (-3) :: st) h Q := R_bipush rfl (by decide)
theorem s111_21 : Runs 111 21 ls [.int i] h Q ↔ Q (some (.int i)) h := R_iret rfl rfl
theorem s111_22 : Runs 111 22 [some (.ref a), x1, x2, x3, x4] st h Q ↔ Runs 111 23 [some (.ref a), x1, x2, x3, x4] (.ref a :: st) h Q := R_aldn rfl rfl
theorem s111_22q : Runs 111 22 [some (zrf r), x1, x2, x3, x4] st h Q ↔ Runs 111 23 [some (zrf r), x1, x2, x3, x4] (zrf r :: st) h Q := R_aldnq rfl rfl
theorem s111_23 (ht : tg a = 9) : Runs 111 23 ls (.ref a :: st) (n, tg, ln, I, J, O) Q ↔ Runs 111 26 ls (zrf (O a 9) :: st) (n, tg, ln, I, J, O) Q := R_getr rfl rfl rfl rfl ht
theorem s111_26 : Runs 111 26 [x0, some (.int i), x2, x3, x4] st h Q ↔ Runs 111 27 [x0, some (.int i), x2, x3, x4] (.int i :: st) h Q := R_ildn rfl rfl
theorem s111_27 (ht : tg a = 23) : Runs 111 27 ls (.int i :: .ref a :: st) (n, tg, ln, I, J, O) Q ↔ ((0 ≤ i ∧ i < Int32.ofNat (ln a)) ∧ Runs 111 28 ls (zrf (O a i) :: st) (n, tg, ln, I, J, O) Q) := R_aald rfl ht (by decide)
theorem s111_27q (ht : tg a = 24) : Runs 111 27 ls (.int i :: .ref a :: st) (n, tg, ln, I, J, O) Q ↔ ((0 ≤ i ∧ i < Int32.ofNat (ln a)) ∧ Runs 111 28 ls (zrf (O a i) :: st) (n, tg, ln, I, J, O) Q) := R_aald rfl ht (by decide)
theorem s111_27p (ht : tg a = 25) : Runs 111 27 ls (.int i :: .ref a :: st) (n, tg, ln, I, J, O) Q ↔ ((0 ≤ i ∧ i < Int32.ofNat (ln a)) ∧ Runs 111 28 ls (zrf (O a i) :: st) (n, tg, ln, I, J, O) Q) := R_aald rfl ht (by decide)
theorem s111_28 : Runs 111 28 [x0, x1, some (.int i), x3, x4] st h Q ↔ Runs 111 29 [x0, x1, some (.int i), x3, x4] (.int i :: st) h Q := R_ildn rfl rfl
theorem s111_29 (ht : tg a = 1) (hs : zsumc st ≤ 8) : Runs 111 29 ls (.int i0 :: .ref a :: st) (n, tg, ln, I, J, O) Q ↔ Runs 5 0 [some (.ref a), some (.int i0)] [] (n, tg, ln, I, J, O) (fun v h2 => Runs 111 32 ls (v.toList ++ st) h2 Q) := R_callv (a := a) (rest := st) rfl rfl rfl rfl rfl rfl rfl ht hs
theorem s111_32 : Runs 111 32 [x0, x1, x2, x3, x4] (.ref a :: st) h Q ↔ Runs 111 34 [x0, x1, x2, zdrop x3, some (.ref a)] st h Q := R_ast rfl rfl rfl
theorem s111_32q : Runs 111 32 [x0, x1, x2, x3, x4] (zrf r :: st) h Q ↔ Runs 111 34 [x0, x1, x2, zdrop x3, some (zrf r)] st h Q := R_astq rfl rfl rfl
theorem s111_34 : Runs 111 34 [x0, x1, x2, x3, some (.ref a)] st h Q ↔ Runs 111 36 [x0, x1, x2, x3, some (.ref a)] (.ref a :: st) h Q := R_ald rfl rfl
theorem s111_34q : Runs 111 34 [x0, x1, x2, x3, some (zrf r)] st h Q ↔ Runs 111 36 [x0, x1, x2, x3, some (zrf r)] (zrf r :: st) h Q := R_aldq rfl rfl
theorem s111_36 : Runs 111 36 ls (zrf r :: st) h Q ↔ if r = none then Runs 111 39 ls st h Q else Runs 111 52 ls st h Q := R_ifnn rfl rfl
theorem s111_39 : Runs 111 39 [some (.ref a), x1, x2, x3, x4] st h Q ↔ Runs 111 40 [some (.ref a), x1, x2, x3, x4] (.ref a :: st) h Q := R_aldn rfl rfl
theorem s111_39q : Runs 111 39 [some (zrf r), x1, x2, x3, x4] st h Q ↔ Runs 111 40 [some (zrf r), x1, x2, x3, x4] (zrf r :: st) h Q := R_aldnq rfl rfl
theorem s111_40 (ht : tg a = 9) : Runs 111 40 ls (.ref a :: st) (n, tg, ln, I, J, O) Q ↔ Runs 111 43 ls (zrf (O a 9) :: st) (n, tg, ln, I, J, O) Q := R_getr rfl rfl rfl rfl ht
theorem s111_43 : Runs 111 43 [x0, some (.int i), x2, x3, x4] st h Q ↔ Runs 111 44 [x0, some (.int i), x2, x3, x4] (.int i :: st) h Q := R_ildn rfl rfl
theorem s111_44 (ht : tg a = 23) : Runs 111 44 ls (.int i :: .ref a :: st) (n, tg, ln, I, J, O) Q ↔ ((0 ≤ i ∧ i < Int32.ofNat (ln a)) ∧ Runs 111 45 ls (zrf (O a i) :: st) (n, tg, ln, I, J, O) Q) := R_aald rfl ht (by decide)
theorem s111_44q (ht : tg a = 24) : Runs 111 44 ls (.int i :: .ref a :: st) (n, tg, ln, I, J, O) Q ↔ ((0 ≤ i ∧ i < Int32.ofNat (ln a)) ∧ Runs 111 45 ls (zrf (O a i) :: st) (n, tg, ln, I, J, O) Q) := R_aald rfl ht (by decide)
theorem s111_44p (ht : tg a = 25) : Runs 111 44 ls (.int i :: .ref a :: st) (n, tg, ln, I, J, O) Q ↔ ((0 ≤ i ∧ i < Int32.ofNat (ln a)) ∧ Runs 111 45 ls (zrf (O a i) :: st) (n, tg, ln, I, J, O) Q) := R_aald rfl ht (by decide)
theorem s111_45 : Runs 111 45 [x0, x1, some (.int i), x3, x4] st h Q ↔ Runs 111 46 [x0, x1, some (.int i), x3, x4] (.int i :: st) h Q := R_ildn rfl rfl
theorem s111_46 (ht : tg a = 1) (hs : zsumc st ≤ 8) : Runs 111 46 ls (.int i0 :: .ref a :: st) (n, tg, ln, I, J, O) Q ↔ Runs 6 0 [some (.ref a), some (.int i0), none] [] (n, tg, ln, I, J, O) (fun v h2 => Runs 111 49 ls (v.toList ++ st) h2 Q) := R_callv (a := a) (rest := st) rfl rfl rfl rfl rfl rfl rfl ht hs
theorem s111_49 : Runs 111 49 ls st h Q ↔ Runs 111 58 ls st h Q := R_goto rfl rfl
theorem s111_52 : Runs 111 52 [x0, x1, x2, x3, some (.ref a)] st h Q ↔ Runs 111 54 [x0, x1, x2, x3, some (.ref a)] (.ref a :: st) h Q := R_ald rfl rfl
theorem s111_52q : Runs 111 52 [x0, x1, x2, x3, some (zrf r)] st h Q ↔ Runs 111 54 [x0, x1, x2, x3, some (zrf r)] (zrf r :: st) h Q := R_aldq rfl rfl
theorem s111_54 : Runs 111 54 [x0, x1, x2, some (.int i), x4] st h Q ↔ Runs 111 55 [x0, x1, x2, some (.int i), x4] (.int i :: st) h Q := R_ildn rfl rfl
theorem s111_55 (ht : tg a = 3) (hs : zsumc st ≤ 8) : Runs 111 55 ls (.int i0 :: .ref a :: st) (n, tg, ln, I, J, O) Q ↔ Runs 15 0 [some (.ref a), some (.int i0)] [] (n, tg, ln, I, J, O) (fun v h2 => Runs 111 58 ls (v.toList ++ st) h2 Q) := R_callv (a := a) (rest := st) rfl rfl rfl rfl rfl rfl rfl ht hs
theorem s111_58 : Runs 111 58 ls [.int i] h Q ↔ Q (some (.int i)) h := R_iret rfl rfl
theorem s112_0 : Runs 112 0 [x0, some (.int i), x2, x3, x4, x5] st h Q ↔ Runs 112 1 [x0, some (.int i), x2, x3, x4, x5] (.int i :: st) h Q := R_ildn rfl rfl
theorem s112_1 (hs : zsumc st ≤ 8) : Runs 112 1 ls (.int i0 :: st) h Q ↔ Runs 117 0 [some (.int i0)] [] h (fun v h2 => Runs 112 4 ls (v.toList ++ st) h2 Q) := R_calls (rest := st) rfl rfl rfl (by simp) rfl rfl rfl rfl hs
theorem s112_4 : Runs 112 4 ls (.int i :: st) h Q ↔ if i = 0 then Runs 112 14 ls st h Q else Runs 112 7 ls st h Q := R_ifeq rfl rfl
theorem s112_7 : Runs 112 7 [x0, x1, x2, some (.int i), x4, x5] st h Q ↔ Runs 112 8 [x0, x1, x2, some (.int i), x4, x5] (.int i :: st) h Q := R_ildn rfl rfl
theorem s112_8 (hs : zsumc st ≤ 8) : Runs 112 8 ls (.int i0 :: st) h Q ↔ Runs 117 0 [some (.int i0)] [] h (fun v h2 => Runs 112 11 ls (v.toList ++ st) h2 Q) := R_calls (rest := st) rfl rfl rfl (by simp) rfl rfl rfl rfl hs
theorem s112_11 : Runs 112 11 ls (.int i :: st) h Q ↔ if ¬ i = 0 then Runs 112 17 ls st h Q else Runs 112 14 ls st h Q := R_ifne rfl rfl
theorem s112_14 : Runs 112 14 ls st h Q ↔ Runs 112 16 ls (.int (-2) :: st) h Q := R_bipush rfl (by decide)
theorem s112_16 : Runs 112 16 ls [.int i] h Q ↔ Q (some (.int i)) h := R_iret rfl rfl
theorem s112_17 : Runs 112 17 [some (.ref a), x1, x2, x3, x4, x5] st h Q ↔ Runs 112 18 [some (.ref a), x1, x2, x3, x4, x5] (.ref a :: st) h Q := R_aldn rfl rfl
theorem s112_17q : Runs 112 17 [some (zrf r), x1, x2, x3, x4, x5] st h Q ↔ Runs 112 18 [some (zrf r), x1, x2, x3, x4, x5] (zrf r :: st) h Q := R_aldnq rfl rfl
theorem s112_18 (ht : tg a = 9) : Runs 112 18 ls (.ref a :: st) (n, tg, ln, I, J, O) Q ↔ Runs 112 21 ls (zrf (O a 9) :: st) (n, tg, ln, I, J, O) Q := R_getr rfl rfl rfl rfl ht
theorem s112_21 : Runs 112 21 [x0, some (.int i), x2, x3, x4, x5] st h Q ↔ Runs 112 22 [x0, some (.int i), x2, x3, x4, x5] (.int i :: st) h Q := R_ildn rfl rfl
theorem s112_22 (ht : tg a = 23) : Runs 112 22 ls (.int i :: .ref a :: st) (n, tg, ln, I, J, O) Q ↔ ((0 ≤ i ∧ i < Int32.ofNat (ln a)) ∧ Runs 112 23 ls (zrf (O a i) :: st) (n, tg, ln, I, J, O) Q) := R_aald rfl ht (by decide)
theorem s112_22q (ht : tg a = 24) : Runs 112 22 ls (.int i :: .ref a :: st) (n, tg, ln, I, J, O) Q ↔ ((0 ≤ i ∧ i < Int32.ofNat (ln a)) ∧ Runs 112 23 ls (zrf (O a i) :: st) (n, tg, ln, I, J, O) Q) := R_aald rfl ht (by decide)
theorem s112_22p (ht : tg a = 25) : Runs 112 22 ls (.int i :: .ref a :: st) (n, tg, ln, I, J, O) Q ↔ ((0 ≤ i ∧ i < Int32.ofNat (ln a)) ∧ Runs 112 23 ls (zrf (O a i) :: st) (n, tg, ln, I, J, O) Q) := R_aald rfl ht (by decide)
theorem s112_23 (ht : tg a = 1) (hs : zsumc st ≤ 8) : Runs 112 23 ls (.ref a :: st) (n, tg, ln, I, J, O) Q ↔ Runs 1 0 [some (.ref a)] [] (n, tg, ln, I, J, O) (fun v h2 => Runs 112 26 ls (v.toList ++ st) h2 Q) := R_callv (a := a) (rest := st) rfl rfl rfl rfl rfl rfl rfl ht hs
theorem s112_26 : Runs 112 26 ls (.int i :: st) h Q ↔ if ¬ i = 0 then Runs 112 41 ls st h Q else Runs 112 29 ls st h Q := R_ifne rfl rfl
theorem s112_29 : Runs 112 29 [some (.ref a), x1, x2, x3, x4, x5] st h Q ↔ Runs 112 30 [some (.ref a), x1, x2, x3, x4, x5] (.ref a :: st) h Q := R_aldn rfl rfl
theorem s112_29q : Runs 112 29 [some (zrf r), x1, x2, x3, x4, x5] st h Q ↔ Runs 112 30 [some (zrf r), x1, x2, x3, x4, x5] (zrf r :: st) h Q := R_aldnq rfl rfl
theorem s112_30 (ht : tg a = 9) : Runs 112 30 ls (.ref a :: st) (n, tg, ln, I, J, O) Q ↔ Runs 112 33 ls (zrf (O a 9) :: st) (n, tg, ln, I, J, O) Q := R_getr rfl rfl rfl rfl ht
theorem s112_33 : Runs 112 33 [x0, x1, x2, some (.int i), x4, x5] st h Q ↔ Runs 112 34 [x0, x1, x2, some (.int i), x4, x5] (.int i :: st) h Q := R_ildn rfl rfl
theorem s112_34 (ht : tg a = 23) : Runs 112 34 ls (.int i :: .ref a :: st) (n, tg, ln, I, J, O) Q ↔ ((0 ≤ i ∧ i < Int32.ofNat (ln a)) ∧ Runs 112 35 ls (zrf (O a i) :: st) (n, tg, ln, I, J, O) Q) := R_aald rfl ht (by decide)
theorem s112_34q (ht : tg a = 24) : Runs 112 34 ls (.int i :: .ref a :: st) (n, tg, ln, I, J, O) Q ↔ ((0 ≤ i ∧ i < Int32.ofNat (ln a)) ∧ Runs 112 35 ls (zrf (O a i) :: st) (n, tg, ln, I, J, O) Q) := R_aald rfl ht (by decide)
theorem s112_34p (ht : tg a = 25) : Runs 112 34 ls (.int i :: .ref a :: st) (n, tg, ln, I, J, O) Q ↔ ((0 ≤ i ∧ i < Int32.ofNat (ln a)) ∧ Runs 112 35 ls (zrf (O a i) :: st) (n, tg, ln, I, J, O) Q) := R_aald rfl ht (by decide)
theorem s112_35 (ht : tg a = 1) (hs : zsumc st ≤ 8) : Runs 112 35 ls (.ref a :: st) (n, tg, ln, I, J, O) Q ↔ Runs 1 0 [some (.ref a)] [] (n, tg, ln, I, J, O) (fun v h2 => Runs 112 38 ls (v.toList ++ st) h2 Q) := R_callv (a := a) (rest := st) rfl rfl rfl rfl rfl rfl rfl ht hs
theorem s112_38 : Runs 112 38 ls (.int i :: st) h Q ↔ if i = 0 then Runs 112 44 ls st h Q else Runs 112 41 ls st h Q := R_ifeq rfl rfl
theorem s112_41 : Runs 112 41 ls st h Q ↔ Runs 112 43 ls (.int (-11) :: st) h Q := R_bipush rfl (by decide)
theorem s112_43 : Runs 112 43 ls [.int i] h Q ↔ Q (some (.int i)) h := R_iret rfl rfl
theorem s112_44 : Runs 112 44 [some (.ref a), x1, x2, x3, x4, x5] st h Q ↔ Runs 112 45 [some (.ref a), x1, x2, x3, x4, x5] (.ref a :: st) h Q := R_aldn rfl rfl
theorem s112_44q : Runs 112 44 [some (zrf r), x1, x2, x3, x4, x5] st h Q ↔ Runs 112 45 [some (zrf r), x1, x2, x3, x4, x5] (zrf r :: st) h Q := R_aldnq rfl rfl
theorem s112_45 (ht : tg a = 9) : Runs 112 45 ls (.ref a :: st) (n, tg, ln, I, J, O) Q ↔ Runs 112 48 ls (zrf (O a 9) :: st) (n, tg, ln, I, J, O) Q := R_getr rfl rfl rfl rfl ht
theorem s112_48 : Runs 112 48 [x0, some (.int i), x2, x3, x4, x5] st h Q ↔ Runs 112 49 [x0, some (.int i), x2, x3, x4, x5] (.int i :: st) h Q := R_ildn rfl rfl
theorem s112_49 (ht : tg a = 23) : Runs 112 49 ls (.int i :: .ref a :: st) (n, tg, ln, I, J, O) Q ↔ ((0 ≤ i ∧ i < Int32.ofNat (ln a)) ∧ Runs 112 50 ls (zrf (O a i) :: st) (n, tg, ln, I, J, O) Q) := R_aald rfl ht (by decide)
theorem s112_49q (ht : tg a = 24) : Runs 112 49 ls (.int i :: .ref a :: st) (n, tg, ln, I, J, O) Q ↔ ((0 ≤ i ∧ i < Int32.ofNat (ln a)) ∧ Runs 112 50 ls (zrf (O a i) :: st) (n, tg, ln, I, J, O) Q) := R_aald rfl ht (by decide)
theorem s112_49p (ht : tg a = 25) : Runs 112 49 ls (.int i :: .ref a :: st) (n, tg, ln, I, J, O) Q ↔ ((0 ≤ i ∧ i < Int32.ofNat (ln a)) ∧ Runs 112 50 ls (zrf (O a i) :: st) (n, tg, ln, I, J, O) Q) := R_aald rfl ht (by decide)
theorem s112_50 : Runs 112 50 [x0, x1, some (.int i), x3, x4, x5] st h Q ↔ Runs 112 51 [x0, x1, some (.int i), x3, x4, x5] (.int i :: st) h Q := R_ildn rfl rfl
theorem s112_51 : Runs 112 51 [x0, x1, x2, x3, x4, some (.int i)] st h Q ↔ Runs 112 53 [x0, x1, x2, x3, x4, some (.int i)] (.int i :: st) h Q := R_ild rfl rfl
theorem s112_53 (ht : tg a = 1) (hs : zsumc st ≤ 8) : Runs 112 53 ls (.int i1 :: .int i0 :: .ref a :: st) (n, tg, ln, I, J, O) Q ↔ Runs 7 0 [some (.ref a), some (.int i0), some (.int i1)] [] (n, tg, ln, I, J, O) (fun v h2 => Runs 112 56 ls (v.toList ++ st) h2 Q) := R_callv (a := a) (rest := st) rfl rfl rfl rfl rfl rfl rfl ht hs
theorem s112_56 : Runs 112 56 ls (.int i :: st) h Q ↔ if i = 0 then Runs 112 75 ls st h Q else Runs 112 59 ls st h Q := R_ifeq rfl rfl
theorem s112_59 : Runs 112 59 [some (.ref a), x1, x2, x3, x4, x5] st h Q ↔ Runs 112 60 [some (.ref a), x1, x2, x3, x4, x5] (.ref a :: st) h Q := R_aldn rfl rfl
theorem s112_59q : Runs 112 59 [some (zrf r), x1, x2, x3, x4, x5] st h Q ↔ Runs 112 60 [some (zrf r), x1, x2, x3, x4, x5] (zrf r :: st) h Q := R_aldnq rfl rfl
theorem s112_60 (ht : tg a = 9) : Runs 112 60 ls (.ref a :: st) (n, tg, ln, I, J, O) Q ↔ Runs 112 63 ls (zrf (O a 9) :: st) (n, tg, ln, I, J, O) Q := R_getr rfl rfl rfl rfl ht
theorem s112_63 : Runs 112 63 [x0, x1, x2, some (.int i), x4, x5] st h Q ↔ Runs 112 64 [x0, x1, x2, some (.int i), x4, x5] (.int i :: st) h Q := R_ildn rfl rfl
theorem s112_64 (ht : tg a = 23) : Runs 112 64 ls (.int i :: .ref a :: st) (n, tg, ln, I, J, O) Q ↔ ((0 ≤ i ∧ i < Int32.ofNat (ln a)) ∧ Runs 112 65 ls (zrf (O a i) :: st) (n, tg, ln, I, J, O) Q) := R_aald rfl ht (by decide)
theorem s112_64q (ht : tg a = 24) : Runs 112 64 ls (.int i :: .ref a :: st) (n, tg, ln, I, J, O) Q ↔ ((0 ≤ i ∧ i < Int32.ofNat (ln a)) ∧ Runs 112 65 ls (zrf (O a i) :: st) (n, tg, ln, I, J, O) Q) := R_aald rfl ht (by decide)
theorem s112_64p (ht : tg a = 25) : Runs 112 64 ls (.int i :: .ref a :: st) (n, tg, ln, I, J, O) Q ↔ ((0 ≤ i ∧ i < Int32.ofNat (ln a)) ∧ Runs 112 65 ls (zrf (O a i) :: st) (n, tg, ln, I, J, O) Q) := R_aald rfl ht (by decide)
theorem s112_65 : Runs 112 65 [x0, x1, x2, x3, some (.int i), x5] st h Q ↔ Runs 112 67 [x0, x1, x2, x3, some (.int i), x5] (.int i :: st) h Q := R_ild rfl rfl
theorem s112_67 : Runs 112 67 [x0, x1, x2, x3, x4, some (.int i)] st h Q ↔ Runs 112 69 [x0, x1, x2, x3, x4, some (.int i)] (.int i :: st) h Q := R_ild rfl rfl
theorem s112_69 (ht : tg a = 1) (hs : zsumc st ≤ 8) : Runs 112 69 ls (.int i1 :: .int i0 :: .ref a :: st) (n, tg, ln, I, J, O) Q ↔ Runs 7 0 [some (.ref a), some (.int i0), some (.int i1)] [] (n, tg, ln, I, J, O) (fun v h2 => Runs 112 72 ls (v.toList ++ st) h2 Q) := R_callv (a := a) (rest := st) rfl rfl rfl rfl rfl rfl rfl ht hs
theorem s112_72 : Runs 112 72 ls (.int i :: st) h Q ↔ if ¬ i = 0 then Runs 112 78 ls st h Q else Runs 112 75 ls st h Q := R_ifne rfl rfl
theorem s112_75 : Runs 112 75 ls st h Q ↔ Runs 112 77 ls (.int (-12) :: st) h Q := R_bipush rfl (by decide)
theorem s112_77 : Runs 112 77 ls [.int i] h Q ↔ Q (some (.int i)) h := R_iret rfl rfl
theorem s112_78 : Runs 112 78 [some (.ref a), x1, x2, x3, x4, x5] st h Q ↔ Runs 112 79 [some (.ref a), x1, x2, x3, x4, x5] (.ref a :: st) h Q := R_aldn rfl rfl
theorem s112_78q : Runs 112 78 [some (zrf r), x1, x2, x3, x4, x5] st h Q ↔ Runs 112 79 [some (zrf r), x1, x2, x3, x4, x5] (zrf r :: st) h Q := R_aldnq rfl rfl
theorem s112_79 (ht : tg a = 9) : Runs 112 79 ls (.ref a :: st) (n, tg, ln, I, J, O) Q ↔ Runs 112 82 ls (zrf (O a 9) :: st) (n, tg, ln, I, J, O) Q := R_getr rfl rfl rfl rfl ht
theorem s112_82 : Runs 112 82 [x0, x1, x2, some (.int i), x4, x5] st h Q ↔ Runs 112 83 [x0, x1, x2, some (.int i), x4, x5] (.int i :: st) h Q := R_ildn rfl rfl
theorem s112_83 (ht : tg a = 23) : Runs 112 83 ls (.int i :: .ref a :: st) (n, tg, ln, I, J, O) Q ↔ ((0 ≤ i ∧ i < Int32.ofNat (ln a)) ∧ Runs 112 84 ls (zrf (O a i) :: st) (n, tg, ln, I, J, O) Q) := R_aald rfl ht (by decide)
theorem s112_83q (ht : tg a = 24) : Runs 112 83 ls (.int i :: .ref a :: st) (n, tg, ln, I, J, O) Q ↔ ((0 ≤ i ∧ i < Int32.ofNat (ln a)) ∧ Runs 112 84 ls (zrf (O a i) :: st) (n, tg, ln, I, J, O) Q) := R_aald rfl ht (by decide)
theorem s112_83p (ht : tg a = 25) : Runs 112 83 ls (.int i :: .ref a :: st) (n, tg, ln, I, J, O) Q ↔ ((0 ≤ i ∧ i < Int32.ofNat (ln a)) ∧ Runs 112 84 ls (zrf (O a i) :: st) (n, tg, ln, I, J, O) Q) := R_aald rfl ht (by decide)
theorem s112_84 : Runs 112 84 [x0, x1, x2, x3, some (.int i), x5] st h Q ↔ Runs 112 86 [x0, x1, x2, x3, some (.int i), x5] (.int i :: st) h Q := R_ild rfl rfl
theorem s112_86 : Runs 112 86 [some (.ref a), x1, x2, x3, x4, x5] st h Q ↔ Runs 112 87 [some (.ref a), x1, x2, x3, x4, x5] (.ref a :: st) h Q := R_aldn rfl rfl
theorem s112_86q : Runs 112 86 [some (zrf r), x1, x2, x3, x4, x5] st h Q ↔ Runs 112 87 [some (zrf r), x1, x2, x3, x4, x5] (zrf r :: st) h Q := R_aldnq rfl rfl
theorem s112_87 (ht : tg a = 9) : Runs 112 87 ls (.ref a :: st) (n, tg, ln, I, J, O) Q ↔ Runs 112 90 ls (zrf (O a 9) :: st) (n, tg, ln, I, J, O) Q := R_getr rfl rfl rfl rfl ht
theorem s112_90 : Runs 112 90 [x0, some (.int i), x2, x3, x4, x5] st h Q ↔ Runs 112 91 [x0, some (.int i), x2, x3, x4, x5] (.int i :: st) h Q := R_ildn rfl rfl
theorem s112_91 (ht : tg a = 23) : Runs 112 91 ls (.int i :: .ref a :: st) (n, tg, ln, I, J, O) Q ↔ ((0 ≤ i ∧ i < Int32.ofNat (ln a)) ∧ Runs 112 92 ls (zrf (O a i) :: st) (n, tg, ln, I, J, O) Q) := R_aald rfl ht (by decide)
theorem s112_91q (ht : tg a = 24) : Runs 112 91 ls (.int i :: .ref a :: st) (n, tg, ln, I, J, O) Q ↔ ((0 ≤ i ∧ i < Int32.ofNat (ln a)) ∧ Runs 112 92 ls (zrf (O a i) :: st) (n, tg, ln, I, J, O) Q) := R_aald rfl ht (by decide)
theorem s112_91p (ht : tg a = 25) : Runs 112 91 ls (.int i :: .ref a :: st) (n, tg, ln, I, J, O) Q ↔ ((0 ≤ i ∧ i < Int32.ofNat (ln a)) ∧ Runs 112 92 ls (zrf (O a i) :: st) (n, tg, ln, I, J, O) Q) := R_aald rfl ht (by decide)
theorem s112_92 : Runs 112 92 [x0, x1, some (.int i), x3, x4, x5] st h Q ↔ Runs 112 93 [x0, x1, some (.int i), x3, x4, x5] (.int i :: st) h Q := R_ildn rfl rfl
theorem s112_93 : Runs 112 93 [x0, x1, x2, x3, x4, some (.int i)] st h Q ↔ Runs 112 95 [x0, x1, x2, x3, x4, some (.int i)] (.int i :: st) h Q := R_ild rfl rfl
theorem s112_95 (ht : tg a = 1) (hs : zsumc st ≤ 8) : Runs 112 95 ls (.int i3 :: .int i2 :: .ref b1 :: .int i0 :: .ref a :: st) (n, tg, ln, I, J, O) Q ↔ Runs 8 0 [some (.ref a), some (.int i0), some (.ref b1), some (.int i2), some (.int i3), none] [] (n, tg, ln, I, J, O) (fun v h2 => Runs 112 98 ls (v.toList ++ st) h2 Q) := R_callv (a := a) (rest := st) rfl rfl rfl rfl rfl rfl rfl ht hs
theorem s112_95q (ht : tg a = 1) (hs : zsumc st ≤ 8) : Runs 112 95 ls (.int i3 :: .int i2 :: zrf r1 :: .int i0 :: .ref a :: st) (n, tg, ln, I, J, O) Q ↔ Runs 8 0 [some (.ref a), some (.int i0), some (zrf r1), some (.int i2), some (.int i3), none] [] (n, tg, ln, I, J, O) (fun v h2 => Runs 112 98 ls (v.toList ++ st) h2 Q) := by cases r1 <;> exact R_callv (a := a) (rest := st) rfl rfl rfl rfl rfl rfl rfl ht hs
theorem s112_98 : Runs 112 98 [x0, x1, x2, x3, x4, some (.int i)] st h Q ↔ Runs 112 100 [x0, x1, x2, x3, x4, some (.int i)] (.int i :: st) h Q := R_ild rfl rfl
theorem s112_100 : Runs 112 100 ls [.int i] h Q ↔ Q (some (.int i)) h := R_iret rfl rfl
theorem s113_0 : Runs 113 0 [x0, some (.int i), x2] st h Q ↔ Runs 113 1 [x0, some (.int i), x2] (.int i :: st) h Q := R_ildn rfl rfl
theorem s113_1 (hs : zsumc st ≤ 8) : Runs 113 1 ls (.int i0 :: st) h Q ↔ Runs 117 0 [some (.int i0)] [] h (fun v h2 => Runs 113 4 ls (v.toList ++ st) h2 Q) := R_calls (rest := st) rfl rfl rfl (by simp) rfl rfl rfl rfl hs
theorem s113_4 : Runs 113 4 ls (.int i :: st) h Q ↔ if ¬ i = 0 then Runs 113 10 ls st h Q else Runs 113 7 ls st h Q := R_ifne rfl rfl
theorem s113_7 : Runs 113 7 ls st h Q ↔ Runs 113 9 ls (.int (-2) :: st) h Q := R_bipush rfl (by decide)
theorem s113_9 : Runs 113 9 ls [.int i] h Q ↔ Q (some (.int i)) h := R_iret rfl rfl
theorem s113_10 : Runs 113 10 [some (.ref a), x1, x2] st h Q ↔ Runs 113 11 [some (.ref a), x1, x2] (.ref a :: st) h Q := R_aldn rfl rfl
theorem s113_10q : Runs 113 10 [some (zrf r), x1, x2] st h Q ↔ Runs 113 11 [some (zrf r), x1, x2] (zrf r :: st) h Q := R_aldnq rfl rfl
theorem s113_11 (ht : tg a = 9) : Runs 113 11 ls (.ref a :: st) (n, tg, ln, I, J, O) Q ↔ Runs 113 14 ls (zrf (O a 9) :: st) (n, tg, ln, I, J, O) Q := R_getr rfl rfl rfl rfl ht
theorem s113_14 : Runs 113 14 [x0, some (.int i), x2] st h Q ↔ Runs 113 15 [x0, some (.int i), x2] (.int i :: st) h Q := R_ildn rfl rfl
theorem s113_15 (ht : tg a = 23) : Runs 113 15 ls (.int i :: .ref a :: st) (n, tg, ln, I, J, O) Q ↔ ((0 ≤ i ∧ i < Int32.ofNat (ln a)) ∧ Runs 113 16 ls (zrf (O a i) :: st) (n, tg, ln, I, J, O) Q) := R_aald rfl ht (by decide)
theorem s113_15q (ht : tg a = 24) : Runs 113 15 ls (.int i :: .ref a :: st) (n, tg, ln, I, J, O) Q ↔ ((0 ≤ i ∧ i < Int32.ofNat (ln a)) ∧ Runs 113 16 ls (zrf (O a i) :: st) (n, tg, ln, I, J, O) Q) := R_aald rfl ht (by decide)
theorem s113_15p (ht : tg a = 25) : Runs 113 15 ls (.int i :: .ref a :: st) (n, tg, ln, I, J, O) Q ↔ ((0 ≤ i ∧ i < Int32.ofNat (ln a)) ∧ Runs 113 16 ls (zrf (O a i) :: st) (n, tg, ln, I, J, O) Q) := R_aald rfl ht (by decide)
theorem s113_16 (ht : tg a = 1) (hs : zsumc st ≤ 8) : Runs 113 16 ls (.ref a :: st) (n, tg, ln, I, J, O) Q ↔ Runs 1 0 [some (.ref a)] [] (n, tg, ln, I, J, O) (fun v h2 => Runs 113 19 ls (v.toList ++ st) h2 Q) := R_callv (a := a) (rest := st) rfl rfl rfl rfl rfl rfl rfl ht hs
theorem s113_19 : Runs 113 19 ls (.int i :: st) h Q ↔ if i = 0 then Runs 113 25 ls st h Q else Runs 113 22 ls st h Q := R_ifeq rfl rfl
theorem s113_22 : Runs 113 22 ls st h Q ↔ Runs 113 24 ls (.int (-11) :: st) h Q := R_bipush rfl (by decide)
theorem s113_24 : Runs 113 24 ls [.int i] h Q ↔ Q (some (.int i)) h := R_iret rfl rfl
theorem s113_25 : Runs 113 25 [some (.ref a), x1, x2] st h Q ↔ Runs 113 26 [some (.ref a), x1, x2] (.ref a :: st) h Q := R_aldn rfl rfl
theorem s113_25q : Runs 113 25 [some (zrf r), x1, x2] st h Q ↔ Runs 113 26 [some (zrf r), x1, x2] (zrf r :: st) h Q := R_aldnq rfl rfl
theorem s113_26 (ht : tg a = 9) : Runs 113 26 ls (.ref a :: st) (n, tg, ln, I, J, O) Q ↔ Runs 113 29 ls (zrf (O a 9) :: st) (n, tg, ln, I, J, O) Q := R_getr rfl rfl rfl rfl ht
theorem s113_29 : Runs 113 29 [x0, some (.int i), x2] st h Q ↔ Runs 113 30 [x0, some (.int i), x2] (.int i :: st) h Q := R_ildn rfl rfl
theorem s113_30 (ht : tg a = 23) : Runs 113 30 ls (.int i :: .ref a :: st) (n, tg, ln, I, J, O) Q ↔ ((0 ≤ i ∧ i < Int32.ofNat (ln a)) ∧ Runs 113 31 ls (zrf (O a i) :: st) (n, tg, ln, I, J, O) Q) := R_aald rfl ht (by decide)
theorem s113_30q (ht : tg a = 24) : Runs 113 30 ls (.int i :: .ref a :: st) (n, tg, ln, I, J, O) Q ↔ ((0 ≤ i ∧ i < Int32.ofNat (ln a)) ∧ Runs 113 31 ls (zrf (O a i) :: st) (n, tg, ln, I, J, O) Q) := R_aald rfl ht (by decide)
theorem s113_30p (ht : tg a = 25) : Runs 113 30 ls (.int i :: .ref a :: st) (n, tg, ln, I, J, O) Q ↔ ((0 ≤ i ∧ i < Int32.ofNat (ln a)) ∧ Runs 113 31 ls (zrf (O a i) :: st) (n, tg, ln, I, J, O) Q) := R_aald rfl ht (by decide)
theorem s113_31 (ht : tg a = 1) (hs : zsumc st ≤ 8) : Runs 113 31 ls (.ref a :: st) (n, tg, ln, I, J, O) Q ↔ Runs 9 0 [some (.ref a), none, none] [] (n, tg, ln, I, J, O) (fun v h2 => Runs 113 34 ls (v.toList ++ st) h2 Q) := R_callv (a := a) (rest := st) rfl rfl rfl rfl rfl rfl rfl ht hs
theorem s113_34 : Runs 113 34 [x0, x1, x2] (.int i :: st) h Q ↔ Runs 113 35 [x0, zdrop x1, some (.int i)] st h Q := R_istn rfl rfl rfl
theorem s113_35 : Runs 113 35 [some (.ref a), x1, x2] st h Q ↔ Runs 113 36 [some (.ref a), x1, x2] (.ref a :: st) h Q := R_aldn rfl rfl
theorem s113_35q : Runs 113 35 [some (zrf r), x1, x2] st h Q ↔ Runs 113 36 [some (zrf r), x1, x2] (zrf r :: st) h Q := R_aldnq rfl rfl
theorem s113_36 (ht : tg a = 9) : Runs 113 36 ls (.ref a :: st) (n, tg, ln, I, J, O) Q ↔ Runs 113 39 ls (zrf (O a 9) :: st) (n, tg, ln, I, J, O) Q := R_getr rfl rfl rfl rfl ht
theorem s113_39 : Runs 113 39 [x0, some (.int i), x2] st h Q ↔ Runs 113 40 [x0, some (.int i), x2] (.int i :: st) h Q := R_ildn rfl rfl
theorem s113_40 (ht : tg a = 23) : Runs 113 40 ls (.int i :: .ref a :: st) (n, tg, ln, I, J, O) Q ↔ ((0 ≤ i ∧ i < Int32.ofNat (ln a)) ∧ Runs 113 41 ls (zrf (O a i) :: st) (n, tg, ln, I, J, O) Q) := R_aald rfl ht (by decide)
theorem s113_40q (ht : tg a = 24) : Runs 113 40 ls (.int i :: .ref a :: st) (n, tg, ln, I, J, O) Q ↔ ((0 ≤ i ∧ i < Int32.ofNat (ln a)) ∧ Runs 113 41 ls (zrf (O a i) :: st) (n, tg, ln, I, J, O) Q) := R_aald rfl ht (by decide)
theorem s113_40p (ht : tg a = 25) : Runs 113 40 ls (.int i :: .ref a :: st) (n, tg, ln, I, J, O) Q ↔ ((0 ≤ i ∧ i < Int32.ofNat (ln a)) ∧ Runs 113 41 ls (zrf (O a i) :: st) (n, tg, ln, I, J, O) Q) := R_aald rfl ht (by decide)
theorem s113_41 (ht : tg a = 1) (hs : zsumc st ≤ 8) : Runs 113 41 ls (.ref a :: st) (n, tg, ln, I, J, O) Q ↔ Runs 2 0 [some (.ref a)] [] (n, tg, ln, I, J, O) (fun v h2 => Runs 113 44 ls (v.toList ++ st) h2 Q) := R_callv (a := a) (rest := st) rfl rfl rfl rfl rfl rfl rfl ht hs
theorem s113_44 : Runs 113 44 [x0, x1, some (.int i)] st h Q ↔ Runs 113 45 [x0, x1, some (.int i)] (.int i :: st) h Q := R_ildn rfl rfl
theorem s113_45 : Runs 113 45 ls [.int i] h Q ↔ Q (some (.int i)) h := R_iret rfl rfl
theorem s114_0 : Runs 114 0 [x0, some (.int i)] st h Q ↔ Runs 114 1 [x0, some (.int i)] (.int i :: st) h Q := R_ildn rfl rfl
theorem s114_1 : Runs 114 1 ls (.int i :: st) h Q ↔ if i = 0 then Runs 114 64 ls st h Q else if i = 1 then Runs 114 72 ls st h Q else if i = 2 then Runs 114 84 ls st h Q else if i = 3 then Runs 114 96 ls st h Q else if i = 4 then Runs 114 104 ls st h Q else if i = 5 then Runs 114 112 ls st h Q else if i = 6 then Runs 114 120 ls st h Q else if i = 7 then Runs 114 129 ls st h Q else if i = 8 then Runs 114 138 ls st h Q else if i = 9 then Runs 114 146 ls st h Q else if i = 10 then Runs 114 151 ls st h Q else if i = 11 then Runs 114 159 ls st h Q else Runs 114 167 ls st h Q := by
  by_cases h0 : i = 0
  · rw [if_pos h0]; subst h0; exact R_tabI rfl (by decide) rfl rfl
  rw [if_neg h0]
  by_cases h1 : i = 1
  · rw [if_pos h1]; subst h1; exact R_tabI rfl (by decide) rfl rfl
  rw [if_neg h1]
  by_cases h2 : i = 2
  · rw [if_pos h2]; subst h2; exact R_tabI rfl (by decide) rfl rfl
  rw [if_neg h2]
  by_cases h3 : i = 3
  · rw [if_pos h3]; subst h3; exact R_tabI rfl (by decide) rfl rfl
  rw [if_neg h3]
  by_cases h4 : i = 4
  · rw [if_pos h4]; subst h4; exact R_tabI rfl (by decide) rfl rfl
  rw [if_neg h4]
  by_cases h5 : i = 5
  · rw [if_pos h5]; subst h5; exact R_tabI rfl (by decide) rfl rfl
  rw [if_neg h5]
  by_cases h6 : i = 6
  · rw [if_pos h6]; subst h6; exact R_tabI rfl (by decide) rfl rfl
  rw [if_neg h6]
  by_cases h7 : i = 7
  · rw [if_pos h7]; subst h7; exact R_tabI rfl (by decide) rfl rfl
  rw [if_neg h7]
  by_cases h8 : i = 8
  · rw [if_pos h8]; subst h8; exact R_tabI rfl (by decide) rfl rfl
  rw [if_neg h8]
  by_cases h9 : i = 9
  · rw [if_pos h9]; subst h9; exact R_tabI rfl (by decide) rfl rfl
  rw [if_neg h9]
  by_cases h10 : i = 10
  · rw [if_pos h10]; subst h10; exact R_tabI rfl (by decide) rfl rfl
  rw [if_neg h10]
  by_cases h11 : i = 11
  · rw [if_pos h11]; subst h11; exact R_tabI rfl (by decide) rfl rfl
  rw [if_neg h11]
  exact R_tabO rfl (zout 11 i (by decide) (fun v hv => match v, hv with
    | 0, _ => h0
    | 1, _ => h1
    | 2, _ => h2
    | 3, _ => h3
    | 4, _ => h4
    | 5, _ => h5
    | 6, _ => h6
    | 7, _ => h7
    | 8, _ => h8
    | 9, _ => h9
    | 10, _ => h10
    | 11, _ => h11
    | z + 12, hv => absurd hv (by omega))) rfl
theorem s114_64 : Runs 114 64 [some (.ref a), x1] st h Q ↔ Runs 114 65 [some (.ref a), x1] (.ref a :: st) h Q := R_aldn rfl rfl
theorem s114_64q : Runs 114 64 [some (zrf r), x1] st h Q ↔ Runs 114 65 [some (zrf r), x1] (zrf r :: st) h Q := R_aldnq rfl rfl
theorem s114_65 (ht : tg a = 9) : Runs 114 65 ls (.ref a :: st) (n, tg, ln, I, J, O) Q ↔ Runs 114 68 ls (zrf (O a 0) :: st) (n, tg, ln, I, J, O) Q := R_getr rfl rfl rfl rfl ht
theorem s114_68 (ht : tg a = 5) : Runs 114 68 ls (.ref a :: st) (n, tg, ln, I, J, O) Q ↔ Runs 114 71 ls (.int (I a 5) :: st) (n, tg, ln, I, J, O) Q := R_geti rfl rfl rfl rfl ht
theorem s114_71 : Runs 114 71 ls [.int i] h Q ↔ Q (some (.int i)) h := R_iret rfl rfl
theorem s114_72 : Runs 114 72 [some (.ref a), x1] st h Q ↔ Runs 114 73 [some (.ref a), x1] (.ref a :: st) h Q := R_aldn rfl rfl
theorem s114_72q : Runs 114 72 [some (zrf r), x1] st h Q ↔ Runs 114 73 [some (zrf r), x1] (zrf r :: st) h Q := R_aldnq rfl rfl
theorem s114_73 (ht : tg a = 9) : Runs 114 73 ls (.ref a :: st) (n, tg, ln, I, J, O) Q ↔ Runs 114 76 ls (zrf (O a 0) :: st) (n, tg, ln, I, J, O) Q := R_getr rfl rfl rfl rfl ht
theorem s114_76 : Runs 114 76 ls st h Q ↔ Runs 114 77 ls (.int 0 :: st) h Q := R_iconst rfl rfl
theorem s114_77 (ht : tg a = 5) (hs : zsumc st ≤ 8) : Runs 114 77 ls (.int i0 :: .ref a :: st) (n, tg, ln, I, J, O) Q ↔ Runs 41 0 [some (.ref a), some (.int i0)] [] (n, tg, ln, I, J, O) (fun v h2 => Runs 114 80 ls (v.toList ++ st) h2 Q) := R_callv (a := a) (rest := st) rfl rfl rfl rfl rfl rfl rfl ht hs
theorem s114_80 (ht : tg a = 4) : Runs 114 80 ls (.ref a :: st) (n, tg, ln, I, J, O) Q ↔ Runs 114 83 ls (.int (I a 1) :: st) (n, tg, ln, I, J, O) Q := R_geti rfl rfl rfl rfl ht
theorem s114_83 : Runs 114 83 ls [.int i] h Q ↔ Q (some (.int i)) h := R_iret rfl rfl
theorem s114_84 : Runs 114 84 [some (.ref a), x1] st h Q ↔ Runs 114 85 [some (.ref a), x1] (.ref a :: st) h Q := R_aldn rfl rfl
theorem s114_84q : Runs 114 84 [some (zrf r), x1] st h Q ↔ Runs 114 85 [some (zrf r), x1] (zrf r :: st) h Q := R_aldnq rfl rfl
theorem s114_85 (ht : tg a = 9) : Runs 114 85 ls (.ref a :: st) (n, tg, ln, I, J, O) Q ↔ Runs 114 88 ls (zrf (O a 0) :: st) (n, tg, ln, I, J, O) Q := R_getr rfl rfl rfl rfl ht
theorem s114_88 : Runs 114 88 ls st h Q ↔ Runs 114 89 ls (.int 1 :: st) h Q := R_iconst rfl rfl
theorem s114_89 (ht : tg a = 5) (hs : zsumc st ≤ 8) : Runs 114 89 ls (.int i0 :: .ref a :: st) (n, tg, ln, I, J, O) Q ↔ Runs 41 0 [some (.ref a), some (.int i0)] [] (n, tg, ln, I, J, O) (fun v h2 => Runs 114 92 ls (v.toList ++ st) h2 Q) := R_callv (a := a) (rest := st) rfl rfl rfl rfl rfl rfl rfl ht hs
theorem s114_92 (ht : tg a = 4) : Runs 114 92 ls (.ref a :: st) (n, tg, ln, I, J, O) Q ↔ Runs 114 95 ls (.int (I a 1) :: st) (n, tg, ln, I, J, O) Q := R_geti rfl rfl rfl rfl ht
theorem s114_95 : Runs 114 95 ls [.int i] h Q ↔ Q (some (.int i)) h := R_iret rfl rfl
theorem s114_96 : Runs 114 96 [some (.ref a), x1] st h Q ↔ Runs 114 97 [some (.ref a), x1] (.ref a :: st) h Q := R_aldn rfl rfl
theorem s114_96q : Runs 114 96 [some (zrf r), x1] st h Q ↔ Runs 114 97 [some (zrf r), x1] (zrf r :: st) h Q := R_aldnq rfl rfl
theorem s114_97 (ht : tg a = 9) : Runs 114 97 ls (.ref a :: st) (n, tg, ln, I, J, O) Q ↔ Runs 114 100 ls (zrf (O a 0) :: st) (n, tg, ln, I, J, O) Q := R_getr rfl rfl rfl rfl ht
theorem s114_100 (ht : tg a = 5) : Runs 114 100 ls (.ref a :: st) (n, tg, ln, I, J, O) Q ↔ Runs 114 103 ls (.int (I a 6) :: st) (n, tg, ln, I, J, O) Q := R_geti rfl rfl rfl rfl ht
theorem s114_103 : Runs 114 103 ls [.int i] h Q ↔ Q (some (.int i)) h := R_iret rfl rfl
theorem s114_104 : Runs 114 104 [some (.ref a), x1] st h Q ↔ Runs 114 105 [some (.ref a), x1] (.ref a :: st) h Q := R_aldn rfl rfl
theorem s114_104q : Runs 114 104 [some (zrf r), x1] st h Q ↔ Runs 114 105 [some (zrf r), x1] (zrf r :: st) h Q := R_aldnq rfl rfl
theorem s114_105 (ht : tg a = 9) : Runs 114 105 ls (.ref a :: st) (n, tg, ln, I, J, O) Q ↔ Runs 114 108 ls (zrf (O a 0) :: st) (n, tg, ln, I, J, O) Q := R_getr rfl rfl rfl rfl ht
theorem s114_108 (ht : tg a = 5) : Runs 114 108 ls (.ref a :: st) (n, tg, ln, I, J, O) Q ↔ Runs 114 111 ls (.int (I a 8) :: st) (n, tg, ln, I, J, O) Q := R_geti rfl rfl rfl rfl ht
theorem s114_111 : Runs 114 111 ls [.int i] h Q ↔ Q (some (.int i)) h := R_iret rfl rfl
theorem s114_112 : Runs 114 112 [some (.ref a), x1] st h Q ↔ Runs 114 113 [some (.ref a), x1] (.ref a :: st) h Q := R_aldn rfl rfl
theorem s114_112q : Runs 114 112 [some (zrf r), x1] st h Q ↔ Runs 114 113 [some (zrf r), x1] (zrf r :: st) h Q := R_aldnq rfl rfl
theorem s114_113 (ht : tg a = 9) : Runs 114 113 ls (.ref a :: st) (n, tg, ln, I, J, O) Q ↔ Runs 114 116 ls (zrf (O a 0) :: st) (n, tg, ln, I, J, O) Q := R_getr rfl rfl rfl rfl ht
theorem s114_116 (ht : tg a = 5) : Runs 114 116 ls (.ref a :: st) (n, tg, ln, I, J, O) Q ↔ Runs 114 119 ls (.int (I a 7) :: st) (n, tg, ln, I, J, O) Q := R_geti rfl rfl rfl rfl ht
theorem s114_119 : Runs 114 119 ls [.int i] h Q ↔ Q (some (.int i)) h := R_iret rfl rfl
theorem s114_120 : Runs 114 120 [some (.ref a), x1] st h Q ↔ Runs 114 121 [some (.ref a), x1] (.ref a :: st) h Q := R_aldn rfl rfl
theorem s114_120q : Runs 114 120 [some (zrf r), x1] st h Q ↔ Runs 114 121 [some (zrf r), x1] (zrf r :: st) h Q := R_aldnq rfl rfl
theorem s114_121 (ht : tg a = 9) : Runs 114 121 ls (.ref a :: st) (n, tg, ln, I, J, O) Q ↔ Runs 114 124 ls (zrf (O a 0) :: st) (n, tg, ln, I, J, O) Q := R_getr rfl rfl rfl rfl ht
theorem s114_124 : Runs 114 124 ls st h Q ↔ Runs 114 125 ls (.int 1 :: st) h Q := R_iconst rfl rfl
theorem s114_125 (ht : tg a = 5) (hs : zsumc st ≤ 8) : Runs 114 125 ls (.int i0 :: .ref a :: st) (n, tg, ln, I, J, O) Q ↔ Runs 44 0 [some (.ref a), some (.int i0), none, none] [] (n, tg, ln, I, J, O) (fun v h2 => Runs 114 128 ls (v.toList ++ st) h2 Q) := R_callv (a := a) (rest := st) rfl rfl rfl rfl rfl rfl rfl ht hs
theorem s114_128 : Runs 114 128 ls [.int i] h Q ↔ Q (some (.int i)) h := R_iret rfl rfl
theorem s114_129 : Runs 114 129 [some (.ref a), x1] st h Q ↔ Runs 114 130 [some (.ref a), x1] (.ref a :: st) h Q := R_aldn rfl rfl
theorem s114_129q : Runs 114 129 [some (zrf r), x1] st h Q ↔ Runs 114 130 [some (zrf r), x1] (zrf r :: st) h Q := R_aldnq rfl rfl
theorem s114_130 (ht : tg a = 9) : Runs 114 130 ls (.ref a :: st) (n, tg, ln, I, J, O) Q ↔ Runs 114 133 ls (zrf (O a 0) :: st) (n, tg, ln, I, J, O) Q := R_getr rfl rfl rfl rfl ht
theorem s114_133 : Runs 114 133 ls st h Q ↔ Runs 114 134 ls (.int 2 :: st) h Q := R_iconst rfl rfl
theorem s114_134 (ht : tg a = 5) (hs : zsumc st ≤ 8) : Runs 114 134 ls (.int i0 :: .ref a :: st) (n, tg, ln, I, J, O) Q ↔ Runs 44 0 [some (.ref a), some (.int i0), none, none] [] (n, tg, ln, I, J, O) (fun v h2 => Runs 114 137 ls (v.toList ++ st) h2 Q) := R_callv (a := a) (rest := st) rfl rfl rfl rfl rfl rfl rfl ht hs
theorem s114_137 : Runs 114 137 ls [.int i] h Q ↔ Q (some (.int i)) h := R_iret rfl rfl
theorem s114_138 : Runs 114 138 [some (.ref a), x1] st h Q ↔ Runs 114 139 [some (.ref a), x1] (.ref a :: st) h Q := R_aldn rfl rfl
theorem s114_138q : Runs 114 138 [some (zrf r), x1] st h Q ↔ Runs 114 139 [some (zrf r), x1] (zrf r :: st) h Q := R_aldnq rfl rfl
theorem s114_139 (ht : tg a = 9) : Runs 114 139 ls (.ref a :: st) (n, tg, ln, I, J, O) Q ↔ Runs 114 142 ls (zrf (O a 8) :: st) (n, tg, ln, I, J, O) Q := R_getr rfl rfl rfl rfl ht
theorem s114_142 (ht : tg a = 7) : Runs 114 142 ls (.ref a :: st) (n, tg, ln, I, J, O) Q ↔ Runs 114 145 ls (.int (I a 2) :: st) (n, tg, ln, I, J, O) Q := R_geti rfl rfl rfl rfl ht
theorem s114_145 : Runs 114 145 ls [.int i] h Q ↔ Q (some (.int i)) h := R_iret rfl rfl
theorem s114_146 : Runs 114 146 [some (.ref a), x1] st h Q ↔ Runs 114 147 [some (.ref a), x1] (.ref a :: st) h Q := R_aldn rfl rfl
theorem s114_146q : Runs 114 146 [some (zrf r), x1] st h Q ↔ Runs 114 147 [some (zrf r), x1] (zrf r :: st) h Q := R_aldnq rfl rfl
theorem s114_147 (ht : tg a = 9) (hs : zsumc st ≤ 8) : Runs 114 147 ls (.ref a :: st) (n, tg, ln, I, J, O) Q ↔ Runs 124 0 [some (.ref a), none, none] [] (n, tg, ln, I, J, O) (fun v h2 => Runs 114 150 ls (v.toList ++ st) h2 Q) := R_callv (a := a) (rest := st) rfl rfl rfl rfl rfl rfl rfl ht hs
theorem s114_150 : Runs 114 150 ls [.int i] h Q ↔ Q (some (.int i)) h := R_iret rfl rfl
theorem s114_151 : Runs 114 151 [some (.ref a), x1] st h Q ↔ Runs 114 152 [some (.ref a), x1] (.ref a :: st) h Q := R_aldn rfl rfl
theorem s114_151q : Runs 114 151 [some (zrf r), x1] st h Q ↔ Runs 114 152 [some (zrf r), x1] (zrf r :: st) h Q := R_aldnq rfl rfl
theorem s114_152 (ht : tg a = 9) : Runs 114 152 ls (.ref a :: st) (n, tg, ln, I, J, O) Q ↔ Runs 114 155 ls (zrf (O a 5) :: st) (n, tg, ln, I, J, O) Q := R_getr rfl rfl rfl rfl ht
theorem s114_155 (ht : tg a = 2) : Runs 114 155 ls (.ref a :: st) (n, tg, ln, I, J, O) Q ↔ Runs 114 158 ls (.int (I a 2) :: st) (n, tg, ln, I, J, O) Q := R_geti rfl rfl rfl rfl ht
theorem s114_158 : Runs 114 158 ls [.int i] h Q ↔ Q (some (.int i)) h := R_iret rfl rfl
theorem s114_159 : Runs 114 159 [some (.ref a), x1] st h Q ↔ Runs 114 160 [some (.ref a), x1] (.ref a :: st) h Q := R_aldn rfl rfl
theorem s114_159q : Runs 114 159 [some (zrf r), x1] st h Q ↔ Runs 114 160 [some (zrf r), x1] (zrf r :: st) h Q := R_aldnq rfl rfl
theorem s114_160 (ht : tg a = 9) : Runs 114 160 ls (.ref a :: st) (n, tg, ln, I, J, O) Q ↔ Runs 114 163 ls (zrf (O a 3) :: st) (n, tg, ln, I, J, O) Q := R_getr rfl rfl rfl rfl ht
theorem s114_163 (ht : tg a = 8) : Runs 114 163 ls (.ref a :: st) (n, tg, ln, I, J, O) Q ↔ Runs 114 166 ls (.int (I a 1) :: st) (n, tg, ln, I, J, O) Q := R_geti rfl rfl rfl rfl ht
theorem s114_166 : Runs 114 166 ls [.int i] h Q ↔ Q (some (.int i)) h := R_iret rfl rfl
theorem s114_167 : Runs 114 167 ls st h Q ↔ Runs 114 169 ls (.int (-3) :: st) h Q := R_bipush rfl (by decide)
theorem s114_169 : Runs 114 169 ls [.int i] h Q ↔ Q (some (.int i)) h := R_iret rfl rfl
theorem s115_0 : Runs 115 0 [some (.int i)] st h Q ↔ Runs 115 1 [some (.int i)] (.int i :: st) h Q := R_ildn rfl rfl
theorem s115_1 : Runs 115 1 ls (.int i :: st) h Q ↔ if i < 0 then Runs 115 13 ls st h Q else Runs 115 4 ls st h Q := R_iflt rfl rfl
theorem s115_4 : Runs 115 4 [some (.int i)] st h Q ↔ Runs 115 5 [some (.int i)] (.int i :: st) h Q := R_ildn rfl rfl
theorem s115_5 : Runs 115 5 ls st h Q ↔ Runs 115 6 ls (.int 2 :: st) h Q := R_iconst rfl rfl
theorem s115_6 : Runs 115 6 ls (.int j :: .int i :: st) h Q ↔ if j ≤ i then Runs 115 13 ls st h Q else Runs 115 9 ls st h Q := R_icge rfl rfl
theorem s115_9 : Runs 115 9 ls st h Q ↔ Runs 115 10 ls (.int 1 :: st) h Q := R_iconst rfl rfl
theorem s115_10 : Runs 115 10 ls st h Q ↔ Runs 115 14 ls st h Q := R_goto rfl rfl
theorem s115_13 : Runs 115 13 ls st h Q ↔ Runs 115 14 ls (.int 0 :: st) h Q := R_iconst rfl rfl
theorem s115_14 (hx : i = 0 ∨ i = 1) : Runs 115 14 ls [.int i] h Q ↔ Q (some (.int i)) h := R_zret rfl rfl hx
theorem s116_0 : Runs 116 0 [some (.int i)] st h Q ↔ Runs 116 1 [some (.int i)] (.int i :: st) h Q := R_ildn rfl rfl
theorem s116_1 : Runs 116 1 ls (.int i :: st) h Q ↔ if i < 0 then Runs 116 13 ls st h Q else Runs 116 4 ls st h Q := R_iflt rfl rfl
theorem s116_4 : Runs 116 4 [some (.int i)] st h Q ↔ Runs 116 5 [some (.int i)] (.int i :: st) h Q := R_ildn rfl rfl
theorem s116_5 : Runs 116 5 ls st h Q ↔ Runs 116 6 ls (.int 2 :: st) h Q := R_iconst rfl rfl
theorem s116_6 : Runs 116 6 ls (.int j :: .int i :: st) h Q ↔ if j ≤ i then Runs 116 13 ls st h Q else Runs 116 9 ls st h Q := R_icge rfl rfl
theorem s116_9 : Runs 116 9 ls st h Q ↔ Runs 116 10 ls (.int 1 :: st) h Q := R_iconst rfl rfl
theorem s116_10 : Runs 116 10 ls st h Q ↔ Runs 116 14 ls st h Q := R_goto rfl rfl
theorem s116_13 : Runs 116 13 ls st h Q ↔ Runs 116 14 ls (.int 0 :: st) h Q := R_iconst rfl rfl
theorem s116_14 (hx : i = 0 ∨ i = 1) : Runs 116 14 ls [.int i] h Q ↔ Q (some (.int i)) h := R_zret rfl rfl hx
theorem s117_0 : Runs 117 0 [some (.int i)] st h Q ↔ Runs 117 1 [some (.int i)] (.int i :: st) h Q := R_ildn rfl rfl
theorem s117_1 : Runs 117 1 ls (.int i :: st) h Q ↔ if i < 0 then Runs 117 13 ls st h Q else Runs 117 4 ls st h Q := R_iflt rfl rfl
theorem s117_4 : Runs 117 4 [some (.int i)] st h Q ↔ Runs 117 5 [some (.int i)] (.int i :: st) h Q := R_ildn rfl rfl
theorem s117_5 : Runs 117 5 ls st h Q ↔ Runs 117 6 ls (.int 3 :: st) h Q := R_iconst rfl rfl
theorem s117_6 : Runs 117 6 ls (.int j :: .int i :: st) h Q ↔ if j ≤ i then Runs 117 13 ls st h Q else Runs 117 9 ls st h Q := R_icge rfl rfl
theorem s117_9 : Runs 117 9 ls st h Q ↔ Runs 117 10 ls (.int 1 :: st) h Q := R_iconst rfl rfl
theorem s117_10 : Runs 117 10 ls st h Q ↔ Runs 117 14 ls st h Q := R_goto rfl rfl
theorem s117_13 : Runs 117 13 ls st h Q ↔ Runs 117 14 ls (.int 0 :: st) h Q := R_iconst rfl rfl
theorem s117_14 (hx : i = 0 ∨ i = 1) : Runs 117 14 ls [.int i] h Q ↔ Q (some (.int i)) h := R_zret rfl rfl hx
theorem s118_0 : Runs 118 0 [some (.int i), x1] st h Q ↔ Runs 118 1 [some (.int i), x1] (.int i :: st) h Q := R_ildn rfl rfl
theorem s118_1 : Runs 118 1 ls (.int i :: st) h Q ↔ if i < 0 then Runs 118 23 ls st h Q else Runs 118 4 ls st h Q := R_iflt rfl rfl
theorem s118_4 : Runs 118 4 [some (.int i), x1] st h Q ↔ Runs 118 5 [some (.int i), x1] (.int i :: st) h Q := R_ildn rfl rfl
theorem s118_5 : Runs 118 5 ls st h Q ↔ Runs 118 6 ls (.int 4 :: st) h Q := R_iconst rfl rfl
theorem s118_6 : Runs 118 6 ls (.int j :: .int i :: st) h Q ↔ if j < i then Runs 118 23 ls st h Q else Runs 118 9 ls st h Q := R_icgt rfl rfl
theorem s118_9 : Runs 118 9 [x0, some (.int i)] st h Q ↔ Runs 118 10 [x0, some (.int i)] (.int i :: st) h Q := R_ildn rfl rfl
theorem s118_10 : Runs 118 10 ls (.int i :: st) h Q ↔ if i < 0 then Runs 118 23 ls st h Q else Runs 118 13 ls st h Q := R_iflt rfl rfl
theorem s118_13 : Runs 118 13 [x0, some (.int i)] st h Q ↔ Runs 118 14 [x0, some (.int i)] (.int i :: st) h Q := R_ildn rfl rfl
theorem s118_14 : Runs 118 14 ls st h Q ↔ Runs 118 16 ls (.int 99 :: st) h Q := R_bipush rfl (by decide)
theorem s118_16 : Runs 118 16 ls (.int j :: .int i :: st) h Q ↔ if j < i then Runs 118 23 ls st h Q else Runs 118 19 ls st h Q := R_icgt rfl rfl
theorem s118_19 : Runs 118 19 ls st h Q ↔ Runs 118 20 ls (.int 1 :: st) h Q := R_iconst rfl rfl
theorem s118_20 : Runs 118 20 ls st h Q ↔ Runs 118 24 ls st h Q := R_goto rfl rfl
theorem s118_23 : Runs 118 23 ls st h Q ↔ Runs 118 24 ls (.int 0 :: st) h Q := R_iconst rfl rfl
theorem s118_24 (hx : i = 0 ∨ i = 1) : Runs 118 24 ls [.int i] h Q ↔ Q (some (.int i)) h := R_zret rfl rfl hx
theorem s119_0 : Runs 119 0 ls st h Q ↔ Runs 119 1 ls (.int 1 :: st) h Q := R_iconst rfl rfl
theorem s119_1 : Runs 119 1 [x0, x1, x2, x3] (.int i :: st) h Q ↔ Runs 119 2 [x0, x1, zdrop x2, some (.int i)] st h Q := R_istn rfl rfl rfl
theorem s119_2 : Runs 119 2 [x0, x1, x2, some (.int i)] st h Q ↔ Runs 119 3 [x0, x1, x2, some (.int i)] (.int i :: st) h Q := R_ildn rfl rfl
theorem s119_3 : Runs 119 3 [x0, x1, some (.int i), x3] st h Q ↔ Runs 119 4 [x0, x1, some (.int i), x3] (.int i :: st) h Q := R_ildn rfl rfl
theorem s119_4 : Runs 119 4 ls (.int j :: .int i :: st) h Q ↔ if j < i then Runs 119 26 ls st h Q else Runs 119 7 ls st h Q := R_icgt rfl rfl
theorem s119_7 : Runs 119 7 [some (.ref a), x1, x2, x3] st h Q ↔ Runs 119 8 [some (.ref a), x1, x2, x3] (.ref a :: st) h Q := R_aldn rfl rfl
theorem s119_7q : Runs 119 7 [some (zrf r), x1, x2, x3] st h Q ↔ Runs 119 8 [some (zrf r), x1, x2, x3] (zrf r :: st) h Q := R_aldnq rfl rfl
theorem s119_8 (ht : tg a = 9) : Runs 119 8 ls (.ref a :: st) (n, tg, ln, I, J, O) Q ↔ Runs 119 11 ls (zrf (O a 2) :: st) (n, tg, ln, I, J, O) Q := R_getr rfl rfl rfl rfl ht
theorem s119_11 (ht : tg a = 5) (hs : zsumc st ≤ 8) : Runs 119 11 ls (.ref a :: st) (n, tg, ln, I, J, O) Q ↔ Runs 51 0 [some (.ref a), none, none] [] (n, tg, ln, I, J, O) (fun v h2 => Runs 119 14 ls (v.toList ++ st) h2 Q) := R_callv (a := a) (rest := st) rfl rfl rfl rfl rfl rfl rfl ht hs
theorem s119_14 : Runs 119 14 [x0, some (.int i), x2, x3] st h Q ↔ Runs 119 15 [x0, some (.int i), x2, x3] (.int i :: st) h Q := R_ildn rfl rfl
theorem s119_15 : Runs 119 15 ls (.int j :: .int i :: st) h Q ↔ if ¬ i = j then Runs 119 20 ls st h Q else Runs 119 18 ls st h Q := R_icne rfl rfl
theorem s119_18 : Runs 119 18 [x0, x1, x2, some (.int i)] st h Q ↔ Runs 119 19 [x0, x1, x2, some (.int i)] (.int i :: st) h Q := R_ildn rfl rfl
theorem s119_19 : Runs 119 19 ls [.int i] h Q ↔ Q (some (.int i)) h := R_iret rfl rfl
theorem s119_20 : Runs 119 20 [x0, x1, x2, some (.int i)] st h Q ↔ Runs 119 23 [x0, x1, zdrop x2, some (.int (i + 1))] st h Q := R_iinc rfl rfl rfl rfl rfl
theorem s119_23 : Runs 119 23 ls st h Q ↔ Runs 119 2 ls st h Q := R_goto rfl rfl
theorem s119_26 : Runs 119 26 ls st h Q ↔ Runs 119 27 ls (.int (-1) :: st) h Q := R_iconst rfl rfl
theorem s119_27 : Runs 119 27 ls [.int i] h Q ↔ Q (some (.int i)) h := R_iret rfl rfl
theorem s120_0 : Runs 120 0 [some (.ref a), x1, x2, x3] st h Q ↔ Runs 120 1 [some (.ref a), x1, x2, x3] (.ref a :: st) h Q := R_aldn rfl rfl
theorem s120_0q : Runs 120 0 [some (zrf r), x1, x2, x3] st h Q ↔ Runs 120 1 [some (zrf r), x1, x2, x3] (zrf r :: st) h Q := R_aldnq rfl rfl
theorem s120_1 (ht : tg a = 9) : Runs 120 1 ls (.ref a :: st) (n, tg, ln, I, J, O) Q ↔ Runs 120 4 ls (zrf (O a 2) :: st) (n, tg, ln, I, J, O) Q := R_getr rfl rfl rfl rfl ht
theorem s120_4 : Runs 120 4 [some (.ref a), x1, x2, x3] st h Q ↔ Runs 120 5 [some (.ref a), x1, x2, x3] (.ref a :: st) h Q := R_aldn rfl rfl
theorem s120_4q : Runs 120 4 [some (zrf r), x1, x2, x3] st h Q ↔ Runs 120 5 [some (zrf r), x1, x2, x3] (zrf r :: st) h Q := R_aldnq rfl rfl
theorem s120_5 (ht : tg a = 9) : Runs 120 5 ls (.ref a :: st) (n, tg, ln, I, J, O) Q ↔ Runs 120 8 ls (zrf (O a 0) :: st) (n, tg, ln, I, J, O) Q := R_getr rfl rfl rfl rfl ht
theorem s120_8 (ht : tg a = 5) (hs : zsumc st ≤ 8) : Runs 120 8 ls (.ref b0 :: .ref a :: st) (n, tg, ln, I, J, O) Q ↔ Runs 38 0 [some (.ref a), some (.ref b0)] [] (n, tg, ln, I, J, O) (fun v h2 => Runs 120 11 ls (v.toList ++ st) h2 Q) := R_callv (a := a) (rest := st) rfl rfl rfl rfl rfl rfl rfl ht hs
theorem s120_8q (ht : tg a = 5) (hs : zsumc st ≤ 8) : Runs 120 8 ls (zrf r0 :: .ref a :: st) (n, tg, ln, I, J, O) Q ↔ Runs 38 0 [some (.ref a), some (zrf r0)] [] (n, tg, ln, I, J, O) (fun v h2 => Runs 120 11 ls (v.toList ++ st) h2 Q) := by cases r0 <;> exact R_callv (a := a) (rest := st) rfl rfl rfl rfl rfl rfl rfl ht hs
theorem s120_11 : Runs 120 11 [some (.ref a), x1, x2, x3] st h Q ↔ Runs 120 12 [some (.ref a), x1, x2, x3] (.ref a :: st) h Q := R_aldn rfl rfl
theorem s120_11q : Runs 120 11 [some (zrf r), x1, x2, x3] st h Q ↔ Runs 120 12 [some (zrf r), x1, x2, x3] (zrf r :: st) h Q := R_aldnq rfl rfl
theorem s120_12 (ht : tg a = 9) : Runs 120 12 ls (.ref a :: st) (n, tg, ln, I, J, O) Q ↔ Runs 120 15 ls (zrf (O a 2) :: st) (n, tg, ln, I, J, O) Q := R_getr rfl rfl rfl rfl ht
theorem s120_15 : Runs 120 15 [x0, some (.int i), x2, x3] st h Q ↔ Runs 120 16 [x0, some (.int i), x2, x3] (.int i :: st) h Q := R_ildn rfl rfl
theorem s120_16 (ht : tg a = 5) (hs : zsumc st ≤ 8) : Runs 120 16 ls (.int i0 :: .ref a :: st) (n, tg, ln, I, J, O) Q ↔ Runs 45 0 [some (.ref a), some (.int i0)] [] (n, tg, ln, I, J, O) (fun v h2 => Runs 120 19 ls (v.toList ++ st) h2 Q) := R_callv (a := a) (rest := st) rfl rfl rfl rfl rfl rfl rfl ht hs
theorem s120_19 : Runs 120 19 ls (.int i :: st) h Q ↔ if ¬ i = 0 then Runs 120 24 ls st h Q else Runs 120 22 ls st h Q := R_ifne rfl rfl
theorem s120_22 : Runs 120 22 ls st h Q ↔ Runs 120 23 ls (.int (-1) :: st) h Q := R_iconst rfl rfl
theorem s120_23 : Runs 120 23 ls [.int i] h Q ↔ Q (some (.int i)) h := R_iret rfl rfl
theorem s120_24 : Runs 120 24 [some (.ref a), x1, x2, x3] st h Q ↔ Runs 120 25 [some (.ref a), x1, x2, x3] (.ref a :: st) h Q := R_aldn rfl rfl
theorem s120_24q : Runs 120 24 [some (zrf r), x1, x2, x3] st h Q ↔ Runs 120 25 [some (zrf r), x1, x2, x3] (zrf r :: st) h Q := R_aldnq rfl rfl
theorem s120_25 : Runs 120 25 [some (.ref a), x1, x2, x3] st h Q ↔ Runs 120 26 [some (.ref a), x1, x2, x3] (.ref a :: st) h Q := R_aldn rfl rfl
theorem s120_25q : Runs 120 25 [some (zrf r), x1, x2, x3] st h Q ↔ Runs 120 26 [some (zrf r), x1, x2, x3] (zrf r :: st) h Q := R_aldnq rfl rfl
theorem s120_26 (ht : tg a = 9) : Runs 120 26 ls (.ref a :: st) (n, tg, ln, I, J, O) Q ↔ Runs 120 29 ls (zrf (O a 2) :: st) (n, tg, ln, I, J, O) Q := R_getr rfl rfl rfl rfl ht
theorem s120_29 : Runs 120 29 [x0, some (.int i), x2, x3] st h Q ↔ Runs 120 30 [x0, some (.int i), x2, x3] (.int i :: st) h Q := R_ildn rfl rfl
theorem s120_30 : Runs 120 30 [x0, x1, some (.int i), x3] st h Q ↔ Runs 120 31 [x0, x1, some (.int i), x3] (.int i :: st) h Q := R_ildn rfl rfl
theorem s120_31 : Runs 120 31 [x0, x1, x2, some (.int i)] st h Q ↔ Runs 120 32 [x0, x1, x2, some (.int i)] (.int i :: st) h Q := R_ildn rfl rfl
theorem s120_32 (ht : tg a = 5) (hs : zsumc st ≤ 8) : Runs 120 32 ls (.int i2 :: .int i1 :: .int i0 :: .ref a :: st) (n, tg, ln, I, J, O) Q ↔ Runs 46 0 [some (.ref a), some (.int i0), some (.int i1), some (.int i2), none] [] (n, tg, ln, I, J, O) (fun v h2 => Runs 120 35 ls (v.toList ++ st) h2 Q) := R_callv (a := a) (rest := st) rfl rfl rfl rfl rfl rfl rfl ht hs
theorem s120_35 : Runs 120 35 ls st h Q ↔ Runs 120 37 ls (.int 60 :: st) h Q := R_bipush rfl (by decide)
theorem s120_37 (ht : tg a = 9) (hs : zsumc st ≤ 8) : Runs 120 37 ls (.int i1 :: .int i0 :: .ref a :: st) (n, tg, ln, I, J, O) Q ↔ Runs 119 0 [some (.ref a), some (.int i0), some (.int i1), none] [] (n, tg, ln, I, J, O) (fun v h2 => Runs 120 40 ls (v.toList ++ st) h2 Q) := R_callv (a := a) (rest := st) rfl rfl rfl rfl rfl rfl rfl ht hs
theorem s120_40 : Runs 120 40 ls [.int i] h Q ↔ Q (some (.int i)) h := R_iret rfl rfl
theorem s121_0 : Runs 121 0 [some (.ref a), x1, x2, x3, x4, x5] st h Q ↔ Runs 121 1 [some (.ref a), x1, x2, x3, x4, x5] (.ref a :: st) h Q := R_aldn rfl rfl
theorem s121_0q : Runs 121 0 [some (zrf r), x1, x2, x3, x4, x5] st h Q ↔ Runs 121 1 [some (zrf r), x1, x2, x3, x4, x5] (zrf r :: st) h Q := R_aldnq rfl rfl
theorem s121_1 : Runs 121 1 ls st h Q ↔ Runs 121 2 ls (.int 0 :: st) h Q := R_iconst rfl rfl
theorem s121_2 : Runs 121 2 [x0, some (.int i), x2, x3, x4, x5] st h Q ↔ Runs 121 3 [x0, some (.int i), x2, x3, x4, x5] (.int i :: st) h Q := R_ildn rfl rfl
theorem s121_3 : Runs 121 3 [x0, x1, some (.int i), x3, x4, x5] st h Q ↔ Runs 121 4 [x0, x1, some (.int i), x3, x4, x5] (.int i :: st) h Q := R_ildn rfl rfl
theorem s121_4 (ht : tg a = 9) (hs : zsumc st ≤ 8) : Runs 121 4 ls (.int i2 :: .int i1 :: .int i0 :: .ref a :: st) (n, tg, ln, I, J, O) Q ↔ Runs 122 0 [some (.ref a), some (.int i0), some (.int i1), some (.int i2), none, none] [] (n, tg, ln, I, J, O) (fun v h2 => Runs 121 7 ls (v.toList ++ st) h2 Q) := R_callv (a := a) (rest := st) rfl rfl rfl rfl rfl rfl rfl ht hs
theorem s121_7 : Runs 121 7 ls (.int i :: st) h Q ↔ if i = 0 then Runs 121 12 ls st h Q else Runs 121 10 ls st h Q := R_ifeq rfl rfl
theorem s121_10 : Runs 121 10 ls st h Q ↔ Runs 121 11 ls (.int 0 :: st) h Q := R_iconst rfl rfl
theorem s121_11 : Runs 121 11 ls [.int i] h Q ↔ Q (some (.int i)) h := R_iret rfl rfl
theorem s121_12 : Runs 121 12 ls st h Q ↔ Runs 121 13 ls (.int 0 :: st) h Q := R_iconst rfl rfl
theorem s121_13 : Runs 121 13 [x0, x1, x2, x3, x4, x5] (.int i :: st) h Q ↔ Runs 121 14 [x0, x1, zdrop x2, some (.int i), x4, x5] st h Q := R_istn rfl rfl rfl
theorem s121_14 : Runs 121 14 [x0, x1, x2, some (.int i), x4, x5] st h Q ↔ Runs 121 15 [x0, x1, x2, some (.int i), x4, x5] (.int i :: st) h Q := R_ildn rfl rfl
theorem s121_15 : Runs 121 15 [some (.ref a), x1, x2, x3, x4, x5] st h Q ↔ Runs 121 16 [some (.ref a), x1, x2, x3, x4, x5] (.ref a :: st) h Q := R_aldn rfl rfl
theorem s121_15q : Runs 121 15 [some (zrf r), x1, x2, x3, x4, x5] st h Q ↔ Runs 121 16 [some (zrf r), x1, x2, x3, x4, x5] (zrf r :: st) h Q := R_aldnq rfl rfl
theorem s121_16 (ht : tg a = 9) : Runs 121 16 ls (.ref a :: st) (n, tg, ln, I, J, O) Q ↔ Runs 121 19 ls (zrf (O a 0) :: st) (n, tg, ln, I, J, O) Q := R_getr rfl rfl rfl rfl ht
theorem s121_19 (ht : tg a = 5) : Runs 121 19 ls (.ref a :: st) (n, tg, ln, I, J, O) Q ↔ Runs 121 22 ls (.int (I a 5) :: st) (n, tg, ln, I, J, O) Q := R_geti rfl rfl rfl rfl ht
theorem s121_22 : Runs 121 22 ls (.int j :: .int i :: st) h Q ↔ if j ≤ i then Runs 121 47 ls st h Q else Runs 121 25 ls st h Q := R_icge rfl rfl
theorem s121_25 : Runs 121 25 [some (.ref a), x1, x2, x3, x4, x5] st h Q ↔ Runs 121 26 [some (.ref a), x1, x2, x3, x4, x5] (.ref a :: st) h Q := R_aldn rfl rfl
theorem s121_25q : Runs 121 25 [some (zrf r), x1, x2, x3, x4, x5] st h Q ↔ Runs 121 26 [some (zrf r), x1, x2, x3, x4, x5] (zrf r :: st) h Q := R_aldnq rfl rfl
theorem s121_26 : Runs 121 26 ls st h Q ↔ Runs 121 27 ls (.int 1 :: st) h Q := R_iconst rfl rfl
theorem s121_27 : Runs 121 27 [x0, x1, x2, some (.int i), x4, x5] st h Q ↔ Runs 121 28 [x0, x1, x2, some (.int i), x4, x5] (.int i :: st) h Q := R_ildn rfl rfl
theorem s121_28 : Runs 121 28 ls (.int j :: .int i :: st) h Q ↔ Runs 121 29 ls (.int (i <<< (j &&& 31)) :: st) h Q := R_ishl rfl
theorem s121_29 : Runs 121 29 [x0, some (.int i), x2, x3, x4, x5] st h Q ↔ Runs 121 30 [x0, some (.int i), x2, x3, x4, x5] (.int i :: st) h Q := R_ildn rfl rfl
theorem s121_30 : Runs 121 30 [x0, x1, some (.int i), x3, x4, x5] st h Q ↔ Runs 121 31 [x0, x1, some (.int i), x3, x4, x5] (.int i :: st) h Q := R_ildn rfl rfl
theorem s121_31 (ht : tg a = 9) (hs : zsumc st ≤ 8) : Runs 121 31 ls (.int i2 :: .int i1 :: .int i0 :: .ref a :: st) (n, tg, ln, I, J, O) Q ↔ Runs 122 0 [some (.ref a), some (.int i0), some (.int i1), some (.int i2), none, none] [] (n, tg, ln, I, J, O) (fun v h2 => Runs 121 34 ls (v.toList ++ st) h2 Q) := R_callv (a := a) (rest := st) rfl rfl rfl rfl rfl rfl rfl ht hs
theorem s121_34 : Runs 121 34 ls (.int i :: st) h Q ↔ if i = 0 then Runs 121 41 ls st h Q else Runs 121 37 ls st h Q := R_ifeq rfl rfl
theorem s121_37 : Runs 121 37 ls st h Q ↔ Runs 121 38 ls (.int 1 :: st) h Q := R_iconst rfl rfl
theorem s121_38 : Runs 121 38 [x0, x1, x2, some (.int i), x4, x5] st h Q ↔ Runs 121 39 [x0, x1, x2, some (.int i), x4, x5] (.int i :: st) h Q := R_ildn rfl rfl
theorem s121_39 : Runs 121 39 ls (.int j :: .int i :: st) h Q ↔ Runs 121 40 ls (.int (i <<< (j &&& 31)) :: st) h Q := R_ishl rfl
theorem s121_40 : Runs 121 40 ls [.int i] h Q ↔ Q (some (.int i)) h := R_iret rfl rfl
theorem s121_41 : Runs 121 41 [x0, x1, x2, some (.int i), x4, x5] st h Q ↔ Runs 121 44 [x0, x1, zdrop x2, some (.int (i + 1)), x4, x5] st h Q := R_iinc rfl rfl rfl rfl rfl
theorem s121_44 : Runs 121 44 ls st h Q ↔ Runs 121 14 ls st h Q := R_goto rfl rfl
theorem s121_47 : Runs 121 47 ls st h Q ↔ Runs 121 48 ls (.int 1 :: st) h Q := R_iconst rfl rfl
theorem s121_48 : Runs 121 48 [x0, x1, x2, x3, x4, x5] (.int i :: st) h Q ↔ Runs 121 49 [x0, x1, zdrop x2, some (.int i), x4, x5] st h Q := R_istn rfl rfl rfl
theorem s121_49 : Runs 121 49 [x0, x1, x2, some (.int i), x4, x5] st h Q ↔ Runs 121 50 [x0, x1, x2, some (.int i), x4, x5] (.int i :: st) h Q := R_ildn rfl rfl
theorem s121_50 : Runs 121 50 [some (.ref a), x1, x2, x3, x4, x5] st h Q ↔ Runs 121 51 [some (.ref a), x1, x2, x3, x4, x5] (.ref a :: st) h Q := R_aldn rfl rfl
theorem s121_50q : Runs 121 50 [some (zrf r), x1, x2, x3, x4, x5] st h Q ↔ Runs 121 51 [some (zrf r), x1, x2, x3, x4, x5] (zrf r :: st) h Q := R_aldnq rfl rfl
theorem s121_51 (ht : tg a = 9) : Runs 121 51 ls (.ref a :: st) (n, tg, ln, I, J, O) Q ↔ Runs 121 54 ls (zrf (O a 0) :: st) (n, tg, ln, I, J, O) Q := R_getr rfl rfl rfl rfl ht
theorem s121_54 (ht : tg a = 5) : Runs 121 54 ls (.ref a :: st) (n, tg, ln, I, J, O) Q ↔ Runs 121 57 ls (.int (I a 5) :: st) (n, tg, ln, I, J, O) Q := R_geti rfl rfl rfl rfl ht
theorem s121_57 : Runs 121 57 ls (.int j :: .int i :: st) h Q ↔ if j ≤ i then Runs 121 105 ls st h Q else Runs 121 60 ls st h Q := R_icge rfl rfl
theorem s121_60 : Runs 121 60 ls st h Q ↔ Runs 121 61 ls (.int 0 :: st) h Q := R_iconst rfl rfl
theorem s121_61 : Runs 121 61 [x0, x1, x2, x3, x4, x5] (.int i :: st) h Q ↔ Runs 121 63 [x0, x1, x2, zdrop x3, some (.int i), x5] st h Q := R_ist rfl rfl rfl
theorem s121_63 : Runs 121 63 [x0, x1, x2, x3, some (.int i), x5] st h Q ↔ Runs 121 65 [x0, x1, x2, x3, some (.int i), x5] (.int i :: st) h Q := R_ild rfl rfl
theorem s121_65 : Runs 121 65 [x0, x1, x2, some (.int i), x4, x5] st h Q ↔ Runs 121 66 [x0, x1, x2, some (.int i), x4, x5] (.int i :: st) h Q := R_ildn rfl rfl
theorem s121_66 : Runs 121 66 ls (.int j :: .int i :: st) h Q ↔ if j ≤ i then Runs 121 99 ls st h Q else Runs 121 69 ls st h Q := R_icge rfl rfl
theorem s121_69 : Runs 121 69 ls st h Q ↔ Runs 121 70 ls (.int 1 :: st) h Q := R_iconst rfl rfl
theorem s121_70 : Runs 121 70 [x0, x1, x2, some (.int i), x4, x5] st h Q ↔ Runs 121 71 [x0, x1, x2, some (.int i), x4, x5] (.int i :: st) h Q := R_ildn rfl rfl
theorem s121_71 : Runs 121 71 ls (.int j :: .int i :: st) h Q ↔ Runs 121 72 ls (.int (i <<< (j &&& 31)) :: st) h Q := R_ishl rfl
theorem s121_72 : Runs 121 72 ls st h Q ↔ Runs 121 73 ls (.int 1 :: st) h Q := R_iconst rfl rfl
theorem s121_73 : Runs 121 73 [x0, x1, x2, x3, some (.int i), x5] st h Q ↔ Runs 121 75 [x0, x1, x2, x3, some (.int i), x5] (.int i :: st) h Q := R_ild rfl rfl
theorem s121_75 : Runs 121 75 ls (.int j :: .int i :: st) h Q ↔ Runs 121 76 ls (.int (i <<< (j &&& 31)) :: st) h Q := R_ishl rfl
theorem s121_76 : Runs 121 76 ls (.int j :: .int i :: st) h Q ↔ Runs 121 77 ls (.int (i ||| j) :: st) h Q := R_ior rfl
theorem s121_77 : Runs 121 77 [x0, x1, x2, x3, x4, x5] (.int i :: st) h Q ↔ Runs 121 79 [x0, x1, x2, x3, zdrop x4, some (.int i)] st h Q := R_ist rfl rfl rfl
theorem s121_79 : Runs 121 79 [some (.ref a), x1, x2, x3, x4, x5] st h Q ↔ Runs 121 80 [some (.ref a), x1, x2, x3, x4, x5] (.ref a :: st) h Q := R_aldn rfl rfl
theorem s121_79q : Runs 121 79 [some (zrf r), x1, x2, x3, x4, x5] st h Q ↔ Runs 121 80 [some (zrf r), x1, x2, x3, x4, x5] (zrf r :: st) h Q := R_aldnq rfl rfl
theorem s121_80 : Runs 121 80 [x0, x1, x2, x3, x4, some (.int i)] st h Q ↔ Runs 121 82 [x0, x1, x2, x3, x4, some (.int i)] (.int i :: st) h Q := R_ild rfl rfl
theorem s121_82 : Runs 121 82 [x0, some (.int i), x2, x3, x4, x5] st h Q ↔ Runs 121 83 [x0, some (.int i), x2, x3, x4, x5] (.int i :: st) h Q := R_ildn rfl rfl
theorem s121_83 : Runs 121 83 [x0, x1, some (.int i), x3, x4, x5] st h Q ↔ Runs 121 84 [x0, x1, some (.int i), x3, x4, x5] (.int i :: st) h Q := R_ildn rfl rfl
theorem s121_84 (ht : tg a = 9) (hs : zsumc st ≤ 8) : Runs 121 84 ls (.int i2 :: .int i1 :: .int i0 :: .ref a :: st) (n, tg, ln, I, J, O) Q ↔ Runs 122 0 [some (.ref a), some (.int i0), some (.int i1), some (.int i2), none, none] [] (n, tg, ln, I, J, O) (fun v h2 => Runs 121 87 ls (v.toList ++ st) h2 Q) := R_callv (a := a) (rest := st) rfl rfl rfl rfl rfl rfl rfl ht hs
theorem s121_87 : Runs 121 87 ls (.int i :: st) h Q ↔ if i = 0 then Runs 121 93 ls st h Q else Runs 121 90 ls st h Q := R_ifeq rfl rfl
theorem s121_90 : Runs 121 90 [x0, x1, x2, x3, x4, some (.int i)] st h Q ↔ Runs 121 92 [x0, x1, x2, x3, x4, some (.int i)] (.int i :: st) h Q := R_ild rfl rfl
theorem s121_92 : Runs 121 92 ls [.int i] h Q ↔ Q (some (.int i)) h := R_iret rfl rfl
theorem s121_93 : Runs 121 93 [x0, x1, x2, x3, some (.int i), x5] st h Q ↔ Runs 121 96 [x0, x1, x2, zdrop x3, some (.int (i + 1)), x5] st h Q := R_iinc rfl rfl rfl rfl rfl
theorem s121_96 : Runs 121 96 ls st h Q ↔ Runs 121 63 ls st h Q := R_goto rfl rfl
theorem s121_99 : Runs 121 99 [x0, x1, x2, some (.int i), x4, x5] st h Q ↔ Runs 121 102 [x0, x1, zdrop x2, some (.int (i + 1)), x4, x5] st h Q := R_iinc rfl rfl rfl rfl rfl
theorem s121_102 : Runs 121 102 ls st h Q ↔ Runs 121 49 ls st h Q := R_goto rfl rfl
theorem s121_105 : Runs 121 105 ls st h Q ↔ Runs 121 106 ls (.int (-1) :: st) h Q := R_iconst rfl rfl
theorem s121_106 : Runs 121 106 ls [.int i] h Q ↔ Q (some (.int i)) h := R_iret rfl rfl
theorem s122_0 : Runs 122 0 [some (.ref a), x1, x2, x3, x4, x5] st h Q ↔ Runs 122 1 [some (.ref a), x1, x2, x3, x4, x5] (.ref a :: st) h Q := R_aldn rfl rfl
theorem s122_0q : Runs 122 0 [some (zrf r), x1, x2, x3, x4, x5] st h Q ↔ Runs 122 1 [some (zrf r), x1, x2, x3, x4, x5] (zrf r :: st) h Q := R_aldnq rfl rfl
theorem s122_1 (ht : tg a = 9) : Runs 122 1 ls (.ref a :: st) (n, tg, ln, I, J, O) Q ↔ Runs 122 4 ls (zrf (O a 0) :: st) (n, tg, ln, I, J, O) Q := R_getr rfl rfl rfl rfl ht
theorem s122_4 : Runs 122 4 ls st h Q ↔ Runs 122 5 ls (.int 0 :: st) h Q := R_iconst rfl rfl
theorem s122_5 (ht : tg a = 5) (hs : zsumc st ≤ 8) : Runs 122 5 ls (.int i0 :: .ref a :: st) (n, tg, ln, I, J, O) Q ↔ Runs 44 0 [some (.ref a), some (.int i0), none, none] [] (n, tg, ln, I, J, O) (fun v h2 => Runs 122 8 ls (v.toList ++ st) h2 Q) := R_callv (a := a) (rest := st) rfl rfl rfl rfl rfl rfl rfl ht hs
theorem s122_8 : Runs 122 8 ls st h Q ↔ Runs 122 9 ls (.int 1 :: st) h Q := R_iconst rfl rfl
theorem s122_9 : Runs 122 9 [x0, x1, some (.int i), x3, x4, x5] st h Q ↔ Runs 122 10 [x0, x1, some (.int i), x3, x4, x5] (.int i :: st) h Q := R_ildn rfl rfl
theorem s122_10 : Runs 122 10 ls (.int j :: .int i :: st) h Q ↔ Runs 122 11 ls (.int (i <<< (j &&& 31)) :: st) h Q := R_ishl rfl
theorem s122_11 : Runs 122 11 ls st h Q ↔ Runs 122 12 ls (.int (-1) :: st) h Q := R_iconst rfl rfl
theorem s122_12 : Runs 122 12 ls (.int j :: .int i :: st) h Q ↔ Runs 122 13 ls (.int (i ^^^ j) :: st) h Q := R_ixor rfl
theorem s122_13 : Runs 122 13 ls (.int j :: .int i :: st) h Q ↔ Runs 122 14 ls (.int (i &&& j) :: st) h Q := R_iand rfl
theorem s122_14 : Runs 122 14 [x0, x1, x2, x3, x4, x5] (.int i :: st) h Q ↔ Runs 122 16 [x0, x1, x2, zdrop x3, some (.int i), x5] st h Q := R_ist rfl rfl rfl
theorem s122_16 : Runs 122 16 [x0, some (.int i), x2, x3, x4, x5] st h Q ↔ Runs 122 17 [x0, some (.int i), x2, x3, x4, x5] (.int i :: st) h Q := R_ildn rfl rfl
theorem s122_17 : Runs 122 17 [x0, x1, x2, x3, some (.int i), x5] st h Q ↔ Runs 122 19 [x0, x1, x2, x3, some (.int i), x5] (.int i :: st) h Q := R_ild rfl rfl
theorem s122_19 : Runs 122 19 ls st h Q ↔ Runs 122 20 ls (.int (-1) :: st) h Q := R_iconst rfl rfl
theorem s122_20 : Runs 122 20 ls (.int j :: .int i :: st) h Q ↔ Runs 122 21 ls (.int (i ^^^ j) :: st) h Q := R_ixor rfl
theorem s122_21 : Runs 122 21 ls (.int j :: .int i :: st) h Q ↔ Runs 122 22 ls (.int (i &&& j) :: st) h Q := R_iand rfl
theorem s122_22 : Runs 122 22 ls (.int i :: st) h Q ↔ if i = 0 then Runs 122 27 ls st h Q else Runs 122 25 ls st h Q := R_ifeq rfl rfl
theorem s122_25 : Runs 122 25 ls st h Q ↔ Runs 122 26 ls (.int 0 :: st) h Q := R_iconst rfl rfl
theorem s122_26 (hx : i = 0 ∨ i = 1) : Runs 122 26 ls [.int i] h Q ↔ Q (some (.int i)) h := R_zret rfl rfl hx
theorem s122_27 : Runs 122 27 [some (.ref a), x1, x2, x3, x4, x5] st h Q ↔ Runs 122 28 [some (.ref a), x1, x2, x3, x4, x5] (.ref a :: st) h Q := R_aldn rfl rfl
theorem s122_27q : Runs 122 27 [some (zrf r), x1, x2, x3, x4, x5] st h Q ↔ Runs 122 28 [some (zrf r), x1, x2, x3, x4, x5] (zrf r :: st) h Q := R_aldnq rfl rfl
theorem s122_28 (ht : tg a = 9) : Runs 122 28 ls (.ref a :: st) (n, tg, ln, I, J, O) Q ↔ Runs 122 31 ls (zrf (O a 2) :: st) (n, tg, ln, I, J, O) Q := R_getr rfl rfl rfl rfl ht
theorem s122_31 : Runs 122 31 [some (.ref a), x1, x2, x3, x4, x5] st h Q ↔ Runs 122 32 [some (.ref a), x1, x2, x3, x4, x5] (.ref a :: st) h Q := R_aldn rfl rfl
theorem s122_31q : Runs 122 31 [some (zrf r), x1, x2, x3, x4, x5] st h Q ↔ Runs 122 32 [some (zrf r), x1, x2, x3, x4, x5] (zrf r :: st) h Q := R_aldnq rfl rfl
theorem s122_32 (ht : tg a = 9) : Runs 122 32 ls (.ref a :: st) (n, tg, ln, I, J, O) Q ↔ Runs 122 35 ls (zrf (O a 0) :: st) (n, tg, ln, I, J, O) Q := R_getr rfl rfl rfl rfl ht
theorem s122_35 (ht : tg a = 5) (hs : zsumc st ≤ 8) : Runs 122 35 ls (.ref b0 :: .ref a :: st) (n, tg, ln, I, J, O) Q ↔ Runs 38 0 [some (.ref a), some (.ref b0)] [] (n, tg, ln, I, J, O) (fun v h2 => Runs 122 38 ls (v.toList ++ st) h2 Q) := R_callv (a := a) (rest := st) rfl rfl rfl rfl rfl rfl rfl ht hs
theorem s122_35q (ht : tg a = 5) (hs : zsumc st ≤ 8) : Runs 122 35 ls (zrf r0 :: .ref a :: st) (n, tg, ln, I, J, O) Q ↔ Runs 38 0 [some (.ref a), some (zrf r0)] [] (n, tg, ln, I, J, O) (fun v h2 => Runs 122 38 ls (v.toList ++ st) h2 Q) := by cases r0 <;> exact R_callv (a := a) (rest := st) rfl rfl rfl rfl rfl rfl rfl ht hs
theorem s122_38 : Runs 122 38 ls st h Q ↔ Runs 122 39 ls (.int 0 :: st) h Q := R_iconst rfl rfl
theorem s122_39 : Runs 122 39 [x0, x1, x2, x3, x4, x5] (.int i :: st) h Q ↔ Runs 122 41 [x0, x1, x2, x3, zdrop x4, some (.int i)] st h Q := R_ist rfl rfl rfl
theorem s122_41 : Runs 122 41 [x0, x1, x2, x3, x4, some (.int i)] st h Q ↔ Runs 122 43 [x0, x1, x2, x3, x4, some (.int i)] (.int i :: st) h Q := R_ild rfl rfl
theorem s122_43 : Runs 122 43 [some (.ref a), x1, x2, x3, x4, x5] st h Q ↔ Runs 122 44 [some (.ref a), x1, x2, x3, x4, x5] (.ref a :: st) h Q := R_aldn rfl rfl
theorem s122_43q : Runs 122 43 [some (zrf r), x1, x2, x3, x4, x5] st h Q ↔ Runs 122 44 [some (zrf r), x1, x2, x3, x4, x5] (zrf r :: st) h Q := R_aldnq rfl rfl
theorem s122_44 (ht : tg a = 9) : Runs 122 44 ls (.ref a :: st) (n, tg, ln, I, J, O) Q ↔ Runs 122 47 ls (zrf (O a 0) :: st) (n, tg, ln, I, J, O) Q := R_getr rfl rfl rfl rfl ht
theorem s122_47 (ht : tg a = 5) : Runs 122 47 ls (.ref a :: st) (n, tg, ln, I, J, O) Q ↔ Runs 122 50 ls (.int (I a 5) :: st) (n, tg, ln, I, J, O) Q := R_geti rfl rfl rfl rfl ht
theorem s122_50 : Runs 122 50 ls (.int j :: .int i :: st) h Q ↔ if j ≤ i then Runs 122 79 ls st h Q else Runs 122 53 ls st h Q := R_icge rfl rfl
theorem s122_53 : Runs 122 53 [x0, some (.int i), x2, x3, x4, x5] st h Q ↔ Runs 122 54 [x0, some (.int i), x2, x3, x4, x5] (.int i :: st) h Q := R_ildn rfl rfl
theorem s122_54 : Runs 122 54 [x0, x1, x2, x3, x4, some (.int i)] st h Q ↔ Runs 122 56 [x0, x1, x2, x3, x4, some (.int i)] (.int i :: st) h Q := R_ild rfl rfl
theorem s122_56 : Runs 122 56 ls (.int j :: .int i :: st) h Q ↔ Runs 122 57 ls (.int (i >>> (j &&& 31)) :: st) h Q := R_ishr rfl
theorem s122_57 : Runs 122 57 ls st h Q ↔ Runs 122 58 ls (.int 1 :: st) h Q := R_iconst rfl rfl
theorem s122_58 : Runs 122 58 ls (.int j :: .int i :: st) h Q ↔ Runs 122 59 ls (.int (i &&& j) :: st) h Q := R_iand rfl
theorem s122_59 : Runs 122 59 ls st h Q ↔ Runs 122 60 ls (.int 1 :: st) h Q := R_iconst rfl rfl
theorem s122_60 : Runs 122 60 ls (.int j :: .int i :: st) h Q ↔ if ¬ i = j then Runs 122 73 ls st h Q else Runs 122 63 ls st h Q := R_icne rfl rfl
theorem s122_63 : Runs 122 63 [some (.ref a), x1, x2, x3, x4, x5] st h Q ↔ Runs 122 64 [some (.ref a), x1, x2, x3, x4, x5] (.ref a :: st) h Q := R_aldn rfl rfl
theorem s122_63q : Runs 122 63 [some (zrf r), x1, x2, x3, x4, x5] st h Q ↔ Runs 122 64 [some (zrf r), x1, x2, x3, x4, x5] (zrf r :: st) h Q := R_aldnq rfl rfl
theorem s122_64 (ht : tg a = 9) : Runs 122 64 ls (.ref a :: st) (n, tg, ln, I, J, O) Q ↔ Runs 122 67 ls (zrf (O a 2) :: st) (n, tg, ln, I, J, O) Q := R_getr rfl rfl rfl rfl ht
theorem s122_67 : Runs 122 67 [x0, x1, x2, x3, x4, some (.int i)] st h Q ↔ Runs 122 69 [x0, x1, x2, x3, x4, some (.int i)] (.int i :: st) h Q := R_ild rfl rfl
theorem s122_69 (ht : tg a = 5) (hs : zsumc st ≤ 8) : Runs 122 69 ls (.int i0 :: .ref a :: st) (n, tg, ln, I, J, O) Q ↔ Runs 47 0 [some (.ref a), some (.int i0), none] [] (n, tg, ln, I, J, O) (fun v h2 => Runs 122 72 ls (v.toList ++ st) h2 Q) := R_callv (a := a) (rest := st) rfl rfl rfl rfl rfl rfl rfl ht hs
theorem s122_72 : Runs 122 72 ls (.int i :: st) h Q ↔ Runs 122 73 ls st h Q := R_pop rfl
theorem s122_73 : Runs 122 73 [x0, x1, x2, x3, x4, some (.int i)] st h Q ↔ Runs 122 76 [x0, x1, x2, x3, zdrop x4, some (.int (i + 1))] st h Q := R_iinc rfl rfl rfl rfl rfl
theorem s122_76 : Runs 122 76 ls st h Q ↔ Runs 122 41 ls st h Q := R_goto rfl rfl
theorem s122_79 : Runs 122 79 [some (.ref a), x1, x2, x3, x4, x5] st h Q ↔ Runs 122 80 [some (.ref a), x1, x2, x3, x4, x5] (.ref a :: st) h Q := R_aldn rfl rfl
theorem s122_79q : Runs 122 79 [some (zrf r), x1, x2, x3, x4, x5] st h Q ↔ Runs 122 80 [some (zrf r), x1, x2, x3, x4, x5] (zrf r :: st) h Q := R_aldnq rfl rfl
theorem s122_80 : Runs 122 80 [x0, x1, some (.int i), x3, x4, x5] st h Q ↔ Runs 122 81 [x0, x1, some (.int i), x3, x4, x5] (.int i :: st) h Q := R_ildn rfl rfl
theorem s122_81 : Runs 122 81 [x0, x1, x2, some (.int i), x4, x5] st h Q ↔ Runs 122 82 [x0, x1, x2, some (.int i), x4, x5] (.int i :: st) h Q := R_ildn rfl rfl
theorem s122_82 (ht : tg a = 9) (hs : zsumc st ≤ 8) : Runs 122 82 ls (.int i1 :: .int i0 :: .ref a :: st) (n, tg, ln, I, J, O) Q ↔ Runs 119 0 [some (.ref a), some (.int i0), some (.int i1), none] [] (n, tg, ln, I, J, O) (fun v h2 => Runs 122 85 ls (v.toList ++ st) h2 Q) := R_callv (a := a) (rest := st) rfl rfl rfl rfl rfl rfl rfl ht hs
theorem s122_85 : Runs 122 85 ls st h Q ↔ Runs 122 86 ls (.int (-1) :: st) h Q := R_iconst rfl rfl
theorem s122_86 : Runs 122 86 ls (.int j :: .int i :: st) h Q ↔ if i = j then Runs 122 93 ls st h Q else Runs 122 89 ls st h Q := R_iceq rfl rfl
theorem s122_89 : Runs 122 89 ls st h Q ↔ Runs 122 90 ls (.int 1 :: st) h Q := R_iconst rfl rfl
theorem s122_90 : Runs 122 90 ls st h Q ↔ Runs 122 94 ls st h Q := R_goto rfl rfl
theorem s122_93 : Runs 122 93 ls st h Q ↔ Runs 122 94 ls (.int 0 :: st) h Q := R_iconst rfl rfl
theorem s122_94 (hx : i = 0 ∨ i = 1) : Runs 122 94 ls [.int i] h Q ↔ Q (some (.int i)) h := R_zret rfl rfl hx
theorem s123_0 : Runs 123 0 ls st h Q ↔ Runs 123 1 ls (.int 0 :: st) h Q := R_iconst rfl rfl
theorem s123_1 : Runs 123 1 [x0, x1, x2] (.int i :: st) h Q ↔ Runs 123 2 [zdrop x0, some (.int i), x2] st h Q := R_istn rfl rfl rfl
theorem s123_2 : Runs 123 2 ls st h Q ↔ Runs 123 3 ls (.int 1 :: st) h Q := R_iconst rfl rfl
theorem s123_3 : Runs 123 3 [x0, x1, x2] (.int i :: st) h Q ↔ Runs 123 4 [x0, zdrop x1, some (.int i)] st h Q := R_istn rfl rfl rfl
theorem s123_4 : Runs 123 4 [x0, x1, some (.int i)] st h Q ↔ Runs 123 5 [x0, x1, some (.int i)] (.int i :: st) h Q := R_ildn rfl rfl
theorem s123_5 : Runs 123 5 ls st h Q ↔ Runs 123 7 ls (.int 20 :: st) h Q := R_bipush rfl (by decide)
theorem s123_7 : Runs 123 7 ls (.int j :: .int i :: st) h Q ↔ if j < i then Runs 123 45 ls st h Q else Runs 123 10 ls st h Q := R_icgt rfl rfl
theorem s123_10 : Runs 123 10 [some (.ref a), x1, x2] st h Q ↔ Runs 123 11 [some (.ref a), x1, x2] (.ref a :: st) h Q := R_aldn rfl rfl
theorem s123_10q : Runs 123 10 [some (zrf r), x1, x2] st h Q ↔ Runs 123 11 [some (zrf r), x1, x2] (zrf r :: st) h Q := R_aldnq rfl rfl
theorem s123_11 (ht : tg a = 9) : Runs 123 11 ls (.ref a :: st) (n, tg, ln, I, J, O) Q ↔ Runs 123 14 ls (zrf (O a 2) :: st) (n, tg, ln, I, J, O) Q := R_getr rfl rfl rfl rfl ht
theorem s123_14 (ht : tg a = 5) (hs : zsumc st ≤ 8) : Runs 123 14 ls (.ref a :: st) (n, tg, ln, I, J, O) Q ↔ Runs 51 0 [some (.ref a), none, none] [] (n, tg, ln, I, J, O) (fun v h2 => Runs 123 17 ls (v.toList ++ st) h2 Q) := R_callv (a := a) (rest := st) rfl rfl rfl rfl rfl rfl rfl ht hs
theorem s123_17 : Runs 123 17 ls st h Q ↔ Runs 123 19 ls (.int 99 :: st) h Q := R_bipush rfl (by decide)
theorem s123_19 : Runs 123 19 ls (.int j :: .int i :: st) h Q ↔ if i = j then Runs 123 25 ls st h Q else Runs 123 22 ls st h Q := R_iceq rfl rfl
theorem s123_22 : Runs 123 22 [x0, some (.int i), x2] st h Q ↔ Runs 123 25 [zdrop x0, some (.int (i + 1)), x2] st h Q := R_iinc rfl rfl rfl rfl rfl
theorem s123_25 : Runs 123 25 [some (.ref a), x1, x2] st h Q ↔ Runs 123 26 [some (.ref a), x1, x2] (.ref a :: st) h Q := R_aldn rfl rfl
theorem s123_25q : Runs 123 25 [some (zrf r), x1, x2] st h Q ↔ Runs 123 26 [some (zrf r), x1, x2] (zrf r :: st) h Q := R_aldnq rfl rfl
theorem s123_26 (ht : tg a = 9) : Runs 123 26 ls (.ref a :: st) (n, tg, ln, I, J, O) Q ↔ Runs 123 29 ls (zrf (O a 8) :: st) (n, tg, ln, I, J, O) Q := R_getr rfl rfl rfl rfl ht
theorem s123_29 : Runs 123 29 [x0, x1, some (.int i)] st h Q ↔ Runs 123 30 [x0, x1, some (.int i)] (.int i :: st) h Q := R_ildn rfl rfl
theorem s123_30 : Runs 123 30 [x0, some (.int i), x2] st h Q ↔ Runs 123 31 [x0, some (.int i), x2] (.int i :: st) h Q := R_ildn rfl rfl
theorem s123_31 (ht : tg a = 7) (hs : zsumc st ≤ 8) : Runs 123 31 ls (.int i1 :: .int i0 :: .ref a :: st) (n, tg, ln, I, J, O) Q ↔ Runs 74 0 [some (.ref a), some (.int i0), some (.int i1), none] [] (n, tg, ln, I, J, O) (fun v h2 => Runs 123 34 ls (v.toList ++ st) h2 Q) := R_callv (a := a) (rest := st) rfl rfl rfl rfl rfl rfl rfl ht hs
theorem s123_34 : Runs 123 34 ls (.int i :: st) h Q ↔ if ¬ i = 0 then Runs 123 39 ls st h Q else Runs 123 37 ls st h Q := R_ifne rfl rfl
theorem s123_37 : Runs 123 37 ls st h Q ↔ Runs 123 38 ls (.int 0 :: st) h Q := R_iconst rfl rfl
theorem s123_38 (hx : i = 0 ∨ i = 1) : Runs 123 38 ls [.int i] h Q ↔ Q (some (.int i)) h := R_zret rfl rfl hx
theorem s123_39 : Runs 123 39 [x0, x1, some (.int i)] st h Q ↔ Runs 123 42 [x0, zdrop x1, some (.int (i + 1))] st h Q := R_iinc rfl rfl rfl rfl rfl
theorem s123_42 : Runs 123 42 ls st h Q ↔ Runs 123 4 ls st h Q := R_goto rfl rfl
theorem s123_45 : Runs 123 45 ls st h Q ↔ Runs 123 46 ls (.int 1 :: st) h Q := R_iconst rfl rfl
theorem s123_46 (hx : i = 0 ∨ i = 1) : Runs 123 46 ls [.int i] h Q ↔ Q (some (.int i)) h := R_zret rfl rfl hx
theorem s124_0 : Runs 124 0 ls st h Q ↔ Runs 124 1 ls (.int 0 :: st) h Q := R_iconst rfl rfl
theorem s124_1 : Runs 124 1 [x0, x1, x2] (.int i :: st) h Q ↔ Runs 124 2 [zdrop x0, some (.int i), x2] st h Q := R_istn rfl rfl rfl
theorem s124_2 : Runs 124 2 ls st h Q ↔ Runs 124 3 ls (.int 0 :: st) h Q := R_iconst rfl rfl
theorem s124_3 : Runs 124 3 [x0, x1, x2] (.int i :: st) h Q ↔ Runs 124 4 [x0, zdrop x1, some (.int i)] st h Q := R_istn rfl rfl rfl
theorem s124_4 : Runs 124 4 [x0, x1, some (.int i)] st h Q ↔ Runs 124 5 [x0, x1, some (.int i)] (.int i :: st) h Q := R_ildn rfl rfl
theorem s124_5 : Runs 124 5 ls st h Q ↔ Runs 124 6 ls (.int 3 :: st) h Q := R_iconst rfl rfl
theorem s124_6 : Runs 124 6 ls (.int j :: .int i :: st) h Q ↔ if j ≤ i then Runs 124 30 ls st h Q else Runs 124 9 ls st h Q := R_icge rfl rfl
theorem s124_9 : Runs 124 9 [some (.ref a), x1, x2] st h Q ↔ Runs 124 10 [some (.ref a), x1, x2] (.ref a :: st) h Q := R_aldn rfl rfl
theorem s124_9q : Runs 124 9 [some (zrf r), x1, x2] st h Q ↔ Runs 124 10 [some (zrf r), x1, x2] (zrf r :: st) h Q := R_aldnq rfl rfl
theorem s124_10 (ht : tg a = 9) : Runs 124 10 ls (.ref a :: st) (n, tg, ln, I, J, O) Q ↔ Runs 124 13 ls (zrf (O a 9) :: st) (n, tg, ln, I, J, O) Q := R_getr rfl rfl rfl rfl ht
theorem s124_13 : Runs 124 13 [x0, x1, some (.int i)] st h Q ↔ Runs 124 14 [x0, x1, some (.int i)] (.int i :: st) h Q := R_ildn rfl rfl
theorem s124_14 (ht : tg a = 23) : Runs 124 14 ls (.int i :: .ref a :: st) (n, tg, ln, I, J, O) Q ↔ ((0 ≤ i ∧ i < Int32.ofNat (ln a)) ∧ Runs 124 15 ls (zrf (O a i) :: st) (n, tg, ln, I, J, O) Q) := R_aald rfl ht (by decide)
theorem s124_14q (ht : tg a = 24) : Runs 124 14 ls (.int i :: .ref a :: st) (n, tg, ln, I, J, O) Q ↔ ((0 ≤ i ∧ i < Int32.ofNat (ln a)) ∧ Runs 124 15 ls (zrf (O a i) :: st) (n, tg, ln, I, J, O) Q) := R_aald rfl ht (by decide)
theorem s124_14p (ht : tg a = 25) : Runs 124 14 ls (.int i :: .ref a :: st) (n, tg, ln, I, J, O) Q ↔ ((0 ≤ i ∧ i < Int32.ofNat (ln a)) ∧ Runs 124 15 ls (zrf (O a i) :: st) (n, tg, ln, I, J, O) Q) := R_aald rfl ht (by decide)
theorem s124_15 (ht : tg a = 1) (hs : zsumc st ≤ 8) : Runs 124 15 ls (.ref a :: st) (n, tg, ln, I, J, O) Q ↔ Runs 1 0 [some (.ref a)] [] (n, tg, ln, I, J, O) (fun v h2 => Runs 124 18 ls (v.toList ++ st) h2 Q) := R_callv (a := a) (rest := st) rfl rfl rfl rfl rfl rfl rfl ht hs
theorem s124_18 : Runs 124 18 ls (.int i :: st) h Q ↔ if ¬ i = 0 then Runs 124 24 ls st h Q else Runs 124 21 ls st h Q := R_ifne rfl rfl
theorem s124_21 : Runs 124 21 [x0, some (.int i), x2] st h Q ↔ Runs 124 24 [zdrop x0, some (.int (i + 1)), x2] st h Q := R_iinc rfl rfl rfl rfl rfl
theorem s124_24 : Runs 124 24 [x0, x1, some (.int i)] st h Q ↔ Runs 124 27 [x0, zdrop x1, some (.int (i + 1))] st h Q := R_iinc rfl rfl rfl rfl rfl
theorem s124_27 : Runs 124 27 ls st h Q ↔ Runs 124 4 ls st h Q := R_goto rfl rfl
theorem s124_30 : Runs 124 30 [x0, some (.int i), x2] st h Q ↔ Runs 124 31 [x0, some (.int i), x2] (.int i :: st) h Q := R_ildn rfl rfl
theorem s124_31 : Runs 124 31 ls [.int i] h Q ↔ Q (some (.int i)) h := R_iret rfl rfl
end ZROWS
