section ROWSN
variable {mi pc : Nat} {ls : List (Option Value)} {st : List Value} {h : ZH} {Q : Option Value → ZH → Prop} {n : Nat} {tg ln : Nat → Nat} {I : Nat → Int32 → Int32} {J : Nat → Int32 → Int64} {O : Nat → Int32 → Option Nat}
theorem R_newai {k : Int32} {N : Nat} (hc : zC mi pc = some (.newarray .int, 2)) (hk : (decide (0 ≤ k) && decide (k ≤ 4096)) = true) (hN : k.toNatClampNeg = N) : Runs mi pc ls (.int k :: st) h Q ↔ Runs mi (pc + 2) ls (.ref h.1 :: st) (znew h 20 N) Q := Rn hc rfl rfl (by unfold zact; dsimp only; rw [hk, hN]; rfl) (Nat.le_succ _)
theorem R_newal {k : Int32} {N : Nat} (hc : zC mi pc = some (.newarray .long, 2)) (hk : (decide (0 ≤ k) && decide (k ≤ 4096)) = true) (hN : k.toNatClampNeg = N) : Runs mi pc ls (.int k :: st) h Q ↔ Runs mi (pc + 2) ls (.ref h.1 :: st) (znew h 21 N) Q := Rn hc rfl rfl (by unfold zact; dsimp only; rw [hk, hN]; rfl) (Nat.le_succ _)
theorem R_newaz {k : Int32} {N : Nat} (hc : zC mi pc = some (.newarray .boolean, 2)) (hk : (decide (0 ≤ k) && decide (k ≤ 4096)) = true) (hN : k.toNatClampNeg = N) : Runs mi pc ls (.int k :: st) h Q ↔ Runs mi (pc + 2) ls (.ref h.1 :: st) (znew h 22 N) Q := Rn hc rfl rfl (by unfold zact; dsimp only; rw [hk, hN]; rfl) (Nat.le_succ _)
theorem R_anew4 {i p : Nat} {k : Int32} {N : Nat} (hc : zC mi pc = some (.anewarray i, 3)) (hl : zkl (zown mi) i = some (4, p)) (hk : (decide (0 ≤ k) && decide (k ≤ 4096)) = true) (hN : k.toNatClampNeg = N) : Runs mi pc ls (.int k :: st) h Q ↔ Runs mi (pc + 3) ls (.ref h.1 :: st) (znew h 23 N) Q := Rn hc rfl rfl (by unfold zact; dsimp only; rw [hl]; dsimp only; rw [hk, hN]; rfl) (Nat.le_succ _)
theorem R_anew0 {i p : Nat} {k : Int32} {N : Nat} (hc : zC mi pc = some (.anewarray i, 3)) (hl : zkl (zown mi) i = some (0, p)) (hk : (decide (0 ≤ k) && decide (k ≤ 4096)) = true) (hN : k.toNatClampNeg = N) : Runs mi pc ls (.int k :: st) h Q ↔ Runs mi (pc + 3) ls (.ref h.1 :: st) (znew h 24 N) Q := Rn hc rfl rfl (by unfold zact; dsimp only; rw [hl]; dsimp only; rw [hk, hN]; rfl) (Nat.le_succ _)
theorem R_anew2 {i p : Nat} {k : Int32} {N : Nat} (hc : zC mi pc = some (.anewarray i, 3)) (hl : zkl (zown mi) i = some (2, p)) (hk : (decide (0 ≤ k) && decide (k ≤ 4096)) = true) (hN : k.toNatClampNeg = N) : Runs mi pc ls (.int k :: st) h Q ↔ Runs mi (pc + 3) ls (.ref h.1 :: st) (znew h 25 N) Q := Rn hc rfl rfl (by unfold zact; dsimp only; rw [hl]; dsimp only; rw [hk, hN]; rfl) (Nat.le_succ _)
theorem R_aastp {a q : Nat} {i : Int32} (hc : zC mi pc = some (.aastore, 1)) (ht : tg a = 23) (hx : tg q = 5) : Runs mi pc ls (.ref q :: .int i :: .ref a :: st) (n, tg, ln, I, J, O) Q ↔ ((0 ≤ i ∧ i < Int32.ofNat (ln a)) ∧ Runs mi (pc + 1) ls st (n, tg, ln, I, J, zu O a i (some q)) Q) := Rif hc rfl rfl (c := zin i (ln a)) (by unfold zact; dsimp only; rw [ht, hx]; rfl) zin_iff (Nat.le_refl _)
theorem R_aastb {a q : Nat} {i : Int32} (hc : zC mi pc = some (.aastore, 1)) (ht : tg a = 24) (hx : tg q = 1) : Runs mi pc ls (.ref q :: .int i :: .ref a :: st) (n, tg, ln, I, J, O) Q ↔ ((0 ≤ i ∧ i < Int32.ofNat (ln a)) ∧ Runs mi (pc + 1) ls st (n, tg, ln, I, J, zu O a i (some q)) Q) := Rif hc rfl rfl (c := zin i (ln a)) (by unfold zact; dsimp only; rw [ht, hx]; rfl) zin_iff (Nat.le_refl _)
end ROWSN
section ZROWS
variable {ls : List (Option Value)} {st : List Value} {h : ZH} {Q : Option Value → ZH → Prop} {n : Nat} {tg ln : Nat → Nat} {I : Nat → Int32 → Int32} {J : Nat → Int32 → Int64} {O : Nat → Int32 → Option Nat} {i j i0 i1 i2 i3 i4 : Int32} {u w u0 u1 u2 u3 : Int64} {a b b0 b1 b2 : Nat} {r r0 r1 r2 : Option Nat}
variable {x0 x1 x2 x3 x4 x5 x6 x7 x8 x9 x10 x11 x12 x13 x14 x15 x16 x17 x18 x19 : Option Value}
theorem s0_0 : Runs 0 0 [some (.ref a)] st h Q ↔ Runs 0 1 [some (.ref a)] (.ref a :: st) h Q := R_aldn rfl rfl
theorem s0_0q : Runs 0 0 [some (zrf r)] st h Q ↔ Runs 0 1 [some (zrf r)] (zrf r :: st) h Q := R_aldnq rfl rfl
theorem s0_1 (hs : zsumc st ≤ 8) : Runs 0 1 ls (.ref a :: st) h Q ↔ Runs 0 4 ls st h Q := R_objI rfl rfl hs
theorem s0_4 : Runs 0 4 [some (.ref a)] st h Q ↔ Runs 0 5 [some (.ref a)] (.ref a :: st) h Q := R_aldn rfl rfl
theorem s0_4q : Runs 0 4 [some (zrf r)] st h Q ↔ Runs 0 5 [some (zrf r)] (zrf r :: st) h Q := R_aldnq rfl rfl
theorem s0_5 : Runs 0 5 ls st h Q ↔ Runs 0 7 ls (.int 12 :: st) h Q := R_bipush rfl (by decide)
theorem s0_7 : Runs 0 7 ls (.int 12 :: st) (n, tg, ln, I, J, O) Q ↔ Runs 0 10 ls (.ref n :: st) (znew (n, tg, ln, I, J, O) 25 12) Q := R_anew2 rfl rfl (by decide) (by decide)
theorem s0_10 (ht : tg a = 1) : Runs 0 10 ls (zrf r :: .ref a :: st) (n, tg, ln, I, J, O) Q ↔ Runs 0 13 ls st (n, tg, ln, I, J, zu O a 0 r) Q := R_putr rfl rfl rfl rfl rfl ht
theorem s0_10q (ht : tg a = 1) : Runs 0 10 ls (.ref b :: .ref a :: st) (n, tg, ln, I, J, O) Q ↔ Runs 0 13 ls st (n, tg, ln, I, J, zu O a 0 (some b)) Q := R_putr (x := some b) rfl rfl rfl rfl rfl ht
theorem s0_13 : Runs 0 13 [some (.ref a)] st h Q ↔ Runs 0 14 [some (.ref a)] (.ref a :: st) h Q := R_aldn rfl rfl
theorem s0_13q : Runs 0 13 [some (zrf r)] st h Q ↔ Runs 0 14 [some (zrf r)] (zrf r :: st) h Q := R_aldnq rfl rfl
theorem s0_14 : Runs 0 14 ls st h Q ↔ Runs 0 15 ls (.int (-1) :: st) h Q := R_iconst rfl rfl
theorem s0_15 (ht : tg a = 1) : Runs 0 15 ls (.int i :: .ref a :: st) (n, tg, ln, I, J, O) Q ↔ Runs 0 18 ls st (n, tg, ln, zu I a 1 i, J, O) Q := R_puti rfl rfl rfl rfl rfl rfl ht
theorem s0_18 : Runs 0 18 ls [] h Q ↔ Q none h := R_vret rfl rfl
theorem s10_0 : Runs 10 0 [some (.ref a)] st h Q ↔ Runs 10 1 [some (.ref a)] (.ref a :: st) h Q := R_aldn rfl rfl
theorem s10_0q : Runs 10 0 [some (zrf r)] st h Q ↔ Runs 10 1 [some (zrf r)] (zrf r :: st) h Q := R_aldnq rfl rfl
theorem s10_1 (hs : zsumc st ≤ 8) : Runs 10 1 ls (.ref a :: st) h Q ↔ Runs 10 4 ls st h Q := R_objI rfl rfl hs
theorem s10_4 : Runs 10 4 [some (.ref a)] st h Q ↔ Runs 10 5 [some (.ref a)] (.ref a :: st) h Q := R_aldn rfl rfl
theorem s10_4q : Runs 10 4 [some (zrf r)] st h Q ↔ Runs 10 5 [some (zrf r)] (zrf r :: st) h Q := R_aldnq rfl rfl
theorem s10_5 : Runs 10 5 ls st h Q ↔ Runs 10 7 ls (.int 8 :: st) h Q := R_bipush rfl (by decide)
theorem s10_7 : Runs 10 7 ls (.int 8 :: st) (n, tg, ln, I, J, O) Q ↔ Runs 10 10 ls (.ref n :: st) (znew (n, tg, ln, I, J, O) 23 8) Q := R_anew4 rfl rfl (by decide) (by decide)
theorem s10_10 : Runs 10 10 ls (.int i :: st) h Q ↔ Runs 10 11 ls (.int i :: .int i :: st) h Q := R_dupi rfl
theorem s10_10q : Runs 10 10 ls (.ref a :: st) h Q ↔ Runs 10 11 ls (.ref a :: .ref a :: st) h Q := R_dupr rfl
theorem s10_11 : Runs 10 11 ls st h Q ↔ Runs 10 12 ls (.int 0 :: st) h Q := R_iconst rfl rfl
theorem s10_12 : Runs 10 12 ls st (n, tg, ln, I, J, O) Q ↔ Runs 10 15 ls (.ref n :: st) (znew (n, tg, ln, I, J, O) 5 0) Q := R_new rfl rfl
theorem s10_15 : Runs 10 15 ls (.int i :: st) h Q ↔ Runs 10 16 ls (.int i :: .int i :: st) h Q := R_dupi rfl
theorem s10_15q : Runs 10 15 ls (.ref a :: st) h Q ↔ Runs 10 16 ls (.ref a :: .ref a :: st) h Q := R_dupr rfl
theorem s10_16 (hs : zsumc st ≤ 8) : Runs 10 16 ls (.ref a :: st) h Q ↔ Runs 36 0 [some (.ref a)] [] h (fun v h2 => Runs 10 19 ls (v.toList ++ st) h2 Q) := R_calli (a := a) (rest := st) rfl rfl rfl rfl rfl rfl rfl rfl hs
theorem s10_19 (ht : tg a = 23) (hx : tg b = 5) : Runs 10 19 ls (.ref b :: .int i :: .ref a :: st) (n, tg, ln, I, J, O) Q ↔ ((0 ≤ i ∧ i < Int32.ofNat (ln a)) ∧ Runs 10 20 ls st (n, tg, ln, I, J, zu O a i (some b)) Q) := R_aastp rfl ht hx
theorem s10_19q (ht : tg a = 24) (hx : tg b = 1) : Runs 10 19 ls (.ref b :: .int i :: .ref a :: st) (n, tg, ln, I, J, O) Q ↔ ((0 ≤ i ∧ i < Int32.ofNat (ln a)) ∧ Runs 10 20 ls st (n, tg, ln, I, J, zu O a i (some b)) Q) := R_aastb rfl ht hx
theorem s10_20 : Runs 10 20 ls (.int i :: st) h Q ↔ Runs 10 21 ls (.int i :: .int i :: st) h Q := R_dupi rfl
theorem s10_20q : Runs 10 20 ls (.ref a :: st) h Q ↔ Runs 10 21 ls (.ref a :: .ref a :: st) h Q := R_dupr rfl
theorem s10_21 : Runs 10 21 ls st h Q ↔ Runs 10 22 ls (.int 1 :: st) h Q := R_iconst rfl rfl
theorem s10_22 : Runs 10 22 ls st (n, tg, ln, I, J, O) Q ↔ Runs 10 25 ls (.ref n :: st) (znew (n, tg, ln, I, J, O) 5 0) Q := R_new rfl rfl
theorem s10_25 : Runs 10 25 ls (.int i :: st) h Q ↔ Runs 10 26 ls (.int i :: .int i :: st) h Q := R_dupi rfl
theorem s10_25q : Runs 10 25 ls (.ref a :: st) h Q ↔ Runs 10 26 ls (.ref a :: .ref a :: st) h Q := R_dupr rfl
theorem s10_26 (hs : zsumc st ≤ 8) : Runs 10 26 ls (.ref a :: st) h Q ↔ Runs 36 0 [some (.ref a)] [] h (fun v h2 => Runs 10 29 ls (v.toList ++ st) h2 Q) := R_calli (a := a) (rest := st) rfl rfl rfl rfl rfl rfl rfl rfl hs
theorem s10_29 (ht : tg a = 23) (hx : tg b = 5) : Runs 10 29 ls (.ref b :: .int i :: .ref a :: st) (n, tg, ln, I, J, O) Q ↔ ((0 ≤ i ∧ i < Int32.ofNat (ln a)) ∧ Runs 10 30 ls st (n, tg, ln, I, J, zu O a i (some b)) Q) := R_aastp rfl ht hx
theorem s10_29q (ht : tg a = 24) (hx : tg b = 1) : Runs 10 29 ls (.ref b :: .int i :: .ref a :: st) (n, tg, ln, I, J, O) Q ↔ ((0 ≤ i ∧ i < Int32.ofNat (ln a)) ∧ Runs 10 30 ls st (n, tg, ln, I, J, zu O a i (some b)) Q) := R_aastb rfl ht hx
theorem s10_30 : Runs 10 30 ls (.int i :: st) h Q ↔ Runs 10 31 ls (.int i :: .int i :: st) h Q := R_dupi rfl
theorem s10_30q : Runs 10 30 ls (.ref a :: st) h Q ↔ Runs 10 31 ls (.ref a :: .ref a :: st) h Q := R_dupr rfl
theorem s10_31 : Runs 10 31 ls st h Q ↔ Runs 10 32 ls (.int 2 :: st) h Q := R_iconst rfl rfl
theorem s10_32 : Runs 10 32 ls st (n, tg, ln, I, J, O) Q ↔ Runs 10 35 ls (.ref n :: st) (znew (n, tg, ln, I, J, O) 5 0) Q := R_new rfl rfl
theorem s10_35 : Runs 10 35 ls (.int i :: st) h Q ↔ Runs 10 36 ls (.int i :: .int i :: st) h Q := R_dupi rfl
theorem s10_35q : Runs 10 35 ls (.ref a :: st) h Q ↔ Runs 10 36 ls (.ref a :: .ref a :: st) h Q := R_dupr rfl
theorem s10_36 (hs : zsumc st ≤ 8) : Runs 10 36 ls (.ref a :: st) h Q ↔ Runs 36 0 [some (.ref a)] [] h (fun v h2 => Runs 10 39 ls (v.toList ++ st) h2 Q) := R_calli (a := a) (rest := st) rfl rfl rfl rfl rfl rfl rfl rfl hs
theorem s10_39 (ht : tg a = 23) (hx : tg b = 5) : Runs 10 39 ls (.ref b :: .int i :: .ref a :: st) (n, tg, ln, I, J, O) Q ↔ ((0 ≤ i ∧ i < Int32.ofNat (ln a)) ∧ Runs 10 40 ls st (n, tg, ln, I, J, zu O a i (some b)) Q) := R_aastp rfl ht hx
theorem s10_39q (ht : tg a = 24) (hx : tg b = 1) : Runs 10 39 ls (.ref b :: .int i :: .ref a :: st) (n, tg, ln, I, J, O) Q ↔ ((0 ≤ i ∧ i < Int32.ofNat (ln a)) ∧ Runs 10 40 ls st (n, tg, ln, I, J, zu O a i (some b)) Q) := R_aastb rfl ht hx
theorem s10_40 : Runs 10 40 ls (.int i :: st) h Q ↔ Runs 10 41 ls (.int i :: .int i :: st) h Q := R_dupi rfl
theorem s10_40q : Runs 10 40 ls (.ref a :: st) h Q ↔ Runs 10 41 ls (.ref a :: .ref a :: st) h Q := R_dupr rfl
theorem s10_41 : Runs 10 41 ls st h Q ↔ Runs 10 42 ls (.int 3 :: st) h Q := R_iconst rfl rfl
theorem s10_42 : Runs 10 42 ls st (n, tg, ln, I, J, O) Q ↔ Runs 10 45 ls (.ref n :: st) (znew (n, tg, ln, I, J, O) 5 0) Q := R_new rfl rfl
theorem s10_45 : Runs 10 45 ls (.int i :: st) h Q ↔ Runs 10 46 ls (.int i :: .int i :: st) h Q := R_dupi rfl
theorem s10_45q : Runs 10 45 ls (.ref a :: st) h Q ↔ Runs 10 46 ls (.ref a :: .ref a :: st) h Q := R_dupr rfl
theorem s10_46 (hs : zsumc st ≤ 8) : Runs 10 46 ls (.ref a :: st) h Q ↔ Runs 36 0 [some (.ref a)] [] h (fun v h2 => Runs 10 49 ls (v.toList ++ st) h2 Q) := R_calli (a := a) (rest := st) rfl rfl rfl rfl rfl rfl rfl rfl hs
theorem s10_49 (ht : tg a = 23) (hx : tg b = 5) : Runs 10 49 ls (.ref b :: .int i :: .ref a :: st) (n, tg, ln, I, J, O) Q ↔ ((0 ≤ i ∧ i < Int32.ofNat (ln a)) ∧ Runs 10 50 ls st (n, tg, ln, I, J, zu O a i (some b)) Q) := R_aastp rfl ht hx
theorem s10_49q (ht : tg a = 24) (hx : tg b = 1) : Runs 10 49 ls (.ref b :: .int i :: .ref a :: st) (n, tg, ln, I, J, O) Q ↔ ((0 ≤ i ∧ i < Int32.ofNat (ln a)) ∧ Runs 10 50 ls st (n, tg, ln, I, J, zu O a i (some b)) Q) := R_aastb rfl ht hx
theorem s10_50 : Runs 10 50 ls (.int i :: st) h Q ↔ Runs 10 51 ls (.int i :: .int i :: st) h Q := R_dupi rfl
theorem s10_50q : Runs 10 50 ls (.ref a :: st) h Q ↔ Runs 10 51 ls (.ref a :: .ref a :: st) h Q := R_dupr rfl
theorem s10_51 : Runs 10 51 ls st h Q ↔ Runs 10 52 ls (.int 4 :: st) h Q := R_iconst rfl rfl
theorem s10_52 : Runs 10 52 ls st (n, tg, ln, I, J, O) Q ↔ Runs 10 55 ls (.ref n :: st) (znew (n, tg, ln, I, J, O) 5 0) Q := R_new rfl rfl
theorem s10_55 : Runs 10 55 ls (.int i :: st) h Q ↔ Runs 10 56 ls (.int i :: .int i :: st) h Q := R_dupi rfl
theorem s10_55q : Runs 10 55 ls (.ref a :: st) h Q ↔ Runs 10 56 ls (.ref a :: .ref a :: st) h Q := R_dupr rfl
theorem s10_56 (hs : zsumc st ≤ 8) : Runs 10 56 ls (.ref a :: st) h Q ↔ Runs 36 0 [some (.ref a)] [] h (fun v h2 => Runs 10 59 ls (v.toList ++ st) h2 Q) := R_calli (a := a) (rest := st) rfl rfl rfl rfl rfl rfl rfl rfl hs
theorem s10_59 (ht : tg a = 23) (hx : tg b = 5) : Runs 10 59 ls (.ref b :: .int i :: .ref a :: st) (n, tg, ln, I, J, O) Q ↔ ((0 ≤ i ∧ i < Int32.ofNat (ln a)) ∧ Runs 10 60 ls st (n, tg, ln, I, J, zu O a i (some b)) Q) := R_aastp rfl ht hx
theorem s10_59q (ht : tg a = 24) (hx : tg b = 1) : Runs 10 59 ls (.ref b :: .int i :: .ref a :: st) (n, tg, ln, I, J, O) Q ↔ ((0 ≤ i ∧ i < Int32.ofNat (ln a)) ∧ Runs 10 60 ls st (n, tg, ln, I, J, zu O a i (some b)) Q) := R_aastb rfl ht hx
theorem s10_60 : Runs 10 60 ls (.int i :: st) h Q ↔ Runs 10 61 ls (.int i :: .int i :: st) h Q := R_dupi rfl
theorem s10_60q : Runs 10 60 ls (.ref a :: st) h Q ↔ Runs 10 61 ls (.ref a :: .ref a :: st) h Q := R_dupr rfl
theorem s10_61 : Runs 10 61 ls st h Q ↔ Runs 10 62 ls (.int 5 :: st) h Q := R_iconst rfl rfl
theorem s10_62 : Runs 10 62 ls st (n, tg, ln, I, J, O) Q ↔ Runs 10 65 ls (.ref n :: st) (znew (n, tg, ln, I, J, O) 5 0) Q := R_new rfl rfl
theorem s10_65 : Runs 10 65 ls (.int i :: st) h Q ↔ Runs 10 66 ls (.int i :: .int i :: st) h Q := R_dupi rfl
theorem s10_65q : Runs 10 65 ls (.ref a :: st) h Q ↔ Runs 10 66 ls (.ref a :: .ref a :: st) h Q := R_dupr rfl
theorem s10_66 (hs : zsumc st ≤ 8) : Runs 10 66 ls (.ref a :: st) h Q ↔ Runs 36 0 [some (.ref a)] [] h (fun v h2 => Runs 10 69 ls (v.toList ++ st) h2 Q) := R_calli (a := a) (rest := st) rfl rfl rfl rfl rfl rfl rfl rfl hs
theorem s10_69 (ht : tg a = 23) (hx : tg b = 5) : Runs 10 69 ls (.ref b :: .int i :: .ref a :: st) (n, tg, ln, I, J, O) Q ↔ ((0 ≤ i ∧ i < Int32.ofNat (ln a)) ∧ Runs 10 70 ls st (n, tg, ln, I, J, zu O a i (some b)) Q) := R_aastp rfl ht hx
theorem s10_69q (ht : tg a = 24) (hx : tg b = 1) : Runs 10 69 ls (.ref b :: .int i :: .ref a :: st) (n, tg, ln, I, J, O) Q ↔ ((0 ≤ i ∧ i < Int32.ofNat (ln a)) ∧ Runs 10 70 ls st (n, tg, ln, I, J, zu O a i (some b)) Q) := R_aastb rfl ht hx
theorem s10_70 : Runs 10 70 ls (.int i :: st) h Q ↔ Runs 10 71 ls (.int i :: .int i :: st) h Q := R_dupi rfl
theorem s10_70q : Runs 10 70 ls (.ref a :: st) h Q ↔ Runs 10 71 ls (.ref a :: .ref a :: st) h Q := R_dupr rfl
theorem s10_71 : Runs 10 71 ls st h Q ↔ Runs 10 73 ls (.int 6 :: st) h Q := R_bipush rfl (by decide)
theorem s10_73 : Runs 10 73 ls st (n, tg, ln, I, J, O) Q ↔ Runs 10 76 ls (.ref n :: st) (znew (n, tg, ln, I, J, O) 5 0) Q := R_new rfl rfl
theorem s10_76 : Runs 10 76 ls (.int i :: st) h Q ↔ Runs 10 77 ls (.int i :: .int i :: st) h Q := R_dupi rfl
theorem s10_76q : Runs 10 76 ls (.ref a :: st) h Q ↔ Runs 10 77 ls (.ref a :: .ref a :: st) h Q := R_dupr rfl
theorem s10_77 (hs : zsumc st ≤ 8) : Runs 10 77 ls (.ref a :: st) h Q ↔ Runs 36 0 [some (.ref a)] [] h (fun v h2 => Runs 10 80 ls (v.toList ++ st) h2 Q) := R_calli (a := a) (rest := st) rfl rfl rfl rfl rfl rfl rfl rfl hs
theorem s10_80 (ht : tg a = 23) (hx : tg b = 5) : Runs 10 80 ls (.ref b :: .int i :: .ref a :: st) (n, tg, ln, I, J, O) Q ↔ ((0 ≤ i ∧ i < Int32.ofNat (ln a)) ∧ Runs 10 81 ls st (n, tg, ln, I, J, zu O a i (some b)) Q) := R_aastp rfl ht hx
theorem s10_80q (ht : tg a = 24) (hx : tg b = 1) : Runs 10 80 ls (.ref b :: .int i :: .ref a :: st) (n, tg, ln, I, J, O) Q ↔ ((0 ≤ i ∧ i < Int32.ofNat (ln a)) ∧ Runs 10 81 ls st (n, tg, ln, I, J, zu O a i (some b)) Q) := R_aastb rfl ht hx
theorem s10_81 : Runs 10 81 ls (.int i :: st) h Q ↔ Runs 10 82 ls (.int i :: .int i :: st) h Q := R_dupi rfl
theorem s10_81q : Runs 10 81 ls (.ref a :: st) h Q ↔ Runs 10 82 ls (.ref a :: .ref a :: st) h Q := R_dupr rfl
theorem s10_82 : Runs 10 82 ls st h Q ↔ Runs 10 84 ls (.int 7 :: st) h Q := R_bipush rfl (by decide)
theorem s10_84 : Runs 10 84 ls st (n, tg, ln, I, J, O) Q ↔ Runs 10 87 ls (.ref n :: st) (znew (n, tg, ln, I, J, O) 5 0) Q := R_new rfl rfl
theorem s10_87 : Runs 10 87 ls (.int i :: st) h Q ↔ Runs 10 88 ls (.int i :: .int i :: st) h Q := R_dupi rfl
theorem s10_87q : Runs 10 87 ls (.ref a :: st) h Q ↔ Runs 10 88 ls (.ref a :: .ref a :: st) h Q := R_dupr rfl
theorem s10_88 (hs : zsumc st ≤ 8) : Runs 10 88 ls (.ref a :: st) h Q ↔ Runs 36 0 [some (.ref a)] [] h (fun v h2 => Runs 10 91 ls (v.toList ++ st) h2 Q) := R_calli (a := a) (rest := st) rfl rfl rfl rfl rfl rfl rfl rfl hs
theorem s10_91 (ht : tg a = 23) (hx : tg b = 5) : Runs 10 91 ls (.ref b :: .int i :: .ref a :: st) (n, tg, ln, I, J, O) Q ↔ ((0 ≤ i ∧ i < Int32.ofNat (ln a)) ∧ Runs 10 92 ls st (n, tg, ln, I, J, zu O a i (some b)) Q) := R_aastp rfl ht hx
theorem s10_91q (ht : tg a = 24) (hx : tg b = 1) : Runs 10 91 ls (.ref b :: .int i :: .ref a :: st) (n, tg, ln, I, J, O) Q ↔ ((0 ≤ i ∧ i < Int32.ofNat (ln a)) ∧ Runs 10 92 ls st (n, tg, ln, I, J, zu O a i (some b)) Q) := R_aastb rfl ht hx
theorem s10_92 (ht : tg a = 2) : Runs 10 92 ls (zrf r :: .ref a :: st) (n, tg, ln, I, J, O) Q ↔ Runs 10 95 ls st (n, tg, ln, I, J, zu O a 0 r) Q := R_putr rfl rfl rfl rfl rfl ht
theorem s10_92q (ht : tg a = 2) : Runs 10 92 ls (.ref b :: .ref a :: st) (n, tg, ln, I, J, O) Q ↔ Runs 10 95 ls st (n, tg, ln, I, J, zu O a 0 (some b)) Q := R_putr (x := some b) rfl rfl rfl rfl rfl ht
theorem s10_95 : Runs 10 95 [some (.ref a)] st h Q ↔ Runs 10 96 [some (.ref a)] (.ref a :: st) h Q := R_aldn rfl rfl
theorem s10_95q : Runs 10 95 [some (zrf r)] st h Q ↔ Runs 10 96 [some (zrf r)] (zrf r :: st) h Q := R_aldnq rfl rfl
theorem s10_96 : Runs 10 96 ls st h Q ↔ Runs 10 97 ls (.int 0 :: st) h Q := R_iconst rfl rfl
theorem s10_97 (ht : tg a = 2) : Runs 10 97 ls (.int i :: .ref a :: st) (n, tg, ln, I, J, O) Q ↔ Runs 10 100 ls st (n, tg, ln, zu I a 1 i, J, O) Q := R_puti rfl rfl rfl rfl rfl rfl ht
theorem s10_100 : Runs 10 100 [some (.ref a)] st h Q ↔ Runs 10 101 [some (.ref a)] (.ref a :: st) h Q := R_aldn rfl rfl
theorem s10_100q : Runs 10 100 [some (zrf r)] st h Q ↔ Runs 10 101 [some (zrf r)] (zrf r :: st) h Q := R_aldnq rfl rfl
theorem s10_101 : Runs 10 101 ls st h Q ↔ Runs 10 102 ls (.int 0 :: st) h Q := R_iconst rfl rfl
theorem s10_102 (ht : tg a = 2) : Runs 10 102 ls (.int i :: .ref a :: st) (n, tg, ln, I, J, O) Q ↔ Runs 10 105 ls st (n, tg, ln, zu I a 2 i, J, O) Q := R_puti rfl rfl rfl rfl rfl rfl ht
theorem s10_105 : Runs 10 105 ls [] h Q ↔ Q none h := R_vret rfl rfl
theorem s36_0 : Runs 36 0 [some (.ref a)] st h Q ↔ Runs 36 1 [some (.ref a)] (.ref a :: st) h Q := R_aldn rfl rfl
theorem s36_0q : Runs 36 0 [some (zrf r)] st h Q ↔ Runs 36 1 [some (zrf r)] (zrf r :: st) h Q := R_aldnq rfl rfl
theorem s36_1 (hs : zsumc st ≤ 8) : Runs 36 1 ls (.ref a :: st) h Q ↔ Runs 36 4 ls st h Q := R_objI rfl rfl hs
theorem s36_4 : Runs 36 4 [some (.ref a)] st h Q ↔ Runs 36 5 [some (.ref a)] (.ref a :: st) h Q := R_aldn rfl rfl
theorem s36_4q : Runs 36 4 [some (zrf r)] st h Q ↔ Runs 36 5 [some (zrf r)] (zrf r :: st) h Q := R_aldnq rfl rfl
theorem s36_5 : Runs 36 5 ls st h Q ↔ Runs 36 7 ls (.int 12 :: st) h Q := R_bipush rfl (by decide)
theorem s36_7 : Runs 36 7 ls (.int 12 :: st) (n, tg, ln, I, J, O) Q ↔ Runs 36 9 ls (.ref n :: st) (znew (n, tg, ln, I, J, O) 20 12) Q := R_newai rfl (by decide) (by decide)
theorem s36_9 (ht : tg a = 5) : Runs 36 9 ls (zrf r :: .ref a :: st) (n, tg, ln, I, J, O) Q ↔ Runs 36 12 ls st (n, tg, ln, I, J, zu O a 0 r) Q := R_putr rfl rfl rfl rfl rfl ht
theorem s36_9q (ht : tg a = 5) : Runs 36 9 ls (.ref b :: .ref a :: st) (n, tg, ln, I, J, O) Q ↔ Runs 36 12 ls st (n, tg, ln, I, J, zu O a 0 (some b)) Q := R_putr (x := some b) rfl rfl rfl rfl rfl ht
theorem s36_12 : Runs 36 12 [some (.ref a)] st h Q ↔ Runs 36 13 [some (.ref a)] (.ref a :: st) h Q := R_aldn rfl rfl
theorem s36_12q : Runs 36 12 [some (zrf r)] st h Q ↔ Runs 36 13 [some (zrf r)] (zrf r :: st) h Q := R_aldnq rfl rfl
theorem s36_13 : Runs 36 13 ls st h Q ↔ Runs 36 15 ls (.int 12 :: st) h Q := R_bipush rfl (by decide)
theorem s36_15 : Runs 36 15 ls (.int 12 :: st) (n, tg, ln, I, J, O) Q ↔ Runs 36 17 ls (.ref n :: st) (znew (n, tg, ln, I, J, O) 20 12) Q := R_newai rfl (by decide) (by decide)
theorem s36_17 (ht : tg a = 5) : Runs 36 17 ls (zrf r :: .ref a :: st) (n, tg, ln, I, J, O) Q ↔ Runs 36 20 ls st (n, tg, ln, I, J, zu O a 1 r) Q := R_putr rfl rfl rfl rfl rfl ht
theorem s36_17q (ht : tg a = 5) : Runs 36 17 ls (.ref b :: .ref a :: st) (n, tg, ln, I, J, O) Q ↔ Runs 36 20 ls st (n, tg, ln, I, J, zu O a 1 (some b)) Q := R_putr (x := some b) rfl rfl rfl rfl rfl ht
theorem s36_20 : Runs 36 20 [some (.ref a)] st h Q ↔ Runs 36 21 [some (.ref a)] (.ref a :: st) h Q := R_aldn rfl rfl
theorem s36_20q : Runs 36 20 [some (zrf r)] st h Q ↔ Runs 36 21 [some (zrf r)] (zrf r :: st) h Q := R_aldnq rfl rfl
theorem s36_21 : Runs 36 21 ls st h Q ↔ Runs 36 23 ls (.int 12 :: st) h Q := R_bipush rfl (by decide)
theorem s36_23 : Runs 36 23 ls (.int 12 :: st) (n, tg, ln, I, J, O) Q ↔ Runs 36 25 ls (.ref n :: st) (znew (n, tg, ln, I, J, O) 20 12) Q := R_newai rfl (by decide) (by decide)
theorem s36_25 (ht : tg a = 5) : Runs 36 25 ls (zrf r :: .ref a :: st) (n, tg, ln, I, J, O) Q ↔ Runs 36 28 ls st (n, tg, ln, I, J, zu O a 2 r) Q := R_putr rfl rfl rfl rfl rfl ht
theorem s36_25q (ht : tg a = 5) : Runs 36 25 ls (.ref b :: .ref a :: st) (n, tg, ln, I, J, O) Q ↔ Runs 36 28 ls st (n, tg, ln, I, J, zu O a 2 (some b)) Q := R_putr (x := some b) rfl rfl rfl rfl rfl ht
theorem s36_28 : Runs 36 28 [some (.ref a)] st h Q ↔ Runs 36 29 [some (.ref a)] (.ref a :: st) h Q := R_aldn rfl rfl
theorem s36_28q : Runs 36 28 [some (zrf r)] st h Q ↔ Runs 36 29 [some (zrf r)] (zrf r :: st) h Q := R_aldnq rfl rfl
theorem s36_29 : Runs 36 29 ls st h Q ↔ Runs 36 31 ls (.int 12 :: st) h Q := R_bipush rfl (by decide)
theorem s36_31 : Runs 36 31 ls (.int 12 :: st) (n, tg, ln, I, J, O) Q ↔ Runs 36 33 ls (.ref n :: st) (znew (n, tg, ln, I, J, O) 20 12) Q := R_newai rfl (by decide) (by decide)
theorem s36_33 (ht : tg a = 5) : Runs 36 33 ls (zrf r :: .ref a :: st) (n, tg, ln, I, J, O) Q ↔ Runs 36 36 ls st (n, tg, ln, I, J, zu O a 3 r) Q := R_putr rfl rfl rfl rfl rfl ht
theorem s36_33q (ht : tg a = 5) : Runs 36 33 ls (.ref b :: .ref a :: st) (n, tg, ln, I, J, O) Q ↔ Runs 36 36 ls st (n, tg, ln, I, J, zu O a 3 (some b)) Q := R_putr (x := some b) rfl rfl rfl rfl rfl ht
theorem s36_36 : Runs 36 36 [some (.ref a)] st h Q ↔ Runs 36 37 [some (.ref a)] (.ref a :: st) h Q := R_aldn rfl rfl
theorem s36_36q : Runs 36 36 [some (zrf r)] st h Q ↔ Runs 36 37 [some (zrf r)] (zrf r :: st) h Q := R_aldnq rfl rfl
theorem s36_37 : Runs 36 37 ls st h Q ↔ Runs 36 39 ls (.int 12 :: st) h Q := R_bipush rfl (by decide)
theorem s36_39 : Runs 36 39 ls (.int 12 :: st) (n, tg, ln, I, J, O) Q ↔ Runs 36 41 ls (.ref n :: st) (znew (n, tg, ln, I, J, O) 20 12) Q := R_newai rfl (by decide) (by decide)
theorem s36_41 (ht : tg a = 5) : Runs 36 41 ls (zrf r :: .ref a :: st) (n, tg, ln, I, J, O) Q ↔ Runs 36 44 ls st (n, tg, ln, I, J, zu O a 4 r) Q := R_putr rfl rfl rfl rfl rfl ht
theorem s36_41q (ht : tg a = 5) : Runs 36 41 ls (.ref b :: .ref a :: st) (n, tg, ln, I, J, O) Q ↔ Runs 36 44 ls st (n, tg, ln, I, J, zu O a 4 (some b)) Q := R_putr (x := some b) rfl rfl rfl rfl rfl ht
theorem s36_44 : Runs 36 44 [some (.ref a)] st h Q ↔ Runs 36 45 [some (.ref a)] (.ref a :: st) h Q := R_aldn rfl rfl
theorem s36_44q : Runs 36 44 [some (zrf r)] st h Q ↔ Runs 36 45 [some (zrf r)] (zrf r :: st) h Q := R_aldnq rfl rfl
theorem s36_45 : Runs 36 45 ls st h Q ↔ Runs 36 46 ls (.int 0 :: st) h Q := R_iconst rfl rfl
theorem s36_46 (ht : tg a = 5) : Runs 36 46 ls (.int i :: .ref a :: st) (n, tg, ln, I, J, O) Q ↔ Runs 36 49 ls st (n, tg, ln, zu I a 5 i, J, O) Q := R_puti rfl rfl rfl rfl rfl rfl ht
theorem s36_49 : Runs 36 49 [some (.ref a)] st h Q ↔ Runs 36 50 [some (.ref a)] (.ref a :: st) h Q := R_aldn rfl rfl
theorem s36_49q : Runs 36 49 [some (zrf r)] st h Q ↔ Runs 36 50 [some (zrf r)] (zrf r :: st) h Q := R_aldnq rfl rfl
theorem s36_50 : Runs 36 50 ls st h Q ↔ Runs 36 51 ls (.int 0 :: st) h Q := R_iconst rfl rfl
theorem s36_51 (ht : tg a = 5) : Runs 36 51 ls (.int i :: .ref a :: st) (n, tg, ln, I, J, O) Q ↔ Runs 36 54 ls st (n, tg, ln, zu I a 6 i, J, O) Q := R_puti rfl rfl rfl rfl rfl rfl ht
theorem s36_54 : Runs 36 54 [some (.ref a)] st h Q ↔ Runs 36 55 [some (.ref a)] (.ref a :: st) h Q := R_aldn rfl rfl
theorem s36_54q : Runs 36 54 [some (zrf r)] st h Q ↔ Runs 36 55 [some (zrf r)] (zrf r :: st) h Q := R_aldnq rfl rfl
theorem s36_55 : Runs 36 55 ls st h Q ↔ Runs 36 56 ls (.int 0 :: st) h Q := R_iconst rfl rfl
theorem s36_56 (ht : tg a = 5) : Runs 36 56 ls (.int i :: .ref a :: st) (n, tg, ln, I, J, O) Q ↔ Runs 36 59 ls st (n, tg, ln, zu I a 7 i, J, O) Q := R_puti rfl rfl rfl rfl rfl rfl ht
theorem s36_59 : Runs 36 59 [some (.ref a)] st h Q ↔ Runs 36 60 [some (.ref a)] (.ref a :: st) h Q := R_aldn rfl rfl
theorem s36_59q : Runs 36 59 [some (zrf r)] st h Q ↔ Runs 36 60 [some (zrf r)] (zrf r :: st) h Q := R_aldnq rfl rfl
theorem s36_60 : Runs 36 60 ls st h Q ↔ Runs 36 61 ls (.int 0 :: st) h Q := R_iconst rfl rfl
theorem s36_61 (ht : tg a = 5) : Runs 36 61 ls (.int i :: .ref a :: st) (n, tg, ln, I, J, O) Q ↔ Runs 36 64 ls st (n, tg, ln, zu I a 8 i, J, O) Q := R_puti rfl rfl rfl rfl rfl rfl ht
theorem s36_64 : Runs 36 64 [some (.ref a)] st h Q ↔ Runs 36 65 [some (.ref a)] (.ref a :: st) h Q := R_aldn rfl rfl
theorem s36_64q : Runs 36 64 [some (zrf r)] st h Q ↔ Runs 36 65 [some (zrf r)] (zrf r :: st) h Q := R_aldnq rfl rfl
theorem s36_65 : Runs 36 65 ls st (n, tg, ln, I, J, O) Q ↔ Runs 36 68 ls (.ref n :: st) (znew (n, tg, ln, I, J, O) 4 0) Q := R_new rfl rfl
theorem s36_68 : Runs 36 68 ls (.int i :: st) h Q ↔ Runs 36 69 ls (.int i :: .int i :: st) h Q := R_dupi rfl
theorem s36_68q : Runs 36 68 ls (.ref a :: st) h Q ↔ Runs 36 69 ls (.ref a :: .ref a :: st) h Q := R_dupr rfl
theorem s36_69 (hs : zsumc st ≤ 8) : Runs 36 69 ls (.ref a :: st) h Q ↔ Runs 21 0 [some (.ref a)] [] h (fun v h2 => Runs 36 72 ls (v.toList ++ st) h2 Q) := R_calli (a := a) (rest := st) rfl rfl rfl rfl rfl rfl rfl rfl hs
theorem s36_72 (ht : tg a = 5) : Runs 36 72 ls (zrf r :: .ref a :: st) (n, tg, ln, I, J, O) Q ↔ Runs 36 75 ls st (n, tg, ln, I, J, zu O a 9 r) Q := R_putr rfl rfl rfl rfl rfl ht
theorem s36_72q (ht : tg a = 5) : Runs 36 72 ls (.ref b :: .ref a :: st) (n, tg, ln, I, J, O) Q ↔ Runs 36 75 ls st (n, tg, ln, I, J, zu O a 9 (some b)) Q := R_putr (x := some b) rfl rfl rfl rfl rfl ht
theorem s36_75 : Runs 36 75 [some (.ref a)] st h Q ↔ Runs 36 76 [some (.ref a)] (.ref a :: st) h Q := R_aldn rfl rfl
theorem s36_75q : Runs 36 75 [some (zrf r)] st h Q ↔ Runs 36 76 [some (zrf r)] (zrf r :: st) h Q := R_aldnq rfl rfl
theorem s36_76 : Runs 36 76 ls st (n, tg, ln, I, J, O) Q ↔ Runs 36 79 ls (.ref n :: st) (znew (n, tg, ln, I, J, O) 4 0) Q := R_new rfl rfl
theorem s36_79 : Runs 36 79 ls (.int i :: st) h Q ↔ Runs 36 80 ls (.int i :: .int i :: st) h Q := R_dupi rfl
theorem s36_79q : Runs 36 79 ls (.ref a :: st) h Q ↔ Runs 36 80 ls (.ref a :: .ref a :: st) h Q := R_dupr rfl
theorem s36_80 (hs : zsumc st ≤ 8) : Runs 36 80 ls (.ref a :: st) h Q ↔ Runs 21 0 [some (.ref a)] [] h (fun v h2 => Runs 36 83 ls (v.toList ++ st) h2 Q) := R_calli (a := a) (rest := st) rfl rfl rfl rfl rfl rfl rfl rfl hs
theorem s36_83 (ht : tg a = 5) : Runs 36 83 ls (zrf r :: .ref a :: st) (n, tg, ln, I, J, O) Q ↔ Runs 36 86 ls st (n, tg, ln, I, J, zu O a 10 r) Q := R_putr rfl rfl rfl rfl rfl ht
theorem s36_83q (ht : tg a = 5) : Runs 36 83 ls (.ref b :: .ref a :: st) (n, tg, ln, I, J, O) Q ↔ Runs 36 86 ls st (n, tg, ln, I, J, zu O a 10 (some b)) Q := R_putr (x := some b) rfl rfl rfl rfl rfl ht
theorem s36_86 : Runs 36 86 ls [] h Q ↔ Q none h := R_vret rfl rfl
theorem s58_0 : Runs 58 0 [some (.ref a)] st h Q ↔ Runs 58 1 [some (.ref a)] (.ref a :: st) h Q := R_aldn rfl rfl
theorem s58_0q : Runs 58 0 [some (zrf r)] st h Q ↔ Runs 58 1 [some (zrf r)] (zrf r :: st) h Q := R_aldnq rfl rfl
theorem s58_1 (hs : zsumc st ≤ 8) : Runs 58 1 ls (.ref a :: st) h Q ↔ Runs 58 4 ls st h Q := R_objI rfl rfl hs
theorem s58_4 : Runs 58 4 [some (.ref a)] st h Q ↔ Runs 58 5 [some (.ref a)] (.ref a :: st) h Q := R_aldn rfl rfl
theorem s58_4q : Runs 58 4 [some (zrf r)] st h Q ↔ Runs 58 5 [some (zrf r)] (zrf r :: st) h Q := R_aldnq rfl rfl
theorem s58_5 : Runs 58 5 ls st (n, tg, ln, I, J, O) Q ↔ Runs 58 8 ls (.ref n :: st) (znew (n, tg, ln, I, J, O) 8 0) Q := R_new rfl rfl
theorem s58_8 : Runs 58 8 ls (.int i :: st) h Q ↔ Runs 58 9 ls (.int i :: .int i :: st) h Q := R_dupi rfl
theorem s58_8q : Runs 58 8 ls (.ref a :: st) h Q ↔ Runs 58 9 ls (.ref a :: .ref a :: st) h Q := R_dupr rfl
theorem s58_9 (hs : zsumc st ≤ 8) : Runs 58 9 ls (.ref a :: st) h Q ↔ Runs 76 0 [some (.ref a)] [] h (fun v h2 => Runs 58 12 ls (v.toList ++ st) h2 Q) := R_calli (a := a) (rest := st) rfl rfl rfl rfl rfl rfl rfl rfl hs
theorem s58_12 (ht : tg a = 6) : Runs 58 12 ls (zrf r :: .ref a :: st) (n, tg, ln, I, J, O) Q ↔ Runs 58 15 ls st (n, tg, ln, I, J, zu O a 0 r) Q := R_putr rfl rfl rfl rfl rfl ht
theorem s58_12q (ht : tg a = 6) : Runs 58 12 ls (.ref b :: .ref a :: st) (n, tg, ln, I, J, O) Q ↔ Runs 58 15 ls st (n, tg, ln, I, J, zu O a 0 (some b)) Q := R_putr (x := some b) rfl rfl rfl rfl rfl ht
theorem s58_15 : Runs 58 15 [some (.ref a)] st h Q ↔ Runs 58 16 [some (.ref a)] (.ref a :: st) h Q := R_aldn rfl rfl
theorem s58_15q : Runs 58 15 [some (zrf r)] st h Q ↔ Runs 58 16 [some (zrf r)] (zrf r :: st) h Q := R_aldnq rfl rfl
theorem s58_16 : Runs 58 16 ls st (n, tg, ln, I, J, O) Q ↔ Runs 58 19 ls (.ref n :: st) (znew (n, tg, ln, I, J, O) 5 0) Q := R_new rfl rfl
theorem s58_19 : Runs 58 19 ls (.int i :: st) h Q ↔ Runs 58 20 ls (.int i :: .int i :: st) h Q := R_dupi rfl
theorem s58_19q : Runs 58 19 ls (.ref a :: st) h Q ↔ Runs 58 20 ls (.ref a :: .ref a :: st) h Q := R_dupr rfl
theorem s58_20 (hs : zsumc st ≤ 8) : Runs 58 20 ls (.ref a :: st) h Q ↔ Runs 36 0 [some (.ref a)] [] h (fun v h2 => Runs 58 23 ls (v.toList ++ st) h2 Q) := R_calli (a := a) (rest := st) rfl rfl rfl rfl rfl rfl rfl rfl hs
theorem s58_23 (ht : tg a = 6) : Runs 58 23 ls (zrf r :: .ref a :: st) (n, tg, ln, I, J, O) Q ↔ Runs 58 26 ls st (n, tg, ln, I, J, zu O a 1 r) Q := R_putr rfl rfl rfl rfl rfl ht
theorem s58_23q (ht : tg a = 6) : Runs 58 23 ls (.ref b :: .ref a :: st) (n, tg, ln, I, J, O) Q ↔ Runs 58 26 ls st (n, tg, ln, I, J, zu O a 1 (some b)) Q := R_putr (x := some b) rfl rfl rfl rfl rfl ht
theorem s58_26 : Runs 58 26 [some (.ref a)] st h Q ↔ Runs 58 27 [some (.ref a)] (.ref a :: st) h Q := R_aldn rfl rfl
theorem s58_26q : Runs 58 26 [some (zrf r)] st h Q ↔ Runs 58 27 [some (zrf r)] (zrf r :: st) h Q := R_aldnq rfl rfl
theorem s58_27 : Runs 58 27 ls st (n, tg, ln, I, J, O) Q ↔ Runs 58 30 ls (.ref n :: st) (znew (n, tg, ln, I, J, O) 5 0) Q := R_new rfl rfl
theorem s58_30 : Runs 58 30 ls (.int i :: st) h Q ↔ Runs 58 31 ls (.int i :: .int i :: st) h Q := R_dupi rfl
theorem s58_30q : Runs 58 30 ls (.ref a :: st) h Q ↔ Runs 58 31 ls (.ref a :: .ref a :: st) h Q := R_dupr rfl
theorem s58_31 (hs : zsumc st ≤ 8) : Runs 58 31 ls (.ref a :: st) h Q ↔ Runs 36 0 [some (.ref a)] [] h (fun v h2 => Runs 58 34 ls (v.toList ++ st) h2 Q) := R_calli (a := a) (rest := st) rfl rfl rfl rfl rfl rfl rfl rfl hs
theorem s58_34 (ht : tg a = 6) : Runs 58 34 ls (zrf r :: .ref a :: st) (n, tg, ln, I, J, O) Q ↔ Runs 58 37 ls st (n, tg, ln, I, J, zu O a 2 r) Q := R_putr rfl rfl rfl rfl rfl ht
theorem s58_34q (ht : tg a = 6) : Runs 58 34 ls (.ref b :: .ref a :: st) (n, tg, ln, I, J, O) Q ↔ Runs 58 37 ls st (n, tg, ln, I, J, zu O a 2 (some b)) Q := R_putr (x := some b) rfl rfl rfl rfl rfl ht
theorem s58_37 : Runs 58 37 [some (.ref a)] st h Q ↔ Runs 58 38 [some (.ref a)] (.ref a :: st) h Q := R_aldn rfl rfl
theorem s58_37q : Runs 58 37 [some (zrf r)] st h Q ↔ Runs 58 38 [some (zrf r)] (zrf r :: st) h Q := R_aldnq rfl rfl
theorem s58_38 : Runs 58 38 ls st h Q ↔ Runs 58 39 ls (.int 0 :: st) h Q := R_iconst rfl rfl
theorem s58_39 (ht : tg a = 6) : Runs 58 39 ls (.int i :: .ref a :: st) (n, tg, ln, I, J, O) Q ↔ Runs 58 42 ls st (n, tg, ln, zu I a 3 i, J, O) Q := R_puti rfl rfl rfl rfl rfl rfl ht
theorem s58_42 : Runs 58 42 [some (.ref a)] st h Q ↔ Runs 58 43 [some (.ref a)] (.ref a :: st) h Q := R_aldn rfl rfl
theorem s58_42q : Runs 58 42 [some (zrf r)] st h Q ↔ Runs 58 43 [some (zrf r)] (zrf r :: st) h Q := R_aldnq rfl rfl
theorem s58_43 : Runs 58 43 ls st h Q ↔ Runs 58 44 ls (.int 0 :: st) h Q := R_iconst rfl rfl
theorem s58_44 (ht : tg a = 6) : Runs 58 44 ls (.int i :: .ref a :: st) (n, tg, ln, I, J, O) Q ↔ Runs 58 47 ls st (n, tg, ln, zu I a 4 i, J, O) Q := R_puti rfl rfl rfl rfl rfl rfl ht
theorem s58_47 : Runs 58 47 [some (.ref a)] st h Q ↔ Runs 58 48 [some (.ref a)] (.ref a :: st) h Q := R_aldn rfl rfl
theorem s58_47q : Runs 58 47 [some (zrf r)] st h Q ↔ Runs 58 48 [some (zrf r)] (zrf r :: st) h Q := R_aldnq rfl rfl
theorem s58_48 : Runs 58 48 ls st h Q ↔ Runs 58 49 ls (.int 0 :: st) h Q := R_iconst rfl rfl
theorem s58_49 (ht : tg a = 6) : Runs 58 49 ls (.int i :: .ref a :: st) (n, tg, ln, I, J, O) Q ↔ Runs 58 52 ls st (n, tg, ln, zu I a 5 i, J, O) Q := R_puti rfl rfl rfl rfl rfl rfl ht
theorem s58_52 : Runs 58 52 [some (.ref a)] st h Q ↔ Runs 58 53 [some (.ref a)] (.ref a :: st) h Q := R_aldn rfl rfl
theorem s58_52q : Runs 58 52 [some (zrf r)] st h Q ↔ Runs 58 53 [some (zrf r)] (zrf r :: st) h Q := R_aldnq rfl rfl
theorem s58_53 : Runs 58 53 ls st h Q ↔ Runs 58 54 ls (.int (-1) :: st) h Q := R_iconst rfl rfl
theorem s58_54 (ht : tg a = 6) : Runs 58 54 ls (.int i :: .ref a :: st) (n, tg, ln, I, J, O) Q ↔ Runs 58 57 ls st (n, tg, ln, zu I a 6 i, J, O) Q := R_puti rfl rfl rfl rfl rfl rfl ht
theorem s58_57 : Runs 58 57 [some (.ref a)] st h Q ↔ Runs 58 58 [some (.ref a)] (.ref a :: st) h Q := R_aldn rfl rfl
theorem s58_57q : Runs 58 57 [some (zrf r)] st h Q ↔ Runs 58 58 [some (zrf r)] (zrf r :: st) h Q := R_aldnq rfl rfl
theorem s58_58 : Runs 58 58 ls st h Q ↔ Runs 58 59 ls (.int 0 :: st) h Q := R_iconst rfl rfl
theorem s58_59 (ht : tg a = 6) : Runs 58 59 ls (.int i :: .ref a :: st) (n, tg, ln, I, J, O) Q ↔ Runs 58 62 ls st (n, tg, ln, zu I a 7 i, J, O) Q := R_puti rfl rfl rfl rfl rfl rfl ht
theorem s58_62 : Runs 58 62 ls [] h Q ↔ Q none h := R_vret rfl rfl
theorem s72_0 : Runs 72 0 [some (.ref a)] st h Q ↔ Runs 72 1 [some (.ref a)] (.ref a :: st) h Q := R_aldn rfl rfl
theorem s72_0q : Runs 72 0 [some (zrf r)] st h Q ↔ Runs 72 1 [some (zrf r)] (zrf r :: st) h Q := R_aldnq rfl rfl
theorem s72_1 (hs : zsumc st ≤ 8) : Runs 72 1 ls (.ref a :: st) h Q ↔ Runs 72 4 ls st h Q := R_objI rfl rfl hs
theorem s72_4 : Runs 72 4 [some (.ref a)] st h Q ↔ Runs 72 5 [some (.ref a)] (.ref a :: st) h Q := R_aldn rfl rfl
theorem s72_4q : Runs 72 4 [some (zrf r)] st h Q ↔ Runs 72 5 [some (zrf r)] (zrf r :: st) h Q := R_aldnq rfl rfl
theorem s72_5 : Runs 72 5 ls st h Q ↔ Runs 72 7 ls (.int 6 :: st) h Q := R_bipush rfl (by decide)
theorem s72_7 : Runs 72 7 ls (.int 6 :: st) (n, tg, ln, I, J, O) Q ↔ Runs 72 9 ls (.ref n :: st) (znew (n, tg, ln, I, J, O) 20 6) Q := R_newai rfl (by decide) (by decide)
theorem s72_9 (ht : tg a = 7) : Runs 72 9 ls (zrf r :: .ref a :: st) (n, tg, ln, I, J, O) Q ↔ Runs 72 12 ls st (n, tg, ln, I, J, zu O a 0 r) Q := R_putr rfl rfl rfl rfl rfl ht
theorem s72_9q (ht : tg a = 7) : Runs 72 9 ls (.ref b :: .ref a :: st) (n, tg, ln, I, J, O) Q ↔ Runs 72 12 ls st (n, tg, ln, I, J, zu O a 0 (some b)) Q := R_putr (x := some b) rfl rfl rfl rfl rfl ht
theorem s72_12 : Runs 72 12 [some (.ref a)] st h Q ↔ Runs 72 13 [some (.ref a)] (.ref a :: st) h Q := R_aldn rfl rfl
theorem s72_12q : Runs 72 12 [some (zrf r)] st h Q ↔ Runs 72 13 [some (zrf r)] (zrf r :: st) h Q := R_aldnq rfl rfl
theorem s72_13 : Runs 72 13 ls st h Q ↔ Runs 72 15 ls (.int 6 :: st) h Q := R_bipush rfl (by decide)
theorem s72_15 : Runs 72 15 ls (.int 6 :: st) (n, tg, ln, I, J, O) Q ↔ Runs 72 17 ls (.ref n :: st) (znew (n, tg, ln, I, J, O) 20 6) Q := R_newai rfl (by decide) (by decide)
theorem s72_17 (ht : tg a = 7) : Runs 72 17 ls (zrf r :: .ref a :: st) (n, tg, ln, I, J, O) Q ↔ Runs 72 20 ls st (n, tg, ln, I, J, zu O a 1 r) Q := R_putr rfl rfl rfl rfl rfl ht
theorem s72_17q (ht : tg a = 7) : Runs 72 17 ls (.ref b :: .ref a :: st) (n, tg, ln, I, J, O) Q ↔ Runs 72 20 ls st (n, tg, ln, I, J, zu O a 1 (some b)) Q := R_putr (x := some b) rfl rfl rfl rfl rfl ht
theorem s72_20 : Runs 72 20 [some (.ref a)] st h Q ↔ Runs 72 21 [some (.ref a)] (.ref a :: st) h Q := R_aldn rfl rfl
theorem s72_20q : Runs 72 20 [some (zrf r)] st h Q ↔ Runs 72 21 [some (zrf r)] (zrf r :: st) h Q := R_aldnq rfl rfl
theorem s72_21 : Runs 72 21 ls st h Q ↔ Runs 72 22 ls (.int 0 :: st) h Q := R_iconst rfl rfl
theorem s72_22 (ht : tg a = 7) : Runs 72 22 ls (.int i :: .ref a :: st) (n, tg, ln, I, J, O) Q ↔ Runs 72 25 ls st (n, tg, ln, zu I a 2 i, J, O) Q := R_puti rfl rfl rfl rfl rfl rfl ht
theorem s72_25 : Runs 72 25 ls [] h Q ↔ Q none h := R_vret rfl rfl
theorem s76_0 : Runs 76 0 [some (.ref a)] st h Q ↔ Runs 76 1 [some (.ref a)] (.ref a :: st) h Q := R_aldn rfl rfl
theorem s76_0q : Runs 76 0 [some (zrf r)] st h Q ↔ Runs 76 1 [some (zrf r)] (zrf r :: st) h Q := R_aldnq rfl rfl
theorem s76_1 (hs : zsumc st ≤ 8) : Runs 76 1 ls (.ref a :: st) h Q ↔ Runs 76 4 ls st h Q := R_objI rfl rfl hs
theorem s76_4 : Runs 76 4 [some (.ref a)] st h Q ↔ Runs 76 5 [some (.ref a)] (.ref a :: st) h Q := R_aldn rfl rfl
theorem s76_4q : Runs 76 4 [some (zrf r)] st h Q ↔ Runs 76 5 [some (zrf r)] (zrf r :: st) h Q := R_aldnq rfl rfl
theorem s76_5 : Runs 76 5 ls st h Q ↔ Runs 76 8 ls (.int 200 :: st) h Q := R_sipush rfl (by decide)
theorem s76_8 : Runs 76 8 ls (.int 200 :: st) (n, tg, ln, I, J, O) Q ↔ Runs 76 10 ls (.ref n :: st) (znew (n, tg, ln, I, J, O) 20 200) Q := R_newai rfl (by decide) (by decide)
theorem s76_10 (ht : tg a = 8) : Runs 76 10 ls (zrf r :: .ref a :: st) (n, tg, ln, I, J, O) Q ↔ Runs 76 13 ls st (n, tg, ln, I, J, zu O a 0 r) Q := R_putr rfl rfl rfl rfl rfl ht
theorem s76_10q (ht : tg a = 8) : Runs 76 10 ls (.ref b :: .ref a :: st) (n, tg, ln, I, J, O) Q ↔ Runs 76 13 ls st (n, tg, ln, I, J, zu O a 0 (some b)) Q := R_putr (x := some b) rfl rfl rfl rfl rfl ht
theorem s76_13 : Runs 76 13 [some (.ref a)] st h Q ↔ Runs 76 14 [some (.ref a)] (.ref a :: st) h Q := R_aldn rfl rfl
theorem s76_13q : Runs 76 13 [some (zrf r)] st h Q ↔ Runs 76 14 [some (zrf r)] (zrf r :: st) h Q := R_aldnq rfl rfl
theorem s76_14 : Runs 76 14 ls st h Q ↔ Runs 76 15 ls (.int 0 :: st) h Q := R_iconst rfl rfl
theorem s76_15 (ht : tg a = 8) : Runs 76 15 ls (.int i :: .ref a :: st) (n, tg, ln, I, J, O) Q ↔ Runs 76 18 ls st (n, tg, ln, zu I a 1 i, J, O) Q := R_puti rfl rfl rfl rfl rfl rfl ht
theorem s76_18 : Runs 76 18 ls [] h Q ↔ Q none h := R_vret rfl rfl
theorem s80_0 : Runs 80 0 [some (.ref a)] st h Q ↔ Runs 80 1 [some (.ref a)] (.ref a :: st) h Q := R_aldn rfl rfl
theorem s80_0q : Runs 80 0 [some (zrf r)] st h Q ↔ Runs 80 1 [some (zrf r)] (zrf r :: st) h Q := R_aldnq rfl rfl
theorem s80_1 (hs : zsumc st ≤ 8) : Runs 80 1 ls (.ref a :: st) h Q ↔ Runs 80 4 ls st h Q := R_objI rfl rfl hs
theorem s80_4 : Runs 80 4 [some (.ref a)] st h Q ↔ Runs 80 5 [some (.ref a)] (.ref a :: st) h Q := R_aldn rfl rfl
theorem s80_4q : Runs 80 4 [some (zrf r)] st h Q ↔ Runs 80 5 [some (zrf r)] (zrf r :: st) h Q := R_aldnq rfl rfl
theorem s80_5 : Runs 80 5 ls st (n, tg, ln, I, J, O) Q ↔ Runs 80 8 ls (.ref n :: st) (znew (n, tg, ln, I, J, O) 5 0) Q := R_new rfl rfl
theorem s80_8 : Runs 80 8 ls (.int i :: st) h Q ↔ Runs 80 9 ls (.int i :: .int i :: st) h Q := R_dupi rfl
theorem s80_8q : Runs 80 8 ls (.ref a :: st) h Q ↔ Runs 80 9 ls (.ref a :: .ref a :: st) h Q := R_dupr rfl
theorem s80_9 (hs : zsumc st ≤ 8) : Runs 80 9 ls (.ref a :: st) h Q ↔ Runs 36 0 [some (.ref a)] [] h (fun v h2 => Runs 80 12 ls (v.toList ++ st) h2 Q) := R_calli (a := a) (rest := st) rfl rfl rfl rfl rfl rfl rfl rfl hs
theorem s80_12 (ht : tg a = 9) : Runs 80 12 ls (zrf r :: .ref a :: st) (n, tg, ln, I, J, O) Q ↔ Runs 80 15 ls st (n, tg, ln, I, J, zu O a 0 r) Q := R_putr rfl rfl rfl rfl rfl ht
theorem s80_12q (ht : tg a = 9) : Runs 80 12 ls (.ref b :: .ref a :: st) (n, tg, ln, I, J, O) Q ↔ Runs 80 15 ls st (n, tg, ln, I, J, zu O a 0 (some b)) Q := R_putr (x := some b) rfl rfl rfl rfl rfl ht
theorem s80_15 : Runs 80 15 [some (.ref a)] st h Q ↔ Runs 80 16 [some (.ref a)] (.ref a :: st) h Q := R_aldn rfl rfl
theorem s80_15q : Runs 80 15 [some (zrf r)] st h Q ↔ Runs 80 16 [some (zrf r)] (zrf r :: st) h Q := R_aldnq rfl rfl
theorem s80_16 : Runs 80 16 ls st (n, tg, ln, I, J, O) Q ↔ Runs 80 19 ls (.ref n :: st) (znew (n, tg, ln, I, J, O) 5 0) Q := R_new rfl rfl
theorem s80_19 : Runs 80 19 ls (.int i :: st) h Q ↔ Runs 80 20 ls (.int i :: .int i :: st) h Q := R_dupi rfl
theorem s80_19q : Runs 80 19 ls (.ref a :: st) h Q ↔ Runs 80 20 ls (.ref a :: .ref a :: st) h Q := R_dupr rfl
theorem s80_20 (hs : zsumc st ≤ 8) : Runs 80 20 ls (.ref a :: st) h Q ↔ Runs 36 0 [some (.ref a)] [] h (fun v h2 => Runs 80 23 ls (v.toList ++ st) h2 Q) := R_calli (a := a) (rest := st) rfl rfl rfl rfl rfl rfl rfl rfl hs
theorem s80_23 (ht : tg a = 9) : Runs 80 23 ls (zrf r :: .ref a :: st) (n, tg, ln, I, J, O) Q ↔ Runs 80 26 ls st (n, tg, ln, I, J, zu O a 1 r) Q := R_putr rfl rfl rfl rfl rfl ht
theorem s80_23q (ht : tg a = 9) : Runs 80 23 ls (.ref b :: .ref a :: st) (n, tg, ln, I, J, O) Q ↔ Runs 80 26 ls st (n, tg, ln, I, J, zu O a 1 (some b)) Q := R_putr (x := some b) rfl rfl rfl rfl rfl ht
theorem s80_26 : Runs 80 26 [some (.ref a)] st h Q ↔ Runs 80 27 [some (.ref a)] (.ref a :: st) h Q := R_aldn rfl rfl
theorem s80_26q : Runs 80 26 [some (zrf r)] st h Q ↔ Runs 80 27 [some (zrf r)] (zrf r :: st) h Q := R_aldnq rfl rfl
theorem s80_27 : Runs 80 27 ls st (n, tg, ln, I, J, O) Q ↔ Runs 80 30 ls (.ref n :: st) (znew (n, tg, ln, I, J, O) 6 0) Q := R_new rfl rfl
theorem s80_30 : Runs 80 30 ls (.int i :: st) h Q ↔ Runs 80 31 ls (.int i :: .int i :: st) h Q := R_dupi rfl
theorem s80_30q : Runs 80 30 ls (.ref a :: st) h Q ↔ Runs 80 31 ls (.ref a :: .ref a :: st) h Q := R_dupr rfl
theorem s80_31 (hs : zsumc st ≤ 8) : Runs 80 31 ls (.ref a :: st) h Q ↔ Runs 58 0 [some (.ref a)] [] h (fun v h2 => Runs 80 34 ls (v.toList ++ st) h2 Q) := R_calli (a := a) (rest := st) rfl rfl rfl rfl rfl rfl rfl rfl hs
theorem s80_34 (ht : tg a = 9) : Runs 80 34 ls (zrf r :: .ref a :: st) (n, tg, ln, I, J, O) Q ↔ Runs 80 37 ls st (n, tg, ln, I, J, zu O a 2 r) Q := R_putr rfl rfl rfl rfl rfl ht
theorem s80_34q (ht : tg a = 9) : Runs 80 34 ls (.ref b :: .ref a :: st) (n, tg, ln, I, J, O) Q ↔ Runs 80 37 ls st (n, tg, ln, I, J, zu O a 2 (some b)) Q := R_putr (x := some b) rfl rfl rfl rfl rfl ht
theorem s80_37 : Runs 80 37 [some (.ref a)] st h Q ↔ Runs 80 38 [some (.ref a)] (.ref a :: st) h Q := R_aldn rfl rfl
theorem s80_37q : Runs 80 37 [some (zrf r)] st h Q ↔ Runs 80 38 [some (zrf r)] (zrf r :: st) h Q := R_aldnq rfl rfl
theorem s80_38 : Runs 80 38 ls st (n, tg, ln, I, J, O) Q ↔ Runs 80 41 ls (.ref n :: st) (znew (n, tg, ln, I, J, O) 2 0) Q := R_new rfl rfl
theorem s80_41 : Runs 80 41 ls (.int i :: st) h Q ↔ Runs 80 42 ls (.int i :: .int i :: st) h Q := R_dupi rfl
theorem s80_41q : Runs 80 41 ls (.ref a :: st) h Q ↔ Runs 80 42 ls (.ref a :: .ref a :: st) h Q := R_dupr rfl
theorem s80_42 (hs : zsumc st ≤ 8) : Runs 80 42 ls (.ref a :: st) h Q ↔ Runs 10 0 [some (.ref a)] [] h (fun v h2 => Runs 80 45 ls (v.toList ++ st) h2 Q) := R_calli (a := a) (rest := st) rfl rfl rfl rfl rfl rfl rfl rfl hs
theorem s80_45 (ht : tg a = 9) : Runs 80 45 ls (zrf r :: .ref a :: st) (n, tg, ln, I, J, O) Q ↔ Runs 80 48 ls st (n, tg, ln, I, J, zu O a 3 r) Q := R_putr rfl rfl rfl rfl rfl ht
theorem s80_45q (ht : tg a = 9) : Runs 80 45 ls (.ref b :: .ref a :: st) (n, tg, ln, I, J, O) Q ↔ Runs 80 48 ls st (n, tg, ln, I, J, zu O a 3 (some b)) Q := R_putr (x := some b) rfl rfl rfl rfl rfl ht
theorem s80_48 : Runs 80 48 [some (.ref a)] st h Q ↔ Runs 80 49 [some (.ref a)] (.ref a :: st) h Q := R_aldn rfl rfl
theorem s80_48q : Runs 80 48 [some (zrf r)] st h Q ↔ Runs 80 49 [some (zrf r)] (zrf r :: st) h Q := R_aldnq rfl rfl
theorem s80_49 : Runs 80 49 ls st h Q ↔ Runs 80 50 ls (.int 2 :: st) h Q := R_iconst rfl rfl
theorem s80_50 : Runs 80 50 ls (.int 2 :: st) (n, tg, ln, I, J, O) Q ↔ Runs 80 53 ls (.ref n :: st) (znew (n, tg, ln, I, J, O) 23 2) Q := R_anew4 rfl rfl (by decide) (by decide)
theorem s80_53 : Runs 80 53 ls (.int i :: st) h Q ↔ Runs 80 54 ls (.int i :: .int i :: st) h Q := R_dupi rfl
theorem s80_53q : Runs 80 53 ls (.ref a :: st) h Q ↔ Runs 80 54 ls (.ref a :: .ref a :: st) h Q := R_dupr rfl
theorem s80_54 : Runs 80 54 ls st h Q ↔ Runs 80 55 ls (.int 0 :: st) h Q := R_iconst rfl rfl
theorem s80_55 : Runs 80 55 ls st (n, tg, ln, I, J, O) Q ↔ Runs 80 58 ls (.ref n :: st) (znew (n, tg, ln, I, J, O) 5 0) Q := R_new rfl rfl
theorem s80_58 : Runs 80 58 ls (.int i :: st) h Q ↔ Runs 80 59 ls (.int i :: .int i :: st) h Q := R_dupi rfl
theorem s80_58q : Runs 80 58 ls (.ref a :: st) h Q ↔ Runs 80 59 ls (.ref a :: .ref a :: st) h Q := R_dupr rfl
theorem s80_59 (hs : zsumc st ≤ 8) : Runs 80 59 ls (.ref a :: st) h Q ↔ Runs 36 0 [some (.ref a)] [] h (fun v h2 => Runs 80 62 ls (v.toList ++ st) h2 Q) := R_calli (a := a) (rest := st) rfl rfl rfl rfl rfl rfl rfl rfl hs
theorem s80_62 (ht : tg a = 23) (hx : tg b = 5) : Runs 80 62 ls (.ref b :: .int i :: .ref a :: st) (n, tg, ln, I, J, O) Q ↔ ((0 ≤ i ∧ i < Int32.ofNat (ln a)) ∧ Runs 80 63 ls st (n, tg, ln, I, J, zu O a i (some b)) Q) := R_aastp rfl ht hx
theorem s80_62q (ht : tg a = 24) (hx : tg b = 1) : Runs 80 62 ls (.ref b :: .int i :: .ref a :: st) (n, tg, ln, I, J, O) Q ↔ ((0 ≤ i ∧ i < Int32.ofNat (ln a)) ∧ Runs 80 63 ls st (n, tg, ln, I, J, zu O a i (some b)) Q) := R_aastb rfl ht hx
theorem s80_63 : Runs 80 63 ls (.int i :: st) h Q ↔ Runs 80 64 ls (.int i :: .int i :: st) h Q := R_dupi rfl
theorem s80_63q : Runs 80 63 ls (.ref a :: st) h Q ↔ Runs 80 64 ls (.ref a :: .ref a :: st) h Q := R_dupr rfl
theorem s80_64 : Runs 80 64 ls st h Q ↔ Runs 80 65 ls (.int 1 :: st) h Q := R_iconst rfl rfl
theorem s80_65 : Runs 80 65 ls st (n, tg, ln, I, J, O) Q ↔ Runs 80 68 ls (.ref n :: st) (znew (n, tg, ln, I, J, O) 5 0) Q := R_new rfl rfl
theorem s80_68 : Runs 80 68 ls (.int i :: st) h Q ↔ Runs 80 69 ls (.int i :: .int i :: st) h Q := R_dupi rfl
theorem s80_68q : Runs 80 68 ls (.ref a :: st) h Q ↔ Runs 80 69 ls (.ref a :: .ref a :: st) h Q := R_dupr rfl
theorem s80_69 (hs : zsumc st ≤ 8) : Runs 80 69 ls (.ref a :: st) h Q ↔ Runs 36 0 [some (.ref a)] [] h (fun v h2 => Runs 80 72 ls (v.toList ++ st) h2 Q) := R_calli (a := a) (rest := st) rfl rfl rfl rfl rfl rfl rfl rfl hs
theorem s80_72 (ht : tg a = 23) (hx : tg b = 5) : Runs 80 72 ls (.ref b :: .int i :: .ref a :: st) (n, tg, ln, I, J, O) Q ↔ ((0 ≤ i ∧ i < Int32.ofNat (ln a)) ∧ Runs 80 73 ls st (n, tg, ln, I, J, zu O a i (some b)) Q) := R_aastp rfl ht hx
theorem s80_72q (ht : tg a = 24) (hx : tg b = 1) : Runs 80 72 ls (.ref b :: .int i :: .ref a :: st) (n, tg, ln, I, J, O) Q ↔ ((0 ≤ i ∧ i < Int32.ofNat (ln a)) ∧ Runs 80 73 ls st (n, tg, ln, I, J, zu O a i (some b)) Q) := R_aastb rfl ht hx
theorem s80_73 (ht : tg a = 9) : Runs 80 73 ls (zrf r :: .ref a :: st) (n, tg, ln, I, J, O) Q ↔ Runs 80 76 ls st (n, tg, ln, I, J, zu O a 4 r) Q := R_putr rfl rfl rfl rfl rfl ht
theorem s80_73q (ht : tg a = 9) : Runs 80 73 ls (.ref b :: .ref a :: st) (n, tg, ln, I, J, O) Q ↔ Runs 80 76 ls st (n, tg, ln, I, J, zu O a 4 (some b)) Q := R_putr (x := some b) rfl rfl rfl rfl rfl ht
theorem s80_76 : Runs 80 76 [some (.ref a)] st h Q ↔ Runs 80 77 [some (.ref a)] (.ref a :: st) h Q := R_aldn rfl rfl
theorem s80_76q : Runs 80 76 [some (zrf r)] st h Q ↔ Runs 80 77 [some (zrf r)] (zrf r :: st) h Q := R_aldnq rfl rfl
theorem s80_77 : Runs 80 77 ls st h Q ↔ Runs 80 78 ls (.int 2 :: st) h Q := R_iconst rfl rfl
theorem s80_78 : Runs 80 78 ls (.int 2 :: st) (n, tg, ln, I, J, O) Q ↔ Runs 80 80 ls (.ref n :: st) (znew (n, tg, ln, I, J, O) 22 2) Q := R_newaz rfl (by decide) (by decide)
theorem s80_80 (ht : tg a = 9) : Runs 80 80 ls (zrf r :: .ref a :: st) (n, tg, ln, I, J, O) Q ↔ Runs 80 83 ls st (n, tg, ln, I, J, zu O a 5 r) Q := R_putr rfl rfl rfl rfl rfl ht
theorem s80_80q (ht : tg a = 9) : Runs 80 80 ls (.ref b :: .ref a :: st) (n, tg, ln, I, J, O) Q ↔ Runs 80 83 ls st (n, tg, ln, I, J, zu O a 5 (some b)) Q := R_putr (x := some b) rfl rfl rfl rfl rfl ht
theorem s80_83 : Runs 80 83 [some (.ref a)] st h Q ↔ Runs 80 84 [some (.ref a)] (.ref a :: st) h Q := R_aldn rfl rfl
theorem s80_83q : Runs 80 83 [some (zrf r)] st h Q ↔ Runs 80 84 [some (zrf r)] (zrf r :: st) h Q := R_aldnq rfl rfl
theorem s80_84 : Runs 80 84 ls st (n, tg, ln, I, J, O) Q ↔ Runs 80 87 ls (.ref n :: st) (znew (n, tg, ln, I, J, O) 7 0) Q := R_new rfl rfl
theorem s80_87 : Runs 80 87 ls (.int i :: st) h Q ↔ Runs 80 88 ls (.int i :: .int i :: st) h Q := R_dupi rfl
theorem s80_87q : Runs 80 87 ls (.ref a :: st) h Q ↔ Runs 80 88 ls (.ref a :: .ref a :: st) h Q := R_dupr rfl
theorem s80_88 (hs : zsumc st ≤ 8) : Runs 80 88 ls (.ref a :: st) h Q ↔ Runs 72 0 [some (.ref a)] [] h (fun v h2 => Runs 80 91 ls (v.toList ++ st) h2 Q) := R_calli (a := a) (rest := st) rfl rfl rfl rfl rfl rfl rfl rfl hs
theorem s80_91 (ht : tg a = 9) : Runs 80 91 ls (zrf r :: .ref a :: st) (n, tg, ln, I, J, O) Q ↔ Runs 80 94 ls st (n, tg, ln, I, J, zu O a 6 r) Q := R_putr rfl rfl rfl rfl rfl ht
theorem s80_91q (ht : tg a = 9) : Runs 80 91 ls (.ref b :: .ref a :: st) (n, tg, ln, I, J, O) Q ↔ Runs 80 94 ls st (n, tg, ln, I, J, zu O a 6 (some b)) Q := R_putr (x := some b) rfl rfl rfl rfl rfl ht
theorem s80_94 : Runs 80 94 [some (.ref a)] st h Q ↔ Runs 80 95 [some (.ref a)] (.ref a :: st) h Q := R_aldn rfl rfl
theorem s80_94q : Runs 80 94 [some (zrf r)] st h Q ↔ Runs 80 95 [some (zrf r)] (zrf r :: st) h Q := R_aldnq rfl rfl
theorem s80_95 : Runs 80 95 ls st h Q ↔ Runs 80 96 ls (.int 3 :: st) h Q := R_iconst rfl rfl
theorem s80_96 : Runs 80 96 ls (.int 3 :: st) (n, tg, ln, I, J, O) Q ↔ Runs 80 99 ls (.ref n :: st) (znew (n, tg, ln, I, J, O) 24 3) Q := R_anew0 rfl rfl (by decide) (by decide)
theorem s80_99 : Runs 80 99 ls (.int i :: st) h Q ↔ Runs 80 100 ls (.int i :: .int i :: st) h Q := R_dupi rfl
theorem s80_99q : Runs 80 99 ls (.ref a :: st) h Q ↔ Runs 80 100 ls (.ref a :: .ref a :: st) h Q := R_dupr rfl
theorem s80_100 : Runs 80 100 ls st h Q ↔ Runs 80 101 ls (.int 0 :: st) h Q := R_iconst rfl rfl
theorem s80_101 : Runs 80 101 ls st (n, tg, ln, I, J, O) Q ↔ Runs 80 104 ls (.ref n :: st) (znew (n, tg, ln, I, J, O) 1 0) Q := R_new rfl rfl
theorem s80_104 : Runs 80 104 ls (.int i :: st) h Q ↔ Runs 80 105 ls (.int i :: .int i :: st) h Q := R_dupi rfl
theorem s80_104q : Runs 80 104 ls (.ref a :: st) h Q ↔ Runs 80 105 ls (.ref a :: .ref a :: st) h Q := R_dupr rfl
theorem s80_105 (hs : zsumc st ≤ 8) : Runs 80 105 ls (.ref a :: st) h Q ↔ Runs 0 0 [some (.ref a)] [] h (fun v h2 => Runs 80 108 ls (v.toList ++ st) h2 Q) := R_calli (a := a) (rest := st) rfl rfl rfl rfl rfl rfl rfl rfl hs
theorem s80_108 (ht : tg a = 23) (hx : tg b = 5) : Runs 80 108 ls (.ref b :: .int i :: .ref a :: st) (n, tg, ln, I, J, O) Q ↔ ((0 ≤ i ∧ i < Int32.ofNat (ln a)) ∧ Runs 80 109 ls st (n, tg, ln, I, J, zu O a i (some b)) Q) := R_aastp rfl ht hx
theorem s80_108q (ht : tg a = 24) (hx : tg b = 1) : Runs 80 108 ls (.ref b :: .int i :: .ref a :: st) (n, tg, ln, I, J, O) Q ↔ ((0 ≤ i ∧ i < Int32.ofNat (ln a)) ∧ Runs 80 109 ls st (n, tg, ln, I, J, zu O a i (some b)) Q) := R_aastb rfl ht hx
theorem s80_109 : Runs 80 109 ls (.int i :: st) h Q ↔ Runs 80 110 ls (.int i :: .int i :: st) h Q := R_dupi rfl
theorem s80_109q : Runs 80 109 ls (.ref a :: st) h Q ↔ Runs 80 110 ls (.ref a :: .ref a :: st) h Q := R_dupr rfl
theorem s80_110 : Runs 80 110 ls st h Q ↔ Runs 80 111 ls (.int 1 :: st) h Q := R_iconst rfl rfl
theorem s80_111 : Runs 80 111 ls st (n, tg, ln, I, J, O) Q ↔ Runs 80 114 ls (.ref n :: st) (znew (n, tg, ln, I, J, O) 1 0) Q := R_new rfl rfl
theorem s80_114 : Runs 80 114 ls (.int i :: st) h Q ↔ Runs 80 115 ls (.int i :: .int i :: st) h Q := R_dupi rfl
theorem s80_114q : Runs 80 114 ls (.ref a :: st) h Q ↔ Runs 80 115 ls (.ref a :: .ref a :: st) h Q := R_dupr rfl
theorem s80_115 (hs : zsumc st ≤ 8) : Runs 80 115 ls (.ref a :: st) h Q ↔ Runs 0 0 [some (.ref a)] [] h (fun v h2 => Runs 80 118 ls (v.toList ++ st) h2 Q) := R_calli (a := a) (rest := st) rfl rfl rfl rfl rfl rfl rfl rfl hs
theorem s80_118 (ht : tg a = 23) (hx : tg b = 5) : Runs 80 118 ls (.ref b :: .int i :: .ref a :: st) (n, tg, ln, I, J, O) Q ↔ ((0 ≤ i ∧ i < Int32.ofNat (ln a)) ∧ Runs 80 119 ls st (n, tg, ln, I, J, zu O a i (some b)) Q) := R_aastp rfl ht hx
theorem s80_118q (ht : tg a = 24) (hx : tg b = 1) : Runs 80 118 ls (.ref b :: .int i :: .ref a :: st) (n, tg, ln, I, J, O) Q ↔ ((0 ≤ i ∧ i < Int32.ofNat (ln a)) ∧ Runs 80 119 ls st (n, tg, ln, I, J, zu O a i (some b)) Q) := R_aastb rfl ht hx
theorem s80_119 : Runs 80 119 ls (.int i :: st) h Q ↔ Runs 80 120 ls (.int i :: .int i :: st) h Q := R_dupi rfl
theorem s80_119q : Runs 80 119 ls (.ref a :: st) h Q ↔ Runs 80 120 ls (.ref a :: .ref a :: st) h Q := R_dupr rfl
theorem s80_120 : Runs 80 120 ls st h Q ↔ Runs 80 121 ls (.int 2 :: st) h Q := R_iconst rfl rfl
theorem s80_121 : Runs 80 121 ls st (n, tg, ln, I, J, O) Q ↔ Runs 80 124 ls (.ref n :: st) (znew (n, tg, ln, I, J, O) 1 0) Q := R_new rfl rfl
theorem s80_124 : Runs 80 124 ls (.int i :: st) h Q ↔ Runs 80 125 ls (.int i :: .int i :: st) h Q := R_dupi rfl
theorem s80_124q : Runs 80 124 ls (.ref a :: st) h Q ↔ Runs 80 125 ls (.ref a :: .ref a :: st) h Q := R_dupr rfl
theorem s80_125 (hs : zsumc st ≤ 8) : Runs 80 125 ls (.ref a :: st) h Q ↔ Runs 0 0 [some (.ref a)] [] h (fun v h2 => Runs 80 128 ls (v.toList ++ st) h2 Q) := R_calli (a := a) (rest := st) rfl rfl rfl rfl rfl rfl rfl rfl hs
theorem s80_128 (ht : tg a = 23) (hx : tg b = 5) : Runs 80 128 ls (.ref b :: .int i :: .ref a :: st) (n, tg, ln, I, J, O) Q ↔ ((0 ≤ i ∧ i < Int32.ofNat (ln a)) ∧ Runs 80 129 ls st (n, tg, ln, I, J, zu O a i (some b)) Q) := R_aastp rfl ht hx
theorem s80_128q (ht : tg a = 24) (hx : tg b = 1) : Runs 80 128 ls (.ref b :: .int i :: .ref a :: st) (n, tg, ln, I, J, O) Q ↔ ((0 ≤ i ∧ i < Int32.ofNat (ln a)) ∧ Runs 80 129 ls st (n, tg, ln, I, J, zu O a i (some b)) Q) := R_aastb rfl ht hx
theorem s80_129 (ht : tg a = 9) : Runs 80 129 ls (zrf r :: .ref a :: st) (n, tg, ln, I, J, O) Q ↔ Runs 80 132 ls st (n, tg, ln, I, J, zu O a 7 r) Q := R_putr rfl rfl rfl rfl rfl ht
theorem s80_129q (ht : tg a = 9) : Runs 80 129 ls (.ref b :: .ref a :: st) (n, tg, ln, I, J, O) Q ↔ Runs 80 132 ls st (n, tg, ln, I, J, zu O a 7 (some b)) Q := R_putr (x := some b) rfl rfl rfl rfl rfl ht
theorem s80_132 : Runs 80 132 ls [] h Q ↔ Q none h := R_vret rfl rfl
theorem s126_0 : Runs 126 0 [some (.ref a)] st h Q ↔ Runs 126 1 [some (.ref a)] (.ref a :: st) h Q := R_aldn rfl rfl
theorem s126_0q : Runs 126 0 [some (zrf r)] st h Q ↔ Runs 126 1 [some (zrf r)] (zrf r :: st) h Q := R_aldnq rfl rfl
theorem s126_1 (hs : zsumc st ≤ 8) : Runs 126 1 ls (.ref a :: st) h Q ↔ Runs 126 4 ls st h Q := R_objI rfl rfl hs
theorem s126_4 : Runs 126 4 [some (.ref a)] st h Q ↔ Runs 126 5 [some (.ref a)] (.ref a :: st) h Q := R_aldn rfl rfl
theorem s126_4q : Runs 126 4 [some (zrf r)] st h Q ↔ Runs 126 5 [some (zrf r)] (zrf r :: st) h Q := R_aldnq rfl rfl
theorem s126_5 : Runs 126 5 ls st h Q ↔ Runs 126 8 ls (.int 1170 :: st) h Q := R_sipush rfl (by decide)
theorem s126_8 : Runs 126 8 ls (.int 1170 :: st) (n, tg, ln, I, J, O) Q ↔ Runs 126 10 ls (.ref n :: st) (znew (n, tg, ln, I, J, O) 20 1170) Q := R_newai rfl (by decide) (by decide)
theorem s126_10 (ht : tg a = 10) : Runs 126 10 ls (zrf r :: .ref a :: st) (n, tg, ln, I, J, O) Q ↔ Runs 126 13 ls st (n, tg, ln, I, J, zu O a 0 r) Q := R_putr rfl rfl rfl rfl rfl ht
theorem s126_10q (ht : tg a = 10) : Runs 126 10 ls (.ref b :: .ref a :: st) (n, tg, ln, I, J, O) Q ↔ Runs 126 13 ls st (n, tg, ln, I, J, zu O a 0 (some b)) Q := R_putr (x := some b) rfl rfl rfl rfl rfl ht
theorem s126_13 : Runs 126 13 [some (.ref a)] st h Q ↔ Runs 126 14 [some (.ref a)] (.ref a :: st) h Q := R_aldn rfl rfl
theorem s126_13q : Runs 126 13 [some (zrf r)] st h Q ↔ Runs 126 14 [some (zrf r)] (zrf r :: st) h Q := R_aldnq rfl rfl
theorem s126_14 : Runs 126 14 ls st h Q ↔ Runs 126 15 ls (.int 2 :: st) h Q := R_iconst rfl rfl
theorem s126_15 : Runs 126 15 ls (.int 2 :: st) (n, tg, ln, I, J, O) Q ↔ Runs 126 17 ls (.ref n :: st) (znew (n, tg, ln, I, J, O) 22 2) Q := R_newaz rfl (by decide) (by decide)
theorem s126_17 (ht : tg a = 10) : Runs 126 17 ls (zrf r :: .ref a :: st) (n, tg, ln, I, J, O) Q ↔ Runs 126 20 ls st (n, tg, ln, I, J, zu O a 2 r) Q := R_putr rfl rfl rfl rfl rfl ht
theorem s126_17q (ht : tg a = 10) : Runs 126 17 ls (.ref b :: .ref a :: st) (n, tg, ln, I, J, O) Q ↔ Runs 126 20 ls st (n, tg, ln, I, J, zu O a 2 (some b)) Q := R_putr (x := some b) rfl rfl rfl rfl rfl ht
theorem s126_20 : Runs 126 20 [some (.ref a)] st h Q ↔ Runs 126 21 [some (.ref a)] (.ref a :: st) h Q := R_aldn rfl rfl
theorem s126_20q : Runs 126 20 [some (zrf r)] st h Q ↔ Runs 126 21 [some (zrf r)] (zrf r :: st) h Q := R_aldnq rfl rfl
theorem s126_21 : Runs 126 21 ls st h Q ↔ Runs 126 24 ls (.int 200 :: st) h Q := R_sipush rfl (by decide)
theorem s126_24 : Runs 126 24 ls (.int 200 :: st) (n, tg, ln, I, J, O) Q ↔ Runs 126 26 ls (.ref n :: st) (znew (n, tg, ln, I, J, O) 20 200) Q := R_newai rfl (by decide) (by decide)
theorem s126_26 (ht : tg a = 10) : Runs 126 26 ls (zrf r :: .ref a :: st) (n, tg, ln, I, J, O) Q ↔ Runs 126 29 ls st (n, tg, ln, I, J, zu O a 3 r) Q := R_putr rfl rfl rfl rfl rfl ht
theorem s126_26q (ht : tg a = 10) : Runs 126 26 ls (.ref b :: .ref a :: st) (n, tg, ln, I, J, O) Q ↔ Runs 126 29 ls st (n, tg, ln, I, J, zu O a 3 (some b)) Q := R_putr (x := some b) rfl rfl rfl rfl rfl ht
theorem s126_29 : Runs 126 29 [some (.ref a)] st h Q ↔ Runs 126 30 [some (.ref a)] (.ref a :: st) h Q := R_aldn rfl rfl
theorem s126_29q : Runs 126 29 [some (zrf r)] st h Q ↔ Runs 126 30 [some (zrf r)] (zrf r :: st) h Q := R_aldnq rfl rfl
theorem s126_30 : Runs 126 30 ls st h Q ↔ Runs 126 32 ls (.int 6 :: st) h Q := R_bipush rfl (by decide)
theorem s126_32 : Runs 126 32 ls (.int 6 :: st) (n, tg, ln, I, J, O) Q ↔ Runs 126 34 ls (.ref n :: st) (znew (n, tg, ln, I, J, O) 20 6) Q := R_newai rfl (by decide) (by decide)
theorem s126_34 (ht : tg a = 10) : Runs 126 34 ls (zrf r :: .ref a :: st) (n, tg, ln, I, J, O) Q ↔ Runs 126 37 ls st (n, tg, ln, I, J, zu O a 6 r) Q := R_putr rfl rfl rfl rfl rfl ht
theorem s126_34q (ht : tg a = 10) : Runs 126 34 ls (.ref b :: .ref a :: st) (n, tg, ln, I, J, O) Q ↔ Runs 126 37 ls st (n, tg, ln, I, J, zu O a 6 (some b)) Q := R_putr (x := some b) rfl rfl rfl rfl rfl ht
theorem s126_37 : Runs 126 37 [some (.ref a)] st h Q ↔ Runs 126 38 [some (.ref a)] (.ref a :: st) h Q := R_aldn rfl rfl
theorem s126_37q : Runs 126 37 [some (zrf r)] st h Q ↔ Runs 126 38 [some (zrf r)] (zrf r :: st) h Q := R_aldnq rfl rfl
theorem s126_38 : Runs 126 38 ls st h Q ↔ Runs 126 40 ls (.int 6 :: st) h Q := R_bipush rfl (by decide)
theorem s126_40 : Runs 126 40 ls (.int 6 :: st) (n, tg, ln, I, J, O) Q ↔ Runs 126 42 ls (.ref n :: st) (znew (n, tg, ln, I, J, O) 20 6) Q := R_newai rfl (by decide) (by decide)
theorem s126_42 (ht : tg a = 10) : Runs 126 42 ls (zrf r :: .ref a :: st) (n, tg, ln, I, J, O) Q ↔ Runs 126 45 ls st (n, tg, ln, I, J, zu O a 7 r) Q := R_putr rfl rfl rfl rfl rfl ht
theorem s126_42q (ht : tg a = 10) : Runs 126 42 ls (.ref b :: .ref a :: st) (n, tg, ln, I, J, O) Q ↔ Runs 126 45 ls st (n, tg, ln, I, J, zu O a 7 (some b)) Q := R_putr (x := some b) rfl rfl rfl rfl rfl ht
theorem s126_45 : Runs 126 45 [some (.ref a)] st h Q ↔ Runs 126 46 [some (.ref a)] (.ref a :: st) h Q := R_aldn rfl rfl
theorem s126_45q : Runs 126 45 [some (zrf r)] st h Q ↔ Runs 126 46 [some (zrf r)] (zrf r :: st) h Q := R_aldnq rfl rfl
theorem s126_46 : Runs 126 46 ls st h Q ↔ Runs 126 47 ls (.int 3 :: st) h Q := R_iconst rfl rfl
theorem s126_47 : Runs 126 47 ls (.int 3 :: st) (n, tg, ln, I, J, O) Q ↔ Runs 126 49 ls (.ref n :: st) (znew (n, tg, ln, I, J, O) 20 3) Q := R_newai rfl (by decide) (by decide)
theorem s126_49 : Runs 126 49 ls (.int i :: st) h Q ↔ Runs 126 50 ls (.int i :: .int i :: st) h Q := R_dupi rfl
theorem s126_49q : Runs 126 49 ls (.ref a :: st) h Q ↔ Runs 126 50 ls (.ref a :: .ref a :: st) h Q := R_dupr rfl
theorem s126_50 : Runs 126 50 ls st h Q ↔ Runs 126 51 ls (.int 0 :: st) h Q := R_iconst rfl rfl
theorem s126_51 : Runs 126 51 ls st h Q ↔ Runs 126 52 ls (.int (-1) :: st) h Q := R_iconst rfl rfl
theorem s126_52 (ht : tg a = 20) : Runs 126 52 ls (.int j :: .int i :: .ref a :: st) (n, tg, ln, I, J, O) Q ↔ ((0 ≤ i ∧ i < Int32.ofNat (ln a)) ∧ Runs 126 53 ls st (n, tg, ln, zu I a i j, J, O) Q) := R_iast rfl ht
theorem s126_53 : Runs 126 53 ls (.int i :: st) h Q ↔ Runs 126 54 ls (.int i :: .int i :: st) h Q := R_dupi rfl
theorem s126_53q : Runs 126 53 ls (.ref a :: st) h Q ↔ Runs 126 54 ls (.ref a :: .ref a :: st) h Q := R_dupr rfl
theorem s126_54 : Runs 126 54 ls st h Q ↔ Runs 126 55 ls (.int 1 :: st) h Q := R_iconst rfl rfl
theorem s126_55 : Runs 126 55 ls st h Q ↔ Runs 126 56 ls (.int (-1) :: st) h Q := R_iconst rfl rfl
theorem s126_56 (ht : tg a = 20) : Runs 126 56 ls (.int j :: .int i :: .ref a :: st) (n, tg, ln, I, J, O) Q ↔ ((0 ≤ i ∧ i < Int32.ofNat (ln a)) ∧ Runs 126 57 ls st (n, tg, ln, zu I a i j, J, O) Q) := R_iast rfl ht
theorem s126_57 : Runs 126 57 ls (.int i :: st) h Q ↔ Runs 126 58 ls (.int i :: .int i :: st) h Q := R_dupi rfl
theorem s126_57q : Runs 126 57 ls (.ref a :: st) h Q ↔ Runs 126 58 ls (.ref a :: .ref a :: st) h Q := R_dupr rfl
theorem s126_58 : Runs 126 58 ls st h Q ↔ Runs 126 59 ls (.int 2 :: st) h Q := R_iconst rfl rfl
theorem s126_59 : Runs 126 59 ls st h Q ↔ Runs 126 60 ls (.int (-1) :: st) h Q := R_iconst rfl rfl
theorem s126_60 (ht : tg a = 20) : Runs 126 60 ls (.int j :: .int i :: .ref a :: st) (n, tg, ln, I, J, O) Q ↔ ((0 ≤ i ∧ i < Int32.ofNat (ln a)) ∧ Runs 126 61 ls st (n, tg, ln, zu I a i j, J, O) Q) := R_iast rfl ht
theorem s126_61 (ht : tg a = 10) : Runs 126 61 ls (zrf r :: .ref a :: st) (n, tg, ln, I, J, O) Q ↔ Runs 126 64 ls st (n, tg, ln, I, J, zu O a 8 r) Q := R_putr rfl rfl rfl rfl rfl ht
theorem s126_61q (ht : tg a = 10) : Runs 126 61 ls (.ref b :: .ref a :: st) (n, tg, ln, I, J, O) Q ↔ Runs 126 64 ls st (n, tg, ln, I, J, zu O a 8 (some b)) Q := R_putr (x := some b) rfl rfl rfl rfl rfl ht
theorem s126_64 : Runs 126 64 [some (.ref a)] st h Q ↔ Runs 126 65 [some (.ref a)] (.ref a :: st) h Q := R_aldn rfl rfl
theorem s126_64q : Runs 126 64 [some (zrf r)] st h Q ↔ Runs 126 65 [some (zrf r)] (zrf r :: st) h Q := R_aldnq rfl rfl
theorem s126_65 : Runs 126 65 ls st h Q ↔ Runs 126 67 ls (.int 36 :: st) h Q := R_bipush rfl (by decide)
theorem s126_67 : Runs 126 67 ls (.int 36 :: st) (n, tg, ln, I, J, O) Q ↔ Runs 126 69 ls (.ref n :: st) (znew (n, tg, ln, I, J, O) 20 36) Q := R_newai rfl (by decide) (by decide)
theorem s126_69 (ht : tg a = 10) : Runs 126 69 ls (zrf r :: .ref a :: st) (n, tg, ln, I, J, O) Q ↔ Runs 126 72 ls st (n, tg, ln, I, J, zu O a 9 r) Q := R_putr rfl rfl rfl rfl rfl ht
theorem s126_69q (ht : tg a = 10) : Runs 126 69 ls (.ref b :: .ref a :: st) (n, tg, ln, I, J, O) Q ↔ Runs 126 72 ls st (n, tg, ln, I, J, zu O a 9 (some b)) Q := R_putr (x := some b) rfl rfl rfl rfl rfl ht
theorem s126_72 : Runs 126 72 [some (.ref a)] st h Q ↔ Runs 126 73 [some (.ref a)] (.ref a :: st) h Q := R_aldn rfl rfl
theorem s126_72q : Runs 126 72 [some (zrf r)] st h Q ↔ Runs 126 73 [some (zrf r)] (zrf r :: st) h Q := R_aldnq rfl rfl
theorem s126_73 : Runs 126 73 ls st h Q ↔ Runs 126 75 ls (.int 36 :: st) h Q := R_bipush rfl (by decide)
theorem s126_75 : Runs 126 75 ls (.int 36 :: st) (n, tg, ln, I, J, O) Q ↔ Runs 126 77 ls (.ref n :: st) (znew (n, tg, ln, I, J, O) 20 36) Q := R_newai rfl (by decide) (by decide)
theorem s126_77 (ht : tg a = 10) : Runs 126 77 ls (zrf r :: .ref a :: st) (n, tg, ln, I, J, O) Q ↔ Runs 126 80 ls st (n, tg, ln, I, J, zu O a 10 r) Q := R_putr rfl rfl rfl rfl rfl ht
theorem s126_77q (ht : tg a = 10) : Runs 126 77 ls (.ref b :: .ref a :: st) (n, tg, ln, I, J, O) Q ↔ Runs 126 80 ls st (n, tg, ln, I, J, zu O a 10 (some b)) Q := R_putr (x := some b) rfl rfl rfl rfl rfl ht
theorem s126_80 : Runs 126 80 [some (.ref a)] st h Q ↔ Runs 126 81 [some (.ref a)] (.ref a :: st) h Q := R_aldn rfl rfl
theorem s126_80q : Runs 126 80 [some (zrf r)] st h Q ↔ Runs 126 81 [some (zrf r)] (zrf r :: st) h Q := R_aldnq rfl rfl
theorem s126_81 : Runs 126 81 ls st h Q ↔ Runs 126 83 ls (.int 36 :: st) h Q := R_bipush rfl (by decide)
theorem s126_83 : Runs 126 83 ls (.int 36 :: st) (n, tg, ln, I, J, O) Q ↔ Runs 126 85 ls (.ref n :: st) (znew (n, tg, ln, I, J, O) 21 36) Q := R_newal rfl (by decide) (by decide)
theorem s126_85 (ht : tg a = 10) : Runs 126 85 ls (zrf r :: .ref a :: st) (n, tg, ln, I, J, O) Q ↔ Runs 126 88 ls st (n, tg, ln, I, J, zu O a 11 r) Q := R_putr rfl rfl rfl rfl rfl ht
theorem s126_85q (ht : tg a = 10) : Runs 126 85 ls (.ref b :: .ref a :: st) (n, tg, ln, I, J, O) Q ↔ Runs 126 88 ls st (n, tg, ln, I, J, zu O a 11 (some b)) Q := R_putr (x := some b) rfl rfl rfl rfl rfl ht
theorem s126_88 : Runs 126 88 [some (.ref a)] st h Q ↔ Runs 126 89 [some (.ref a)] (.ref a :: st) h Q := R_aldn rfl rfl
theorem s126_88q : Runs 126 88 [some (zrf r)] st h Q ↔ Runs 126 89 [some (zrf r)] (zrf r :: st) h Q := R_aldnq rfl rfl
theorem s126_89 : Runs 126 89 ls st h Q ↔ Runs 126 90 ls (.int 2 :: st) h Q := R_iconst rfl rfl
theorem s126_90 : Runs 126 90 ls (.int 2 :: st) (n, tg, ln, I, J, O) Q ↔ Runs 126 92 ls (.ref n :: st) (znew (n, tg, ln, I, J, O) 20 2) Q := R_newai rfl (by decide) (by decide)
theorem s126_92 (ht : tg a = 10) : Runs 126 92 ls (zrf r :: .ref a :: st) (n, tg, ln, I, J, O) Q ↔ Runs 126 95 ls st (n, tg, ln, I, J, zu O a 15 r) Q := R_putr rfl rfl rfl rfl rfl ht
theorem s126_92q (ht : tg a = 10) : Runs 126 92 ls (.ref b :: .ref a :: st) (n, tg, ln, I, J, O) Q ↔ Runs 126 95 ls st (n, tg, ln, I, J, zu O a 15 (some b)) Q := R_putr (x := some b) rfl rfl rfl rfl rfl ht
theorem s126_95 : Runs 126 95 [some (.ref a)] st h Q ↔ Runs 126 96 [some (.ref a)] (.ref a :: st) h Q := R_aldn rfl rfl
theorem s126_95q : Runs 126 95 [some (zrf r)] st h Q ↔ Runs 126 96 [some (zrf r)] (zrf r :: st) h Q := R_aldnq rfl rfl
theorem s126_96 : Runs 126 96 ls st h Q ↔ Runs 126 97 ls (.int 2 :: st) h Q := R_iconst rfl rfl
theorem s126_97 : Runs 126 97 ls (.int 2 :: st) (n, tg, ln, I, J, O) Q ↔ Runs 126 99 ls (.ref n :: st) (znew (n, tg, ln, I, J, O) 20 2) Q := R_newai rfl (by decide) (by decide)
theorem s126_99 (ht : tg a = 10) : Runs 126 99 ls (zrf r :: .ref a :: st) (n, tg, ln, I, J, O) Q ↔ Runs 126 102 ls st (n, tg, ln, I, J, zu O a 18 r) Q := R_putr rfl rfl rfl rfl rfl ht
theorem s126_99q (ht : tg a = 10) : Runs 126 99 ls (.ref b :: .ref a :: st) (n, tg, ln, I, J, O) Q ↔ Runs 126 102 ls st (n, tg, ln, I, J, zu O a 18 (some b)) Q := R_putr (x := some b) rfl rfl rfl rfl rfl ht
theorem s126_102 : Runs 126 102 [some (.ref a)] st h Q ↔ Runs 126 103 [some (.ref a)] (.ref a :: st) h Q := R_aldn rfl rfl
theorem s126_102q : Runs 126 102 [some (zrf r)] st h Q ↔ Runs 126 103 [some (zrf r)] (zrf r :: st) h Q := R_aldnq rfl rfl
theorem s126_103 : Runs 126 103 ls st h Q ↔ Runs 126 104 ls (.int 5 :: st) h Q := R_iconst rfl rfl
theorem s126_104 : Runs 126 104 ls (.int 5 :: st) (n, tg, ln, I, J, O) Q ↔ Runs 126 106 ls (.ref n :: st) (znew (n, tg, ln, I, J, O) 20 5) Q := R_newai rfl (by decide) (by decide)
theorem s126_106 : Runs 126 106 ls (.int i :: st) h Q ↔ Runs 126 107 ls (.int i :: .int i :: st) h Q := R_dupi rfl
theorem s126_106q : Runs 126 106 ls (.ref a :: st) h Q ↔ Runs 126 107 ls (.ref a :: .ref a :: st) h Q := R_dupr rfl
theorem s126_107 : Runs 126 107 ls st h Q ↔ Runs 126 108 ls (.int 0 :: st) h Q := R_iconst rfl rfl
theorem s126_108 : Runs 126 108 ls st h Q ↔ Runs 126 110 ls (.int 112 :: st) h Q := R_bipush rfl (by decide)
theorem s126_110 (ht : tg a = 20) : Runs 126 110 ls (.int j :: .int i :: .ref a :: st) (n, tg, ln, I, J, O) Q ↔ ((0 ≤ i ∧ i < Int32.ofNat (ln a)) ∧ Runs 126 111 ls st (n, tg, ln, zu I a i j, J, O) Q) := R_iast rfl ht
theorem s126_111 : Runs 126 111 ls (.int i :: st) h Q ↔ Runs 126 112 ls (.int i :: .int i :: st) h Q := R_dupi rfl
theorem s126_111q : Runs 126 111 ls (.ref a :: st) h Q ↔ Runs 126 112 ls (.ref a :: .ref a :: st) h Q := R_dupr rfl
theorem s126_112 : Runs 126 112 ls st h Q ↔ Runs 126 113 ls (.int 1 :: st) h Q := R_iconst rfl rfl
theorem s126_113 : Runs 126 113 ls st h Q ↔ Runs 126 115 ls (.int 108 :: st) h Q := R_bipush rfl (by decide)
theorem s126_115 (ht : tg a = 20) : Runs 126 115 ls (.int j :: .int i :: .ref a :: st) (n, tg, ln, I, J, O) Q ↔ ((0 ≤ i ∧ i < Int32.ofNat (ln a)) ∧ Runs 126 116 ls st (n, tg, ln, zu I a i j, J, O) Q) := R_iast rfl ht
theorem s126_116 : Runs 126 116 ls (.int i :: st) h Q ↔ Runs 126 117 ls (.int i :: .int i :: st) h Q := R_dupi rfl
theorem s126_116q : Runs 126 116 ls (.ref a :: st) h Q ↔ Runs 126 117 ls (.ref a :: .ref a :: st) h Q := R_dupr rfl
theorem s126_117 : Runs 126 117 ls st h Q ↔ Runs 126 118 ls (.int 2 :: st) h Q := R_iconst rfl rfl
theorem s126_118 : Runs 126 118 ls st h Q ↔ Runs 126 120 ls (.int 97 :: st) h Q := R_bipush rfl (by decide)
theorem s126_120 (ht : tg a = 20) : Runs 126 120 ls (.int j :: .int i :: .ref a :: st) (n, tg, ln, I, J, O) Q ↔ ((0 ≤ i ∧ i < Int32.ofNat (ln a)) ∧ Runs 126 121 ls st (n, tg, ln, zu I a i j, J, O) Q) := R_iast rfl ht
theorem s126_121 : Runs 126 121 ls (.int i :: st) h Q ↔ Runs 126 122 ls (.int i :: .int i :: st) h Q := R_dupi rfl
theorem s126_121q : Runs 126 121 ls (.ref a :: st) h Q ↔ Runs 126 122 ls (.ref a :: .ref a :: st) h Q := R_dupr rfl
theorem s126_122 : Runs 126 122 ls st h Q ↔ Runs 126 123 ls (.int 3 :: st) h Q := R_iconst rfl rfl
theorem s126_123 : Runs 126 123 ls st h Q ↔ Runs 126 125 ls (.int 105 :: st) h Q := R_bipush rfl (by decide)
theorem s126_125 (ht : tg a = 20) : Runs 126 125 ls (.int j :: .int i :: .ref a :: st) (n, tg, ln, I, J, O) Q ↔ ((0 ≤ i ∧ i < Int32.ofNat (ln a)) ∧ Runs 126 126 ls st (n, tg, ln, zu I a i j, J, O) Q) := R_iast rfl ht
theorem s126_126 : Runs 126 126 ls (.int i :: st) h Q ↔ Runs 126 127 ls (.int i :: .int i :: st) h Q := R_dupi rfl
theorem s126_126q : Runs 126 126 ls (.ref a :: st) h Q ↔ Runs 126 127 ls (.ref a :: .ref a :: st) h Q := R_dupr rfl
theorem s126_127 : Runs 126 127 ls st h Q ↔ Runs 126 128 ls (.int 4 :: st) h Q := R_iconst rfl rfl
theorem s126_128 : Runs 126 128 ls st h Q ↔ Runs 126 130 ls (.int 110 :: st) h Q := R_bipush rfl (by decide)
theorem s126_130 (ht : tg a = 20) : Runs 126 130 ls (.int j :: .int i :: .ref a :: st) (n, tg, ln, I, J, O) Q ↔ ((0 ≤ i ∧ i < Int32.ofNat (ln a)) ∧ Runs 126 131 ls st (n, tg, ln, zu I a i j, J, O) Q) := R_iast rfl ht
theorem s126_131 (ht : tg a = 10) : Runs 126 131 ls (zrf r :: .ref a :: st) (n, tg, ln, I, J, O) Q ↔ Runs 126 134 ls st (n, tg, ln, I, J, zu O a 19 r) Q := R_putr rfl rfl rfl rfl rfl ht
theorem s126_131q (ht : tg a = 10) : Runs 126 131 ls (.ref b :: .ref a :: st) (n, tg, ln, I, J, O) Q ↔ Runs 126 134 ls st (n, tg, ln, I, J, zu O a 19 (some b)) Q := R_putr (x := some b) rfl rfl rfl rfl rfl ht
theorem s126_134 : Runs 126 134 [some (.ref a)] st h Q ↔ Runs 126 135 [some (.ref a)] (.ref a :: st) h Q := R_aldn rfl rfl
theorem s126_134q : Runs 126 134 [some (zrf r)] st h Q ↔ Runs 126 135 [some (zrf r)] (zrf r :: st) h Q := R_aldnq rfl rfl
theorem s126_135 : Runs 126 135 ls st h Q ↔ Runs 126 137 ls (.int 6 :: st) h Q := R_bipush rfl (by decide)
theorem s126_137 : Runs 126 137 ls (.int 6 :: st) (n, tg, ln, I, J, O) Q ↔ Runs 126 139 ls (.ref n :: st) (znew (n, tg, ln, I, J, O) 20 6) Q := R_newai rfl (by decide) (by decide)
theorem s126_139 : Runs 126 139 ls (.int i :: st) h Q ↔ Runs 126 140 ls (.int i :: .int i :: st) h Q := R_dupi rfl
theorem s126_139q : Runs 126 139 ls (.ref a :: st) h Q ↔ Runs 126 140 ls (.ref a :: .ref a :: st) h Q := R_dupr rfl
theorem s126_140 : Runs 126 140 ls st h Q ↔ Runs 126 141 ls (.int 0 :: st) h Q := R_iconst rfl rfl
theorem s126_141 : Runs 126 141 ls st h Q ↔ Runs 126 143 ls (.int 112 :: st) h Q := R_bipush rfl (by decide)
theorem s126_143 (ht : tg a = 20) : Runs 126 143 ls (.int j :: .int i :: .ref a :: st) (n, tg, ln, I, J, O) Q ↔ ((0 ≤ i ∧ i < Int32.ofNat (ln a)) ∧ Runs 126 144 ls st (n, tg, ln, zu I a i j, J, O) Q) := R_iast rfl ht
theorem s126_144 : Runs 126 144 ls (.int i :: st) h Q ↔ Runs 126 145 ls (.int i :: .int i :: st) h Q := R_dupi rfl
theorem s126_144q : Runs 126 144 ls (.ref a :: st) h Q ↔ Runs 126 145 ls (.ref a :: .ref a :: st) h Q := R_dupr rfl
theorem s126_145 : Runs 126 145 ls st h Q ↔ Runs 126 146 ls (.int 1 :: st) h Q := R_iconst rfl rfl
theorem s126_146 : Runs 126 146 ls st h Q ↔ Runs 126 148 ls (.int 111 :: st) h Q := R_bipush rfl (by decide)
theorem s126_148 (ht : tg a = 20) : Runs 126 148 ls (.int j :: .int i :: .ref a :: st) (n, tg, ln, I, J, O) Q ↔ ((0 ≤ i ∧ i < Int32.ofNat (ln a)) ∧ Runs 126 149 ls st (n, tg, ln, zu I a i j, J, O) Q) := R_iast rfl ht
theorem s126_149 : Runs 126 149 ls (.int i :: st) h Q ↔ Runs 126 150 ls (.int i :: .int i :: st) h Q := R_dupi rfl
theorem s126_149q : Runs 126 149 ls (.ref a :: st) h Q ↔ Runs 126 150 ls (.ref a :: .ref a :: st) h Q := R_dupr rfl
theorem s126_150 : Runs 126 150 ls st h Q ↔ Runs 126 151 ls (.int 2 :: st) h Q := R_iconst rfl rfl
theorem s126_151 : Runs 126 151 ls st h Q ↔ Runs 126 153 ls (.int 112 :: st) h Q := R_bipush rfl (by decide)
theorem s126_153 (ht : tg a = 20) : Runs 126 153 ls (.int j :: .int i :: .ref a :: st) (n, tg, ln, I, J, O) Q ↔ ((0 ≤ i ∧ i < Int32.ofNat (ln a)) ∧ Runs 126 154 ls st (n, tg, ln, zu I a i j, J, O) Q) := R_iast rfl ht
theorem s126_154 : Runs 126 154 ls (.int i :: st) h Q ↔ Runs 126 155 ls (.int i :: .int i :: st) h Q := R_dupi rfl
theorem s126_154q : Runs 126 154 ls (.ref a :: st) h Q ↔ Runs 126 155 ls (.ref a :: .ref a :: st) h Q := R_dupr rfl
theorem s126_155 : Runs 126 155 ls st h Q ↔ Runs 126 156 ls (.int 3 :: st) h Q := R_iconst rfl rfl
theorem s126_156 : Runs 126 156 ls st h Q ↔ Runs 126 158 ls (.int 108 :: st) h Q := R_bipush rfl (by decide)
theorem s126_158 (ht : tg a = 20) : Runs 126 158 ls (.int j :: .int i :: .ref a :: st) (n, tg, ln, I, J, O) Q ↔ ((0 ≤ i ∧ i < Int32.ofNat (ln a)) ∧ Runs 126 159 ls st (n, tg, ln, zu I a i j, J, O) Q) := R_iast rfl ht
theorem s126_159 : Runs 126 159 ls (.int i :: st) h Q ↔ Runs 126 160 ls (.int i :: .int i :: st) h Q := R_dupi rfl
theorem s126_159q : Runs 126 159 ls (.ref a :: st) h Q ↔ Runs 126 160 ls (.ref a :: .ref a :: st) h Q := R_dupr rfl
theorem s126_160 : Runs 126 160 ls st h Q ↔ Runs 126 161 ls (.int 4 :: st) h Q := R_iconst rfl rfl
theorem s126_161 : Runs 126 161 ls st h Q ↔ Runs 126 163 ls (.int 97 :: st) h Q := R_bipush rfl (by decide)
theorem s126_163 (ht : tg a = 20) : Runs 126 163 ls (.int j :: .int i :: .ref a :: st) (n, tg, ln, I, J, O) Q ↔ ((0 ≤ i ∧ i < Int32.ofNat (ln a)) ∧ Runs 126 164 ls st (n, tg, ln, zu I a i j, J, O) Q) := R_iast rfl ht
theorem s126_164 : Runs 126 164 ls (.int i :: st) h Q ↔ Runs 126 165 ls (.int i :: .int i :: st) h Q := R_dupi rfl
theorem s126_164q : Runs 126 164 ls (.ref a :: st) h Q ↔ Runs 126 165 ls (.ref a :: .ref a :: st) h Q := R_dupr rfl
theorem s126_165 : Runs 126 165 ls st h Q ↔ Runs 126 166 ls (.int 5 :: st) h Q := R_iconst rfl rfl
theorem s126_166 : Runs 126 166 ls st h Q ↔ Runs 126 168 ls (.int 114 :: st) h Q := R_bipush rfl (by decide)
theorem s126_168 (ht : tg a = 20) : Runs 126 168 ls (.int j :: .int i :: .ref a :: st) (n, tg, ln, I, J, O) Q ↔ ((0 ≤ i ∧ i < Int32.ofNat (ln a)) ∧ Runs 126 169 ls st (n, tg, ln, zu I a i j, J, O) Q) := R_iast rfl ht
theorem s126_169 (ht : tg a = 10) : Runs 126 169 ls (zrf r :: .ref a :: st) (n, tg, ln, I, J, O) Q ↔ Runs 126 172 ls st (n, tg, ln, I, J, zu O a 20 r) Q := R_putr rfl rfl rfl rfl rfl ht
theorem s126_169q (ht : tg a = 10) : Runs 126 169 ls (.ref b :: .ref a :: st) (n, tg, ln, I, J, O) Q ↔ Runs 126 172 ls st (n, tg, ln, I, J, zu O a 20 (some b)) Q := R_putr (x := some b) rfl rfl rfl rfl rfl ht
theorem s126_172 : Runs 126 172 [some (.ref a)] st h Q ↔ Runs 126 173 [some (.ref a)] (.ref a :: st) h Q := R_aldn rfl rfl
theorem s126_172q : Runs 126 172 [some (zrf r)] st h Q ↔ Runs 126 173 [some (zrf r)] (zrf r :: st) h Q := R_aldnq rfl rfl
theorem s126_173 : Runs 126 173 ls st h Q ↔ Runs 126 175 ls (.int 6 :: st) h Q := R_bipush rfl (by decide)
theorem s126_175 : Runs 126 175 ls (.int 6 :: st) (n, tg, ln, I, J, O) Q ↔ Runs 126 177 ls (.ref n :: st) (znew (n, tg, ln, I, J, O) 20 6) Q := R_newai rfl (by decide) (by decide)
theorem s126_177 : Runs 126 177 ls (.int i :: st) h Q ↔ Runs 126 178 ls (.int i :: .int i :: st) h Q := R_dupi rfl
theorem s126_177q : Runs 126 177 ls (.ref a :: st) h Q ↔ Runs 126 178 ls (.ref a :: .ref a :: st) h Q := R_dupr rfl
theorem s126_178 : Runs 126 178 ls st h Q ↔ Runs 126 179 ls (.int 0 :: st) h Q := R_iconst rfl rfl
theorem s126_179 : Runs 126 179 ls st h Q ↔ Runs 126 181 ls (.int 112 :: st) h Q := R_bipush rfl (by decide)
theorem s126_181 (ht : tg a = 20) : Runs 126 181 ls (.int j :: .int i :: .ref a :: st) (n, tg, ln, I, J, O) Q ↔ ((0 ≤ i ∧ i < Int32.ofNat (ln a)) ∧ Runs 126 182 ls st (n, tg, ln, zu I a i j, J, O) Q) := R_iast rfl ht
theorem s126_182 : Runs 126 182 ls (.int i :: st) h Q ↔ Runs 126 183 ls (.int i :: .int i :: st) h Q := R_dupi rfl
theorem s126_182q : Runs 126 182 ls (.ref a :: st) h Q ↔ Runs 126 183 ls (.ref a :: .ref a :: st) h Q := R_dupr rfl
theorem s126_183 : Runs 126 183 ls st h Q ↔ Runs 126 184 ls (.int 1 :: st) h Q := R_iconst rfl rfl
theorem s126_184 : Runs 126 184 ls st h Q ↔ Runs 126 186 ls (.int 117 :: st) h Q := R_bipush rfl (by decide)
theorem s126_186 (ht : tg a = 20) : Runs 126 186 ls (.int j :: .int i :: .ref a :: st) (n, tg, ln, I, J, O) Q ↔ ((0 ≤ i ∧ i < Int32.ofNat (ln a)) ∧ Runs 126 187 ls st (n, tg, ln, zu I a i j, J, O) Q) := R_iast rfl ht
theorem s126_187 : Runs 126 187 ls (.int i :: st) h Q ↔ Runs 126 188 ls (.int i :: .int i :: st) h Q := R_dupi rfl
theorem s126_187q : Runs 126 187 ls (.ref a :: st) h Q ↔ Runs 126 188 ls (.ref a :: .ref a :: st) h Q := R_dupr rfl
theorem s126_188 : Runs 126 188 ls st h Q ↔ Runs 126 189 ls (.int 2 :: st) h Q := R_iconst rfl rfl
theorem s126_189 : Runs 126 189 ls st h Q ↔ Runs 126 191 ls (.int 115 :: st) h Q := R_bipush rfl (by decide)
theorem s126_191 (ht : tg a = 20) : Runs 126 191 ls (.int j :: .int i :: .ref a :: st) (n, tg, ln, I, J, O) Q ↔ ((0 ≤ i ∧ i < Int32.ofNat (ln a)) ∧ Runs 126 192 ls st (n, tg, ln, zu I a i j, J, O) Q) := R_iast rfl ht
theorem s126_192 : Runs 126 192 ls (.int i :: st) h Q ↔ Runs 126 193 ls (.int i :: .int i :: st) h Q := R_dupi rfl
theorem s126_192q : Runs 126 192 ls (.ref a :: st) h Q ↔ Runs 126 193 ls (.ref a :: .ref a :: st) h Q := R_dupr rfl
theorem s126_193 : Runs 126 193 ls st h Q ↔ Runs 126 194 ls (.int 3 :: st) h Q := R_iconst rfl rfl
theorem s126_194 : Runs 126 194 ls st h Q ↔ Runs 126 196 ls (.int 104 :: st) h Q := R_bipush rfl (by decide)
theorem s126_196 (ht : tg a = 20) : Runs 126 196 ls (.int j :: .int i :: .ref a :: st) (n, tg, ln, I, J, O) Q ↔ ((0 ≤ i ∧ i < Int32.ofNat (ln a)) ∧ Runs 126 197 ls st (n, tg, ln, zu I a i j, J, O) Q) := R_iast rfl ht
theorem s126_197 : Runs 126 197 ls (.int i :: st) h Q ↔ Runs 126 198 ls (.int i :: .int i :: st) h Q := R_dupi rfl
theorem s126_197q : Runs 126 197 ls (.ref a :: st) h Q ↔ Runs 126 198 ls (.ref a :: .ref a :: st) h Q := R_dupr rfl
theorem s126_198 : Runs 126 198 ls st h Q ↔ Runs 126 199 ls (.int 4 :: st) h Q := R_iconst rfl rfl
theorem s126_199 : Runs 126 199 ls st h Q ↔ Runs 126 201 ls (.int 101 :: st) h Q := R_bipush rfl (by decide)
theorem s126_201 (ht : tg a = 20) : Runs 126 201 ls (.int j :: .int i :: .ref a :: st) (n, tg, ln, I, J, O) Q ↔ ((0 ≤ i ∧ i < Int32.ofNat (ln a)) ∧ Runs 126 202 ls st (n, tg, ln, zu I a i j, J, O) Q) := R_iast rfl ht
theorem s126_202 : Runs 126 202 ls (.int i :: st) h Q ↔ Runs 126 203 ls (.int i :: .int i :: st) h Q := R_dupi rfl
theorem s126_202q : Runs 126 202 ls (.ref a :: st) h Q ↔ Runs 126 203 ls (.ref a :: .ref a :: st) h Q := R_dupr rfl
theorem s126_203 : Runs 126 203 ls st h Q ↔ Runs 126 204 ls (.int 5 :: st) h Q := R_iconst rfl rfl
theorem s126_204 : Runs 126 204 ls st h Q ↔ Runs 126 206 ls (.int 114 :: st) h Q := R_bipush rfl (by decide)
theorem s126_206 (ht : tg a = 20) : Runs 126 206 ls (.int j :: .int i :: .ref a :: st) (n, tg, ln, I, J, O) Q ↔ ((0 ≤ i ∧ i < Int32.ofNat (ln a)) ∧ Runs 126 207 ls st (n, tg, ln, zu I a i j, J, O) Q) := R_iast rfl ht
theorem s126_207 (ht : tg a = 10) : Runs 126 207 ls (zrf r :: .ref a :: st) (n, tg, ln, I, J, O) Q ↔ Runs 126 210 ls st (n, tg, ln, I, J, zu O a 21 r) Q := R_putr rfl rfl rfl rfl rfl ht
theorem s126_207q (ht : tg a = 10) : Runs 126 207 ls (.ref b :: .ref a :: st) (n, tg, ln, I, J, O) Q ↔ Runs 126 210 ls st (n, tg, ln, I, J, zu O a 21 (some b)) Q := R_putr (x := some b) rfl rfl rfl rfl rfl ht
theorem s126_210 : Runs 126 210 [some (.ref a)] st h Q ↔ Runs 126 211 [some (.ref a)] (.ref a :: st) h Q := R_aldn rfl rfl
theorem s126_210q : Runs 126 210 [some (zrf r)] st h Q ↔ Runs 126 211 [some (zrf r)] (zrf r :: st) h Q := R_aldnq rfl rfl
theorem s126_211 : Runs 126 211 ls st h Q ↔ Runs 126 212 ls (.int 3 :: st) h Q := R_iconst rfl rfl
theorem s126_212 : Runs 126 212 ls (.int 3 :: st) (n, tg, ln, I, J, O) Q ↔ Runs 126 214 ls (.ref n :: st) (znew (n, tg, ln, I, J, O) 20 3) Q := R_newai rfl (by decide) (by decide)
theorem s126_214 : Runs 126 214 ls (.int i :: st) h Q ↔ Runs 126 215 ls (.int i :: .int i :: st) h Q := R_dupi rfl
theorem s126_214q : Runs 126 214 ls (.ref a :: st) h Q ↔ Runs 126 215 ls (.ref a :: .ref a :: st) h Q := R_dupr rfl
theorem s126_215 : Runs 126 215 ls st h Q ↔ Runs 126 216 ls (.int 0 :: st) h Q := R_iconst rfl rfl
theorem s126_216 : Runs 126 216 ls st h Q ↔ Runs 126 218 ls (.int 111 :: st) h Q := R_bipush rfl (by decide)
theorem s126_218 (ht : tg a = 20) : Runs 126 218 ls (.int j :: .int i :: .ref a :: st) (n, tg, ln, I, J, O) Q ↔ ((0 ≤ i ∧ i < Int32.ofNat (ln a)) ∧ Runs 126 219 ls st (n, tg, ln, zu I a i j, J, O) Q) := R_iast rfl ht
theorem s126_219 : Runs 126 219 ls (.int i :: st) h Q ↔ Runs 126 220 ls (.int i :: .int i :: st) h Q := R_dupi rfl
theorem s126_219q : Runs 126 219 ls (.ref a :: st) h Q ↔ Runs 126 220 ls (.ref a :: .ref a :: st) h Q := R_dupr rfl
theorem s126_220 : Runs 126 220 ls st h Q ↔ Runs 126 221 ls (.int 1 :: st) h Q := R_iconst rfl rfl
theorem s126_221 : Runs 126 221 ls st h Q ↔ Runs 126 223 ls (.int 108 :: st) h Q := R_bipush rfl (by decide)
theorem s126_223 (ht : tg a = 20) : Runs 126 223 ls (.int j :: .int i :: .ref a :: st) (n, tg, ln, I, J, O) Q ↔ ((0 ≤ i ∧ i < Int32.ofNat (ln a)) ∧ Runs 126 224 ls st (n, tg, ln, zu I a i j, J, O) Q) := R_iast rfl ht
theorem s126_224 : Runs 126 224 ls (.int i :: st) h Q ↔ Runs 126 225 ls (.int i :: .int i :: st) h Q := R_dupi rfl
theorem s126_224q : Runs 126 224 ls (.ref a :: st) h Q ↔ Runs 126 225 ls (.ref a :: .ref a :: st) h Q := R_dupr rfl
theorem s126_225 : Runs 126 225 ls st h Q ↔ Runs 126 226 ls (.int 2 :: st) h Q := R_iconst rfl rfl
theorem s126_226 : Runs 126 226 ls st h Q ↔ Runs 126 228 ls (.int 100 :: st) h Q := R_bipush rfl (by decide)
theorem s126_228 (ht : tg a = 20) : Runs 126 228 ls (.int j :: .int i :: .ref a :: st) (n, tg, ln, I, J, O) Q ↔ ((0 ≤ i ∧ i < Int32.ofNat (ln a)) ∧ Runs 126 229 ls st (n, tg, ln, zu I a i j, J, O) Q) := R_iast rfl ht
theorem s126_229 (ht : tg a = 10) : Runs 126 229 ls (zrf r :: .ref a :: st) (n, tg, ln, I, J, O) Q ↔ Runs 126 232 ls st (n, tg, ln, I, J, zu O a 22 r) Q := R_putr rfl rfl rfl rfl rfl ht
theorem s126_229q (ht : tg a = 10) : Runs 126 229 ls (.ref b :: .ref a :: st) (n, tg, ln, I, J, O) Q ↔ Runs 126 232 ls st (n, tg, ln, I, J, zu O a 22 (some b)) Q := R_putr (x := some b) rfl rfl rfl rfl rfl ht
theorem s126_232 : Runs 126 232 [some (.ref a)] st h Q ↔ Runs 126 233 [some (.ref a)] (.ref a :: st) h Q := R_aldn rfl rfl
theorem s126_232q : Runs 126 232 [some (zrf r)] st h Q ↔ Runs 126 233 [some (zrf r)] (zrf r :: st) h Q := R_aldnq rfl rfl
theorem s126_233 : Runs 126 233 ls st h Q ↔ Runs 126 234 ls (.int 5 :: st) h Q := R_iconst rfl rfl
theorem s126_234 : Runs 126 234 ls (.int 5 :: st) (n, tg, ln, I, J, O) Q ↔ Runs 126 236 ls (.ref n :: st) (znew (n, tg, ln, I, J, O) 20 5) Q := R_newai rfl (by decide) (by decide)
theorem s126_236 : Runs 126 236 ls (.int i :: st) h Q ↔ Runs 126 237 ls (.int i :: .int i :: st) h Q := R_dupi rfl
theorem s126_236q : Runs 126 236 ls (.ref a :: st) h Q ↔ Runs 126 237 ls (.ref a :: .ref a :: st) h Q := R_dupr rfl
theorem s126_237 : Runs 126 237 ls st h Q ↔ Runs 126 238 ls (.int 0 :: st) h Q := R_iconst rfl rfl
theorem s126_238 : Runs 126 238 ls st h Q ↔ Runs 126 240 ls (.int 115 :: st) h Q := R_bipush rfl (by decide)
theorem s126_240 (ht : tg a = 20) : Runs 126 240 ls (.int j :: .int i :: .ref a :: st) (n, tg, ln, I, J, O) Q ↔ ((0 ≤ i ∧ i < Int32.ofNat (ln a)) ∧ Runs 126 241 ls st (n, tg, ln, zu I a i j, J, O) Q) := R_iast rfl ht
theorem s126_241 : Runs 126 241 ls (.int i :: st) h Q ↔ Runs 126 242 ls (.int i :: .int i :: st) h Q := R_dupi rfl
theorem s126_241q : Runs 126 241 ls (.ref a :: st) h Q ↔ Runs 126 242 ls (.ref a :: .ref a :: st) h Q := R_dupr rfl
theorem s126_242 : Runs 126 242 ls st h Q ↔ Runs 126 243 ls (.int 1 :: st) h Q := R_iconst rfl rfl
theorem s126_243 : Runs 126 243 ls st h Q ↔ Runs 126 245 ls (.int 116 :: st) h Q := R_bipush rfl (by decide)
theorem s126_245 (ht : tg a = 20) : Runs 126 245 ls (.int j :: .int i :: .ref a :: st) (n, tg, ln, I, J, O) Q ↔ ((0 ≤ i ∧ i < Int32.ofNat (ln a)) ∧ Runs 126 246 ls st (n, tg, ln, zu I a i j, J, O) Q) := R_iast rfl ht
theorem s126_246 : Runs 126 246 ls (.int i :: st) h Q ↔ Runs 126 247 ls (.int i :: .int i :: st) h Q := R_dupi rfl
theorem s126_246q : Runs 126 246 ls (.ref a :: st) h Q ↔ Runs 126 247 ls (.ref a :: .ref a :: st) h Q := R_dupr rfl
theorem s126_247 : Runs 126 247 ls st h Q ↔ Runs 126 248 ls (.int 2 :: st) h Q := R_iconst rfl rfl
theorem s126_248 : Runs 126 248 ls st h Q ↔ Runs 126 250 ls (.int 117 :: st) h Q := R_bipush rfl (by decide)
theorem s126_250 (ht : tg a = 20) : Runs 126 250 ls (.int j :: .int i :: .ref a :: st) (n, tg, ln, I, J, O) Q ↔ ((0 ≤ i ∧ i < Int32.ofNat (ln a)) ∧ Runs 126 251 ls st (n, tg, ln, zu I a i j, J, O) Q) := R_iast rfl ht
theorem s126_251 : Runs 126 251 ls (.int i :: st) h Q ↔ Runs 126 252 ls (.int i :: .int i :: st) h Q := R_dupi rfl
theorem s126_251q : Runs 126 251 ls (.ref a :: st) h Q ↔ Runs 126 252 ls (.ref a :: .ref a :: st) h Q := R_dupr rfl
theorem s126_252 : Runs 126 252 ls st h Q ↔ Runs 126 253 ls (.int 3 :: st) h Q := R_iconst rfl rfl
theorem s126_253 : Runs 126 253 ls st h Q ↔ Runs 126 255 ls (.int 109 :: st) h Q := R_bipush rfl (by decide)
theorem s126_255 (ht : tg a = 20) : Runs 126 255 ls (.int j :: .int i :: .ref a :: st) (n, tg, ln, I, J, O) Q ↔ ((0 ≤ i ∧ i < Int32.ofNat (ln a)) ∧ Runs 126 256 ls st (n, tg, ln, zu I a i j, J, O) Q) := R_iast rfl ht
theorem s126_256 : Runs 126 256 ls (.int i :: st) h Q ↔ Runs 126 257 ls (.int i :: .int i :: st) h Q := R_dupi rfl
theorem s126_256q : Runs 126 256 ls (.ref a :: st) h Q ↔ Runs 126 257 ls (.ref a :: .ref a :: st) h Q := R_dupr rfl
theorem s126_257 : Runs 126 257 ls st h Q ↔ Runs 126 258 ls (.int 4 :: st) h Q := R_iconst rfl rfl
theorem s126_258 : Runs 126 258 ls st h Q ↔ Runs 126 260 ls (.int 112 :: st) h Q := R_bipush rfl (by decide)
theorem s126_260 (ht : tg a = 20) : Runs 126 260 ls (.int j :: .int i :: .ref a :: st) (n, tg, ln, I, J, O) Q ↔ ((0 ≤ i ∧ i < Int32.ofNat (ln a)) ∧ Runs 126 261 ls st (n, tg, ln, zu I a i j, J, O) Q) := R_iast rfl ht
theorem s126_261 (ht : tg a = 10) : Runs 126 261 ls (zrf r :: .ref a :: st) (n, tg, ln, I, J, O) Q ↔ Runs 126 264 ls st (n, tg, ln, I, J, zu O a 23 r) Q := R_putr rfl rfl rfl rfl rfl ht
theorem s126_261q (ht : tg a = 10) : Runs 126 261 ls (.ref b :: .ref a :: st) (n, tg, ln, I, J, O) Q ↔ Runs 126 264 ls st (n, tg, ln, I, J, zu O a 23 (some b)) Q := R_putr (x := some b) rfl rfl rfl rfl rfl ht
theorem s126_264 : Runs 126 264 [some (.ref a)] st h Q ↔ Runs 126 265 [some (.ref a)] (.ref a :: st) h Q := R_aldn rfl rfl
theorem s126_264q : Runs 126 264 [some (zrf r)] st h Q ↔ Runs 126 265 [some (zrf r)] (zrf r :: st) h Q := R_aldnq rfl rfl
theorem s126_265 : Runs 126 265 ls st h Q ↔ Runs 126 266 ls (.int 3 :: st) h Q := R_iconst rfl rfl
theorem s126_266 : Runs 126 266 ls (.int 3 :: st) (n, tg, ln, I, J, O) Q ↔ Runs 126 268 ls (.ref n :: st) (znew (n, tg, ln, I, J, O) 20 3) Q := R_newai rfl (by decide) (by decide)
theorem s126_268 : Runs 126 268 ls (.int i :: st) h Q ↔ Runs 126 269 ls (.int i :: .int i :: st) h Q := R_dupi rfl
theorem s126_268q : Runs 126 268 ls (.ref a :: st) h Q ↔ Runs 126 269 ls (.ref a :: .ref a :: st) h Q := R_dupr rfl
theorem s126_269 : Runs 126 269 ls st h Q ↔ Runs 126 270 ls (.int 0 :: st) h Q := R_iconst rfl rfl
theorem s126_270 : Runs 126 270 ls st h Q ↔ Runs 126 272 ls (.int 103 :: st) h Q := R_bipush rfl (by decide)
theorem s126_272 (ht : tg a = 20) : Runs 126 272 ls (.int j :: .int i :: .ref a :: st) (n, tg, ln, I, J, O) Q ↔ ((0 ≤ i ∧ i < Int32.ofNat (ln a)) ∧ Runs 126 273 ls st (n, tg, ln, zu I a i j, J, O) Q) := R_iast rfl ht
theorem s126_273 : Runs 126 273 ls (.int i :: st) h Q ↔ Runs 126 274 ls (.int i :: .int i :: st) h Q := R_dupi rfl
theorem s126_273q : Runs 126 273 ls (.ref a :: st) h Q ↔ Runs 126 274 ls (.ref a :: .ref a :: st) h Q := R_dupr rfl
theorem s126_274 : Runs 126 274 ls st h Q ↔ Runs 126 275 ls (.int 1 :: st) h Q := R_iconst rfl rfl
theorem s126_275 : Runs 126 275 ls st h Q ↔ Runs 126 277 ls (.int 97 :: st) h Q := R_bipush rfl (by decide)
theorem s126_277 (ht : tg a = 20) : Runs 126 277 ls (.int j :: .int i :: .ref a :: st) (n, tg, ln, I, J, O) Q ↔ ((0 ≤ i ∧ i < Int32.ofNat (ln a)) ∧ Runs 126 278 ls st (n, tg, ln, zu I a i j, J, O) Q) := R_iast rfl ht
theorem s126_278 : Runs 126 278 ls (.int i :: st) h Q ↔ Runs 126 279 ls (.int i :: .int i :: st) h Q := R_dupi rfl
theorem s126_278q : Runs 126 278 ls (.ref a :: st) h Q ↔ Runs 126 279 ls (.ref a :: .ref a :: st) h Q := R_dupr rfl
theorem s126_279 : Runs 126 279 ls st h Q ↔ Runs 126 280 ls (.int 2 :: st) h Q := R_iconst rfl rfl
theorem s126_280 : Runs 126 280 ls st h Q ↔ Runs 126 282 ls (.int 112 :: st) h Q := R_bipush rfl (by decide)
theorem s126_282 (ht : tg a = 20) : Runs 126 282 ls (.int j :: .int i :: .ref a :: st) (n, tg, ln, I, J, O) Q ↔ ((0 ≤ i ∧ i < Int32.ofNat (ln a)) ∧ Runs 126 283 ls st (n, tg, ln, zu I a i j, J, O) Q) := R_iast rfl ht
theorem s126_283 (ht : tg a = 10) : Runs 126 283 ls (zrf r :: .ref a :: st) (n, tg, ln, I, J, O) Q ↔ Runs 126 286 ls st (n, tg, ln, I, J, zu O a 24 r) Q := R_putr rfl rfl rfl rfl rfl ht
theorem s126_283q (ht : tg a = 10) : Runs 126 283 ls (.ref b :: .ref a :: st) (n, tg, ln, I, J, O) Q ↔ Runs 126 286 ls st (n, tg, ln, I, J, zu O a 24 (some b)) Q := R_putr (x := some b) rfl rfl rfl rfl rfl ht
theorem s126_286 : Runs 126 286 [some (.ref a)] st h Q ↔ Runs 126 287 [some (.ref a)] (.ref a :: st) h Q := R_aldn rfl rfl
theorem s126_286q : Runs 126 286 [some (zrf r)] st h Q ↔ Runs 126 287 [some (zrf r)] (zrf r :: st) h Q := R_aldnq rfl rfl
theorem s126_287 : Runs 126 287 ls st h Q ↔ Runs 126 288 ls (.int 3 :: st) h Q := R_iconst rfl rfl
theorem s126_288 : Runs 126 288 ls (.int 3 :: st) (n, tg, ln, I, J, O) Q ↔ Runs 126 290 ls (.ref n :: st) (znew (n, tg, ln, I, J, O) 20 3) Q := R_newai rfl (by decide) (by decide)
theorem s126_290 : Runs 126 290 ls (.int i :: st) h Q ↔ Runs 126 291 ls (.int i :: .int i :: st) h Q := R_dupi rfl
theorem s126_290q : Runs 126 290 ls (.ref a :: st) h Q ↔ Runs 126 291 ls (.ref a :: .ref a :: st) h Q := R_dupr rfl
theorem s126_291 : Runs 126 291 ls st h Q ↔ Runs 126 292 ls (.int 0 :: st) h Q := R_iconst rfl rfl
theorem s126_292 : Runs 126 292 ls st h Q ↔ Runs 126 294 ls (.int 108 :: st) h Q := R_bipush rfl (by decide)
theorem s126_294 (ht : tg a = 20) : Runs 126 294 ls (.int j :: .int i :: .ref a :: st) (n, tg, ln, I, J, O) Q ↔ ((0 ≤ i ∧ i < Int32.ofNat (ln a)) ∧ Runs 126 295 ls st (n, tg, ln, zu I a i j, J, O) Q) := R_iast rfl ht
theorem s126_295 : Runs 126 295 ls (.int i :: st) h Q ↔ Runs 126 296 ls (.int i :: .int i :: st) h Q := R_dupi rfl
theorem s126_295q : Runs 126 295 ls (.ref a :: st) h Q ↔ Runs 126 296 ls (.ref a :: .ref a :: st) h Q := R_dupr rfl
theorem s126_296 : Runs 126 296 ls st h Q ↔ Runs 126 297 ls (.int 1 :: st) h Q := R_iconst rfl rfl
theorem s126_297 : Runs 126 297 ls st h Q ↔ Runs 126 299 ls (.int 97 :: st) h Q := R_bipush rfl (by decide)
theorem s126_299 (ht : tg a = 20) : Runs 126 299 ls (.int j :: .int i :: .ref a :: st) (n, tg, ln, I, J, O) Q ↔ ((0 ≤ i ∧ i < Int32.ofNat (ln a)) ∧ Runs 126 300 ls st (n, tg, ln, zu I a i j, J, O) Q) := R_iast rfl ht
theorem s126_300 : Runs 126 300 ls (.int i :: st) h Q ↔ Runs 126 301 ls (.int i :: .int i :: st) h Q := R_dupi rfl
theorem s126_300q : Runs 126 300 ls (.ref a :: st) h Q ↔ Runs 126 301 ls (.ref a :: .ref a :: st) h Q := R_dupr rfl
theorem s126_301 : Runs 126 301 ls st h Q ↔ Runs 126 302 ls (.int 2 :: st) h Q := R_iconst rfl rfl
theorem s126_302 : Runs 126 302 ls st h Q ↔ Runs 126 304 ls (.int 119 :: st) h Q := R_bipush rfl (by decide)
theorem s126_304 (ht : tg a = 20) : Runs 126 304 ls (.int j :: .int i :: .ref a :: st) (n, tg, ln, I, J, O) Q ↔ ((0 ≤ i ∧ i < Int32.ofNat (ln a)) ∧ Runs 126 305 ls st (n, tg, ln, zu I a i j, J, O) Q) := R_iast rfl ht
theorem s126_305 (ht : tg a = 10) : Runs 126 305 ls (zrf r :: .ref a :: st) (n, tg, ln, I, J, O) Q ↔ Runs 126 308 ls st (n, tg, ln, I, J, zu O a 25 r) Q := R_putr rfl rfl rfl rfl rfl ht
theorem s126_305q (ht : tg a = 10) : Runs 126 305 ls (.ref b :: .ref a :: st) (n, tg, ln, I, J, O) Q ↔ Runs 126 308 ls st (n, tg, ln, I, J, zu O a 25 (some b)) Q := R_putr (x := some b) rfl rfl rfl rfl rfl ht
theorem s126_308 : Runs 126 308 [some (.ref a)] st h Q ↔ Runs 126 309 [some (.ref a)] (.ref a :: st) h Q := R_aldn rfl rfl
theorem s126_308q : Runs 126 308 [some (zrf r)] st h Q ↔ Runs 126 309 [some (zrf r)] (zrf r :: st) h Q := R_aldnq rfl rfl
theorem s126_309 : Runs 126 309 ls st h Q ↔ Runs 126 311 ls (.int 12 :: st) h Q := R_bipush rfl (by decide)
theorem s126_311 : Runs 126 311 ls (.int 12 :: st) (n, tg, ln, I, J, O) Q ↔ Runs 126 313 ls (.ref n :: st) (znew (n, tg, ln, I, J, O) 20 12) Q := R_newai rfl (by decide) (by decide)
theorem s126_313 (ht : tg a = 10) : Runs 126 313 ls (zrf r :: .ref a :: st) (n, tg, ln, I, J, O) Q ↔ Runs 126 316 ls st (n, tg, ln, I, J, zu O a 26 r) Q := R_putr rfl rfl rfl rfl rfl ht
theorem s126_313q (ht : tg a = 10) : Runs 126 313 ls (.ref b :: .ref a :: st) (n, tg, ln, I, J, O) Q ↔ Runs 126 316 ls st (n, tg, ln, I, J, zu O a 26 (some b)) Q := R_putr (x := some b) rfl rfl rfl rfl rfl ht
theorem s126_316 : Runs 126 316 [some (.ref a)] st h Q ↔ Runs 126 317 [some (.ref a)] (.ref a :: st) h Q := R_aldn rfl rfl
theorem s126_316q : Runs 126 316 [some (zrf r)] st h Q ↔ Runs 126 317 [some (zrf r)] (zrf r :: st) h Q := R_aldnq rfl rfl
theorem s126_317 : Runs 126 317 ls st h Q ↔ Runs 126 319 ls (.int 12 :: st) h Q := R_bipush rfl (by decide)
theorem s126_319 : Runs 126 319 ls (.int 12 :: st) (n, tg, ln, I, J, O) Q ↔ Runs 126 321 ls (.ref n :: st) (znew (n, tg, ln, I, J, O) 20 12) Q := R_newai rfl (by decide) (by decide)
theorem s126_321 (ht : tg a = 10) : Runs 126 321 ls (zrf r :: .ref a :: st) (n, tg, ln, I, J, O) Q ↔ Runs 126 324 ls st (n, tg, ln, I, J, zu O a 27 r) Q := R_putr rfl rfl rfl rfl rfl ht
theorem s126_321q (ht : tg a = 10) : Runs 126 321 ls (.ref b :: .ref a :: st) (n, tg, ln, I, J, O) Q ↔ Runs 126 324 ls st (n, tg, ln, I, J, zu O a 27 (some b)) Q := R_putr (x := some b) rfl rfl rfl rfl rfl ht
theorem s126_324 : Runs 126 324 [some (.ref a)] st h Q ↔ Runs 126 325 [some (.ref a)] (.ref a :: st) h Q := R_aldn rfl rfl
theorem s126_324q : Runs 126 324 [some (zrf r)] st h Q ↔ Runs 126 325 [some (zrf r)] (zrf r :: st) h Q := R_aldnq rfl rfl
theorem s126_325 : Runs 126 325 ls st h Q ↔ Runs 126 327 ls (.int 12 :: st) h Q := R_bipush rfl (by decide)
theorem s126_327 : Runs 126 327 ls (.int 12 :: st) (n, tg, ln, I, J, O) Q ↔ Runs 126 329 ls (.ref n :: st) (znew (n, tg, ln, I, J, O) 21 12) Q := R_newal rfl (by decide) (by decide)
theorem s126_329 (ht : tg a = 10) : Runs 126 329 ls (zrf r :: .ref a :: st) (n, tg, ln, I, J, O) Q ↔ Runs 126 332 ls st (n, tg, ln, I, J, zu O a 28 r) Q := R_putr rfl rfl rfl rfl rfl ht
theorem s126_329q (ht : tg a = 10) : Runs 126 329 ls (.ref b :: .ref a :: st) (n, tg, ln, I, J, O) Q ↔ Runs 126 332 ls st (n, tg, ln, I, J, zu O a 28 (some b)) Q := R_putr (x := some b) rfl rfl rfl rfl rfl ht
theorem s126_332 : Runs 126 332 ls [] h Q ↔ Q none h := R_vret rfl rfl
theorem s21_7 : Runs 21 7 ls (.int 12 :: st) (n, tg, ln, I, J, O) Q ↔ Runs 21 9 ls (.ref n :: st) (znew (n, tg, ln, I, J, O) 20 12) Q := R_newai rfl (by decide) (by decide)
end ZROWS
