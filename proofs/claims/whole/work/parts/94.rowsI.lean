section ROWSN
variable {mi pc : Nat} {ls : List (Option Value)} {st : List Value} {h : ZH} {Q : Option Value → ZH → Prop} {n : Nat} {tg ln : Nat → Nat} {I : Nat → Int32 → Int32} {J : Nat → Int32 → Int64} {O : Nat → Int32 → Option Nat}
theorem R_newai {k : Int32} {N : Nat} (hc : zC mi pc = some (.newarray .int, 2)) (hk : (decide (0 ≤ k) && decide (k ≤ 4096)) = true) (hN : k.toNatClampNeg = N) : Runs mi pc ls (.int k :: st) h Q ↔ Runs mi (pc + 2) ls (.ref h.1 :: st) (znew h 20 N) Q := Rn hc rfl rfl (by unfold zact; dsimp only; rw [hk, hN]; rfl) (Nat.le_succ _)
theorem R_newal {k : Int32} {N : Nat} (hc : zC mi pc = some (.newarray .long, 2)) (hk : (decide (0 ≤ k) && decide (k ≤ 4096)) = true) (hN : k.toNatClampNeg = N) : Runs mi pc ls (.int k :: st) h Q ↔ Runs mi (pc + 2) ls (.ref h.1 :: st) (znew h 21 N) Q := Rn hc rfl rfl (by unfold zact; dsimp only; rw [hk, hN]; rfl) (Nat.le_succ _)
theorem R_newaz {k : Int32} {N : Nat} (hc : zC mi pc = some (.newarray .boolean, 2)) (hk : (decide (0 ≤ k) && decide (k ≤ 4096)) = true) (hN : k.toNatClampNeg = N) : Runs mi pc ls (.int k :: st) h Q ↔ Runs mi (pc + 2) ls (.ref h.1 :: st) (znew h 22 N) Q := Rn hc rfl rfl (by unfold zact; dsimp only; rw [hk, hN]; rfl) (Nat.le_succ _)
theorem R_anew4 {i p : Nat} {k : Int32} {N : Nat} (hc : zC mi pc = some (.anewarray i, 3)) (hl : zkl (zown mi) i = some (4, p)) (hk : (decide (0 ≤ k) && decide (k ≤ 4096)) = true) (hN : k.toNatClampNeg = N) : Runs mi pc ls (.int k :: st) h Q ↔ Runs mi (pc + 3) ls (.ref h.1 :: st) (znew h 23 N) Q := Rn hc rfl rfl (by unfold zact; dsimp only; rw [hl]; dsimp only; rw [hk, hN]; rfl) (Nat.le_succ _)
theorem R_anew0 {i p : Nat} {k : Int32} {N : Nat} (hc : zC mi pc = some (.anewarray i, 3)) (hl : zkl (zown mi) i = some (0, p)) (hk : (decide (0 ≤ k) && decide (k ≤ 4096)) = true) (hN : k.toNatClampNeg = N) : Runs mi pc ls (.int k :: st) h Q ↔ Runs mi (pc + 3) ls (.ref h.1 :: st) (znew h 24 N) Q := Rn hc rfl rfl (by unfold zact; dsimp only; rw [hl]; dsimp only; rw [hk, hN]; rfl) (Nat.le_succ _)
theorem R_anew2 {i p : Nat} {k : Int32} {N : Nat} (hc : zC mi pc = some (.anewarray i, 3)) (hl : zkl (zown mi) i = some (2, p)) (hk : (decide (0 ≤ k) && decide (k ≤ 4096)) = true) (hN : k.toNatClampNeg = N) : Runs mi pc ls (.int k :: st) h Q ↔ Runs mi (pc + 3) ls (.ref h.1 :: st) (znew h 25 N) Q := Rn hc rfl rfl (by unfold zact; dsimp only; rw [hl]; dsimp only; rw [hk, hN]; rfl) (Nat.le_succ _)
theorem R_aastp {a q : Nat} {i : Int32} (hc : zC mi pc = some (.aastore, 1)) (ht : tg a = 23) (hx : tg q = 5) : Runs mi pc ls (.ref q :: .int i :: .ref a :: st) (n, tg, ln, I, J, O) Q ↔ ((0 ≤ i ∧ i < Int32.ofNat (ln a)) ∧ Runs mi (pc + 1) ls st (n, tg, ln, I, J, zu O a i (some q)) Q) := Rif hc rfl rfl (c := zin i (ln a)) (by unfold zact; dsimp only; rw [ht, hx]; rfl) zin_iff (Nat.le_refl _)
theorem R_aastb {a q : Nat} {i : Int32} (hc : zC mi pc = some (.aastore, 1)) (ht : tg a = 24) (hx : tg q = 1) : Runs mi pc ls (.ref q :: .int i :: .ref a :: st) (n, tg, ln, I, J, O) Q ↔ ((0 ≤ i ∧ i < Int32.ofNat (ln a)) ∧ Runs mi (pc + 1) ls st (n, tg, ln, I, J, zu O a i (some q)) Q) := Rif hc rfl rfl (c := zin i (ln a)) (by unfold zact; dsimp only; rw [ht, hx]; rfl) zin_iff (Nat.le_refl _)
end ROWSN
section ZROWS
variable {ls : List (Option Value)} {st : List Value} {h : ZH} {Q : Option Value → ZH → Prop} {n : Nat} {tg ln : Nat → Nat} {I : Nat → Int32 → Int32} {J : Nat → Int32 → Int64} {O : Nat → Int32 → Option Nat} {i j i0 i1 i2 i3 i4 : Int32} {u w u0 u1 u2 u3 : Int64} {a b b0 b1 b2 : Nat} {r r0 r1 r2 : Option Nat}
variable {x0 x1 x2 x3 x4 x5 x6 x7 x8 x9 x10 x11 x12 x13 x14 x15 x16 x17 x18 x19 : Option Value}
theorem s0_0 : Runs 0 0 [some (.ref a)] st h Q ↔ Runs 0 1 [some (.ref a)] (.ref a :: st) h Q := R_aldn rfl rfl
theorem s0_0q : Runs 0 0 [some (zrf r)] st h Q ↔ Runs 0 1 [some (zrf r)] (zrf r :: st) h Q := R_aldnq rfl rfl
theorem s0_1 (hs : zsumc st ≤ 8) : Runs 0 1 ls (.ref a :: st) h Q ↔ Runs 0 4 ls st h Q := R_objI rfl rfl hs
theorem s0_4 : Runs 0 4 [some (.ref a)] st h Q ↔ Runs 0 5 [some (.ref a)] (.ref a :: st) h Q := R_aldn rfl rfl
theorem s0_4q : Runs 0 4 [some (zrf r)] st h Q ↔ Runs 0 5 [some (zrf r)] (zrf r :: st) h Q := R_aldnq rfl rfl
theorem s0_5 : Runs 0 5 ls st h Q ↔ Runs 0 7 ls (.int 12 :: st) h Q := R_bipush rfl (by decide)
theorem s0_7 : Runs 0 7 ls (.int 12 :: st) (n, tg, ln, I, J, O) Q ↔ Runs 0 10 ls (.ref n :: st) (znew (n, tg, ln, I, J, O) 25 12) Q := R_anew2 rfl rfl (by decide) (by decide)
theorem s0_10 (ht : tg a = 1) : Runs 0 10 ls (zrf r :: .ref a :: st) (n, tg, ln, I, J, O) Q ↔ Runs 0 13 ls st (n, tg, ln, I, J, zu O a 0 r) Q := R_putr rfl rfl rfl rfl rfl ht
theorem s0_10q (ht : tg a = 1) : Runs 0 10 ls (.ref b :: .ref a :: st) (n, tg, ln, I, J, O) Q ↔ Runs 0 13 ls st (n, tg, ln, I, J, zu O a 0 (some b)) Q := R_putr (x := some b) rfl rfl rfl rfl rfl ht
theorem s0_13 : Runs 0 13 [some (.ref a)] st h Q ↔ Runs 0 14 [some (.ref a)] (.ref a :: st) h Q := R_aldn rfl rfl
theorem s0_13q : Runs 0 13 [some (zrf r)] st h Q ↔ Runs 0 14 [some (zrf r)] (zrf r :: st) h Q := R_aldnq rfl rfl
theorem s0_14 : Runs 0 14 ls st h Q ↔ Runs 0 15 ls (.int (-1) :: st) h Q := R_iconst rfl rfl
theorem s0_15 (ht : tg a = 1) : Runs 0 15 ls (.int i :: .ref a :: st) (n, tg, ln, I, J, O) Q ↔ Runs 0 18 ls st (n, tg, ln, zu I a 1 i, J, O) Q := R_puti rfl rfl rfl rfl rfl rfl ht
theorem s0_18 : Runs 0 18 ls [] h Q ↔ Q none h := R_vret rfl rfl
theorem s10_0 : Runs 10 0 [some (.ref a)] st h Q ↔ Runs 10 1 [some (.ref a)] (.ref a :: st) h Q := R_aldn rfl rfl
theorem s10_0q : Runs 10 0 [some (zrf r)] st h Q ↔ Runs 10 1 [some (zrf r)] (zrf r :: st) h Q := R_aldnq rfl rfl
theorem s10_1 (hs : zsumc st ≤ 8) : Runs 10 1 ls (.ref a :: st) h Q ↔ Runs 10 4 ls st h Q := R_objI rfl rfl hs
theorem s10_4 : Runs 10 4 [some (.ref a)] st h Q ↔ Runs 10 5 [some (.ref a)] (.ref a :: st) h Q := R_aldn rfl rfl
theorem s10_4q : Runs 10 4 [some (zrf r)] st h Q ↔ Runs 10 5 [some (zrf r)] (zrf r :: st) h Q := R_aldnq rfl rfl
theorem s10_5 : Runs 10 5 ls st h Q ↔ Runs 10 7 ls (.int 8 :: st) h Q := R_bipush rfl (by decide)
theorem s10_7 : Runs 10 7 ls (.int 8 :: st) (n, tg, ln, I, J, O) Q ↔ Runs 10 10 ls (.ref n :: st) (znew (n, tg, ln, I, J, O) 23 8) Q := R_anew4 rfl rfl (by decide) (by decide)
theorem s10_10 : Runs 10 10 ls (.int i :: st) h Q ↔ Runs 10 11 ls (.int i :: .int i :: st) h Q := R_dupi rfl
theorem s10_10q : Runs 10 10 ls (.ref a :: st) h Q ↔ Runs 10 11 ls (.ref a :: .ref a :: st) h Q := R_dupr rfl
theorem s10_11 : Runs 10 11 ls st h Q ↔ Runs 10 12 ls (.int 0 :: st) h Q := R_iconst rfl rfl
theorem s10_12 : Runs 10 12 ls st (n, tg, ln, I, J, O) Q ↔ Runs 10 15 ls (.ref n :: st) (znew (n, tg, ln, I, J, O) 5 0) Q := R_new rfl rfl
theorem s10_15 : Runs 10 15 ls (.int i :: st) h Q ↔ Runs 10 16 ls (.int i :: .int i :: st) h Q := R_dupi rfl
theorem s10_15q : Runs 10 15 ls (.ref a :: st) h Q ↔ Runs 10 16 ls (.ref a :: .ref a :: st) h Q := R_dupr rfl
theorem s10_16 (hs : zsumc st ≤ 8) : Runs 10 16 ls (.ref a :: st) h Q ↔ Runs 36 0 [some (.ref a)] [] h (fun v h2 => Runs 10 19 ls (v.toList ++ st) h2 Q) := R_calli (a := a) (rest := st) rfl rfl rfl rfl rfl rfl rfl rfl hs
theorem s10_19 (ht : tg a = 23) (hx : tg b = 5) : Runs 10 19 ls (.ref b :: .int i :: .ref a :: st) (n, tg, ln, I, J, O) Q ↔ ((0 ≤ i ∧ i < Int32.ofNat (ln a)) ∧ Runs 10 20 ls st (n, tg, ln, I, J, zu O a i (some b)) Q) := R_aastp rfl ht hx
theorem s10_19q (ht : tg a = 24) (hx : tg b = 1) : Runs 10 19 ls (.ref b :: .int i :: .ref a :: st) (n, tg, ln, I, J, O) Q ↔ ((0 ≤ i ∧ i < Int32.ofNat (ln a)) ∧ Runs 10 20 ls st (n, tg, ln, I, J, zu O a i (some b)) Q) := R_aastb rfl ht hx
theorem s10_20 : Runs 10 20 ls (.int i :: st) h Q ↔ Runs 10 21 ls (.int i :: .int i :: st) h Q := R_dupi rfl
theorem s10_20q : Runs 10 20 ls (.ref a :: st) h Q ↔ Runs 10 21 ls (.ref a :: .ref a :: st) h Q := R_dupr rfl
theorem s10_21 : Runs 10 21 ls st h Q ↔ Runs 10 22 ls (.int 1 :: st) h Q := R_iconst rfl rfl
theorem s10_22 : Runs 10 22 ls st (n, tg, ln, I, J, O) Q ↔ Runs 10 25 ls (.ref n :: st) (znew (n, tg, ln, I, J, O) 5 0) Q := R_new rfl rfl
theorem s10_25 : Runs 10 25 ls (.int i :: st) h Q ↔ Runs 10 26 ls (.int i :: .int i :: st) h Q := R_dupi rfl
theorem s10_25q : Runs 10 25 ls (.ref a :: st) h Q ↔ Runs 10 26 ls (.ref a :: .ref a :: st) h Q := R_dupr rfl
theorem s10_26 (hs : zsumc st ≤ 8) : Runs 10 26 ls (.ref a :: st) h Q ↔ Runs 36 0 [some (.ref a)] [] h (fun v h2 => Runs 10 29 ls (v.toList ++ st) h2 Q) := R_calli (a := a) (rest := st) rfl rfl rfl rfl rfl rfl rfl rfl hs
theorem s10_29 (ht : tg a = 23) (hx : tg b = 5) : Runs 10 29 ls (.ref b :: .int i :: .ref a :: st) (n, tg, ln, I, J, O) Q ↔ ((0 ≤ i ∧ i < Int32.ofNat (ln a)) ∧ Runs 10 30 ls st (n, tg, ln, I, J, zu O a i (some b)) Q) := R_aastp rfl ht hx
theorem s10_29q (ht : tg a = 24) (hx : tg b = 1) : Runs 10 29 ls (.ref b :: .int i :: .ref a :: st) (n, tg, ln, I, J, O) Q ↔ ((0 ≤ i ∧ i < Int32.ofNat (ln a)) ∧ Runs 10 30 ls st (n, tg, ln, I, J, zu O a i (some b)) Q) := R_aastb rfl ht hx
theorem s10_30 : Runs 10 30 ls (.int i :: st) h Q ↔ Runs 10 31 ls (.int i :: .int i :: st) h Q := R_dupi rfl
theorem s10_30q : Runs 10 30 ls (.ref a :: st) h Q ↔ Runs 10 31 ls (.ref a :: .ref a :: st) h Q := R_dupr rfl
theorem s10_31 : Runs 10 31 ls st h Q ↔ Runs 10 32 ls (.int 2 :: st) h Q := R_iconst rfl rfl
theorem s10_32 : Runs 10 32 ls st (n, tg, ln, I, J, O) Q ↔ Runs 10 35 ls (.ref n :: st) (znew (n, tg, ln, I, J, O) 5 0) Q := R_new rfl rfl
theorem s10_35 : Runs 10 35 ls (.int i :: st) h Q ↔ Runs 10 36 ls (.int i :: .int i :: st) h Q := R_dupi rfl
theorem s10_35q : Runs 10 35 ls (.ref a :: st) h Q ↔ Runs 10 36 ls (.ref a :: .ref a :: st) h Q := R_dupr rfl
theorem s10_36 (hs : zsumc st ≤ 8) : Runs 10 36 ls (.ref a :: st) h Q ↔ Runs 36 0 [some (.ref a)] [] h (fun v h2 => Runs 10 39 ls (v.toList ++ st) h2 Q) := R_calli (a := a) (rest := st) rfl rfl rfl rfl rfl rfl rfl rfl hs
theorem s10_39 (ht : tg a = 23) (hx : tg b = 5) : Runs 10 39 ls (.ref b :: .int i :: .ref a :: st) (n, tg, ln, I, J, O) Q ↔ ((0 ≤ i ∧ i < Int32.ofNat (ln a)) ∧ Runs 10 40 ls st (n, tg, ln, I, J, zu O a i (some b)) Q) := R_aastp rfl ht hx
theorem s10_39q (ht : tg a = 24) (hx : tg b = 1) : Runs 10 39 ls (.ref b :: .int i :: .ref a :: st) (n, tg, ln, I, J, O) Q ↔ ((0 ≤ i ∧ i < Int32.ofNat (ln a)) ∧ Runs 10 40 ls st (n, tg, ln, I, J, zu O a i (some b)) Q) := R_aastb rfl ht hx
theorem s10_40 : Runs 10 40 ls (.int i :: st) h Q ↔ Runs 10 41 ls (.int i :: .int i :: st) h Q := R_dupi rfl
theorem s10_40q : Runs 10 40 ls (.ref a :: st) h Q ↔ Runs 10 41 ls (.ref a :: .ref a :: st) h Q := R_dupr rfl
theorem s10_41 : Runs 10 41 ls st h Q ↔ Runs 10 42 ls (.int 3 :: st) h Q := R_iconst rfl rfl
theorem s10_42 : Runs 10 42 ls st (n, tg, ln, I, J, O) Q ↔ Runs 10 45 ls (.ref n :: st) (znew (n, tg, ln, I, J, O) 5 0) Q := R_new rfl rfl
theorem s10_45 : Runs 10 45 ls (.int i :: st) h Q ↔ Runs 10 46 ls (.int i :: .int i :: st) h Q := R_dupi rfl
theorem s10_45q : Runs 10 45 ls (.ref a :: st) h Q ↔ Runs 10 46 ls (.ref a :: .ref a :: st) h Q := R_dupr rfl
theorem s10_46 (hs : zsumc st ≤ 8) : Runs 10 46 ls (.ref a :: st) h Q ↔ Runs 36 0 [some (.ref a)] [] h (fun v h2 => Runs 10 49 ls (v.toList ++ st) h2 Q) := R_calli (a := a) (rest := st) rfl rfl rfl rfl rfl rfl rfl rfl hs
theorem s10_49 (ht : tg a = 23) (hx : tg b = 5) : Runs 10 49 ls (.ref b :: .int i :: .ref a :: st) (n, tg, ln, I, J, O) Q ↔ ((0 ≤ i ∧ i < Int32.ofNat (ln a)) ∧ Runs 10 50 ls st (n, tg, ln, I, J, zu O a i (some b)) Q) := R_aastp rfl ht hx
theorem s10_49q (ht : tg a = 24) (hx : tg b = 1) : Runs 10 49 ls (.ref b :: .int i :: .ref a :: st) (n, tg, ln, I, J, O) Q ↔ ((0 ≤ i ∧ i < Int32.ofNat (ln a)) ∧ Runs 10 50 ls st (n, tg, ln, I, J, zu O a i (some b)) Q) := R_aastb rfl ht hx
theorem s10_50 : Runs 10 50 ls (.int i :: st) h Q ↔ Runs 10 51 ls (.int i :: .int i :: st) h Q := R_dupi rfl
theorem s10_50q : Runs 10 50 ls (.ref a :: st) h Q ↔ Runs 10 51 ls (.ref a :: .ref a :: st) h Q := R_dupr rfl
theorem s10_51 : Runs 10 51 ls st h Q ↔ Runs 10 52 ls (.int 4 :: st) h Q := R_iconst rfl rfl
theorem s10_52 : Runs 10 52 ls st (n, tg, ln, I, J, O) Q ↔ Runs 10 55 ls (.ref n :: st) (znew (n, tg, ln, I, J, O) 5 0) Q := R_new rfl rfl
theorem s10_55 : Runs 10 55 ls (.int i :: st) h Q ↔ Runs 10 56 ls (.int i :: .int i :: st) h Q := R_dupi rfl
theorem s10_55q : Runs 10 55 ls (.ref a :: st) h Q ↔ Runs 10 56 ls (.ref a :: .ref a :: st) h Q := R_dupr rfl
theorem s10_56 (hs : zsumc st ≤ 8) : Runs 10 56 ls (.ref a :: st) h Q ↔ Runs 36 0 [some (.ref a)] [] h (fun v h2 => Runs 10 59 ls (v.toList ++ st) h2 Q) := R_calli (a := a) (rest := st) rfl rfl rfl rfl rfl rfl rfl rfl hs
theorem s10_59 (ht : tg a = 23) (hx : tg b = 5) : Runs 10 59 ls (.ref b :: .int i :: .ref a :: st) (n, tg, ln, I, J, O) Q ↔ ((0 ≤ i ∧ i < Int32.ofNat (ln a)) ∧ Runs 10 60 ls st (n, tg, ln, I, J, zu O a i (some b)) Q) := R_aastp rfl ht hx
theorem s10_59q (ht : tg a = 24) (hx : tg b = 1) : Runs 10 59 ls (.ref b :: .int i :: .ref a :: st) (n, tg, ln, I, J, O) Q ↔ ((0 ≤ i ∧ i < Int32.ofNat (ln a)) ∧ Runs 10 60 ls st (n, tg, ln, I, J, zu O a i (some b)) Q) := R_aastb rfl ht hx
theorem s10_60 : Runs 10 60 ls (.int i :: st) h Q ↔ Runs 10 61 ls (.int i :: .int i :: st) h Q := R_dupi rfl
theorem s10_60q : Runs 10 60 ls (.ref a :: st) h Q ↔ Runs 10 61 ls (.ref a :: .ref a :: st) h Q := R_dupr rfl
theorem s10_61 : Runs 10 61 ls st h Q ↔ Runs 10 62 ls (.int 5 :: st) h Q := R_iconst rfl rfl
theorem s10_62 : Runs 10 62 ls st (n, tg, ln, I, J, O) Q ↔ Runs 10 65 ls (.ref n :: st) (znew (n, tg, ln, I, J, O) 5 0) Q := R_new rfl rfl
theorem s10_65 : Runs 10 65 ls (.int i :: st) h Q ↔ Runs 10 66 ls (.int i :: .int i :: st) h Q := R_dupi rfl
theorem s10_65q : Runs 10 65 ls (.ref a :: st) h Q ↔ Runs 10 66 ls (.ref a :: .ref a :: st) h Q := R_dupr rfl
theorem s10_66 (hs : zsumc st ≤ 8) : Runs 10 66 ls (.ref a :: st) h Q ↔ Runs 36 0 [some (.ref a)] [] h (fun v h2 => Runs 10 69 ls (v.toList ++ st) h2 Q) := R_calli (a := a) (rest := st) rfl rfl rfl rfl rfl rfl rfl rfl hs
theorem s10_69 (ht : tg a = 23) (hx : tg b = 5) : Runs 10 69 ls (.ref b :: .int i :: .ref a :: st) (n, tg, ln, I, J, O) Q ↔ ((0 ≤ i ∧ i < Int32.ofNat (ln a)) ∧ Runs 10 70 ls st (n, tg, ln, I, J, zu O a i (some b)) Q) := R_aastp rfl ht hx
theorem s10_69q (ht : tg a = 24) (hx : tg b = 1) : Runs 10 69 ls (.ref b :: .int i :: .ref a :: st) (n, tg, ln, I, J, O) Q ↔ ((0 ≤ i ∧ i < Int32.ofNat (ln a)) ∧ Runs 10 70 ls st (n, tg, ln, I, J, zu O a i (some b)) Q) := R_aastb rfl ht hx
theorem s10_70 : Runs 10 70 ls (.int i :: st) h Q ↔ Runs 10 71 ls (.int i :: .int i :: st) h Q := R_dupi rfl
theorem s10_70q : Runs 10 70 ls (.ref a :: st) h Q ↔ Runs 10 71 ls (.ref a :: .ref a :: st) h Q := R_dupr rfl
theorem s10_71 : Runs 10 71 ls st h Q ↔ Runs 10 73 ls (.int 6 :: st) h Q := R_bipush rfl (by decide)
theorem s10_73 : Runs 10 73 ls st (n, tg, ln, I, J, O) Q ↔ Runs 10 76 ls (.ref n :: st) (znew (n, tg, ln, I, J, O) 5 0) Q := R_new rfl rfl
theorem s10_76 : Runs 10 76 ls (.int i :: st) h Q ↔ Runs 10 77 ls (.int i :: .int i :: st) h Q := R_dupi rfl
theorem s10_76q : Runs 10 76 ls (.ref a :: st) h Q ↔ Runs 10 77 ls (.ref a :: .ref a :: st) h Q := R_dupr rfl
theorem s10_77 (hs : zsumc st ≤ 8) : Runs 10 77 ls (.ref a :: st) h Q ↔ Runs 36 0 [some (.ref a)] [] h (fun v h2 => Runs 10 80 ls (v.toList ++ st) h2 Q) := R_calli (a := a) (rest := st) rfl rfl rfl rfl rfl rfl rfl rfl hs
theorem s10_80 (ht : tg a = 23) (hx : tg b = 5) : Runs 10 80 ls (.ref b :: .int i :: .ref a :: st) (n, tg, ln, I, J, O) Q ↔ ((0 ≤ i ∧ i < Int32.ofNat (ln a)) ∧ Runs 10 81 ls st (n, tg, ln, I, J, zu O a i (some b)) Q) := R_aastp rfl ht hx
theorem s10_80q (ht : tg a = 24) (hx : tg b = 1) : Runs 10 80 ls (.ref b :: .int i :: .ref a :: st) (n, tg, ln, I, J, O) Q ↔ ((0 ≤ i ∧ i < Int32.ofNat (ln a)) ∧ Runs 10 81 ls st (n, tg, ln, I, J, zu O a i (some b)) Q) := R_aastb rfl ht hx
theorem s10_81 : Runs 10 81 ls (.int i :: st) h Q ↔ Runs 10 82 ls (.int i :: .int i :: st) h Q := R_dupi rfl
theorem s10_81q : Runs 10 81 ls (.ref a :: st) h Q ↔ Runs 10 82 ls (.ref a :: .ref a :: st) h Q := R_dupr rfl
theorem s10_82 : Runs 10 82 ls st h Q ↔ Runs 10 84 ls (.int 7 :: st) h Q := R_bipush rfl (by decide)
theorem s10_84 : Runs 10 84 ls st (n, tg, ln, I, J, O) Q ↔ Runs 10 87 ls (.ref n :: st) (znew (n, tg, ln, I, J, O) 5 0) Q := R_new rfl rfl
theorem s10_87 : Runs 10 87 ls (.int i :: st) h Q ↔ Runs 10 88 ls (.int i :: .int i :: st) h Q := R_dupi rfl
theorem s10_87q : Runs 10 87 ls (.ref a :: st) h Q ↔ Runs 10 88 ls (.ref a :: .ref a :: st) h Q := R_dupr rfl
theorem s10_88 (hs : zsumc st ≤ 8) : Runs 10 88 ls (.ref a :: st) h Q ↔ Runs 36 0 [some (.ref a)] [] h (fun v h2 => Runs 10 91 ls (v.toList ++ st) h2 Q) := R_calli (a := a) (rest := st) rfl rfl rfl rfl rfl rfl rfl rfl hs
theorem s10_91 (ht : tg a = 23) (hx : tg b = 5) : Runs 10 91 ls (.ref b :: .int i :: .ref a :: st) (n, tg, ln, I, J, O) Q ↔ ((0 ≤ i ∧ i < Int32.ofNat (ln a)) ∧ Runs 10 92 ls st (n, tg, ln, I, J, zu O a i (some b)) Q) := R_aastp rfl ht hx
theorem s10_91q (ht : tg a = 24) (hx : tg b = 1) : Runs 10 91 ls (.ref b :: .int i :: .ref a :: st) (n, tg, ln, I, J, O) Q ↔ ((0 ≤ i ∧ i < Int32.ofNat (ln a)) ∧ Runs 10 92 ls st (n, tg, ln, I, J, zu O a i (some b)) Q) := R_aastb rfl ht hx
theorem s10_92 (ht : tg a = 2) : Runs 10 92 ls (zrf r :: .ref a :: st) (n, tg, ln, I, J, O) Q ↔ Runs 10 95 ls st (n, tg, ln, I, J, zu O a 0 r) Q := R_putr rfl rfl rfl rfl rfl ht
theorem s10_92q (ht : tg a = 2) : Runs 10 92 ls (.ref b :: .ref a :: st) (n, tg, ln, I, J, O) Q ↔ Runs 10 95 ls st (n, tg, ln, I, J, zu O a 0 (some b)) Q := R_putr (x := some b) rfl rfl rfl rfl rfl ht
theorem s10_95 : Runs 10 95 [some (.ref a)] st h Q ↔ Runs 10 96 [some (.ref a)] (.ref a :: st) h Q := R_aldn rfl rfl
theorem s10_95q : Runs 10 95 [some (zrf r)] st h Q ↔ Runs 10 96 [some (zrf r)] (zrf r :: st) h Q := R_aldnq rfl rfl
theorem s10_96 : Runs 10 96 ls st h Q ↔ Runs 10 97 ls (.int 0 :: st) h Q := R_iconst rfl rfl
theorem s10_97 (ht : tg a = 2) : Runs 10 97 ls (.int i :: .ref a :: st) (n, tg, ln, I, J, O) Q ↔ Runs 10 100 ls st (n, tg, ln, zu I a 1 i, J, O) Q := R_puti rfl rfl rfl rfl rfl rfl ht
theorem s10_100 : Runs 10 100 [some (.ref a)] st h Q ↔ Runs 10 101 [some (.ref a)] (.ref a :: st) h Q := R_aldn rfl rfl
theorem s10_100q : Runs 10 100 [some (zrf r)] st h Q ↔ Runs 10 101 [some (zrf r)] (zrf r :: st) h Q := R_aldnq rfl rfl
theorem s10_101 : Runs 10 101 ls st h Q ↔ Runs 10 102 ls (.int 0 :: st) h Q := R_iconst rfl rfl
theorem s10_102 (ht : tg a = 2) : Runs 10 102 ls (.int i :: .ref a :: st) (n, tg, ln, I, J, O) Q ↔ Runs 10 105 ls st (n, tg, ln, zu I a 2 i, J, O) Q := R_puti rfl rfl rfl rfl rfl rfl ht
theorem s10_105 : Runs 10 105 ls [] h Q ↔ Q none h := R_vret rfl rfl
theorem s36_0 : Runs 36 0 [some (.ref a)] st h Q ↔ Runs 36 1 [some (.ref a)] (.ref a :: st) h Q := R_aldn rfl rfl
theorem s36_0q : Runs 36 0 [some (zrf r)] st h Q ↔ Runs 36 1 [some (zrf r)] (zrf r :: st) h Q := R_aldnq rfl rfl
theorem s36_1 (hs : zsumc st ≤ 8) : Runs 36 1 ls (.ref a :: st) h Q ↔ Runs 36 4 ls st h Q := R_objI rfl rfl hs
theorem s36_4 : Runs 36 4 [some (.ref a)] st h Q ↔ Runs 36 5 [some (.ref a)] (.ref a :: st) h Q := R_aldn rfl rfl
theorem s36_4q : Runs 36 4 [some (zrf r)] st h Q ↔ Runs 36 5 [some (zrf r)] (zrf r :: st) h Q := R_aldnq rfl rfl
theorem s36_5 : Runs 36 5 ls st h Q ↔ Runs 36 7 ls (.int 12 :: st) h Q := R_bipush rfl (by decide)
theorem s36_7 : Runs 36 7 ls (.int 12 :: st) (n, tg, ln, I, J, O) Q ↔ Runs 36 9 ls (.ref n :: st) (znew (n, tg, ln, I, J, O) 20 12) Q := R_newai rfl (by decide) (by decide)
theorem s36_9 (ht : tg a = 5) : Runs 36 9 ls (zrf r :: .ref a :: st) (n, tg, ln, I, J, O) Q ↔ Runs 36 12 ls st (n, tg, ln, I, J, zu O a 0 r) Q := R_putr rfl rfl rfl rfl rfl ht
theorem s36_9q (ht : tg a = 5) : Runs 36 9 ls (.ref b :: .ref a :: st) (n, tg, ln, I, J, O) Q ↔ Runs 36 12 ls st (n, tg, ln, I, J, zu O a 0 (some b)) Q := R_putr (x := some b) rfl rfl rfl rfl rfl ht
theorem s36_12 : Runs 36 12 [some (.ref a)] st h Q ↔ Runs 36 13 [some (.ref a)] (.ref a :: st) h Q := R_aldn rfl rfl
theorem s36_12q : Runs 36 12 [some (zrf r)] st h Q ↔ Runs 36 13 [some (zrf r)] (zrf r :: st) h Q := R_aldnq rfl rfl
theorem s36_13 : Runs 36 13 ls st h Q ↔ Runs 36 15 ls (.int 12 :: st) h Q := R_bipush rfl (by decide)
theorem s36_15 : Runs 36 15 ls (.int 12 :: st) (n, tg, ln, I, J, O) Q ↔ Runs 36 17 ls (.ref n :: st) (znew (n, tg, ln, I, J, O) 20 12) Q := R_newai rfl (by decide) (by decide)
theorem s36_17 (ht : tg a = 5) : Runs 36 17 ls (zrf r :: .ref a :: st) (n, tg, ln, I, J, O) Q ↔ Runs 36 20 ls st (n, tg, ln, I, J, zu O a 1 r) Q := R_putr rfl rfl rfl rfl rfl ht
theorem s36_17q (ht : tg a = 5) : Runs 36 17 ls (.ref b :: .ref a :: st) (n, tg, ln, I, J, O) Q ↔ Runs 36 20 ls st (n, tg, ln, I, J, zu O a 1 (some b)) Q := R_putr (x := some b) rfl rfl rfl rfl rfl ht
theorem s36_20 : Runs 36 20 [some (.ref a)] st h Q ↔ Runs 36 21 [some (.ref a)] (.ref a :: st) h Q := R_aldn rfl rfl
theorem s36_20q : Runs 36 20 [some (zrf r)] st h Q ↔ Runs 36 21 [some (zrf r)] (zrf r :: st) h Q := R_aldnq rfl rfl
theorem s36_21 : Runs 36 21 ls st h Q ↔ Runs 36 23 ls (.int 12 :: st) h Q := R_bipush rfl (by decide)
theorem s36_23 : Runs 36 23 ls (.int 12 :: st) (n, tg, ln, I, J, O) Q ↔ Runs 36 25 ls (.ref n :: st) (znew (n, tg, ln, I, J, O) 20 12) Q := R_newai rfl (by decide) (by decide)
theorem s36_25 (ht : tg a = 5) : Runs 36 25 ls (zrf r :: .ref a :: st) (n, tg, ln, I, J, O) Q ↔ Runs 36 28 ls st (n, tg, ln, I, J, zu O a 2 r) Q := R_putr rfl rfl rfl rfl rfl ht
theorem s36_25q (ht : tg a = 5) : Runs 36 25 ls (.ref b :: .ref a :: st) (n, tg, ln, I, J, O) Q ↔ Runs 36 28 ls st (n, tg, ln, I, J, zu O a 2 (some b)) Q := R_putr (x := some b) rfl rfl rfl rfl rfl ht
theorem s36_28 : Runs 36 28 [some (.ref a)] st h Q ↔ Runs 36 29 [some (.ref a)] (.ref a :: st) h Q := R_aldn rfl rfl
theorem s36_28q : Runs 36 28 [some (zrf r)] st h Q ↔ Runs 36 29 [some (zrf r)] (zrf r :: st) h Q := R_aldnq rfl rfl
theorem s36_29 : Runs 36 29 ls st h Q ↔ Runs 36 31 ls (.int 12 :: st) h Q := R_bipush rfl (by decide)
theorem s36_31 : Runs 36 31 ls (.int 12 :: st) (n, tg, ln, I, J, O) Q ↔ Runs 36 33 ls (.ref n :: st) (znew (n, tg, ln, I, J, O) 20 12) Q := R_newai rfl (by decide) (by decide)
theorem s36_33 (ht : tg a = 5) : Runs 36 33 ls (zrf r :: .ref a :: st) (n, tg, ln, I, J, O) Q ↔ Runs 36 36 ls st (n, tg, ln, I, J, zu O a 3 r) Q := R_putr rfl rfl rfl rfl rfl ht
theorem s36_33q (ht : tg a = 5) : Runs 36 33 ls (.ref b :: .ref a :: st) (n, tg, ln, I, J, O) Q ↔ Runs 36 36 ls st (n, tg, ln, I, J, zu O a 3 (some b)) Q := R_putr (x := some b) rfl rfl rfl rfl rfl ht
theorem s36_36 : Runs 36 36 [some (.ref a)] st h Q ↔ Runs 36 37 [some (.ref a)] (.ref a :: st) h Q := R_aldn rfl rfl
theorem s36_36q : Runs 36 36 [some (zrf r)] st h Q ↔ Runs 36 37 [some (zrf r)] (zrf r :: st) h Q := R_aldnq rfl rfl
theorem s36_37 : Runs 36 37 ls st h Q ↔ Runs 36 39 ls (.int 12 :: st) h Q := R_bipush rfl (by decide)
theorem s36_39 : Runs 36 39 ls (.int 12 :: st) (n, tg, ln, I, J, O) Q ↔ Runs 36 41 ls (.ref n :: st) (znew (n, tg, ln, I, J, O) 20 12) Q := R_newai rfl (by decide) (by decide)
theorem s36_41 (ht : tg a = 5) : Runs 36 41 ls (zrf r :: .ref a :: st) (n, tg, ln, I, J, O) Q ↔ Runs 36 44 ls st (n, tg, ln, I, J, zu O a 4 r) Q := R_putr rfl rfl rfl rfl rfl ht
theorem s36_41q (ht : tg a = 5) : Runs 36 41 ls (.ref b :: .ref a :: st) (n, tg, ln, I, J, O) Q ↔ Runs 36 44 ls st (n, tg, ln, I, J, zu O a 4 (some b)) Q := R_putr (x := some b) rfl rfl rfl rfl rfl ht
theorem s36_44 : Runs 36 44 [some (.ref a)] st h Q ↔ Runs 36 45 [some (.ref a)] (.ref a :: st) h Q := R_aldn rfl rfl
theorem s36_44q : Runs 36 44 [some (zrf r)] st h Q ↔ Runs 36 45 [some (zrf r)] (zrf r :: st) h Q := R_aldnq rfl rfl
theorem s36_45 : Runs 36 45 ls st h Q ↔ Runs 36 46 ls (.int 0 :: st) h Q := R_iconst rfl rfl
theorem s36_46 (ht : tg a = 5) : Runs 36 46 ls (.int i :: .ref a :: st) (n, tg, ln, I, J, O) Q ↔ Runs 36 49 ls st (n, tg, ln, zu I a 5 i, J, O) Q := R_puti rfl rfl rfl rfl rfl rfl ht
theorem s36_49 : Runs 36 49 [some (.ref a)] st h Q ↔ Runs 36 50 [some (.ref a)] (.ref a :: st) h Q := R_aldn rfl rfl
theorem s36_49q : Runs 36 49 [some (zrf r)] st h Q ↔ Runs 36 50 [some (zrf r)] (zrf r :: st) h Q := R_aldnq rfl rfl
theorem s36_50 : Runs 36 50 ls st h Q ↔ Runs 36 51 ls (.int 0 :: st) h Q := R_iconst rfl rfl
theorem s36_51 (ht : tg a = 5) : Runs 36 51 ls (.int i :: .ref a :: st) (n, tg, ln, I, J, O) Q ↔ Runs 36 54 ls st (n, tg, ln, zu I a 6 i, J, O) Q := R_puti rfl rfl rfl rfl rfl rfl ht
theorem s36_54 : Runs 36 54 [some (.ref a)] st h Q ↔ Runs 36 55 [some (.ref a)] (.ref a :: st) h Q := R_aldn rfl rfl
theorem s36_54q : Runs 36 54 [some (zrf r)] st h Q ↔ Runs 36 55 [some (zrf r)] (zrf r :: st) h Q := R_aldnq rfl rfl
theorem s36_55 : Runs 36 55 ls st h Q ↔ Runs 36 56 ls (.int 0 :: st) h Q := R_iconst rfl rfl
theorem s36_56 (ht : tg a = 5) : Runs 36 56 ls (.int i :: .ref a :: st) (n, tg, ln, I, J, O) Q ↔ Runs 36 59 ls st (n, tg, ln, zu I a 7 i, J, O) Q := R_puti rfl rfl rfl rfl rfl rfl ht
theorem s36_59 : Runs 36 59 [some (.ref a)] st h Q ↔ Runs 36 60 [some (.ref a)] (.ref a :: st) h Q := R_aldn rfl rfl
theorem s36_59q : Runs 36 59 [some (zrf r)] st h Q ↔ Runs 36 60 [some (zrf r)] (zrf r :: st) h Q := R_aldnq rfl rfl
theorem s36_60 : Runs 36 60 ls st h Q ↔ Runs 36 61 ls (.int 0 :: st) h Q := R_iconst rfl rfl
theorem s36_61 (ht : tg a = 5) : Runs 36 61 ls (.int i :: .ref a :: st) (n, tg, ln, I, J, O) Q ↔ Runs 36 64 ls st (n, tg, ln, zu I a 8 i, J, O) Q := R_puti rfl rfl rfl rfl rfl rfl ht
theorem s36_64 : Runs 36 64 [some (.ref a)] st h Q ↔ Runs 36 65 [some (.ref a)] (.ref a :: st) h Q := R_aldn rfl rfl
theorem s36_64q : Runs 36 64 [some (zrf r)] st h Q ↔ Runs 36 65 [some (zrf r)] (zrf r :: st) h Q := R_aldnq rfl rfl
theorem s36_65 : Runs 36 65 ls st (n, tg, ln, I, J, O) Q ↔ Runs 36 68 ls (.ref n :: st) (znew (n, tg, ln, I, J, O) 4 0) Q := R_new rfl rfl
theorem s36_68 : Runs 36 68 ls (.int i :: st) h Q ↔ Runs 36 69 ls (.int i :: .int i :: st) h Q := R_dupi rfl
theorem s36_68q : Runs 36 68 ls (.ref a :: st) h Q ↔ Runs 36 69 ls (.ref a :: .ref a :: st) h Q := R_dupr rfl
theorem s36_69 (hs : zsumc st ≤ 8) : Runs 36 69 ls (.ref a :: st) h Q ↔ Runs 21 0 [some (.ref a)] [] h (fun v h2 => Runs 36 72 ls (v.toList ++ st) h2 Q) := R_calli (a := a) (rest := st) rfl rfl rfl rfl rfl rfl rfl rfl hs
theorem s36_72 (ht : tg a = 5) : Runs 36 72 ls (zrf r :: .ref a :: st) (n, tg, ln, I, J, O) Q ↔ Runs 36 75 ls st (n, tg, ln, I, J, zu O a 9 r) Q := R_putr rfl rfl rfl rfl rfl ht
theorem s36_72q (ht : tg a = 5) : Runs 36 72 ls (.ref b :: .ref a :: st) (n, tg, ln, I, J, O) Q ↔ Runs 36 75 ls st (n, tg, ln, I, J, zu O a 9 (some b)) Q := R_putr (x := some b) rfl rfl rfl rfl rfl ht
theorem s36_75 : Runs 36 75 [some (.ref a)] st h Q ↔ Runs 36 76 [some (.ref a)] (.ref a :: st) h Q := R_aldn rfl rfl
theorem s36_75q : Runs 36 75 [some (zrf r)] st h Q ↔ Runs 36 76 [some (zrf r)] (zrf r :: st) h Q := R_aldnq rfl rfl
theorem s36_76 : Runs 36 76 ls st (n, tg, ln, I, J, O) Q ↔ Runs 36 79 ls (.ref n :: st) (znew (n, tg, ln, I, J, O) 4 0) Q := R_new rfl rfl
theorem s36_79 : Runs 36 79 ls (.int i :: st) h Q ↔ Runs 36 80 ls (.int i :: .int i :: st) h Q := R_dupi rfl
theorem s36_79q : Runs 36 79 ls (.ref a :: st) h Q ↔ Runs 36 80 ls (.ref a :: .ref a :: st) h Q := R_dupr rfl
theorem s36_80 (hs : zsumc st ≤ 8) : Runs 36 80 ls (.ref a :: st) h Q ↔ Runs 21 0 [some (.ref a)] [] h (fun v h2 => Runs 36 83 ls (v.toList ++ st) h2 Q) := R_calli (a := a) (rest := st) rfl rfl rfl rfl rfl rfl rfl rfl hs
theorem s36_83 (ht : tg a = 5) : Runs 36 83 ls (zrf r :: .ref a :: st) (n, tg, ln, I, J, O) Q ↔ Runs 36 86 ls st (n, tg, ln, I, J, zu O a 10 r) Q := R_putr rfl rfl rfl rfl rfl ht
theorem s36_83q (ht : tg a = 5) : Runs 36 83 ls (.ref b :: .ref a :: st) (n, tg, ln, I, J, O) Q ↔ Runs 36 86 ls st (n, tg, ln, I, J, zu O a 10 (some b)) Q := R_putr (x := some b) rfl rfl rfl rfl rfl ht
theorem s36_86 : Runs 36 86 ls [] h Q ↔ Q none h := R_vret rfl rfl
theorem s58_0 : Runs 58 0 [some (.ref a), x1, x2, x3] st h Q ↔ Runs 58 1 [some (.ref a), x1, x2, x3] (.ref a :: st) h Q := R_aldn rfl rfl
theorem s58_0q : Runs 58 0 [some (zrf r), x1, x2, x3] st h Q ↔ Runs 58 1 [some (zrf r), x1, x2, x3] (zrf r :: st) h Q := R_aldnq rfl rfl
theorem s58_1 (hs : zsumc st ≤ 8) : Runs 58 1 ls (.ref a :: st) h Q ↔ Runs 58 4 ls st h Q := R_objI rfl rfl hs
theorem s58_4 : Runs 58 4 [some (.ref a), x1, x2, x3] st h Q ↔ Runs 58 5 [some (.ref a), x1, x2, x3] (.ref a :: st) h Q := R_aldn rfl rfl
theorem s58_4q : Runs 58 4 [some (zrf r), x1, x2, x3] st h Q ↔ Runs 58 5 [some (zrf r), x1, x2, x3] (zrf r :: st) h Q := R_aldnq rfl rfl
theorem s58_5 : Runs 58 5 ls st h Q ↔ Runs 58 6 ls (.int 0 :: st) h Q := R_iconst rfl rfl
theorem s58_6 (ht : tg a = 6) : Runs 58 6 ls (.int i :: .ref a :: st) (n, tg, ln, I, J, O) Q ↔ Runs 58 9 ls st (n, tg, ln, zu I a 3 i, J, O) Q := R_puti rfl rfl rfl rfl rfl rfl ht
theorem s58_9 : Runs 58 9 [some (.ref a), x1, x2, x3] st h Q ↔ Runs 58 10 [some (.ref a), x1, x2, x3] (.ref a :: st) h Q := R_aldn rfl rfl
theorem s58_9q : Runs 58 9 [some (zrf r), x1, x2, x3] st h Q ↔ Runs 58 10 [some (zrf r), x1, x2, x3] (zrf r :: st) h Q := R_aldnq rfl rfl
theorem s58_10 : Runs 58 10 ls st h Q ↔ Runs 58 11 ls (.int 0 :: st) h Q := R_iconst rfl rfl
theorem s58_11 (ht : tg a = 6) : Runs 58 11 ls (.int i :: .ref a :: st) (n, tg, ln, I, J, O) Q ↔ Runs 58 14 ls st (n, tg, ln, zu I a 4 i, J, O) Q := R_puti rfl rfl rfl rfl rfl rfl ht
theorem s58_14 : Runs 58 14 [some (.ref a), x1, x2, x3] st h Q ↔ Runs 58 15 [some (.ref a), x1, x2, x3] (.ref a :: st) h Q := R_aldn rfl rfl
theorem s58_14q : Runs 58 14 [some (zrf r), x1, x2, x3] st h Q ↔ Runs 58 15 [some (zrf r), x1, x2, x3] (zrf r :: st) h Q := R_aldnq rfl rfl
theorem s58_15 : Runs 58 15 ls st h Q ↔ Runs 58 16 ls (.int 0 :: st) h Q := R_iconst rfl rfl
theorem s58_16 (ht : tg a = 6) : Runs 58 16 ls (.int i :: .ref a :: st) (n, tg, ln, I, J, O) Q ↔ Runs 58 19 ls st (n, tg, ln, zu I a 5 i, J, O) Q := R_puti rfl rfl rfl rfl rfl rfl ht
theorem s58_19 : Runs 58 19 [some (.ref a), x1, x2, x3] st h Q ↔ Runs 58 20 [some (.ref a), x1, x2, x3] (.ref a :: st) h Q := R_aldn rfl rfl
theorem s58_19q : Runs 58 19 [some (zrf r), x1, x2, x3] st h Q ↔ Runs 58 20 [some (zrf r), x1, x2, x3] (zrf r :: st) h Q := R_aldnq rfl rfl
theorem s58_20 : Runs 58 20 ls st h Q ↔ Runs 58 21 ls (.int (-1) :: st) h Q := R_iconst rfl rfl
theorem s58_21 (ht : tg a = 6) : Runs 58 21 ls (.int i :: .ref a :: st) (n, tg, ln, I, J, O) Q ↔ Runs 58 24 ls st (n, tg, ln, zu I a 6 i, J, O) Q := R_puti rfl rfl rfl rfl rfl rfl ht
theorem s58_24 : Runs 58 24 [some (.ref a), x1, x2, x3] st h Q ↔ Runs 58 25 [some (.ref a), x1, x2, x3] (.ref a :: st) h Q := R_aldn rfl rfl
theorem s58_24q : Runs 58 24 [some (zrf r), x1, x2, x3] st h Q ↔ Runs 58 25 [some (zrf r), x1, x2, x3] (zrf r :: st) h Q := R_aldnq rfl rfl
theorem s58_25 : Runs 58 25 ls st h Q ↔ Runs 58 26 ls (.int 0 :: st) h Q := R_iconst rfl rfl
theorem s58_26 (ht : tg a = 6) : Runs 58 26 ls (.int i :: .ref a :: st) (n, tg, ln, I, J, O) Q ↔ Runs 58 29 ls st (n, tg, ln, zu I a 7 i, J, O) Q := R_puti rfl rfl rfl rfl rfl rfl ht
theorem s58_29 : Runs 58 29 [some (.ref a), x1, x2, x3] st h Q ↔ Runs 58 30 [some (.ref a), x1, x2, x3] (.ref a :: st) h Q := R_aldn rfl rfl
theorem s58_29q : Runs 58 29 [some (zrf r), x1, x2, x3] st h Q ↔ Runs 58 30 [some (zrf r), x1, x2, x3] (zrf r :: st) h Q := R_aldnq rfl rfl
theorem s58_30 : Runs 58 30 [x0, some (.ref a), x2, x3] st h Q ↔ Runs 58 31 [x0, some (.ref a), x2, x3] (.ref a :: st) h Q := R_aldn rfl rfl
theorem s58_30q : Runs 58 30 [x0, some (zrf r), x2, x3] st h Q ↔ Runs 58 31 [x0, some (zrf r), x2, x3] (zrf r :: st) h Q := R_aldnq rfl rfl
theorem s58_31 (ht : tg a = 6) : Runs 58 31 ls (zrf r :: .ref a :: st) (n, tg, ln, I, J, O) Q ↔ Runs 58 34 ls st (n, tg, ln, I, J, zu O a 0 r) Q := R_putr rfl rfl rfl rfl rfl ht
theorem s58_31q (ht : tg a = 6) : Runs 58 31 ls (.ref b :: .ref a :: st) (n, tg, ln, I, J, O) Q ↔ Runs 58 34 ls st (n, tg, ln, I, J, zu O a 0 (some b)) Q := R_putr (x := some b) rfl rfl rfl rfl rfl ht
theorem s58_34 : Runs 58 34 [some (.ref a), x1, x2, x3] st h Q ↔ Runs 58 35 [some (.ref a), x1, x2, x3] (.ref a :: st) h Q := R_aldn rfl rfl
theorem s58_34q : Runs 58 34 [some (zrf r), x1, x2, x3] st h Q ↔ Runs 58 35 [some (zrf r), x1, x2, x3] (zrf r :: st) h Q := R_aldnq rfl rfl
theorem s58_35 : Runs 58 35 [x0, x1, some (.ref a), x3] st h Q ↔ Runs 58 36 [x0, x1, some (.ref a), x3] (.ref a :: st) h Q := R_aldn rfl rfl
theorem s58_35q : Runs 58 35 [x0, x1, some (zrf r), x3] st h Q ↔ Runs 58 36 [x0, x1, some (zrf r), x3] (zrf r :: st) h Q := R_aldnq rfl rfl
theorem s58_36 (ht : tg a = 6) : Runs 58 36 ls (zrf r :: .ref a :: st) (n, tg, ln, I, J, O) Q ↔ Runs 58 39 ls st (n, tg, ln, I, J, zu O a 1 r) Q := R_putr rfl rfl rfl rfl rfl ht
theorem s58_36q (ht : tg a = 6) : Runs 58 36 ls (.ref b :: .ref a :: st) (n, tg, ln, I, J, O) Q ↔ Runs 58 39 ls st (n, tg, ln, I, J, zu O a 1 (some b)) Q := R_putr (x := some b) rfl rfl rfl rfl rfl ht
theorem s58_39 : Runs 58 39 [some (.ref a), x1, x2, x3] st h Q ↔ Runs 58 40 [some (.ref a), x1, x2, x3] (.ref a :: st) h Q := R_aldn rfl rfl
theorem s58_39q : Runs 58 39 [some (zrf r), x1, x2, x3] st h Q ↔ Runs 58 40 [some (zrf r), x1, x2, x3] (zrf r :: st) h Q := R_aldnq rfl rfl
theorem s58_40 : Runs 58 40 [x0, x1, x2, some (.ref a)] st h Q ↔ Runs 58 41 [x0, x1, x2, some (.ref a)] (.ref a :: st) h Q := R_aldn rfl rfl
theorem s58_40q : Runs 58 40 [x0, x1, x2, some (zrf r)] st h Q ↔ Runs 58 41 [x0, x1, x2, some (zrf r)] (zrf r :: st) h Q := R_aldnq rfl rfl
theorem s58_41 (ht : tg a = 6) : Runs 58 41 ls (zrf r :: .ref a :: st) (n, tg, ln, I, J, O) Q ↔ Runs 58 44 ls st (n, tg, ln, I, J, zu O a 2 r) Q := R_putr rfl rfl rfl rfl rfl ht
theorem s58_41q (ht : tg a = 6) : Runs 58 41 ls (.ref b :: .ref a :: st) (n, tg, ln, I, J, O) Q ↔ Runs 58 44 ls st (n, tg, ln, I, J, zu O a 2 (some b)) Q := R_putr (x := some b) rfl rfl rfl rfl rfl ht
theorem s58_44 : Runs 58 44 ls [] h Q ↔ Q none h := R_vret rfl rfl
theorem s71_0 : Runs 71 0 [some (.ref a)] st h Q ↔ Runs 71 1 [some (.ref a)] (.ref a :: st) h Q := R_aldn rfl rfl
theorem s71_0q : Runs 71 0 [some (zrf r)] st h Q ↔ Runs 71 1 [some (zrf r)] (zrf r :: st) h Q := R_aldnq rfl rfl
theorem s71_1 (hs : zsumc st ≤ 8) : Runs 71 1 ls (.ref a :: st) h Q ↔ Runs 71 4 ls st h Q := R_objI rfl rfl hs
theorem s71_4 : Runs 71 4 [some (.ref a)] st h Q ↔ Runs 71 5 [some (.ref a)] (.ref a :: st) h Q := R_aldn rfl rfl
theorem s71_4q : Runs 71 4 [some (zrf r)] st h Q ↔ Runs 71 5 [some (zrf r)] (zrf r :: st) h Q := R_aldnq rfl rfl
theorem s71_5 : Runs 71 5 ls st h Q ↔ Runs 71 7 ls (.int 6 :: st) h Q := R_bipush rfl (by decide)
theorem s71_7 : Runs 71 7 ls (.int 6 :: st) (n, tg, ln, I, J, O) Q ↔ Runs 71 9 ls (.ref n :: st) (znew (n, tg, ln, I, J, O) 20 6) Q := R_newai rfl (by decide) (by decide)
theorem s71_9 (ht : tg a = 7) : Runs 71 9 ls (zrf r :: .ref a :: st) (n, tg, ln, I, J, O) Q ↔ Runs 71 12 ls st (n, tg, ln, I, J, zu O a 0 r) Q := R_putr rfl rfl rfl rfl rfl ht
theorem s71_9q (ht : tg a = 7) : Runs 71 9 ls (.ref b :: .ref a :: st) (n, tg, ln, I, J, O) Q ↔ Runs 71 12 ls st (n, tg, ln, I, J, zu O a 0 (some b)) Q := R_putr (x := some b) rfl rfl rfl rfl rfl ht
theorem s71_12 : Runs 71 12 [some (.ref a)] st h Q ↔ Runs 71 13 [some (.ref a)] (.ref a :: st) h Q := R_aldn rfl rfl
theorem s71_12q : Runs 71 12 [some (zrf r)] st h Q ↔ Runs 71 13 [some (zrf r)] (zrf r :: st) h Q := R_aldnq rfl rfl
theorem s71_13 : Runs 71 13 ls st h Q ↔ Runs 71 15 ls (.int 6 :: st) h Q := R_bipush rfl (by decide)
theorem s71_15 : Runs 71 15 ls (.int 6 :: st) (n, tg, ln, I, J, O) Q ↔ Runs 71 17 ls (.ref n :: st) (znew (n, tg, ln, I, J, O) 20 6) Q := R_newai rfl (by decide) (by decide)
theorem s71_17 (ht : tg a = 7) : Runs 71 17 ls (zrf r :: .ref a :: st) (n, tg, ln, I, J, O) Q ↔ Runs 71 20 ls st (n, tg, ln, I, J, zu O a 1 r) Q := R_putr rfl rfl rfl rfl rfl ht
theorem s71_17q (ht : tg a = 7) : Runs 71 17 ls (.ref b :: .ref a :: st) (n, tg, ln, I, J, O) Q ↔ Runs 71 20 ls st (n, tg, ln, I, J, zu O a 1 (some b)) Q := R_putr (x := some b) rfl rfl rfl rfl rfl ht
theorem s71_20 : Runs 71 20 [some (.ref a)] st h Q ↔ Runs 71 21 [some (.ref a)] (.ref a :: st) h Q := R_aldn rfl rfl
theorem s71_20q : Runs 71 20 [some (zrf r)] st h Q ↔ Runs 71 21 [some (zrf r)] (zrf r :: st) h Q := R_aldnq rfl rfl
theorem s71_21 : Runs 71 21 ls st h Q ↔ Runs 71 22 ls (.int 0 :: st) h Q := R_iconst rfl rfl
theorem s71_22 (ht : tg a = 7) : Runs 71 22 ls (.int i :: .ref a :: st) (n, tg, ln, I, J, O) Q ↔ Runs 71 25 ls st (n, tg, ln, zu I a 2 i, J, O) Q := R_puti rfl rfl rfl rfl rfl rfl ht
theorem s71_25 : Runs 71 25 ls [] h Q ↔ Q none h := R_vret rfl rfl
theorem s75_0 : Runs 75 0 [some (.ref a)] st h Q ↔ Runs 75 1 [some (.ref a)] (.ref a :: st) h Q := R_aldn rfl rfl
theorem s75_0q : Runs 75 0 [some (zrf r)] st h Q ↔ Runs 75 1 [some (zrf r)] (zrf r :: st) h Q := R_aldnq rfl rfl
theorem s75_1 (hs : zsumc st ≤ 8) : Runs 75 1 ls (.ref a :: st) h Q ↔ Runs 75 4 ls st h Q := R_objI rfl rfl hs
theorem s75_4 : Runs 75 4 [some (.ref a)] st h Q ↔ Runs 75 5 [some (.ref a)] (.ref a :: st) h Q := R_aldn rfl rfl
theorem s75_4q : Runs 75 4 [some (zrf r)] st h Q ↔ Runs 75 5 [some (zrf r)] (zrf r :: st) h Q := R_aldnq rfl rfl
theorem s75_5 : Runs 75 5 ls st h Q ↔ Runs 75 8 ls (.int 200 :: st) h Q := R_sipush rfl (by decide)
theorem s75_8 : Runs 75 8 ls (.int 200 :: st) (n, tg, ln, I, J, O) Q ↔ Runs 75 10 ls (.ref n :: st) (znew (n, tg, ln, I, J, O) 20 200) Q := R_newai rfl (by decide) (by decide)
theorem s75_10 (ht : tg a = 8) : Runs 75 10 ls (zrf r :: .ref a :: st) (n, tg, ln, I, J, O) Q ↔ Runs 75 13 ls st (n, tg, ln, I, J, zu O a 0 r) Q := R_putr rfl rfl rfl rfl rfl ht
theorem s75_10q (ht : tg a = 8) : Runs 75 10 ls (.ref b :: .ref a :: st) (n, tg, ln, I, J, O) Q ↔ Runs 75 13 ls st (n, tg, ln, I, J, zu O a 0 (some b)) Q := R_putr (x := some b) rfl rfl rfl rfl rfl ht
theorem s75_13 : Runs 75 13 [some (.ref a)] st h Q ↔ Runs 75 14 [some (.ref a)] (.ref a :: st) h Q := R_aldn rfl rfl
theorem s75_13q : Runs 75 13 [some (zrf r)] st h Q ↔ Runs 75 14 [some (zrf r)] (zrf r :: st) h Q := R_aldnq rfl rfl
theorem s75_14 : Runs 75 14 ls st h Q ↔ Runs 75 15 ls (.int 0 :: st) h Q := R_iconst rfl rfl
theorem s75_15 (ht : tg a = 8) : Runs 75 15 ls (.int i :: .ref a :: st) (n, tg, ln, I, J, O) Q ↔ Runs 75 18 ls st (n, tg, ln, zu I a 1 i, J, O) Q := R_puti rfl rfl rfl rfl rfl rfl ht
theorem s75_18 : Runs 75 18 ls [] h Q ↔ Q none h := R_vret rfl rfl
theorem s79_0 : Runs 79 0 [some (.ref a)] st h Q ↔ Runs 79 1 [some (.ref a)] (.ref a :: st) h Q := R_aldn rfl rfl
theorem s79_0q : Runs 79 0 [some (zrf r)] st h Q ↔ Runs 79 1 [some (zrf r)] (zrf r :: st) h Q := R_aldnq rfl rfl
theorem s79_1 (hs : zsumc st ≤ 8) : Runs 79 1 ls (.ref a :: st) h Q ↔ Runs 79 4 ls st h Q := R_objI rfl rfl hs
theorem s79_4 : Runs 79 4 [some (.ref a)] st h Q ↔ Runs 79 5 [some (.ref a)] (.ref a :: st) h Q := R_aldn rfl rfl
theorem s79_4q : Runs 79 4 [some (zrf r)] st h Q ↔ Runs 79 5 [some (zrf r)] (zrf r :: st) h Q := R_aldnq rfl rfl
theorem s79_5 : Runs 79 5 ls st (n, tg, ln, I, J, O) Q ↔ Runs 79 8 ls (.ref n :: st) (znew (n, tg, ln, I, J, O) 5 0) Q := R_new rfl rfl
theorem s79_8 : Runs 79 8 ls (.int i :: st) h Q ↔ Runs 79 9 ls (.int i :: .int i :: st) h Q := R_dupi rfl
theorem s79_8q : Runs 79 8 ls (.ref a :: st) h Q ↔ Runs 79 9 ls (.ref a :: .ref a :: st) h Q := R_dupr rfl
theorem s79_9 (hs : zsumc st ≤ 8) : Runs 79 9 ls (.ref a :: st) h Q ↔ Runs 36 0 [some (.ref a)] [] h (fun v h2 => Runs 79 12 ls (v.toList ++ st) h2 Q) := R_calli (a := a) (rest := st) rfl rfl rfl rfl rfl rfl rfl rfl hs
theorem s79_12 (ht : tg a = 9) : Runs 79 12 ls (zrf r :: .ref a :: st) (n, tg, ln, I, J, O) Q ↔ Runs 79 15 ls st (n, tg, ln, I, J, zu O a 0 r) Q := R_putr rfl rfl rfl rfl rfl ht
theorem s79_12q (ht : tg a = 9) : Runs 79 12 ls (.ref b :: .ref a :: st) (n, tg, ln, I, J, O) Q ↔ Runs 79 15 ls st (n, tg, ln, I, J, zu O a 0 (some b)) Q := R_putr (x := some b) rfl rfl rfl rfl rfl ht
theorem s79_15 : Runs 79 15 [some (.ref a)] st h Q ↔ Runs 79 16 [some (.ref a)] (.ref a :: st) h Q := R_aldn rfl rfl
theorem s79_15q : Runs 79 15 [some (zrf r)] st h Q ↔ Runs 79 16 [some (zrf r)] (zrf r :: st) h Q := R_aldnq rfl rfl
theorem s79_16 : Runs 79 16 ls st (n, tg, ln, I, J, O) Q ↔ Runs 79 19 ls (.ref n :: st) (znew (n, tg, ln, I, J, O) 5 0) Q := R_new rfl rfl
theorem s79_19 : Runs 79 19 ls (.int i :: st) h Q ↔ Runs 79 20 ls (.int i :: .int i :: st) h Q := R_dupi rfl
theorem s79_19q : Runs 79 19 ls (.ref a :: st) h Q ↔ Runs 79 20 ls (.ref a :: .ref a :: st) h Q := R_dupr rfl
theorem s79_20 (hs : zsumc st ≤ 8) : Runs 79 20 ls (.ref a :: st) h Q ↔ Runs 36 0 [some (.ref a)] [] h (fun v h2 => Runs 79 23 ls (v.toList ++ st) h2 Q) := R_calli (a := a) (rest := st) rfl rfl rfl rfl rfl rfl rfl rfl hs
theorem s79_23 (ht : tg a = 9) : Runs 79 23 ls (zrf r :: .ref a :: st) (n, tg, ln, I, J, O) Q ↔ Runs 79 26 ls st (n, tg, ln, I, J, zu O a 1 r) Q := R_putr rfl rfl rfl rfl rfl ht
theorem s79_23q (ht : tg a = 9) : Runs 79 23 ls (.ref b :: .ref a :: st) (n, tg, ln, I, J, O) Q ↔ Runs 79 26 ls st (n, tg, ln, I, J, zu O a 1 (some b)) Q := R_putr (x := some b) rfl rfl rfl rfl rfl ht
theorem s79_26 : Runs 79 26 [some (.ref a)] st h Q ↔ Runs 79 27 [some (.ref a)] (.ref a :: st) h Q := R_aldn rfl rfl
theorem s79_26q : Runs 79 26 [some (zrf r)] st h Q ↔ Runs 79 27 [some (zrf r)] (zrf r :: st) h Q := R_aldnq rfl rfl
theorem s79_27 : Runs 79 27 ls st (n, tg, ln, I, J, O) Q ↔ Runs 79 30 ls (.ref n :: st) (znew (n, tg, ln, I, J, O) 5 0) Q := R_new rfl rfl
theorem s79_30 : Runs 79 30 ls (.int i :: st) h Q ↔ Runs 79 31 ls (.int i :: .int i :: st) h Q := R_dupi rfl
theorem s79_30q : Runs 79 30 ls (.ref a :: st) h Q ↔ Runs 79 31 ls (.ref a :: .ref a :: st) h Q := R_dupr rfl
theorem s79_31 (hs : zsumc st ≤ 8) : Runs 79 31 ls (.ref a :: st) h Q ↔ Runs 36 0 [some (.ref a)] [] h (fun v h2 => Runs 79 34 ls (v.toList ++ st) h2 Q) := R_calli (a := a) (rest := st) rfl rfl rfl rfl rfl rfl rfl rfl hs
theorem s79_34 (ht : tg a = 9) : Runs 79 34 ls (zrf r :: .ref a :: st) (n, tg, ln, I, J, O) Q ↔ Runs 79 37 ls st (n, tg, ln, I, J, zu O a 2 r) Q := R_putr rfl rfl rfl rfl rfl ht
theorem s79_34q (ht : tg a = 9) : Runs 79 34 ls (.ref b :: .ref a :: st) (n, tg, ln, I, J, O) Q ↔ Runs 79 37 ls st (n, tg, ln, I, J, zu O a 2 (some b)) Q := R_putr (x := some b) rfl rfl rfl rfl rfl ht
theorem s79_37 : Runs 79 37 [some (.ref a)] st h Q ↔ Runs 79 38 [some (.ref a)] (.ref a :: st) h Q := R_aldn rfl rfl
theorem s79_37q : Runs 79 37 [some (zrf r)] st h Q ↔ Runs 79 38 [some (zrf r)] (zrf r :: st) h Q := R_aldnq rfl rfl
theorem s79_38 : Runs 79 38 ls st (n, tg, ln, I, J, O) Q ↔ Runs 79 41 ls (.ref n :: st) (znew (n, tg, ln, I, J, O) 8 0) Q := R_new rfl rfl
theorem s79_41 : Runs 79 41 ls (.int i :: st) h Q ↔ Runs 79 42 ls (.int i :: .int i :: st) h Q := R_dupi rfl
theorem s79_41q : Runs 79 41 ls (.ref a :: st) h Q ↔ Runs 79 42 ls (.ref a :: .ref a :: st) h Q := R_dupr rfl
theorem s79_42 (hs : zsumc st ≤ 8) : Runs 79 42 ls (.ref a :: st) h Q ↔ Runs 75 0 [some (.ref a)] [] h (fun v h2 => Runs 79 45 ls (v.toList ++ st) h2 Q) := R_calli (a := a) (rest := st) rfl rfl rfl rfl rfl rfl rfl rfl hs
theorem s79_45 (ht : tg a = 9) : Runs 79 45 ls (zrf r :: .ref a :: st) (n, tg, ln, I, J, O) Q ↔ Runs 79 48 ls st (n, tg, ln, I, J, zu O a 3 r) Q := R_putr rfl rfl rfl rfl rfl ht
theorem s79_45q (ht : tg a = 9) : Runs 79 45 ls (.ref b :: .ref a :: st) (n, tg, ln, I, J, O) Q ↔ Runs 79 48 ls st (n, tg, ln, I, J, zu O a 3 (some b)) Q := R_putr (x := some b) rfl rfl rfl rfl rfl ht
theorem s79_48 : Runs 79 48 [some (.ref a)] st h Q ↔ Runs 79 49 [some (.ref a)] (.ref a :: st) h Q := R_aldn rfl rfl
theorem s79_48q : Runs 79 48 [some (zrf r)] st h Q ↔ Runs 79 49 [some (zrf r)] (zrf r :: st) h Q := R_aldnq rfl rfl
theorem s79_49 : Runs 79 49 ls st (n, tg, ln, I, J, O) Q ↔ Runs 79 52 ls (.ref n :: st) (znew (n, tg, ln, I, J, O) 6 0) Q := R_new rfl rfl
theorem s79_52 : Runs 79 52 ls (.int i :: st) h Q ↔ Runs 79 53 ls (.int i :: .int i :: st) h Q := R_dupi rfl
theorem s79_52q : Runs 79 52 ls (.ref a :: st) h Q ↔ Runs 79 53 ls (.ref a :: .ref a :: st) h Q := R_dupr rfl
theorem s79_53 : Runs 79 53 [some (.ref a)] st h Q ↔ Runs 79 54 [some (.ref a)] (.ref a :: st) h Q := R_aldn rfl rfl
theorem s79_53q : Runs 79 53 [some (zrf r)] st h Q ↔ Runs 79 54 [some (zrf r)] (zrf r :: st) h Q := R_aldnq rfl rfl
theorem s79_54 (ht : tg a = 9) : Runs 79 54 ls (.ref a :: st) (n, tg, ln, I, J, O) Q ↔ Runs 79 57 ls (zrf (O a 3) :: st) (n, tg, ln, I, J, O) Q := R_getr rfl rfl rfl rfl ht
theorem s79_57 : Runs 79 57 [some (.ref a)] st h Q ↔ Runs 79 58 [some (.ref a)] (.ref a :: st) h Q := R_aldn rfl rfl
theorem s79_57q : Runs 79 57 [some (zrf r)] st h Q ↔ Runs 79 58 [some (zrf r)] (zrf r :: st) h Q := R_aldnq rfl rfl
theorem s79_58 (ht : tg a = 9) : Runs 79 58 ls (.ref a :: st) (n, tg, ln, I, J, O) Q ↔ Runs 79 61 ls (zrf (O a 1) :: st) (n, tg, ln, I, J, O) Q := R_getr rfl rfl rfl rfl ht
theorem s79_61 : Runs 79 61 [some (.ref a)] st h Q ↔ Runs 79 62 [some (.ref a)] (.ref a :: st) h Q := R_aldn rfl rfl
theorem s79_61q : Runs 79 61 [some (zrf r)] st h Q ↔ Runs 79 62 [some (zrf r)] (zrf r :: st) h Q := R_aldnq rfl rfl
theorem s79_62 (ht : tg a = 9) : Runs 79 62 ls (.ref a :: st) (n, tg, ln, I, J, O) Q ↔ Runs 79 65 ls (zrf (O a 2) :: st) (n, tg, ln, I, J, O) Q := R_getr rfl rfl rfl rfl ht
theorem s79_65 (hs : zsumc st ≤ 8) : Runs 79 65 ls (.ref b2 :: .ref b1 :: .ref b0 :: .ref a :: st) h Q ↔ Runs 58 0 [some (.ref a), some (.ref b0), some (.ref b1), some (.ref b2)] [] h (fun v h2 => Runs 79 68 ls (v.toList ++ st) h2 Q) := R_calli (a := a) (rest := st) rfl rfl rfl rfl rfl rfl rfl rfl hs
theorem s79_65q (hs : zsumc st ≤ 8) : Runs 79 65 ls (zrf r2 :: zrf r1 :: zrf r0 :: .ref a :: st) h Q ↔ Runs 58 0 [some (.ref a), some (zrf r0), some (zrf r1), some (zrf r2)] [] h (fun v h2 => Runs 79 68 ls (v.toList ++ st) h2 Q) := by cases r0 <;> cases r1 <;> cases r2 <;> exact R_calli (a := a) (rest := st) rfl rfl rfl rfl rfl rfl rfl rfl hs
theorem s79_68 (ht : tg a = 9) : Runs 79 68 ls (zrf r :: .ref a :: st) (n, tg, ln, I, J, O) Q ↔ Runs 79 71 ls st (n, tg, ln, I, J, zu O a 4 r) Q := R_putr rfl rfl rfl rfl rfl ht
theorem s79_68q (ht : tg a = 9) : Runs 79 68 ls (.ref b :: .ref a :: st) (n, tg, ln, I, J, O) Q ↔ Runs 79 71 ls st (n, tg, ln, I, J, zu O a 4 (some b)) Q := R_putr (x := some b) rfl rfl rfl rfl rfl ht
theorem s79_71 : Runs 79 71 [some (.ref a)] st h Q ↔ Runs 79 72 [some (.ref a)] (.ref a :: st) h Q := R_aldn rfl rfl
theorem s79_71q : Runs 79 71 [some (zrf r)] st h Q ↔ Runs 79 72 [some (zrf r)] (zrf r :: st) h Q := R_aldnq rfl rfl
theorem s79_72 : Runs 79 72 ls st (n, tg, ln, I, J, O) Q ↔ Runs 79 75 ls (.ref n :: st) (znew (n, tg, ln, I, J, O) 2 0) Q := R_new rfl rfl
theorem s79_75 : Runs 79 75 ls (.int i :: st) h Q ↔ Runs 79 76 ls (.int i :: .int i :: st) h Q := R_dupi rfl
theorem s79_75q : Runs 79 75 ls (.ref a :: st) h Q ↔ Runs 79 76 ls (.ref a :: .ref a :: st) h Q := R_dupr rfl
theorem s79_76 (hs : zsumc st ≤ 8) : Runs 79 76 ls (.ref a :: st) h Q ↔ Runs 10 0 [some (.ref a)] [] h (fun v h2 => Runs 79 79 ls (v.toList ++ st) h2 Q) := R_calli (a := a) (rest := st) rfl rfl rfl rfl rfl rfl rfl rfl hs
theorem s79_79 (ht : tg a = 9) : Runs 79 79 ls (zrf r :: .ref a :: st) (n, tg, ln, I, J, O) Q ↔ Runs 79 82 ls st (n, tg, ln, I, J, zu O a 5 r) Q := R_putr rfl rfl rfl rfl rfl ht
theorem s79_79q (ht : tg a = 9) : Runs 79 79 ls (.ref b :: .ref a :: st) (n, tg, ln, I, J, O) Q ↔ Runs 79 82 ls st (n, tg, ln, I, J, zu O a 5 (some b)) Q := R_putr (x := some b) rfl rfl rfl rfl rfl ht
theorem s79_82 : Runs 79 82 [some (.ref a)] st h Q ↔ Runs 79 83 [some (.ref a)] (.ref a :: st) h Q := R_aldn rfl rfl
theorem s79_82q : Runs 79 82 [some (zrf r)] st h Q ↔ Runs 79 83 [some (zrf r)] (zrf r :: st) h Q := R_aldnq rfl rfl
theorem s79_83 : Runs 79 83 ls st h Q ↔ Runs 79 84 ls (.int 2 :: st) h Q := R_iconst rfl rfl
theorem s79_84 : Runs 79 84 ls (.int 2 :: st) (n, tg, ln, I, J, O) Q ↔ Runs 79 87 ls (.ref n :: st) (znew (n, tg, ln, I, J, O) 23 2) Q := R_anew4 rfl rfl (by decide) (by decide)
theorem s79_87 : Runs 79 87 ls (.int i :: st) h Q ↔ Runs 79 88 ls (.int i :: .int i :: st) h Q := R_dupi rfl
theorem s79_87q : Runs 79 87 ls (.ref a :: st) h Q ↔ Runs 79 88 ls (.ref a :: .ref a :: st) h Q := R_dupr rfl
theorem s79_88 : Runs 79 88 ls st h Q ↔ Runs 79 89 ls (.int 0 :: st) h Q := R_iconst rfl rfl
theorem s79_89 : Runs 79 89 ls st (n, tg, ln, I, J, O) Q ↔ Runs 79 92 ls (.ref n :: st) (znew (n, tg, ln, I, J, O) 5 0) Q := R_new rfl rfl
theorem s79_92 : Runs 79 92 ls (.int i :: st) h Q ↔ Runs 79 93 ls (.int i :: .int i :: st) h Q := R_dupi rfl
theorem s79_92q : Runs 79 92 ls (.ref a :: st) h Q ↔ Runs 79 93 ls (.ref a :: .ref a :: st) h Q := R_dupr rfl
theorem s79_93 (hs : zsumc st ≤ 8) : Runs 79 93 ls (.ref a :: st) h Q ↔ Runs 36 0 [some (.ref a)] [] h (fun v h2 => Runs 79 96 ls (v.toList ++ st) h2 Q) := R_calli (a := a) (rest := st) rfl rfl rfl rfl rfl rfl rfl rfl hs
theorem s79_96 (ht : tg a = 23) (hx : tg b = 5) : Runs 79 96 ls (.ref b :: .int i :: .ref a :: st) (n, tg, ln, I, J, O) Q ↔ ((0 ≤ i ∧ i < Int32.ofNat (ln a)) ∧ Runs 79 97 ls st (n, tg, ln, I, J, zu O a i (some b)) Q) := R_aastp rfl ht hx
theorem s79_96q (ht : tg a = 24) (hx : tg b = 1) : Runs 79 96 ls (.ref b :: .int i :: .ref a :: st) (n, tg, ln, I, J, O) Q ↔ ((0 ≤ i ∧ i < Int32.ofNat (ln a)) ∧ Runs 79 97 ls st (n, tg, ln, I, J, zu O a i (some b)) Q) := R_aastb rfl ht hx
theorem s79_97 : Runs 79 97 ls (.int i :: st) h Q ↔ Runs 79 98 ls (.int i :: .int i :: st) h Q := R_dupi rfl
theorem s79_97q : Runs 79 97 ls (.ref a :: st) h Q ↔ Runs 79 98 ls (.ref a :: .ref a :: st) h Q := R_dupr rfl
theorem s79_98 : Runs 79 98 ls st h Q ↔ Runs 79 99 ls (.int 1 :: st) h Q := R_iconst rfl rfl
theorem s79_99 : Runs 79 99 ls st (n, tg, ln, I, J, O) Q ↔ Runs 79 102 ls (.ref n :: st) (znew (n, tg, ln, I, J, O) 5 0) Q := R_new rfl rfl
theorem s79_102 : Runs 79 102 ls (.int i :: st) h Q ↔ Runs 79 103 ls (.int i :: .int i :: st) h Q := R_dupi rfl
theorem s79_102q : Runs 79 102 ls (.ref a :: st) h Q ↔ Runs 79 103 ls (.ref a :: .ref a :: st) h Q := R_dupr rfl
theorem s79_103 (hs : zsumc st ≤ 8) : Runs 79 103 ls (.ref a :: st) h Q ↔ Runs 36 0 [some (.ref a)] [] h (fun v h2 => Runs 79 106 ls (v.toList ++ st) h2 Q) := R_calli (a := a) (rest := st) rfl rfl rfl rfl rfl rfl rfl rfl hs
theorem s79_106 (ht : tg a = 23) (hx : tg b = 5) : Runs 79 106 ls (.ref b :: .int i :: .ref a :: st) (n, tg, ln, I, J, O) Q ↔ ((0 ≤ i ∧ i < Int32.ofNat (ln a)) ∧ Runs 79 107 ls st (n, tg, ln, I, J, zu O a i (some b)) Q) := R_aastp rfl ht hx
theorem s79_106q (ht : tg a = 24) (hx : tg b = 1) : Runs 79 106 ls (.ref b :: .int i :: .ref a :: st) (n, tg, ln, I, J, O) Q ↔ ((0 ≤ i ∧ i < Int32.ofNat (ln a)) ∧ Runs 79 107 ls st (n, tg, ln, I, J, zu O a i (some b)) Q) := R_aastb rfl ht hx
theorem s79_107 (ht : tg a = 9) : Runs 79 107 ls (zrf r :: .ref a :: st) (n, tg, ln, I, J, O) Q ↔ Runs 79 110 ls st (n, tg, ln, I, J, zu O a 6 r) Q := R_putr rfl rfl rfl rfl rfl ht
theorem s79_107q (ht : tg a = 9) : Runs 79 107 ls (.ref b :: .ref a :: st) (n, tg, ln, I, J, O) Q ↔ Runs 79 110 ls st (n, tg, ln, I, J, zu O a 6 (some b)) Q := R_putr (x := some b) rfl rfl rfl rfl rfl ht
theorem s79_110 : Runs 79 110 [some (.ref a)] st h Q ↔ Runs 79 111 [some (.ref a)] (.ref a :: st) h Q := R_aldn rfl rfl
theorem s79_110q : Runs 79 110 [some (zrf r)] st h Q ↔ Runs 79 111 [some (zrf r)] (zrf r :: st) h Q := R_aldnq rfl rfl
theorem s79_111 : Runs 79 111 ls st h Q ↔ Runs 79 112 ls (.int 2 :: st) h Q := R_iconst rfl rfl
theorem s79_112 : Runs 79 112 ls (.int 2 :: st) (n, tg, ln, I, J, O) Q ↔ Runs 79 114 ls (.ref n :: st) (znew (n, tg, ln, I, J, O) 22 2) Q := R_newaz rfl (by decide) (by decide)
theorem s79_114 (ht : tg a = 9) : Runs 79 114 ls (zrf r :: .ref a :: st) (n, tg, ln, I, J, O) Q ↔ Runs 79 117 ls st (n, tg, ln, I, J, zu O a 7 r) Q := R_putr rfl rfl rfl rfl rfl ht
theorem s79_114q (ht : tg a = 9) : Runs 79 114 ls (.ref b :: .ref a :: st) (n, tg, ln, I, J, O) Q ↔ Runs 79 117 ls st (n, tg, ln, I, J, zu O a 7 (some b)) Q := R_putr (x := some b) rfl rfl rfl rfl rfl ht
theorem s79_117 : Runs 79 117 [some (.ref a)] st h Q ↔ Runs 79 118 [some (.ref a)] (.ref a :: st) h Q := R_aldn rfl rfl
theorem s79_117q : Runs 79 117 [some (zrf r)] st h Q ↔ Runs 79 118 [some (zrf r)] (zrf r :: st) h Q := R_aldnq rfl rfl
theorem s79_118 : Runs 79 118 ls st (n, tg, ln, I, J, O) Q ↔ Runs 79 121 ls (.ref n :: st) (znew (n, tg, ln, I, J, O) 7 0) Q := R_new rfl rfl
theorem s79_121 : Runs 79 121 ls (.int i :: st) h Q ↔ Runs 79 122 ls (.int i :: .int i :: st) h Q := R_dupi rfl
theorem s79_121q : Runs 79 121 ls (.ref a :: st) h Q ↔ Runs 79 122 ls (.ref a :: .ref a :: st) h Q := R_dupr rfl
theorem s79_122 (hs : zsumc st ≤ 8) : Runs 79 122 ls (.ref a :: st) h Q ↔ Runs 71 0 [some (.ref a)] [] h (fun v h2 => Runs 79 125 ls (v.toList ++ st) h2 Q) := R_calli (a := a) (rest := st) rfl rfl rfl rfl rfl rfl rfl rfl hs
theorem s79_125 (ht : tg a = 9) : Runs 79 125 ls (zrf r :: .ref a :: st) (n, tg, ln, I, J, O) Q ↔ Runs 79 128 ls st (n, tg, ln, I, J, zu O a 8 r) Q := R_putr rfl rfl rfl rfl rfl ht
theorem s79_125q (ht : tg a = 9) : Runs 79 125 ls (.ref b :: .ref a :: st) (n, tg, ln, I, J, O) Q ↔ Runs 79 128 ls st (n, tg, ln, I, J, zu O a 8 (some b)) Q := R_putr (x := some b) rfl rfl rfl rfl rfl ht
theorem s79_128 : Runs 79 128 [some (.ref a)] st h Q ↔ Runs 79 129 [some (.ref a)] (.ref a :: st) h Q := R_aldn rfl rfl
theorem s79_128q : Runs 79 128 [some (zrf r)] st h Q ↔ Runs 79 129 [some (zrf r)] (zrf r :: st) h Q := R_aldnq rfl rfl
theorem s79_129 : Runs 79 129 ls st h Q ↔ Runs 79 130 ls (.int 3 :: st) h Q := R_iconst rfl rfl
theorem s79_130 : Runs 79 130 ls (.int 3 :: st) (n, tg, ln, I, J, O) Q ↔ Runs 79 133 ls (.ref n :: st) (znew (n, tg, ln, I, J, O) 24 3) Q := R_anew0 rfl rfl (by decide) (by decide)
theorem s79_133 : Runs 79 133 ls (.int i :: st) h Q ↔ Runs 79 134 ls (.int i :: .int i :: st) h Q := R_dupi rfl
theorem s79_133q : Runs 79 133 ls (.ref a :: st) h Q ↔ Runs 79 134 ls (.ref a :: .ref a :: st) h Q := R_dupr rfl
theorem s79_134 : Runs 79 134 ls st h Q ↔ Runs 79 135 ls (.int 0 :: st) h Q := R_iconst rfl rfl
theorem s79_135 : Runs 79 135 ls st (n, tg, ln, I, J, O) Q ↔ Runs 79 138 ls (.ref n :: st) (znew (n, tg, ln, I, J, O) 1 0) Q := R_new rfl rfl
theorem s79_138 : Runs 79 138 ls (.int i :: st) h Q ↔ Runs 79 139 ls (.int i :: .int i :: st) h Q := R_dupi rfl
theorem s79_138q : Runs 79 138 ls (.ref a :: st) h Q ↔ Runs 79 139 ls (.ref a :: .ref a :: st) h Q := R_dupr rfl
theorem s79_139 (hs : zsumc st ≤ 8) : Runs 79 139 ls (.ref a :: st) h Q ↔ Runs 0 0 [some (.ref a)] [] h (fun v h2 => Runs 79 142 ls (v.toList ++ st) h2 Q) := R_calli (a := a) (rest := st) rfl rfl rfl rfl rfl rfl rfl rfl hs
theorem s79_142 (ht : tg a = 23) (hx : tg b = 5) : Runs 79 142 ls (.ref b :: .int i :: .ref a :: st) (n, tg, ln, I, J, O) Q ↔ ((0 ≤ i ∧ i < Int32.ofNat (ln a)) ∧ Runs 79 143 ls st (n, tg, ln, I, J, zu O a i (some b)) Q) := R_aastp rfl ht hx
theorem s79_142q (ht : tg a = 24) (hx : tg b = 1) : Runs 79 142 ls (.ref b :: .int i :: .ref a :: st) (n, tg, ln, I, J, O) Q ↔ ((0 ≤ i ∧ i < Int32.ofNat (ln a)) ∧ Runs 79 143 ls st (n, tg, ln, I, J, zu O a i (some b)) Q) := R_aastb rfl ht hx
theorem s79_143 : Runs 79 143 ls (.int i :: st) h Q ↔ Runs 79 144 ls (.int i :: .int i :: st) h Q := R_dupi rfl
theorem s79_143q : Runs 79 143 ls (.ref a :: st) h Q ↔ Runs 79 144 ls (.ref a :: .ref a :: st) h Q := R_dupr rfl
theorem s79_144 : Runs 79 144 ls st h Q ↔ Runs 79 145 ls (.int 1 :: st) h Q := R_iconst rfl rfl
theorem s79_145 : Runs 79 145 ls st (n, tg, ln, I, J, O) Q ↔ Runs 79 148 ls (.ref n :: st) (znew (n, tg, ln, I, J, O) 1 0) Q := R_new rfl rfl
theorem s79_148 : Runs 79 148 ls (.int i :: st) h Q ↔ Runs 79 149 ls (.int i :: .int i :: st) h Q := R_dupi rfl
theorem s79_148q : Runs 79 148 ls (.ref a :: st) h Q ↔ Runs 79 149 ls (.ref a :: .ref a :: st) h Q := R_dupr rfl
theorem s79_149 (hs : zsumc st ≤ 8) : Runs 79 149 ls (.ref a :: st) h Q ↔ Runs 0 0 [some (.ref a)] [] h (fun v h2 => Runs 79 152 ls (v.toList ++ st) h2 Q) := R_calli (a := a) (rest := st) rfl rfl rfl rfl rfl rfl rfl rfl hs
theorem s79_152 (ht : tg a = 23) (hx : tg b = 5) : Runs 79 152 ls (.ref b :: .int i :: .ref a :: st) (n, tg, ln, I, J, O) Q ↔ ((0 ≤ i ∧ i < Int32.ofNat (ln a)) ∧ Runs 79 153 ls st (n, tg, ln, I, J, zu O a i (some b)) Q) := R_aastp rfl ht hx
theorem s79_152q (ht : tg a = 24) (hx : tg b = 1) : Runs 79 152 ls (.ref b :: .int i :: .ref a :: st) (n, tg, ln, I, J, O) Q ↔ ((0 ≤ i ∧ i < Int32.ofNat (ln a)) ∧ Runs 79 153 ls st (n, tg, ln, I, J, zu O a i (some b)) Q) := R_aastb rfl ht hx
theorem s79_153 : Runs 79 153 ls (.int i :: st) h Q ↔ Runs 79 154 ls (.int i :: .int i :: st) h Q := R_dupi rfl
theorem s79_153q : Runs 79 153 ls (.ref a :: st) h Q ↔ Runs 79 154 ls (.ref a :: .ref a :: st) h Q := R_dupr rfl
theorem s79_154 : Runs 79 154 ls st h Q ↔ Runs 79 155 ls (.int 2 :: st) h Q := R_iconst rfl rfl
theorem s79_155 : Runs 79 155 ls st (n, tg, ln, I, J, O) Q ↔ Runs 79 158 ls (.ref n :: st) (znew (n, tg, ln, I, J, O) 1 0) Q := R_new rfl rfl
theorem s79_158 : Runs 79 158 ls (.int i :: st) h Q ↔ Runs 79 159 ls (.int i :: .int i :: st) h Q := R_dupi rfl
theorem s79_158q : Runs 79 158 ls (.ref a :: st) h Q ↔ Runs 79 159 ls (.ref a :: .ref a :: st) h Q := R_dupr rfl
theorem s79_159 (hs : zsumc st ≤ 8) : Runs 79 159 ls (.ref a :: st) h Q ↔ Runs 0 0 [some (.ref a)] [] h (fun v h2 => Runs 79 162 ls (v.toList ++ st) h2 Q) := R_calli (a := a) (rest := st) rfl rfl rfl rfl rfl rfl rfl rfl hs
theorem s79_162 (ht : tg a = 23) (hx : tg b = 5) : Runs 79 162 ls (.ref b :: .int i :: .ref a :: st) (n, tg, ln, I, J, O) Q ↔ ((0 ≤ i ∧ i < Int32.ofNat (ln a)) ∧ Runs 79 163 ls st (n, tg, ln, I, J, zu O a i (some b)) Q) := R_aastp rfl ht hx
theorem s79_162q (ht : tg a = 24) (hx : tg b = 1) : Runs 79 162 ls (.ref b :: .int i :: .ref a :: st) (n, tg, ln, I, J, O) Q ↔ ((0 ≤ i ∧ i < Int32.ofNat (ln a)) ∧ Runs 79 163 ls st (n, tg, ln, I, J, zu O a i (some b)) Q) := R_aastb rfl ht hx
theorem s79_163 (ht : tg a = 9) : Runs 79 163 ls (zrf r :: .ref a :: st) (n, tg, ln, I, J, O) Q ↔ Runs 79 166 ls st (n, tg, ln, I, J, zu O a 9 r) Q := R_putr rfl rfl rfl rfl rfl ht
theorem s79_163q (ht : tg a = 9) : Runs 79 163 ls (.ref b :: .ref a :: st) (n, tg, ln, I, J, O) Q ↔ Runs 79 166 ls st (n, tg, ln, I, J, zu O a 9 (some b)) Q := R_putr (x := some b) rfl rfl rfl rfl rfl ht
theorem s79_166 : Runs 79 166 ls [] h Q ↔ Q none h := R_vret rfl rfl
theorem s125_0 : Runs 125 0 [some (.ref a)] st h Q ↔ Runs 125 1 [some (.ref a)] (.ref a :: st) h Q := R_aldn rfl rfl
theorem s125_0q : Runs 125 0 [some (zrf r)] st h Q ↔ Runs 125 1 [some (zrf r)] (zrf r :: st) h Q := R_aldnq rfl rfl
theorem s125_1 (hs : zsumc st ≤ 8) : Runs 125 1 ls (.ref a :: st) h Q ↔ Runs 125 4 ls st h Q := R_objI rfl rfl hs
theorem s125_4 : Runs 125 4 [some (.ref a)] st h Q ↔ Runs 125 5 [some (.ref a)] (.ref a :: st) h Q := R_aldn rfl rfl
theorem s125_4q : Runs 125 4 [some (zrf r)] st h Q ↔ Runs 125 5 [some (zrf r)] (zrf r :: st) h Q := R_aldnq rfl rfl
theorem s125_5 : Runs 125 5 ls st h Q ↔ Runs 125 8 ls (.int 1170 :: st) h Q := R_sipush rfl (by decide)
theorem s125_8 : Runs 125 8 ls (.int 1170 :: st) (n, tg, ln, I, J, O) Q ↔ Runs 125 10 ls (.ref n :: st) (znew (n, tg, ln, I, J, O) 20 1170) Q := R_newai rfl (by decide) (by decide)
theorem s125_10 (ht : tg a = 10) : Runs 125 10 ls (zrf r :: .ref a :: st) (n, tg, ln, I, J, O) Q ↔ Runs 125 13 ls st (n, tg, ln, I, J, zu O a 0 r) Q := R_putr rfl rfl rfl rfl rfl ht
theorem s125_10q (ht : tg a = 10) : Runs 125 10 ls (.ref b :: .ref a :: st) (n, tg, ln, I, J, O) Q ↔ Runs 125 13 ls st (n, tg, ln, I, J, zu O a 0 (some b)) Q := R_putr (x := some b) rfl rfl rfl rfl rfl ht
theorem s125_13 : Runs 125 13 [some (.ref a)] st h Q ↔ Runs 125 14 [some (.ref a)] (.ref a :: st) h Q := R_aldn rfl rfl
theorem s125_13q : Runs 125 13 [some (zrf r)] st h Q ↔ Runs 125 14 [some (zrf r)] (zrf r :: st) h Q := R_aldnq rfl rfl
theorem s125_14 : Runs 125 14 ls st h Q ↔ Runs 125 15 ls (.int 2 :: st) h Q := R_iconst rfl rfl
theorem s125_15 : Runs 125 15 ls (.int 2 :: st) (n, tg, ln, I, J, O) Q ↔ Runs 125 17 ls (.ref n :: st) (znew (n, tg, ln, I, J, O) 22 2) Q := R_newaz rfl (by decide) (by decide)
theorem s125_17 (ht : tg a = 10) : Runs 125 17 ls (zrf r :: .ref a :: st) (n, tg, ln, I, J, O) Q ↔ Runs 125 20 ls st (n, tg, ln, I, J, zu O a 2 r) Q := R_putr rfl rfl rfl rfl rfl ht
theorem s125_17q (ht : tg a = 10) : Runs 125 17 ls (.ref b :: .ref a :: st) (n, tg, ln, I, J, O) Q ↔ Runs 125 20 ls st (n, tg, ln, I, J, zu O a 2 (some b)) Q := R_putr (x := some b) rfl rfl rfl rfl rfl ht
theorem s125_20 : Runs 125 20 [some (.ref a)] st h Q ↔ Runs 125 21 [some (.ref a)] (.ref a :: st) h Q := R_aldn rfl rfl
theorem s125_20q : Runs 125 20 [some (zrf r)] st h Q ↔ Runs 125 21 [some (zrf r)] (zrf r :: st) h Q := R_aldnq rfl rfl
theorem s125_21 : Runs 125 21 ls st h Q ↔ Runs 125 24 ls (.int 200 :: st) h Q := R_sipush rfl (by decide)
theorem s125_24 : Runs 125 24 ls (.int 200 :: st) (n, tg, ln, I, J, O) Q ↔ Runs 125 26 ls (.ref n :: st) (znew (n, tg, ln, I, J, O) 20 200) Q := R_newai rfl (by decide) (by decide)
theorem s125_26 (ht : tg a = 10) : Runs 125 26 ls (zrf r :: .ref a :: st) (n, tg, ln, I, J, O) Q ↔ Runs 125 29 ls st (n, tg, ln, I, J, zu O a 3 r) Q := R_putr rfl rfl rfl rfl rfl ht
theorem s125_26q (ht : tg a = 10) : Runs 125 26 ls (.ref b :: .ref a :: st) (n, tg, ln, I, J, O) Q ↔ Runs 125 29 ls st (n, tg, ln, I, J, zu O a 3 (some b)) Q := R_putr (x := some b) rfl rfl rfl rfl rfl ht
theorem s125_29 : Runs 125 29 [some (.ref a)] st h Q ↔ Runs 125 30 [some (.ref a)] (.ref a :: st) h Q := R_aldn rfl rfl
theorem s125_29q : Runs 125 29 [some (zrf r)] st h Q ↔ Runs 125 30 [some (zrf r)] (zrf r :: st) h Q := R_aldnq rfl rfl
theorem s125_30 : Runs 125 30 ls st h Q ↔ Runs 125 32 ls (.int 6 :: st) h Q := R_bipush rfl (by decide)
theorem s125_32 : Runs 125 32 ls (.int 6 :: st) (n, tg, ln, I, J, O) Q ↔ Runs 125 34 ls (.ref n :: st) (znew (n, tg, ln, I, J, O) 20 6) Q := R_newai rfl (by decide) (by decide)
theorem s125_34 (ht : tg a = 10) : Runs 125 34 ls (zrf r :: .ref a :: st) (n, tg, ln, I, J, O) Q ↔ Runs 125 37 ls st (n, tg, ln, I, J, zu O a 6 r) Q := R_putr rfl rfl rfl rfl rfl ht
theorem s125_34q (ht : tg a = 10) : Runs 125 34 ls (.ref b :: .ref a :: st) (n, tg, ln, I, J, O) Q ↔ Runs 125 37 ls st (n, tg, ln, I, J, zu O a 6 (some b)) Q := R_putr (x := some b) rfl rfl rfl rfl rfl ht
theorem s125_37 : Runs 125 37 [some (.ref a)] st h Q ↔ Runs 125 38 [some (.ref a)] (.ref a :: st) h Q := R_aldn rfl rfl
theorem s125_37q : Runs 125 37 [some (zrf r)] st h Q ↔ Runs 125 38 [some (zrf r)] (zrf r :: st) h Q := R_aldnq rfl rfl
theorem s125_38 : Runs 125 38 ls st h Q ↔ Runs 125 40 ls (.int 6 :: st) h Q := R_bipush rfl (by decide)
theorem s125_40 : Runs 125 40 ls (.int 6 :: st) (n, tg, ln, I, J, O) Q ↔ Runs 125 42 ls (.ref n :: st) (znew (n, tg, ln, I, J, O) 20 6) Q := R_newai rfl (by decide) (by decide)
theorem s125_42 (ht : tg a = 10) : Runs 125 42 ls (zrf r :: .ref a :: st) (n, tg, ln, I, J, O) Q ↔ Runs 125 45 ls st (n, tg, ln, I, J, zu O a 7 r) Q := R_putr rfl rfl rfl rfl rfl ht
theorem s125_42q (ht : tg a = 10) : Runs 125 42 ls (.ref b :: .ref a :: st) (n, tg, ln, I, J, O) Q ↔ Runs 125 45 ls st (n, tg, ln, I, J, zu O a 7 (some b)) Q := R_putr (x := some b) rfl rfl rfl rfl rfl ht
theorem s125_45 : Runs 125 45 [some (.ref a)] st h Q ↔ Runs 125 46 [some (.ref a)] (.ref a :: st) h Q := R_aldn rfl rfl
theorem s125_45q : Runs 125 45 [some (zrf r)] st h Q ↔ Runs 125 46 [some (zrf r)] (zrf r :: st) h Q := R_aldnq rfl rfl
theorem s125_46 : Runs 125 46 ls st h Q ↔ Runs 125 47 ls (.int 3 :: st) h Q := R_iconst rfl rfl
theorem s125_47 : Runs 125 47 ls (.int 3 :: st) (n, tg, ln, I, J, O) Q ↔ Runs 125 49 ls (.ref n :: st) (znew (n, tg, ln, I, J, O) 20 3) Q := R_newai rfl (by decide) (by decide)
theorem s125_49 : Runs 125 49 ls (.int i :: st) h Q ↔ Runs 125 50 ls (.int i :: .int i :: st) h Q := R_dupi rfl
theorem s125_49q : Runs 125 49 ls (.ref a :: st) h Q ↔ Runs 125 50 ls (.ref a :: .ref a :: st) h Q := R_dupr rfl
theorem s125_50 : Runs 125 50 ls st h Q ↔ Runs 125 51 ls (.int 0 :: st) h Q := R_iconst rfl rfl
theorem s125_51 : Runs 125 51 ls st h Q ↔ Runs 125 52 ls (.int (-1) :: st) h Q := R_iconst rfl rfl
theorem s125_52 (ht : tg a = 20) : Runs 125 52 ls (.int j :: .int i :: .ref a :: st) (n, tg, ln, I, J, O) Q ↔ ((0 ≤ i ∧ i < Int32.ofNat (ln a)) ∧ Runs 125 53 ls st (n, tg, ln, zu I a i j, J, O) Q) := R_iast rfl ht
theorem s125_53 : Runs 125 53 ls (.int i :: st) h Q ↔ Runs 125 54 ls (.int i :: .int i :: st) h Q := R_dupi rfl
theorem s125_53q : Runs 125 53 ls (.ref a :: st) h Q ↔ Runs 125 54 ls (.ref a :: .ref a :: st) h Q := R_dupr rfl
theorem s125_54 : Runs 125 54 ls st h Q ↔ Runs 125 55 ls (.int 1 :: st) h Q := R_iconst rfl rfl
theorem s125_55 : Runs 125 55 ls st h Q ↔ Runs 125 56 ls (.int (-1) :: st) h Q := R_iconst rfl rfl
theorem s125_56 (ht : tg a = 20) : Runs 125 56 ls (.int j :: .int i :: .ref a :: st) (n, tg, ln, I, J, O) Q ↔ ((0 ≤ i ∧ i < Int32.ofNat (ln a)) ∧ Runs 125 57 ls st (n, tg, ln, zu I a i j, J, O) Q) := R_iast rfl ht
theorem s125_57 : Runs 125 57 ls (.int i :: st) h Q ↔ Runs 125 58 ls (.int i :: .int i :: st) h Q := R_dupi rfl
theorem s125_57q : Runs 125 57 ls (.ref a :: st) h Q ↔ Runs 125 58 ls (.ref a :: .ref a :: st) h Q := R_dupr rfl
theorem s125_58 : Runs 125 58 ls st h Q ↔ Runs 125 59 ls (.int 2 :: st) h Q := R_iconst rfl rfl
theorem s125_59 : Runs 125 59 ls st h Q ↔ Runs 125 60 ls (.int (-1) :: st) h Q := R_iconst rfl rfl
theorem s125_60 (ht : tg a = 20) : Runs 125 60 ls (.int j :: .int i :: .ref a :: st) (n, tg, ln, I, J, O) Q ↔ ((0 ≤ i ∧ i < Int32.ofNat (ln a)) ∧ Runs 125 61 ls st (n, tg, ln, zu I a i j, J, O) Q) := R_iast rfl ht
theorem s125_61 (ht : tg a = 10) : Runs 125 61 ls (zrf r :: .ref a :: st) (n, tg, ln, I, J, O) Q ↔ Runs 125 64 ls st (n, tg, ln, I, J, zu O a 8 r) Q := R_putr rfl rfl rfl rfl rfl ht
theorem s125_61q (ht : tg a = 10) : Runs 125 61 ls (.ref b :: .ref a :: st) (n, tg, ln, I, J, O) Q ↔ Runs 125 64 ls st (n, tg, ln, I, J, zu O a 8 (some b)) Q := R_putr (x := some b) rfl rfl rfl rfl rfl ht
theorem s125_64 : Runs 125 64 [some (.ref a)] st h Q ↔ Runs 125 65 [some (.ref a)] (.ref a :: st) h Q := R_aldn rfl rfl
theorem s125_64q : Runs 125 64 [some (zrf r)] st h Q ↔ Runs 125 65 [some (zrf r)] (zrf r :: st) h Q := R_aldnq rfl rfl
theorem s125_65 : Runs 125 65 ls st h Q ↔ Runs 125 67 ls (.int 36 :: st) h Q := R_bipush rfl (by decide)
theorem s125_67 : Runs 125 67 ls (.int 36 :: st) (n, tg, ln, I, J, O) Q ↔ Runs 125 69 ls (.ref n :: st) (znew (n, tg, ln, I, J, O) 20 36) Q := R_newai rfl (by decide) (by decide)
theorem s125_69 (ht : tg a = 10) : Runs 125 69 ls (zrf r :: .ref a :: st) (n, tg, ln, I, J, O) Q ↔ Runs 125 72 ls st (n, tg, ln, I, J, zu O a 9 r) Q := R_putr rfl rfl rfl rfl rfl ht
theorem s125_69q (ht : tg a = 10) : Runs 125 69 ls (.ref b :: .ref a :: st) (n, tg, ln, I, J, O) Q ↔ Runs 125 72 ls st (n, tg, ln, I, J, zu O a 9 (some b)) Q := R_putr (x := some b) rfl rfl rfl rfl rfl ht
theorem s125_72 : Runs 125 72 [some (.ref a)] st h Q ↔ Runs 125 73 [some (.ref a)] (.ref a :: st) h Q := R_aldn rfl rfl
theorem s125_72q : Runs 125 72 [some (zrf r)] st h Q ↔ Runs 125 73 [some (zrf r)] (zrf r :: st) h Q := R_aldnq rfl rfl
theorem s125_73 : Runs 125 73 ls st h Q ↔ Runs 125 75 ls (.int 36 :: st) h Q := R_bipush rfl (by decide)
theorem s125_75 : Runs 125 75 ls (.int 36 :: st) (n, tg, ln, I, J, O) Q ↔ Runs 125 77 ls (.ref n :: st) (znew (n, tg, ln, I, J, O) 20 36) Q := R_newai rfl (by decide) (by decide)
theorem s125_77 (ht : tg a = 10) : Runs 125 77 ls (zrf r :: .ref a :: st) (n, tg, ln, I, J, O) Q ↔ Runs 125 80 ls st (n, tg, ln, I, J, zu O a 10 r) Q := R_putr rfl rfl rfl rfl rfl ht
theorem s125_77q (ht : tg a = 10) : Runs 125 77 ls (.ref b :: .ref a :: st) (n, tg, ln, I, J, O) Q ↔ Runs 125 80 ls st (n, tg, ln, I, J, zu O a 10 (some b)) Q := R_putr (x := some b) rfl rfl rfl rfl rfl ht
theorem s125_80 : Runs 125 80 [some (.ref a)] st h Q ↔ Runs 125 81 [some (.ref a)] (.ref a :: st) h Q := R_aldn rfl rfl
theorem s125_80q : Runs 125 80 [some (zrf r)] st h Q ↔ Runs 125 81 [some (zrf r)] (zrf r :: st) h Q := R_aldnq rfl rfl
theorem s125_81 : Runs 125 81 ls st h Q ↔ Runs 125 83 ls (.int 36 :: st) h Q := R_bipush rfl (by decide)
theorem s125_83 : Runs 125 83 ls (.int 36 :: st) (n, tg, ln, I, J, O) Q ↔ Runs 125 85 ls (.ref n :: st) (znew (n, tg, ln, I, J, O) 21 36) Q := R_newal rfl (by decide) (by decide)
theorem s125_85 (ht : tg a = 10) : Runs 125 85 ls (zrf r :: .ref a :: st) (n, tg, ln, I, J, O) Q ↔ Runs 125 88 ls st (n, tg, ln, I, J, zu O a 11 r) Q := R_putr rfl rfl rfl rfl rfl ht
theorem s125_85q (ht : tg a = 10) : Runs 125 85 ls (.ref b :: .ref a :: st) (n, tg, ln, I, J, O) Q ↔ Runs 125 88 ls st (n, tg, ln, I, J, zu O a 11 (some b)) Q := R_putr (x := some b) rfl rfl rfl rfl rfl ht
theorem s125_88 : Runs 125 88 [some (.ref a)] st h Q ↔ Runs 125 89 [some (.ref a)] (.ref a :: st) h Q := R_aldn rfl rfl
theorem s125_88q : Runs 125 88 [some (zrf r)] st h Q ↔ Runs 125 89 [some (zrf r)] (zrf r :: st) h Q := R_aldnq rfl rfl
theorem s125_89 : Runs 125 89 ls st h Q ↔ Runs 125 90 ls (.int 2 :: st) h Q := R_iconst rfl rfl
theorem s125_90 : Runs 125 90 ls (.int 2 :: st) (n, tg, ln, I, J, O) Q ↔ Runs 125 92 ls (.ref n :: st) (znew (n, tg, ln, I, J, O) 20 2) Q := R_newai rfl (by decide) (by decide)
theorem s125_92 (ht : tg a = 10) : Runs 125 92 ls (zrf r :: .ref a :: st) (n, tg, ln, I, J, O) Q ↔ Runs 125 95 ls st (n, tg, ln, I, J, zu O a 15 r) Q := R_putr rfl rfl rfl rfl rfl ht
theorem s125_92q (ht : tg a = 10) : Runs 125 92 ls (.ref b :: .ref a :: st) (n, tg, ln, I, J, O) Q ↔ Runs 125 95 ls st (n, tg, ln, I, J, zu O a 15 (some b)) Q := R_putr (x := some b) rfl rfl rfl rfl rfl ht
theorem s125_95 : Runs 125 95 [some (.ref a)] st h Q ↔ Runs 125 96 [some (.ref a)] (.ref a :: st) h Q := R_aldn rfl rfl
theorem s125_95q : Runs 125 95 [some (zrf r)] st h Q ↔ Runs 125 96 [some (zrf r)] (zrf r :: st) h Q := R_aldnq rfl rfl
theorem s125_96 : Runs 125 96 ls st h Q ↔ Runs 125 97 ls (.int 2 :: st) h Q := R_iconst rfl rfl
theorem s125_97 : Runs 125 97 ls (.int 2 :: st) (n, tg, ln, I, J, O) Q ↔ Runs 125 99 ls (.ref n :: st) (znew (n, tg, ln, I, J, O) 20 2) Q := R_newai rfl (by decide) (by decide)
theorem s125_99 (ht : tg a = 10) : Runs 125 99 ls (zrf r :: .ref a :: st) (n, tg, ln, I, J, O) Q ↔ Runs 125 102 ls st (n, tg, ln, I, J, zu O a 18 r) Q := R_putr rfl rfl rfl rfl rfl ht
theorem s125_99q (ht : tg a = 10) : Runs 125 99 ls (.ref b :: .ref a :: st) (n, tg, ln, I, J, O) Q ↔ Runs 125 102 ls st (n, tg, ln, I, J, zu O a 18 (some b)) Q := R_putr (x := some b) rfl rfl rfl rfl rfl ht
theorem s125_102 : Runs 125 102 [some (.ref a)] st h Q ↔ Runs 125 103 [some (.ref a)] (.ref a :: st) h Q := R_aldn rfl rfl
theorem s125_102q : Runs 125 102 [some (zrf r)] st h Q ↔ Runs 125 103 [some (zrf r)] (zrf r :: st) h Q := R_aldnq rfl rfl
theorem s125_103 : Runs 125 103 ls st h Q ↔ Runs 125 104 ls (.int 5 :: st) h Q := R_iconst rfl rfl
theorem s125_104 : Runs 125 104 ls (.int 5 :: st) (n, tg, ln, I, J, O) Q ↔ Runs 125 106 ls (.ref n :: st) (znew (n, tg, ln, I, J, O) 20 5) Q := R_newai rfl (by decide) (by decide)
theorem s125_106 : Runs 125 106 ls (.int i :: st) h Q ↔ Runs 125 107 ls (.int i :: .int i :: st) h Q := R_dupi rfl
theorem s125_106q : Runs 125 106 ls (.ref a :: st) h Q ↔ Runs 125 107 ls (.ref a :: .ref a :: st) h Q := R_dupr rfl
theorem s125_107 : Runs 125 107 ls st h Q ↔ Runs 125 108 ls (.int 0 :: st) h Q := R_iconst rfl rfl
theorem s125_108 : Runs 125 108 ls st h Q ↔ Runs 125 110 ls (.int 112 :: st) h Q := R_bipush rfl (by decide)
theorem s125_110 (ht : tg a = 20) : Runs 125 110 ls (.int j :: .int i :: .ref a :: st) (n, tg, ln, I, J, O) Q ↔ ((0 ≤ i ∧ i < Int32.ofNat (ln a)) ∧ Runs 125 111 ls st (n, tg, ln, zu I a i j, J, O) Q) := R_iast rfl ht
theorem s125_111 : Runs 125 111 ls (.int i :: st) h Q ↔ Runs 125 112 ls (.int i :: .int i :: st) h Q := R_dupi rfl
theorem s125_111q : Runs 125 111 ls (.ref a :: st) h Q ↔ Runs 125 112 ls (.ref a :: .ref a :: st) h Q := R_dupr rfl
theorem s125_112 : Runs 125 112 ls st h Q ↔ Runs 125 113 ls (.int 1 :: st) h Q := R_iconst rfl rfl
theorem s125_113 : Runs 125 113 ls st h Q ↔ Runs 125 115 ls (.int 108 :: st) h Q := R_bipush rfl (by decide)
theorem s125_115 (ht : tg a = 20) : Runs 125 115 ls (.int j :: .int i :: .ref a :: st) (n, tg, ln, I, J, O) Q ↔ ((0 ≤ i ∧ i < Int32.ofNat (ln a)) ∧ Runs 125 116 ls st (n, tg, ln, zu I a i j, J, O) Q) := R_iast rfl ht
theorem s125_116 : Runs 125 116 ls (.int i :: st) h Q ↔ Runs 125 117 ls (.int i :: .int i :: st) h Q := R_dupi rfl
theorem s125_116q : Runs 125 116 ls (.ref a :: st) h Q ↔ Runs 125 117 ls (.ref a :: .ref a :: st) h Q := R_dupr rfl
theorem s125_117 : Runs 125 117 ls st h Q ↔ Runs 125 118 ls (.int 2 :: st) h Q := R_iconst rfl rfl
theorem s125_118 : Runs 125 118 ls st h Q ↔ Runs 125 120 ls (.int 97 :: st) h Q := R_bipush rfl (by decide)
theorem s125_120 (ht : tg a = 20) : Runs 125 120 ls (.int j :: .int i :: .ref a :: st) (n, tg, ln, I, J, O) Q ↔ ((0 ≤ i ∧ i < Int32.ofNat (ln a)) ∧ Runs 125 121 ls st (n, tg, ln, zu I a i j, J, O) Q) := R_iast rfl ht
theorem s125_121 : Runs 125 121 ls (.int i :: st) h Q ↔ Runs 125 122 ls (.int i :: .int i :: st) h Q := R_dupi rfl
theorem s125_121q : Runs 125 121 ls (.ref a :: st) h Q ↔ Runs 125 122 ls (.ref a :: .ref a :: st) h Q := R_dupr rfl
theorem s125_122 : Runs 125 122 ls st h Q ↔ Runs 125 123 ls (.int 3 :: st) h Q := R_iconst rfl rfl
theorem s125_123 : Runs 125 123 ls st h Q ↔ Runs 125 125 ls (.int 105 :: st) h Q := R_bipush rfl (by decide)
theorem s125_125 (ht : tg a = 20) : Runs 125 125 ls (.int j :: .int i :: .ref a :: st) (n, tg, ln, I, J, O) Q ↔ ((0 ≤ i ∧ i < Int32.ofNat (ln a)) ∧ Runs 125 126 ls st (n, tg, ln, zu I a i j, J, O) Q) := R_iast rfl ht
theorem s125_126 : Runs 125 126 ls (.int i :: st) h Q ↔ Runs 125 127 ls (.int i :: .int i :: st) h Q := R_dupi rfl
theorem s125_126q : Runs 125 126 ls (.ref a :: st) h Q ↔ Runs 125 127 ls (.ref a :: .ref a :: st) h Q := R_dupr rfl
theorem s125_127 : Runs 125 127 ls st h Q ↔ Runs 125 128 ls (.int 4 :: st) h Q := R_iconst rfl rfl
theorem s125_128 : Runs 125 128 ls st h Q ↔ Runs 125 130 ls (.int 110 :: st) h Q := R_bipush rfl (by decide)
theorem s125_130 (ht : tg a = 20) : Runs 125 130 ls (.int j :: .int i :: .ref a :: st) (n, tg, ln, I, J, O) Q ↔ ((0 ≤ i ∧ i < Int32.ofNat (ln a)) ∧ Runs 125 131 ls st (n, tg, ln, zu I a i j, J, O) Q) := R_iast rfl ht
theorem s125_131 (ht : tg a = 10) : Runs 125 131 ls (zrf r :: .ref a :: st) (n, tg, ln, I, J, O) Q ↔ Runs 125 134 ls st (n, tg, ln, I, J, zu O a 19 r) Q := R_putr rfl rfl rfl rfl rfl ht
theorem s125_131q (ht : tg a = 10) : Runs 125 131 ls (.ref b :: .ref a :: st) (n, tg, ln, I, J, O) Q ↔ Runs 125 134 ls st (n, tg, ln, I, J, zu O a 19 (some b)) Q := R_putr (x := some b) rfl rfl rfl rfl rfl ht
theorem s125_134 : Runs 125 134 [some (.ref a)] st h Q ↔ Runs 125 135 [some (.ref a)] (.ref a :: st) h Q := R_aldn rfl rfl
theorem s125_134q : Runs 125 134 [some (zrf r)] st h Q ↔ Runs 125 135 [some (zrf r)] (zrf r :: st) h Q := R_aldnq rfl rfl
theorem s125_135 : Runs 125 135 ls st h Q ↔ Runs 125 137 ls (.int 6 :: st) h Q := R_bipush rfl (by decide)
theorem s125_137 : Runs 125 137 ls (.int 6 :: st) (n, tg, ln, I, J, O) Q ↔ Runs 125 139 ls (.ref n :: st) (znew (n, tg, ln, I, J, O) 20 6) Q := R_newai rfl (by decide) (by decide)
theorem s125_139 : Runs 125 139 ls (.int i :: st) h Q ↔ Runs 125 140 ls (.int i :: .int i :: st) h Q := R_dupi rfl
theorem s125_139q : Runs 125 139 ls (.ref a :: st) h Q ↔ Runs 125 140 ls (.ref a :: .ref a :: st) h Q := R_dupr rfl
theorem s125_140 : Runs 125 140 ls st h Q ↔ Runs 125 141 ls (.int 0 :: st) h Q := R_iconst rfl rfl
theorem s125_141 : Runs 125 141 ls st h Q ↔ Runs 125 143 ls (.int 112 :: st) h Q := R_bipush rfl (by decide)
theorem s125_143 (ht : tg a = 20) : Runs 125 143 ls (.int j :: .int i :: .ref a :: st) (n, tg, ln, I, J, O) Q ↔ ((0 ≤ i ∧ i < Int32.ofNat (ln a)) ∧ Runs 125 144 ls st (n, tg, ln, zu I a i j, J, O) Q) := R_iast rfl ht
theorem s125_144 : Runs 125 144 ls (.int i :: st) h Q ↔ Runs 125 145 ls (.int i :: .int i :: st) h Q := R_dupi rfl
theorem s125_144q : Runs 125 144 ls (.ref a :: st) h Q ↔ Runs 125 145 ls (.ref a :: .ref a :: st) h Q := R_dupr rfl
theorem s125_145 : Runs 125 145 ls st h Q ↔ Runs 125 146 ls (.int 1 :: st) h Q := R_iconst rfl rfl
theorem s125_146 : Runs 125 146 ls st h Q ↔ Runs 125 148 ls (.int 111 :: st) h Q := R_bipush rfl (by decide)
theorem s125_148 (ht : tg a = 20) : Runs 125 148 ls (.int j :: .int i :: .ref a :: st) (n, tg, ln, I, J, O) Q ↔ ((0 ≤ i ∧ i < Int32.ofNat (ln a)) ∧ Runs 125 149 ls st (n, tg, ln, zu I a i j, J, O) Q) := R_iast rfl ht
theorem s125_149 : Runs 125 149 ls (.int i :: st) h Q ↔ Runs 125 150 ls (.int i :: .int i :: st) h Q := R_dupi rfl
theorem s125_149q : Runs 125 149 ls (.ref a :: st) h Q ↔ Runs 125 150 ls (.ref a :: .ref a :: st) h Q := R_dupr rfl
theorem s125_150 : Runs 125 150 ls st h Q ↔ Runs 125 151 ls (.int 2 :: st) h Q := R_iconst rfl rfl
theorem s125_151 : Runs 125 151 ls st h Q ↔ Runs 125 153 ls (.int 112 :: st) h Q := R_bipush rfl (by decide)
theorem s125_153 (ht : tg a = 20) : Runs 125 153 ls (.int j :: .int i :: .ref a :: st) (n, tg, ln, I, J, O) Q ↔ ((0 ≤ i ∧ i < Int32.ofNat (ln a)) ∧ Runs 125 154 ls st (n, tg, ln, zu I a i j, J, O) Q) := R_iast rfl ht
theorem s125_154 : Runs 125 154 ls (.int i :: st) h Q ↔ Runs 125 155 ls (.int i :: .int i :: st) h Q := R_dupi rfl
theorem s125_154q : Runs 125 154 ls (.ref a :: st) h Q ↔ Runs 125 155 ls (.ref a :: .ref a :: st) h Q := R_dupr rfl
theorem s125_155 : Runs 125 155 ls st h Q ↔ Runs 125 156 ls (.int 3 :: st) h Q := R_iconst rfl rfl
theorem s125_156 : Runs 125 156 ls st h Q ↔ Runs 125 158 ls (.int 108 :: st) h Q := R_bipush rfl (by decide)
theorem s125_158 (ht : tg a = 20) : Runs 125 158 ls (.int j :: .int i :: .ref a :: st) (n, tg, ln, I, J, O) Q ↔ ((0 ≤ i ∧ i < Int32.ofNat (ln a)) ∧ Runs 125 159 ls st (n, tg, ln, zu I a i j, J, O) Q) := R_iast rfl ht
theorem s125_159 : Runs 125 159 ls (.int i :: st) h Q ↔ Runs 125 160 ls (.int i :: .int i :: st) h Q := R_dupi rfl
theorem s125_159q : Runs 125 159 ls (.ref a :: st) h Q ↔ Runs 125 160 ls (.ref a :: .ref a :: st) h Q := R_dupr rfl
theorem s125_160 : Runs 125 160 ls st h Q ↔ Runs 125 161 ls (.int 4 :: st) h Q := R_iconst rfl rfl
theorem s125_161 : Runs 125 161 ls st h Q ↔ Runs 125 163 ls (.int 97 :: st) h Q := R_bipush rfl (by decide)
theorem s125_163 (ht : tg a = 20) : Runs 125 163 ls (.int j :: .int i :: .ref a :: st) (n, tg, ln, I, J, O) Q ↔ ((0 ≤ i ∧ i < Int32.ofNat (ln a)) ∧ Runs 125 164 ls st (n, tg, ln, zu I a i j, J, O) Q) := R_iast rfl ht
theorem s125_164 : Runs 125 164 ls (.int i :: st) h Q ↔ Runs 125 165 ls (.int i :: .int i :: st) h Q := R_dupi rfl
theorem s125_164q : Runs 125 164 ls (.ref a :: st) h Q ↔ Runs 125 165 ls (.ref a :: .ref a :: st) h Q := R_dupr rfl
theorem s125_165 : Runs 125 165 ls st h Q ↔ Runs 125 166 ls (.int 5 :: st) h Q := R_iconst rfl rfl
theorem s125_166 : Runs 125 166 ls st h Q ↔ Runs 125 168 ls (.int 114 :: st) h Q := R_bipush rfl (by decide)
theorem s125_168 (ht : tg a = 20) : Runs 125 168 ls (.int j :: .int i :: .ref a :: st) (n, tg, ln, I, J, O) Q ↔ ((0 ≤ i ∧ i < Int32.ofNat (ln a)) ∧ Runs 125 169 ls st (n, tg, ln, zu I a i j, J, O) Q) := R_iast rfl ht
theorem s125_169 (ht : tg a = 10) : Runs 125 169 ls (zrf r :: .ref a :: st) (n, tg, ln, I, J, O) Q ↔ Runs 125 172 ls st (n, tg, ln, I, J, zu O a 20 r) Q := R_putr rfl rfl rfl rfl rfl ht
theorem s125_169q (ht : tg a = 10) : Runs 125 169 ls (.ref b :: .ref a :: st) (n, tg, ln, I, J, O) Q ↔ Runs 125 172 ls st (n, tg, ln, I, J, zu O a 20 (some b)) Q := R_putr (x := some b) rfl rfl rfl rfl rfl ht
theorem s125_172 : Runs 125 172 [some (.ref a)] st h Q ↔ Runs 125 173 [some (.ref a)] (.ref a :: st) h Q := R_aldn rfl rfl
theorem s125_172q : Runs 125 172 [some (zrf r)] st h Q ↔ Runs 125 173 [some (zrf r)] (zrf r :: st) h Q := R_aldnq rfl rfl
theorem s125_173 : Runs 125 173 ls st h Q ↔ Runs 125 175 ls (.int 6 :: st) h Q := R_bipush rfl (by decide)
theorem s125_175 : Runs 125 175 ls (.int 6 :: st) (n, tg, ln, I, J, O) Q ↔ Runs 125 177 ls (.ref n :: st) (znew (n, tg, ln, I, J, O) 20 6) Q := R_newai rfl (by decide) (by decide)
theorem s125_177 : Runs 125 177 ls (.int i :: st) h Q ↔ Runs 125 178 ls (.int i :: .int i :: st) h Q := R_dupi rfl
theorem s125_177q : Runs 125 177 ls (.ref a :: st) h Q ↔ Runs 125 178 ls (.ref a :: .ref a :: st) h Q := R_dupr rfl
theorem s125_178 : Runs 125 178 ls st h Q ↔ Runs 125 179 ls (.int 0 :: st) h Q := R_iconst rfl rfl
theorem s125_179 : Runs 125 179 ls st h Q ↔ Runs 125 181 ls (.int 112 :: st) h Q := R_bipush rfl (by decide)
theorem s125_181 (ht : tg a = 20) : Runs 125 181 ls (.int j :: .int i :: .ref a :: st) (n, tg, ln, I, J, O) Q ↔ ((0 ≤ i ∧ i < Int32.ofNat (ln a)) ∧ Runs 125 182 ls st (n, tg, ln, zu I a i j, J, O) Q) := R_iast rfl ht
theorem s125_182 : Runs 125 182 ls (.int i :: st) h Q ↔ Runs 125 183 ls (.int i :: .int i :: st) h Q := R_dupi rfl
theorem s125_182q : Runs 125 182 ls (.ref a :: st) h Q ↔ Runs 125 183 ls (.ref a :: .ref a :: st) h Q := R_dupr rfl
theorem s125_183 : Runs 125 183 ls st h Q ↔ Runs 125 184 ls (.int 1 :: st) h Q := R_iconst rfl rfl
theorem s125_184 : Runs 125 184 ls st h Q ↔ Runs 125 186 ls (.int 117 :: st) h Q := R_bipush rfl (by decide)
theorem s125_186 (ht : tg a = 20) : Runs 125 186 ls (.int j :: .int i :: .ref a :: st) (n, tg, ln, I, J, O) Q ↔ ((0 ≤ i ∧ i < Int32.ofNat (ln a)) ∧ Runs 125 187 ls st (n, tg, ln, zu I a i j, J, O) Q) := R_iast rfl ht
theorem s125_187 : Runs 125 187 ls (.int i :: st) h Q ↔ Runs 125 188 ls (.int i :: .int i :: st) h Q := R_dupi rfl
theorem s125_187q : Runs 125 187 ls (.ref a :: st) h Q ↔ Runs 125 188 ls (.ref a :: .ref a :: st) h Q := R_dupr rfl
theorem s125_188 : Runs 125 188 ls st h Q ↔ Runs 125 189 ls (.int 2 :: st) h Q := R_iconst rfl rfl
theorem s125_189 : Runs 125 189 ls st h Q ↔ Runs 125 191 ls (.int 115 :: st) h Q := R_bipush rfl (by decide)
theorem s125_191 (ht : tg a = 20) : Runs 125 191 ls (.int j :: .int i :: .ref a :: st) (n, tg, ln, I, J, O) Q ↔ ((0 ≤ i ∧ i < Int32.ofNat (ln a)) ∧ Runs 125 192 ls st (n, tg, ln, zu I a i j, J, O) Q) := R_iast rfl ht
theorem s125_192 : Runs 125 192 ls (.int i :: st) h Q ↔ Runs 125 193 ls (.int i :: .int i :: st) h Q := R_dupi rfl
theorem s125_192q : Runs 125 192 ls (.ref a :: st) h Q ↔ Runs 125 193 ls (.ref a :: .ref a :: st) h Q := R_dupr rfl
theorem s125_193 : Runs 125 193 ls st h Q ↔ Runs 125 194 ls (.int 3 :: st) h Q := R_iconst rfl rfl
theorem s125_194 : Runs 125 194 ls st h Q ↔ Runs 125 196 ls (.int 104 :: st) h Q := R_bipush rfl (by decide)
theorem s125_196 (ht : tg a = 20) : Runs 125 196 ls (.int j :: .int i :: .ref a :: st) (n, tg, ln, I, J, O) Q ↔ ((0 ≤ i ∧ i < Int32.ofNat (ln a)) ∧ Runs 125 197 ls st (n, tg, ln, zu I a i j, J, O) Q) := R_iast rfl ht
theorem s125_197 : Runs 125 197 ls (.int i :: st) h Q ↔ Runs 125 198 ls (.int i :: .int i :: st) h Q := R_dupi rfl
theorem s125_197q : Runs 125 197 ls (.ref a :: st) h Q ↔ Runs 125 198 ls (.ref a :: .ref a :: st) h Q := R_dupr rfl
theorem s125_198 : Runs 125 198 ls st h Q ↔ Runs 125 199 ls (.int 4 :: st) h Q := R_iconst rfl rfl
theorem s125_199 : Runs 125 199 ls st h Q ↔ Runs 125 201 ls (.int 101 :: st) h Q := R_bipush rfl (by decide)
theorem s125_201 (ht : tg a = 20) : Runs 125 201 ls (.int j :: .int i :: .ref a :: st) (n, tg, ln, I, J, O) Q ↔ ((0 ≤ i ∧ i < Int32.ofNat (ln a)) ∧ Runs 125 202 ls st (n, tg, ln, zu I a i j, J, O) Q) := R_iast rfl ht
theorem s125_202 : Runs 125 202 ls (.int i :: st) h Q ↔ Runs 125 203 ls (.int i :: .int i :: st) h Q := R_dupi rfl
theorem s125_202q : Runs 125 202 ls (.ref a :: st) h Q ↔ Runs 125 203 ls (.ref a :: .ref a :: st) h Q := R_dupr rfl
theorem s125_203 : Runs 125 203 ls st h Q ↔ Runs 125 204 ls (.int 5 :: st) h Q := R_iconst rfl rfl
theorem s125_204 : Runs 125 204 ls st h Q ↔ Runs 125 206 ls (.int 114 :: st) h Q := R_bipush rfl (by decide)
theorem s125_206 (ht : tg a = 20) : Runs 125 206 ls (.int j :: .int i :: .ref a :: st) (n, tg, ln, I, J, O) Q ↔ ((0 ≤ i ∧ i < Int32.ofNat (ln a)) ∧ Runs 125 207 ls st (n, tg, ln, zu I a i j, J, O) Q) := R_iast rfl ht
theorem s125_207 (ht : tg a = 10) : Runs 125 207 ls (zrf r :: .ref a :: st) (n, tg, ln, I, J, O) Q ↔ Runs 125 210 ls st (n, tg, ln, I, J, zu O a 21 r) Q := R_putr rfl rfl rfl rfl rfl ht
theorem s125_207q (ht : tg a = 10) : Runs 125 207 ls (.ref b :: .ref a :: st) (n, tg, ln, I, J, O) Q ↔ Runs 125 210 ls st (n, tg, ln, I, J, zu O a 21 (some b)) Q := R_putr (x := some b) rfl rfl rfl rfl rfl ht
theorem s125_210 : Runs 125 210 [some (.ref a)] st h Q ↔ Runs 125 211 [some (.ref a)] (.ref a :: st) h Q := R_aldn rfl rfl
theorem s125_210q : Runs 125 210 [some (zrf r)] st h Q ↔ Runs 125 211 [some (zrf r)] (zrf r :: st) h Q := R_aldnq rfl rfl
theorem s125_211 : Runs 125 211 ls st h Q ↔ Runs 125 212 ls (.int 3 :: st) h Q := R_iconst rfl rfl
theorem s125_212 : Runs 125 212 ls (.int 3 :: st) (n, tg, ln, I, J, O) Q ↔ Runs 125 214 ls (.ref n :: st) (znew (n, tg, ln, I, J, O) 20 3) Q := R_newai rfl (by decide) (by decide)
theorem s125_214 : Runs 125 214 ls (.int i :: st) h Q ↔ Runs 125 215 ls (.int i :: .int i :: st) h Q := R_dupi rfl
theorem s125_214q : Runs 125 214 ls (.ref a :: st) h Q ↔ Runs 125 215 ls (.ref a :: .ref a :: st) h Q := R_dupr rfl
theorem s125_215 : Runs 125 215 ls st h Q ↔ Runs 125 216 ls (.int 0 :: st) h Q := R_iconst rfl rfl
theorem s125_216 : Runs 125 216 ls st h Q ↔ Runs 125 218 ls (.int 111 :: st) h Q := R_bipush rfl (by decide)
theorem s125_218 (ht : tg a = 20) : Runs 125 218 ls (.int j :: .int i :: .ref a :: st) (n, tg, ln, I, J, O) Q ↔ ((0 ≤ i ∧ i < Int32.ofNat (ln a)) ∧ Runs 125 219 ls st (n, tg, ln, zu I a i j, J, O) Q) := R_iast rfl ht
theorem s125_219 : Runs 125 219 ls (.int i :: st) h Q ↔ Runs 125 220 ls (.int i :: .int i :: st) h Q := R_dupi rfl
theorem s125_219q : Runs 125 219 ls (.ref a :: st) h Q ↔ Runs 125 220 ls (.ref a :: .ref a :: st) h Q := R_dupr rfl
theorem s125_220 : Runs 125 220 ls st h Q ↔ Runs 125 221 ls (.int 1 :: st) h Q := R_iconst rfl rfl
theorem s125_221 : Runs 125 221 ls st h Q ↔ Runs 125 223 ls (.int 108 :: st) h Q := R_bipush rfl (by decide)
theorem s125_223 (ht : tg a = 20) : Runs 125 223 ls (.int j :: .int i :: .ref a :: st) (n, tg, ln, I, J, O) Q ↔ ((0 ≤ i ∧ i < Int32.ofNat (ln a)) ∧ Runs 125 224 ls st (n, tg, ln, zu I a i j, J, O) Q) := R_iast rfl ht
theorem s125_224 : Runs 125 224 ls (.int i :: st) h Q ↔ Runs 125 225 ls (.int i :: .int i :: st) h Q := R_dupi rfl
theorem s125_224q : Runs 125 224 ls (.ref a :: st) h Q ↔ Runs 125 225 ls (.ref a :: .ref a :: st) h Q := R_dupr rfl
theorem s125_225 : Runs 125 225 ls st h Q ↔ Runs 125 226 ls (.int 2 :: st) h Q := R_iconst rfl rfl
theorem s125_226 : Runs 125 226 ls st h Q ↔ Runs 125 228 ls (.int 100 :: st) h Q := R_bipush rfl (by decide)
theorem s125_228 (ht : tg a = 20) : Runs 125 228 ls (.int j :: .int i :: .ref a :: st) (n, tg, ln, I, J, O) Q ↔ ((0 ≤ i ∧ i < Int32.ofNat (ln a)) ∧ Runs 125 229 ls st (n, tg, ln, zu I a i j, J, O) Q) := R_iast rfl ht
theorem s125_229 (ht : tg a = 10) : Runs 125 229 ls (zrf r :: .ref a :: st) (n, tg, ln, I, J, O) Q ↔ Runs 125 232 ls st (n, tg, ln, I, J, zu O a 22 r) Q := R_putr rfl rfl rfl rfl rfl ht
theorem s125_229q (ht : tg a = 10) : Runs 125 229 ls (.ref b :: .ref a :: st) (n, tg, ln, I, J, O) Q ↔ Runs 125 232 ls st (n, tg, ln, I, J, zu O a 22 (some b)) Q := R_putr (x := some b) rfl rfl rfl rfl rfl ht
theorem s125_232 : Runs 125 232 [some (.ref a)] st h Q ↔ Runs 125 233 [some (.ref a)] (.ref a :: st) h Q := R_aldn rfl rfl
theorem s125_232q : Runs 125 232 [some (zrf r)] st h Q ↔ Runs 125 233 [some (zrf r)] (zrf r :: st) h Q := R_aldnq rfl rfl
theorem s125_233 : Runs 125 233 ls st h Q ↔ Runs 125 234 ls (.int 5 :: st) h Q := R_iconst rfl rfl
theorem s125_234 : Runs 125 234 ls (.int 5 :: st) (n, tg, ln, I, J, O) Q ↔ Runs 125 236 ls (.ref n :: st) (znew (n, tg, ln, I, J, O) 20 5) Q := R_newai rfl (by decide) (by decide)
theorem s125_236 : Runs 125 236 ls (.int i :: st) h Q ↔ Runs 125 237 ls (.int i :: .int i :: st) h Q := R_dupi rfl
theorem s125_236q : Runs 125 236 ls (.ref a :: st) h Q ↔ Runs 125 237 ls (.ref a :: .ref a :: st) h Q := R_dupr rfl
theorem s125_237 : Runs 125 237 ls st h Q ↔ Runs 125 238 ls (.int 0 :: st) h Q := R_iconst rfl rfl
theorem s125_238 : Runs 125 238 ls st h Q ↔ Runs 125 240 ls (.int 115 :: st) h Q := R_bipush rfl (by decide)
theorem s125_240 (ht : tg a = 20) : Runs 125 240 ls (.int j :: .int i :: .ref a :: st) (n, tg, ln, I, J, O) Q ↔ ((0 ≤ i ∧ i < Int32.ofNat (ln a)) ∧ Runs 125 241 ls st (n, tg, ln, zu I a i j, J, O) Q) := R_iast rfl ht
theorem s125_241 : Runs 125 241 ls (.int i :: st) h Q ↔ Runs 125 242 ls (.int i :: .int i :: st) h Q := R_dupi rfl
theorem s125_241q : Runs 125 241 ls (.ref a :: st) h Q ↔ Runs 125 242 ls (.ref a :: .ref a :: st) h Q := R_dupr rfl
theorem s125_242 : Runs 125 242 ls st h Q ↔ Runs 125 243 ls (.int 1 :: st) h Q := R_iconst rfl rfl
theorem s125_243 : Runs 125 243 ls st h Q ↔ Runs 125 245 ls (.int 116 :: st) h Q := R_bipush rfl (by decide)
theorem s125_245 (ht : tg a = 20) : Runs 125 245 ls (.int j :: .int i :: .ref a :: st) (n, tg, ln, I, J, O) Q ↔ ((0 ≤ i ∧ i < Int32.ofNat (ln a)) ∧ Runs 125 246 ls st (n, tg, ln, zu I a i j, J, O) Q) := R_iast rfl ht
theorem s125_246 : Runs 125 246 ls (.int i :: st) h Q ↔ Runs 125 247 ls (.int i :: .int i :: st) h Q := R_dupi rfl
theorem s125_246q : Runs 125 246 ls (.ref a :: st) h Q ↔ Runs 125 247 ls (.ref a :: .ref a :: st) h Q := R_dupr rfl
theorem s125_247 : Runs 125 247 ls st h Q ↔ Runs 125 248 ls (.int 2 :: st) h Q := R_iconst rfl rfl
theorem s125_248 : Runs 125 248 ls st h Q ↔ Runs 125 250 ls (.int 117 :: st) h Q := R_bipush rfl (by decide)
theorem s125_250 (ht : tg a = 20) : Runs 125 250 ls (.int j :: .int i :: .ref a :: st) (n, tg, ln, I, J, O) Q ↔ ((0 ≤ i ∧ i < Int32.ofNat (ln a)) ∧ Runs 125 251 ls st (n, tg, ln, zu I a i j, J, O) Q) := R_iast rfl ht
theorem s125_251 : Runs 125 251 ls (.int i :: st) h Q ↔ Runs 125 252 ls (.int i :: .int i :: st) h Q := R_dupi rfl
theorem s125_251q : Runs 125 251 ls (.ref a :: st) h Q ↔ Runs 125 252 ls (.ref a :: .ref a :: st) h Q := R_dupr rfl
theorem s125_252 : Runs 125 252 ls st h Q ↔ Runs 125 253 ls (.int 3 :: st) h Q := R_iconst rfl rfl
theorem s125_253 : Runs 125 253 ls st h Q ↔ Runs 125 255 ls (.int 109 :: st) h Q := R_bipush rfl (by decide)
theorem s125_255 (ht : tg a = 20) : Runs 125 255 ls (.int j :: .int i :: .ref a :: st) (n, tg, ln, I, J, O) Q ↔ ((0 ≤ i ∧ i < Int32.ofNat (ln a)) ∧ Runs 125 256 ls st (n, tg, ln, zu I a i j, J, O) Q) := R_iast rfl ht
theorem s125_256 : Runs 125 256 ls (.int i :: st) h Q ↔ Runs 125 257 ls (.int i :: .int i :: st) h Q := R_dupi rfl
theorem s125_256q : Runs 125 256 ls (.ref a :: st) h Q ↔ Runs 125 257 ls (.ref a :: .ref a :: st) h Q := R_dupr rfl
theorem s125_257 : Runs 125 257 ls st h Q ↔ Runs 125 258 ls (.int 4 :: st) h Q := R_iconst rfl rfl
theorem s125_258 : Runs 125 258 ls st h Q ↔ Runs 125 260 ls (.int 112 :: st) h Q := R_bipush rfl (by decide)
theorem s125_260 (ht : tg a = 20) : Runs 125 260 ls (.int j :: .int i :: .ref a :: st) (n, tg, ln, I, J, O) Q ↔ ((0 ≤ i ∧ i < Int32.ofNat (ln a)) ∧ Runs 125 261 ls st (n, tg, ln, zu I a i j, J, O) Q) := R_iast rfl ht
theorem s125_261 (ht : tg a = 10) : Runs 125 261 ls (zrf r :: .ref a :: st) (n, tg, ln, I, J, O) Q ↔ Runs 125 264 ls st (n, tg, ln, I, J, zu O a 23 r) Q := R_putr rfl rfl rfl rfl rfl ht
theorem s125_261q (ht : tg a = 10) : Runs 125 261 ls (.ref b :: .ref a :: st) (n, tg, ln, I, J, O) Q ↔ Runs 125 264 ls st (n, tg, ln, I, J, zu O a 23 (some b)) Q := R_putr (x := some b) rfl rfl rfl rfl rfl ht
theorem s125_264 : Runs 125 264 [some (.ref a)] st h Q ↔ Runs 125 265 [some (.ref a)] (.ref a :: st) h Q := R_aldn rfl rfl
theorem s125_264q : Runs 125 264 [some (zrf r)] st h Q ↔ Runs 125 265 [some (zrf r)] (zrf r :: st) h Q := R_aldnq rfl rfl
theorem s125_265 : Runs 125 265 ls st h Q ↔ Runs 125 266 ls (.int 3 :: st) h Q := R_iconst rfl rfl
theorem s125_266 : Runs 125 266 ls (.int 3 :: st) (n, tg, ln, I, J, O) Q ↔ Runs 125 268 ls (.ref n :: st) (znew (n, tg, ln, I, J, O) 20 3) Q := R_newai rfl (by decide) (by decide)
theorem s125_268 : Runs 125 268 ls (.int i :: st) h Q ↔ Runs 125 269 ls (.int i :: .int i :: st) h Q := R_dupi rfl
theorem s125_268q : Runs 125 268 ls (.ref a :: st) h Q ↔ Runs 125 269 ls (.ref a :: .ref a :: st) h Q := R_dupr rfl
theorem s125_269 : Runs 125 269 ls st h Q ↔ Runs 125 270 ls (.int 0 :: st) h Q := R_iconst rfl rfl
theorem s125_270 : Runs 125 270 ls st h Q ↔ Runs 125 272 ls (.int 103 :: st) h Q := R_bipush rfl (by decide)
theorem s125_272 (ht : tg a = 20) : Runs 125 272 ls (.int j :: .int i :: .ref a :: st) (n, tg, ln, I, J, O) Q ↔ ((0 ≤ i ∧ i < Int32.ofNat (ln a)) ∧ Runs 125 273 ls st (n, tg, ln, zu I a i j, J, O) Q) := R_iast rfl ht
theorem s125_273 : Runs 125 273 ls (.int i :: st) h Q ↔ Runs 125 274 ls (.int i :: .int i :: st) h Q := R_dupi rfl
theorem s125_273q : Runs 125 273 ls (.ref a :: st) h Q ↔ Runs 125 274 ls (.ref a :: .ref a :: st) h Q := R_dupr rfl
theorem s125_274 : Runs 125 274 ls st h Q ↔ Runs 125 275 ls (.int 1 :: st) h Q := R_iconst rfl rfl
theorem s125_275 : Runs 125 275 ls st h Q ↔ Runs 125 277 ls (.int 97 :: st) h Q := R_bipush rfl (by decide)
theorem s125_277 (ht : tg a = 20) : Runs 125 277 ls (.int j :: .int i :: .ref a :: st) (n, tg, ln, I, J, O) Q ↔ ((0 ≤ i ∧ i < Int32.ofNat (ln a)) ∧ Runs 125 278 ls st (n, tg, ln, zu I a i j, J, O) Q) := R_iast rfl ht
theorem s125_278 : Runs 125 278 ls (.int i :: st) h Q ↔ Runs 125 279 ls (.int i :: .int i :: st) h Q := R_dupi rfl
theorem s125_278q : Runs 125 278 ls (.ref a :: st) h Q ↔ Runs 125 279 ls (.ref a :: .ref a :: st) h Q := R_dupr rfl
theorem s125_279 : Runs 125 279 ls st h Q ↔ Runs 125 280 ls (.int 2 :: st) h Q := R_iconst rfl rfl
theorem s125_280 : Runs 125 280 ls st h Q ↔ Runs 125 282 ls (.int 112 :: st) h Q := R_bipush rfl (by decide)
theorem s125_282 (ht : tg a = 20) : Runs 125 282 ls (.int j :: .int i :: .ref a :: st) (n, tg, ln, I, J, O) Q ↔ ((0 ≤ i ∧ i < Int32.ofNat (ln a)) ∧ Runs 125 283 ls st (n, tg, ln, zu I a i j, J, O) Q) := R_iast rfl ht
theorem s125_283 (ht : tg a = 10) : Runs 125 283 ls (zrf r :: .ref a :: st) (n, tg, ln, I, J, O) Q ↔ Runs 125 286 ls st (n, tg, ln, I, J, zu O a 24 r) Q := R_putr rfl rfl rfl rfl rfl ht
theorem s125_283q (ht : tg a = 10) : Runs 125 283 ls (.ref b :: .ref a :: st) (n, tg, ln, I, J, O) Q ↔ Runs 125 286 ls st (n, tg, ln, I, J, zu O a 24 (some b)) Q := R_putr (x := some b) rfl rfl rfl rfl rfl ht
theorem s125_286 : Runs 125 286 [some (.ref a)] st h Q ↔ Runs 125 287 [some (.ref a)] (.ref a :: st) h Q := R_aldn rfl rfl
theorem s125_286q : Runs 125 286 [some (zrf r)] st h Q ↔ Runs 125 287 [some (zrf r)] (zrf r :: st) h Q := R_aldnq rfl rfl
theorem s125_287 : Runs 125 287 ls st h Q ↔ Runs 125 288 ls (.int 3 :: st) h Q := R_iconst rfl rfl
theorem s125_288 : Runs 125 288 ls (.int 3 :: st) (n, tg, ln, I, J, O) Q ↔ Runs 125 290 ls (.ref n :: st) (znew (n, tg, ln, I, J, O) 20 3) Q := R_newai rfl (by decide) (by decide)
theorem s125_290 : Runs 125 290 ls (.int i :: st) h Q ↔ Runs 125 291 ls (.int i :: .int i :: st) h Q := R_dupi rfl
theorem s125_290q : Runs 125 290 ls (.ref a :: st) h Q ↔ Runs 125 291 ls (.ref a :: .ref a :: st) h Q := R_dupr rfl
theorem s125_291 : Runs 125 291 ls st h Q ↔ Runs 125 292 ls (.int 0 :: st) h Q := R_iconst rfl rfl
theorem s125_292 : Runs 125 292 ls st h Q ↔ Runs 125 294 ls (.int 108 :: st) h Q := R_bipush rfl (by decide)
theorem s125_294 (ht : tg a = 20) : Runs 125 294 ls (.int j :: .int i :: .ref a :: st) (n, tg, ln, I, J, O) Q ↔ ((0 ≤ i ∧ i < Int32.ofNat (ln a)) ∧ Runs 125 295 ls st (n, tg, ln, zu I a i j, J, O) Q) := R_iast rfl ht
theorem s125_295 : Runs 125 295 ls (.int i :: st) h Q ↔ Runs 125 296 ls (.int i :: .int i :: st) h Q := R_dupi rfl
theorem s125_295q : Runs 125 295 ls (.ref a :: st) h Q ↔ Runs 125 296 ls (.ref a :: .ref a :: st) h Q := R_dupr rfl
theorem s125_296 : Runs 125 296 ls st h Q ↔ Runs 125 297 ls (.int 1 :: st) h Q := R_iconst rfl rfl
theorem s125_297 : Runs 125 297 ls st h Q ↔ Runs 125 299 ls (.int 97 :: st) h Q := R_bipush rfl (by decide)
theorem s125_299 (ht : tg a = 20) : Runs 125 299 ls (.int j :: .int i :: .ref a :: st) (n, tg, ln, I, J, O) Q ↔ ((0 ≤ i ∧ i < Int32.ofNat (ln a)) ∧ Runs 125 300 ls st (n, tg, ln, zu I a i j, J, O) Q) := R_iast rfl ht
theorem s125_300 : Runs 125 300 ls (.int i :: st) h Q ↔ Runs 125 301 ls (.int i :: .int i :: st) h Q := R_dupi rfl
theorem s125_300q : Runs 125 300 ls (.ref a :: st) h Q ↔ Runs 125 301 ls (.ref a :: .ref a :: st) h Q := R_dupr rfl
theorem s125_301 : Runs 125 301 ls st h Q ↔ Runs 125 302 ls (.int 2 :: st) h Q := R_iconst rfl rfl
theorem s125_302 : Runs 125 302 ls st h Q ↔ Runs 125 304 ls (.int 119 :: st) h Q := R_bipush rfl (by decide)
theorem s125_304 (ht : tg a = 20) : Runs 125 304 ls (.int j :: .int i :: .ref a :: st) (n, tg, ln, I, J, O) Q ↔ ((0 ≤ i ∧ i < Int32.ofNat (ln a)) ∧ Runs 125 305 ls st (n, tg, ln, zu I a i j, J, O) Q) := R_iast rfl ht
theorem s125_305 (ht : tg a = 10) : Runs 125 305 ls (zrf r :: .ref a :: st) (n, tg, ln, I, J, O) Q ↔ Runs 125 308 ls st (n, tg, ln, I, J, zu O a 25 r) Q := R_putr rfl rfl rfl rfl rfl ht
theorem s125_305q (ht : tg a = 10) : Runs 125 305 ls (.ref b :: .ref a :: st) (n, tg, ln, I, J, O) Q ↔ Runs 125 308 ls st (n, tg, ln, I, J, zu O a 25 (some b)) Q := R_putr (x := some b) rfl rfl rfl rfl rfl ht
theorem s125_308 : Runs 125 308 [some (.ref a)] st h Q ↔ Runs 125 309 [some (.ref a)] (.ref a :: st) h Q := R_aldn rfl rfl
theorem s125_308q : Runs 125 308 [some (zrf r)] st h Q ↔ Runs 125 309 [some (zrf r)] (zrf r :: st) h Q := R_aldnq rfl rfl
theorem s125_309 : Runs 125 309 ls st h Q ↔ Runs 125 311 ls (.int 12 :: st) h Q := R_bipush rfl (by decide)
theorem s125_311 : Runs 125 311 ls (.int 12 :: st) (n, tg, ln, I, J, O) Q ↔ Runs 125 313 ls (.ref n :: st) (znew (n, tg, ln, I, J, O) 20 12) Q := R_newai rfl (by decide) (by decide)
theorem s125_313 (ht : tg a = 10) : Runs 125 313 ls (zrf r :: .ref a :: st) (n, tg, ln, I, J, O) Q ↔ Runs 125 316 ls st (n, tg, ln, I, J, zu O a 26 r) Q := R_putr rfl rfl rfl rfl rfl ht
theorem s125_313q (ht : tg a = 10) : Runs 125 313 ls (.ref b :: .ref a :: st) (n, tg, ln, I, J, O) Q ↔ Runs 125 316 ls st (n, tg, ln, I, J, zu O a 26 (some b)) Q := R_putr (x := some b) rfl rfl rfl rfl rfl ht
theorem s125_316 : Runs 125 316 [some (.ref a)] st h Q ↔ Runs 125 317 [some (.ref a)] (.ref a :: st) h Q := R_aldn rfl rfl
theorem s125_316q : Runs 125 316 [some (zrf r)] st h Q ↔ Runs 125 317 [some (zrf r)] (zrf r :: st) h Q := R_aldnq rfl rfl
theorem s125_317 : Runs 125 317 ls st h Q ↔ Runs 125 319 ls (.int 12 :: st) h Q := R_bipush rfl (by decide)
theorem s125_319 : Runs 125 319 ls (.int 12 :: st) (n, tg, ln, I, J, O) Q ↔ Runs 125 321 ls (.ref n :: st) (znew (n, tg, ln, I, J, O) 20 12) Q := R_newai rfl (by decide) (by decide)
theorem s125_321 (ht : tg a = 10) : Runs 125 321 ls (zrf r :: .ref a :: st) (n, tg, ln, I, J, O) Q ↔ Runs 125 324 ls st (n, tg, ln, I, J, zu O a 27 r) Q := R_putr rfl rfl rfl rfl rfl ht
theorem s125_321q (ht : tg a = 10) : Runs 125 321 ls (.ref b :: .ref a :: st) (n, tg, ln, I, J, O) Q ↔ Runs 125 324 ls st (n, tg, ln, I, J, zu O a 27 (some b)) Q := R_putr (x := some b) rfl rfl rfl rfl rfl ht
theorem s125_324 : Runs 125 324 [some (.ref a)] st h Q ↔ Runs 125 325 [some (.ref a)] (.ref a :: st) h Q := R_aldn rfl rfl
theorem s125_324q : Runs 125 324 [some (zrf r)] st h Q ↔ Runs 125 325 [some (zrf r)] (zrf r :: st) h Q := R_aldnq rfl rfl
theorem s125_325 : Runs 125 325 ls st h Q ↔ Runs 125 327 ls (.int 12 :: st) h Q := R_bipush rfl (by decide)
theorem s125_327 : Runs 125 327 ls (.int 12 :: st) (n, tg, ln, I, J, O) Q ↔ Runs 125 329 ls (.ref n :: st) (znew (n, tg, ln, I, J, O) 21 12) Q := R_newal rfl (by decide) (by decide)
theorem s125_329 (ht : tg a = 10) : Runs 125 329 ls (zrf r :: .ref a :: st) (n, tg, ln, I, J, O) Q ↔ Runs 125 332 ls st (n, tg, ln, I, J, zu O a 28 r) Q := R_putr rfl rfl rfl rfl rfl ht
theorem s125_329q (ht : tg a = 10) : Runs 125 329 ls (.ref b :: .ref a :: st) (n, tg, ln, I, J, O) Q ↔ Runs 125 332 ls st (n, tg, ln, I, J, zu O a 28 (some b)) Q := R_putr (x := some b) rfl rfl rfl rfl rfl ht
theorem s125_332 : Runs 125 332 ls [] h Q ↔ Q none h := R_vret rfl rfl
theorem s21_7 : Runs 21 7 ls (.int 12 :: st) (n, tg, ln, I, J, O) Q ↔ Runs 21 9 ls (.ref n :: st) (znew (n, tg, ln, I, J, O) 20 12) Q := R_newai rfl (by decide) (by decide)
end ZROWS
