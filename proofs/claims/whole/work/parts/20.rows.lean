/-! ROWS OF THE SMALL MACHINE, an instruction each -/
theorem zsumc_nil : zsumc [] = 0 := rfl
theorem zsumc_i (x : Int32) (st : List Value) : zsumc (.int x :: st) = 1 + zsumc st := by simp [zsumc, Value.category]
theorem zsumc_r (x : Nat) (st : List Value) : zsumc (.ref x :: st) = 1 + zsumc st := by simp [zsumc, Value.category]
theorem zsumc_l (x : Int64) (st : List Value) : zsumc (.long x :: st) = 2 + zsumc st := by simp [zsumc, Value.category]
theorem zsumc_q (x : Option Nat) (st : List Value) : zsumc (zrf x :: st) = 1 + zsumc st := by cases x <;> simp [zsumc, Value.category, zrf]
theorem zrf_some (q : Nat) : zrf (some q) = .ref q := rfl
theorem zrf_none : zrf none = .null := rfl
section ROWS
variable {mi pc : Nat} {ls : List (Option Value)} {st : List Value} {h : ZH} {Q : Option Value → ZH → Prop} {n : Nat} {tg ln : Nat → Nat} {I : Nat → Int32 → Int32} {J : Nat → Int32 → Int64} {O : Nat → Int32 → Option Nat}
theorem R_iconst {c : Int} {v : Int32} (hc : zC mi pc = some (.iconst c, 1)) (hv : Int32.ofInt c = v) : Runs mi pc ls st h Q ↔ Runs mi (pc + 1) ls (.int v :: st) h Q := hv ▸ Rn hc rfl rfl rfl (Nat.le_refl _)
theorem R_bipush {c : Int} {v : Int32} (hc : zC mi pc = some (.bipush c, 2)) (hv : (Int8.ofInt c).toInt32 = v) : Runs mi pc ls st h Q ↔ Runs mi (pc + 2) ls (.int v :: st) h Q := hv ▸ Rn hc rfl rfl rfl (Nat.le_refl _)
theorem R_sipush {c : Int} {v : Int32} (hc : zC mi pc = some (.sipush c, 3)) (hv : (Int16.ofInt c).toInt32 = v) : Runs mi pc ls st h Q ↔ Runs mi (pc + 3) ls (.int v :: st) h Q := hv ▸ Rn hc rfl rfl rfl (Nat.le_refl _)
theorem R_lconst {c : Fin 2} {v : Int64} (hc : zC mi pc = some (.lconst c, 1)) (hv : Int64.ofNat (c : Nat) = v) : Runs mi pc ls st h Q ↔ Runs mi (pc + 1) ls (.long v :: st) h Q := hv ▸ Rn hc rfl rfl rfl (Nat.le_refl _)
theorem R_null (hc : zC mi pc = some (.aconst_null, 1)) : Runs mi pc ls st h Q ↔ Runs mi (pc + 1) ls (.null :: st) h Q := Rn hc rfl rfl rfl (Nat.le_refl _)
theorem R_ldc {i p : Nat} {v : Value} (hc : zC mi pc = some (.ldc i, 2)) (hk : zk1 (zown mi) i = some (v, p)) : Runs mi pc ls st h Q ↔ Runs mi (pc + 2) ls (v :: st) h Q := Rn hc rfl rfl (by unfold zact; dsimp only; rw [hk]) (Nat.le_refl _)
theorem R_ldcw {i p : Nat} {v : Int32} (hc : zC mi pc = some (.ldc_w i, 3)) (hk : zk1 (zown mi) i = some (.int v, p)) : Runs mi pc ls st h Q ↔ Runs mi (pc + 3) ls (.int v :: st) h Q := Rn hc rfl rfl (by unfold zact; dsimp only; rw [hk]) (Nat.le_refl _)
theorem R_ldc2 {i p : Nat} {v : Int64} (hc : zC mi pc = some (.ldc2_w i, 3)) (hk : zk2 (zown mi) i = some (.long v, p)) : Runs mi pc ls st h Q ↔ Runs mi (pc + 3) ls (.long v :: st) h Q := Rn hc rfl rfl (by unfold zact; dsimp only; rw [hk]) (Nat.le_refl _)
theorem R_ildn {k : Fin 4} {x : Int32} (hc : zC mi pc = some (.iload_n k, 1)) (hl : ls[(k : Nat)]? = some (some (.int x))) : Runs mi pc ls st h Q ↔ Runs mi (pc + 1) ls (.int x :: st) h Q := Rn hc rfl rfl (by unfold zact zldi; dsimp only; rw [hl]) (Nat.le_refl _)
theorem R_ild {k : Nat} {x : Int32} (hc : zC mi pc = some (.iload k, 2)) (hl : ls[k]? = some (some (.int x))) : Runs mi pc ls st h Q ↔ Runs mi (pc + 2) ls (.int x :: st) h Q := Rn hc rfl rfl (by unfold zact zldi; dsimp only; rw [hl]) (Nat.le_refl _)
theorem R_lldn {k : Fin 4} {x : Int64} (hc : zC mi pc = some (.lload_n k, 1)) (hl : ls[(k : Nat)]? = some (some (.long x))) : Runs mi pc ls st h Q ↔ Runs mi (pc + 1) ls (.long x :: st) h Q := Rn hc rfl rfl (by unfold zact zldl; dsimp only; rw [hl]) (Nat.le_refl _)
theorem R_lld {k : Nat} {x : Int64} (hc : zC mi pc = some (.lload k, 2)) (hl : ls[k]? = some (some (.long x))) : Runs mi pc ls st h Q ↔ Runs mi (pc + 2) ls (.long x :: st) h Q := Rn hc rfl rfl (by unfold zact zldl; dsimp only; rw [hl]) (Nat.le_refl _)
theorem R_aldn {k : Fin 4} {x : Nat} (hc : zC mi pc = some (.aload_n k, 1)) (hl : ls[(k : Nat)]? = some (some (.ref x))) : Runs mi pc ls st h Q ↔ Runs mi (pc + 1) ls (.ref x :: st) h Q := Rn hc rfl rfl (by unfold zact zlda; dsimp only; rw [hl]) (Nat.le_refl _)
theorem R_ald {k : Nat} {x : Nat} (hc : zC mi pc = some (.aload k, 2)) (hl : ls[k]? = some (some (.ref x))) : Runs mi pc ls st h Q ↔ Runs mi (pc + 2) ls (.ref x :: st) h Q := Rn hc rfl rfl (by unfold zact zlda; dsimp only; rw [hl]) (Nat.le_refl _)
theorem R_aldnq {k : Fin 4} {x : Option Nat} (hc : zC mi pc = some (.aload_n k, 1)) (hl : ls[(k : Nat)]? = some (some (zrf x))) : Runs mi pc ls st h Q ↔ Runs mi (pc + 1) ls (zrf x :: st) h Q := by
  cases x <;> exact Rn hc rfl rfl (by unfold zact zlda; dsimp only; rw [hl]; rfl) (Nat.le_refl _)
theorem R_aldq {k : Nat} {x : Option Nat} (hc : zC mi pc = some (.aload k, 2)) (hl : ls[k]? = some (some (zrf x))) : Runs mi pc ls st h Q ↔ Runs mi (pc + 2) ls (zrf x :: st) h Q := by
  cases x <;> exact Rn hc rfl rfl (by unfold zact zlda; dsimp only; rw [hl]; rfl) (Nat.le_refl _)
theorem R_istn {k : Fin 4} {x : Int32} {ls' : List (Option Value)} (hc : zC mi pc = some (.istore_n k, 1)) (hn : Nat.blt (k : Nat) ls.length = true) (he : zst ls (k : Nat) (.int x) = ls') : Runs mi pc ls (.int x :: st) h Q ↔ Runs mi (pc + 1) ls' st h Q := Rn hc rfl rfl (by unfold zact zst1; dsimp only; rw [hn, he]; rfl) (Nat.le_refl _)
theorem R_ist {k : Nat} {x : Int32} {ls' : List (Option Value)} (hc : zC mi pc = some (.istore k, 2)) (hn : Nat.blt k ls.length = true) (he : zst ls k (.int x) = ls') : Runs mi pc ls (.int x :: st) h Q ↔ Runs mi (pc + 2) ls' st h Q := Rn hc rfl rfl (by unfold zact zst1; dsimp only; rw [hn, he]; rfl) (Nat.le_refl _)
theorem R_lstn {k : Fin 4} {x : Int64} {ls' : List (Option Value)} (hc : zC mi pc = some (.lstore_n k, 1)) (hn : Nat.blt ((k : Nat) + 1) ls.length = true) (he : (zst ls (k : Nat) (.long x)).set ((k : Nat) + 1) none = ls') : Runs mi pc ls (.long x :: st) h Q ↔ Runs mi (pc + 1) ls' st h Q := Rn hc rfl rfl (by unfold zact zst2; dsimp only; rw [hn, he]; rfl) (Nat.le_refl _)
theorem R_lst {k : Nat} {x : Int64} {ls' : List (Option Value)} (hc : zC mi pc = some (.lstore k, 2)) (hn : Nat.blt (k + 1) ls.length = true) (he : (zst ls k (.long x)).set (k + 1) none = ls') : Runs mi pc ls (.long x :: st) h Q ↔ Runs mi (pc + 2) ls' st h Q := Rn hc rfl rfl (by unfold zact zst2; dsimp only; rw [hn, he]; rfl) (Nat.le_refl _)
theorem R_astnq {k : Fin 4} {x : Option Nat} {ls' : List (Option Value)} (hc : zC mi pc = some (.astore_n k, 1)) (hn : Nat.blt (k : Nat) ls.length = true) (he : zst ls (k : Nat) (zrf x) = ls') : Runs mi pc ls (zrf x :: st) h Q ↔ Runs mi (pc + 1) ls' st h Q := by
  subst he
  cases x <;> exact Rn hc rfl rfl (by unfold zact zst1; dsimp only [zrf]; rw [hn]; rfl) (Nat.le_refl _)
theorem R_astq {k : Nat} {x : Option Nat} {ls' : List (Option Value)} (hc : zC mi pc = some (.astore k, 2)) (hn : Nat.blt k ls.length = true) (he : zst ls k (zrf x) = ls') : Runs mi pc ls (zrf x :: st) h Q ↔ Runs mi (pc + 2) ls' st h Q := by
  subst he
  cases x <;> exact Rn hc rfl rfl (by unfold zact zst1; dsimp only [zrf]; rw [hn]; rfl) (Nat.le_refl _)
theorem R_astn {k : Fin 4} {x : Nat} {ls' : List (Option Value)} (hc : zC mi pc = some (.astore_n k, 1)) (hn : Nat.blt (k : Nat) ls.length = true) (he : zst ls (k : Nat) (.ref x) = ls') : Runs mi pc ls (.ref x :: st) h Q ↔ Runs mi (pc + 1) ls' st h Q := R_astnq (x := some x) hc hn he
theorem R_ast {k : Nat} {x : Nat} {ls' : List (Option Value)} (hc : zC mi pc = some (.astore k, 2)) (hn : Nat.blt k ls.length = true) (he : zst ls k (.ref x) = ls') : Runs mi pc ls (.ref x :: st) h Q ↔ Runs mi (pc + 2) ls' st h Q := R_astq (x := some x) hc hn he
theorem R_iinc {k : Nat} {c : Int} {x v : Int32} {ls' : List (Option Value)} (hc : zC mi pc = some (.iinc k c, 3)) (hl : ls[k]? = some (some (.int x))) (hv : Int32.ofInt c = v) (hn : Nat.blt k ls.length = true) (he : zst ls k (.int (x + v)) = ls') : Runs mi pc ls st h Q ↔ Runs mi (pc + 3) ls' st h Q := Rn hc rfl rfl (by unfold zact zst1; dsimp only; rw [hl]; dsimp only; rw [hn, hv, he]; rfl) (Nat.le_refl _)
theorem R_iadd {x y : Int32} (hc : zC mi pc = some (.iadd, 1)) : Runs mi pc ls (.int y :: .int x :: st) h Q ↔ Runs mi (pc + 1) ls (.int (x + y) :: st) h Q := Rn hc rfl rfl rfl (Nat.le_refl _)
theorem R_isub {x y : Int32} (hc : zC mi pc = some (.isub, 1)) : Runs mi pc ls (.int y :: .int x :: st) h Q ↔ Runs mi (pc + 1) ls (.int (x - y) :: st) h Q := Rn hc rfl rfl rfl (Nat.le_refl _)
theorem R_imul {x y : Int32} (hc : zC mi pc = some (.imul, 1)) : Runs mi pc ls (.int y :: .int x :: st) h Q ↔ Runs mi (pc + 1) ls (.int (x * y) :: st) h Q := Rn hc rfl rfl rfl (Nat.le_refl _)
theorem R_iand {x y : Int32} (hc : zC mi pc = some (.iand, 1)) : Runs mi pc ls (.int y :: .int x :: st) h Q ↔ Runs mi (pc + 1) ls (.int (x &&& y) :: st) h Q := Rn hc rfl rfl rfl (Nat.le_refl _)
theorem R_ior {x y : Int32} (hc : zC mi pc = some (.ior, 1)) : Runs mi pc ls (.int y :: .int x :: st) h Q ↔ Runs mi (pc + 1) ls (.int (x ||| y) :: st) h Q := Rn hc rfl rfl rfl (Nat.le_refl _)
theorem R_ixor {x y : Int32} (hc : zC mi pc = some (.ixor, 1)) : Runs mi pc ls (.int y :: .int x :: st) h Q ↔ Runs mi (pc + 1) ls (.int (x ^^^ y) :: st) h Q := Rn hc rfl rfl rfl (Nat.le_refl _)
theorem R_ishl {x y : Int32} (hc : zC mi pc = some (.ishl, 1)) : Runs mi pc ls (.int y :: .int x :: st) h Q ↔ Runs mi (pc + 1) ls (.int (x <<< (y &&& 31)) :: st) h Q := Rn hc rfl rfl rfl (Nat.le_refl _)
theorem R_ishr {x y : Int32} (hc : zC mi pc = some (.ishr, 1)) : Runs mi pc ls (.int y :: .int x :: st) h Q ↔ Runs mi (pc + 1) ls (.int (x >>> (y &&& 31)) :: st) h Q := Rn hc rfl rfl rfl (Nat.le_refl _)
theorem R_iushr {x y : Int32} (hc : zC mi pc = some (.iushr, 1)) : Runs mi pc ls (.int y :: .int x :: st) h Q ↔ Runs mi (pc + 1) ls (.int (x.toUInt32 >>> (y.toUInt32 &&& Int32.toUInt32 31)).toInt32 :: st) h Q := Rn hc rfl rfl rfl (Nat.le_refl _)
theorem zno {Q : Option Value → ZH → Prop} {ins : Instr} {len : Nat} (hc : zC mi pc = some (ins, len)) (h1 : zretf mi ins st = none) (h2 : zcallf mi ins st h = none) (ha : zact mi pc ins ls st h = none) : ¬ Runs mi pc ls st h Q := by
  rintro ⟨n, v, g, hn, -⟩
  cases n with
  | zero => simp [zex] at hn
  | succ n =>
    rw [zex_eq hc, h1] at hn
    dsimp only at hn
    rw [h2] at hn
    dsimp only at hn
    rw [ha] at hn
    cases hn
theorem R_idiv {x y : Int32} (hc : zC mi pc = some (.idiv, 1)) : Runs mi pc ls (.int y :: .int x :: st) h Q ↔ (¬ y = 0 ∧ Runs mi (pc + 1) ls (.int (x / y) :: st) h Q) := by
  by_cases hy : y = 0
  · refine ⟨fun q => absurd q (zno hc rfl rfl ?_), fun q => absurd hy q.1⟩
    unfold zact; dsimp only; rw [if_pos hy]
  · rw [and_iff_right hy]
    refine Rn hc rfl rfl ?_ (Nat.le_refl _)
    unfold zact; dsimp only; rw [if_neg hy]
theorem R_irem {x y : Int32} (hc : zC mi pc = some (.irem, 1)) : Runs mi pc ls (.int y :: .int x :: st) h Q ↔ (¬ y = 0 ∧ Runs mi (pc + 1) ls (.int (x - x / y * y) :: st) h Q) := by
  by_cases hy : y = 0
  · refine ⟨fun q => absurd q (zno hc rfl rfl ?_), fun q => absurd hy q.1⟩
    unfold zact; dsimp only; rw [if_pos hy]
  · rw [and_iff_right hy]
    refine Rn hc rfl rfl ?_ (Nat.le_refl _)
    unfold zact; dsimp only; rw [if_neg hy]
theorem R_ladd {x y : Int64} (hc : zC mi pc = some (.ladd, 1)) : Runs mi pc ls (.long y :: .long x :: st) h Q ↔ Runs mi (pc + 1) ls (.long (x + y) :: st) h Q := Rn hc rfl rfl rfl (Nat.le_refl _)
theorem R_lmul {x y : Int64} (hc : zC mi pc = some (.lmul, 1)) : Runs mi pc ls (.long y :: .long x :: st) h Q ↔ Runs mi (pc + 1) ls (.long (x * y) :: st) h Q := Rn hc rfl rfl rfl (Nat.le_refl _)
theorem R_land {x y : Int64} (hc : zC mi pc = some (.land, 1)) : Runs mi pc ls (.long y :: .long x :: st) h Q ↔ Runs mi (pc + 1) ls (.long (x &&& y) :: st) h Q := Rn hc rfl rfl rfl (Nat.le_refl _)
theorem R_lor {x y : Int64} (hc : zC mi pc = some (.lor, 1)) : Runs mi pc ls (.long y :: .long x :: st) h Q ↔ Runs mi (pc + 1) ls (.long (x ||| y) :: st) h Q := Rn hc rfl rfl rfl (Nat.le_refl _)
theorem R_lxor {x y : Int64} (hc : zC mi pc = some (.lxor, 1)) : Runs mi pc ls (.long y :: .long x :: st) h Q ↔ Runs mi (pc + 1) ls (.long (x ^^^ y) :: st) h Q := Rn hc rfl rfl rfl (Nat.le_refl _)
theorem R_ldiv {x y : Int64} (hc : zC mi pc = some (.ldiv, 1)) : Runs mi pc ls (.long y :: .long x :: st) h Q ↔ (¬ y = 0 ∧ Runs mi (pc + 1) ls (.long (x / y) :: st) h Q) := by
  by_cases hy : y = 0
  · refine ⟨fun q => absurd q (zno hc rfl rfl ?_), fun q => absurd hy q.1⟩
    unfold zact; dsimp only; rw [if_pos hy]
  · rw [and_iff_right hy]
    refine Rn hc rfl rfl ?_ (Nat.le_refl _)
    unfold zact; dsimp only; rw [if_neg hy]
theorem R_lrem {x y : Int64} (hc : zC mi pc = some (.lrem, 1)) : Runs mi pc ls (.long y :: .long x :: st) h Q ↔ (¬ y = 0 ∧ Runs mi (pc + 1) ls (.long (x - x / y * y) :: st) h Q) := by
  by_cases hy : y = 0
  · refine ⟨fun q => absurd q (zno hc rfl rfl ?_), fun q => absurd hy q.1⟩
    unfold zact; dsimp only; rw [if_pos hy]
  · rw [and_iff_right hy]
    refine Rn hc rfl rfl ?_ (Nat.le_refl _)
    unfold zact; dsimp only; rw [if_neg hy]
theorem R_lneg {x : Int64} (hc : zC mi pc = some (.lneg, 1)) : Runs mi pc ls (.long x :: st) h Q ↔ Runs mi (pc + 1) ls (.long (-x) :: st) h Q := Rn hc rfl rfl rfl (Nat.le_refl _)
theorem R_lshl {x : Int64} {y : Int32} (hc : zC mi pc = some (.lshl, 1)) : Runs mi pc ls (.int y :: .long x :: st) h Q ↔ Runs mi (pc + 1) ls (.long (x <<< (y.toInt64 &&& 63)) :: st) h Q := Rn hc rfl rfl rfl (Nat.le_refl _)
theorem R_lcmp {x y : Int64} (hc : zC mi pc = some (.lcmp, 1)) : Runs mi pc ls (.long y :: .long x :: st) h Q ↔ Runs mi (pc + 1) ls (.int (lg_cmp x y) :: st) h Q := Rn hc rfl rfl rfl (Nat.le_refl _)
theorem R_i2l {x : Int32} (hc : zC mi pc = some (.i2l, 1)) : Runs mi pc ls (.int x :: st) h Q ↔ Runs mi (pc + 1) ls (.long x.toInt64 :: st) h Q := Rn hc rfl rfl rfl (Nat.le_refl _)
theorem R_l2i {x : Int64} (hc : zC mi pc = some (.l2i, 1)) : Runs mi pc ls (.long x :: st) h Q ↔ Runs mi (pc + 1) ls (.int x.toInt32 :: st) h Q := Rn hc rfl rfl rfl (Nat.le_refl _)
theorem R_dupi {x : Int32} (hc : zC mi pc = some (.dup, 1)) : Runs mi pc ls (.int x :: st) h Q ↔ Runs mi (pc + 1) ls (.int x :: .int x :: st) h Q := Rn hc rfl rfl rfl (Nat.le_refl _)
theorem R_dupr {x : Nat} (hc : zC mi pc = some (.dup, 1)) : Runs mi pc ls (.ref x :: st) h Q ↔ Runs mi (pc + 1) ls (.ref x :: .ref x :: st) h Q := Rn hc rfl rfl rfl (Nat.le_refl _)
theorem R_dup2 {y : Int32} {x : Nat} (hc : zC mi pc = some (.dup2, 1)) : Runs mi pc ls (.int y :: .ref x :: st) h Q ↔ Runs mi (pc + 1) ls (.int y :: .ref x :: .int y :: .ref x :: st) h Q := Rn hc rfl rfl rfl (Nat.le_refl _)
theorem R_pop {x : Int32} (hc : zC mi pc = some (.pop, 1)) : Runs mi pc ls (.int x :: st) h Q ↔ Runs mi (pc + 1) ls st h Q := Rn hc rfl rfl rfl (Nat.le_refl _)
theorem R_goto {off : Int} {t : Nat} (hc : zC mi pc = some (.goto off, 3)) (ht : (pc : Int) + off = Int.ofNat t) : Runs mi pc ls st h Q ↔ Runs mi t ls st h Q := Rn hc rfl rfl (by unfold zact zgo; dsimp only; rw [ht]) (Nat.le_refl _)
theorem Rbr {off : Int} {t : Nat} {c : Bool} {P : Prop} [Decidable P] {ins : Instr} {st0 : List Value} (hc : zC mi pc = some (ins, 3)) (h1 : zretf mi ins st0 = none) (h2 : zcallf mi ins st0 h = none) (ha : zact mi pc ins ls st0 h = zbr c pc off ls st h) (hP : c = decide P) (ht : (pc : Int) + off = Int.ofNat t) : Runs mi pc ls st0 h Q ↔ if P then Runs mi t ls st h Q else Runs mi (pc + 3) ls st h Q := by
  subst hP
  by_cases hp : P
  · rw [if_pos hp]
    exact Rn hc h1 h2 (by rw [ha]; unfold zbr; rw [ht, decide_eq_true hp]; rfl) (Nat.le_refl _)
  · rw [if_neg hp]
    exact Rn hc h1 h2 (by rw [ha]; unfold zbr; rw [ht, decide_eq_false hp]; rfl) (Nat.le_refl _)
theorem R_ifeq {x : Int32} {off : Int} {t : Nat} (hc : zC mi pc = some (.ifCond .eq off, 3)) (ht : (pc : Int) + off = Int.ofNat t) : Runs mi pc ls (.int x :: st) h Q ↔ if x = 0 then Runs mi t ls st h Q else Runs mi (pc + 3) ls st h Q := Rbr hc rfl rfl rfl rfl ht
theorem R_ifne {x : Int32} {off : Int} {t : Nat} (hc : zC mi pc = some (.ifCond .ne off, 3)) (ht : (pc : Int) + off = Int.ofNat t) : Runs mi pc ls (.int x :: st) h Q ↔ if ¬ x = 0 then Runs mi t ls st h Q else Runs mi (pc + 3) ls st h Q := Rbr hc rfl rfl rfl rfl ht
theorem R_iflt {x : Int32} {off : Int} {t : Nat} (hc : zC mi pc = some (.ifCond .lt off, 3)) (ht : (pc : Int) + off = Int.ofNat t) : Runs mi pc ls (.int x :: st) h Q ↔ if x < 0 then Runs mi t ls st h Q else Runs mi (pc + 3) ls st h Q := Rbr hc rfl rfl rfl rfl ht
theorem R_ifge {x : Int32} {off : Int} {t : Nat} (hc : zC mi pc = some (.ifCond .ge off, 3)) (ht : (pc : Int) + off = Int.ofNat t) : Runs mi pc ls (.int x :: st) h Q ↔ if 0 ≤ x then Runs mi t ls st h Q else Runs mi (pc + 3) ls st h Q := Rbr hc rfl rfl rfl rfl ht
theorem R_ifgt {x : Int32} {off : Int} {t : Nat} (hc : zC mi pc = some (.ifCond .gt off, 3)) (ht : (pc : Int) + off = Int.ofNat t) : Runs mi pc ls (.int x :: st) h Q ↔ if 0 < x then Runs mi t ls st h Q else Runs mi (pc + 3) ls st h Q := Rbr hc rfl rfl rfl rfl ht
theorem R_ifle {x : Int32} {off : Int} {t : Nat} (hc : zC mi pc = some (.ifCond .le off, 3)) (ht : (pc : Int) + off = Int.ofNat t) : Runs mi pc ls (.int x :: st) h Q ↔ if x ≤ 0 then Runs mi t ls st h Q else Runs mi (pc + 3) ls st h Q := Rbr hc rfl rfl rfl rfl ht
theorem R_iceq {x y : Int32} {off : Int} {t : Nat} (hc : zC mi pc = some (.if_icmp .eq off, 3)) (ht : (pc : Int) + off = Int.ofNat t) : Runs mi pc ls (.int y :: .int x :: st) h Q ↔ if x = y then Runs mi t ls st h Q else Runs mi (pc + 3) ls st h Q := Rbr hc rfl rfl rfl rfl ht
theorem R_icne {x y : Int32} {off : Int} {t : Nat} (hc : zC mi pc = some (.if_icmp .ne off, 3)) (ht : (pc : Int) + off = Int.ofNat t) : Runs mi pc ls (.int y :: .int x :: st) h Q ↔ if ¬ x = y then Runs mi t ls st h Q else Runs mi (pc + 3) ls st h Q := Rbr hc rfl rfl rfl rfl ht
theorem R_iclt {x y : Int32} {off : Int} {t : Nat} (hc : zC mi pc = some (.if_icmp .lt off, 3)) (ht : (pc : Int) + off = Int.ofNat t) : Runs mi pc ls (.int y :: .int x :: st) h Q ↔ if x < y then Runs mi t ls st h Q else Runs mi (pc + 3) ls st h Q := Rbr hc rfl rfl rfl rfl ht
theorem R_icge {x y : Int32} {off : Int} {t : Nat} (hc : zC mi pc = some (.if_icmp .ge off, 3)) (ht : (pc : Int) + off = Int.ofNat t) : Runs mi pc ls (.int y :: .int x :: st) h Q ↔ if y ≤ x then Runs mi t ls st h Q else Runs mi (pc + 3) ls st h Q := Rbr hc rfl rfl rfl rfl ht
theorem R_icgt {x y : Int32} {off : Int} {t : Nat} (hc : zC mi pc = some (.if_icmp .gt off, 3)) (ht : (pc : Int) + off = Int.ofNat t) : Runs mi pc ls (.int y :: .int x :: st) h Q ↔ if y < x then Runs mi t ls st h Q else Runs mi (pc + 3) ls st h Q := Rbr hc rfl rfl rfl rfl ht
theorem R_icle {x y : Int32} {off : Int} {t : Nat} (hc : zC mi pc = some (.if_icmp .le off, 3)) (ht : (pc : Int) + off = Int.ofNat t) : Runs mi pc ls (.int y :: .int x :: st) h Q ↔ if x ≤ y then Runs mi t ls st h Q else Runs mi (pc + 3) ls st h Q := Rbr hc rfl rfl rfl rfl ht
theorem R_ifnull {x : Option Nat} {off : Int} {t : Nat} (hc : zC mi pc = some (.ifnull off, 3)) (ht : (pc : Int) + off = Int.ofNat t) : Runs mi pc ls (zrf x :: st) h Q ↔ if x = none then Runs mi t ls st h Q else Runs mi (pc + 3) ls st h Q := by
  cases x with
  | none => rw [if_pos rfl]; exact Rn hc rfl rfl (by show zgo pc off ls st h = _; unfold zgo; rw [ht]) (Nat.le_refl _)
  | some q => rw [if_neg (by simp)]; exact Rn hc rfl rfl rfl (Nat.le_refl _)
theorem R_ifnn {x : Option Nat} {off : Int} {t : Nat} (hc : zC mi pc = some (.ifnonnull off, 3)) (ht : (pc : Int) + off = Int.ofNat t) : Runs mi pc ls (zrf x :: st) h Q ↔ if x = none then Runs mi (pc + 3) ls st h Q else Runs mi t ls st h Q := by
  cases x with
  | none => rw [if_pos rfl]; exact Rn hc rfl rfl rfl (Nat.le_refl _)
  | some q => rw [if_neg (by simp)]; exact Rn hc rfl rfl (by show zgo pc off ls st h = _; unfold zgo; rw [ht]) (Nat.le_refl _)
theorem R_tabO {x : Int32} {dflt lo hi : Int} {offs : Array Int} {len t : Nat} (hc : zC mi pc = some (.tableswitch dflt lo hi offs, len)) (hx : x.toInt < lo ∨ hi < x.toInt) (ht : (pc : Int) + dflt = Int.ofNat t) : Runs mi pc ls (.int x :: st) h Q ↔ Runs mi t ls st h Q := Rn hc rfl rfl (by unfold zact zgo; dsimp only; rw [if_pos hx, ht]) (Nat.le_refl _)
theorem R_tabI {x : Int32} {dflt lo hi off : Int} {offs : Array Int} {len t : Nat} (hc : zC mi pc = some (.tableswitch dflt lo hi offs, len)) (hx : ¬ (x.toInt < lo ∨ hi < x.toInt)) (ho : offs[(x.toInt - lo).toNat]? = some off) (ht : (pc : Int) + off = Int.ofNat t) : Runs mi pc ls (.int x :: st) h Q ↔ Runs mi t ls st h Q := Rn hc rfl rfl (by unfold zact zgo; dsimp only; rw [if_neg hx, ho]; dsimp only; rw [ht]) (Nat.le_refl _)
theorem zout (k : Nat) (x : Int32) (hk : k < 1000) (h : ∀ v : Nat, v ≤ k → x ≠ Int32.ofNat v) : x.toInt < 0 ∨ (k : Int) < x.toInt := by
  rcases Int.lt_or_le x.toInt 0 with g | g
  · exact Or.inl g
  rcases Int.lt_or_le (k : Int) x.toInt with g2 | g2
  · exact Or.inr g2
  refine absurd ?_ (h x.toInt.toNat (by omega))
  apply Int32.toInt_inj.mp
  rw [show (Int32.ofNat x.toInt.toNat).toInt = (x.toInt.toNat : Int) from nI_toInt (by omega)]
  omega
/-- fields -/
theorem R_geti {i ci k p a : Nat} {kk : Int32} (hc : zC mi pc = some (.getfield i, 3)) (hf : zfl (zown mi) i = some (ci, k, p)) (hk : zfk ci k = 0) (he : nI k = kk) (ht : tg a = ci + 1) : Runs mi pc ls (.ref a :: st) (n, tg, ln, I, J, O) Q ↔ Runs mi (pc + 3) ls (.int (I a kk) :: st) (n, tg, ln, I, J, O) Q := Rn hc rfl rfl (by unfold zact zfm; dsimp only; rw [hf]; dsimp only; rw [ht, hk, he, Nat.beq_eq.mpr rfl]; rfl) (Nat.le_refl _)
theorem R_getl {i ci k p a : Nat} {kk : Int32} (hc : zC mi pc = some (.getfield i, 3)) (hf : zfl (zown mi) i = some (ci, k, p)) (hk : zfk ci k = 1) (he : nI k = kk) (ht : tg a = ci + 1) : Runs mi pc ls (.ref a :: st) (n, tg, ln, I, J, O) Q ↔ Runs mi (pc + 3) ls (.long (J a kk) :: st) (n, tg, ln, I, J, O) Q := Rn hc rfl rfl (by unfold zact zfm; dsimp only; rw [hf]; dsimp only; rw [ht, hk, he, Nat.beq_eq.mpr rfl]; rfl) (Nat.le_refl _)
theorem R_getr {i ci k p a : Nat} {kk : Int32} (hc : zC mi pc = some (.getfield i, 3)) (hf : zfl (zown mi) i = some (ci, k, p)) (hk : zfk ci k = 2) (he : nI k = kk) (ht : tg a = ci + 1) : Runs mi pc ls (.ref a :: st) (n, tg, ln, I, J, O) Q ↔ Runs mi (pc + 3) ls (zrf (O a kk) :: st) (n, tg, ln, I, J, O) Q := Rn hc rfl rfl (by unfold zact zfm; dsimp only; rw [hf]; dsimp only; rw [ht, hk, he, Nat.beq_eq.mpr rfl]; rfl) (Nat.le_refl _)
theorem R_puti {i ci k p a : Nat} {kk x : Int32} (hc : zC mi pc = some (.putfield i, 3)) (hf : zfl (zown mi) i = some (ci, k, p)) (hk : zfk ci k = 0) (hb : zisb ci k = false) (he : nI k = kk) (hfin : (!(zfin ci k) || (Nat.beq (zown mi) ci && decide ((zy mi).name = "<init>"))) = true) (ht : tg a = ci + 1) : Runs mi pc ls (.int x :: .ref a :: st) (n, tg, ln, I, J, O) Q ↔ Runs mi (pc + 3) ls st (n, tg, ln, zu I a kk x, J, O) Q := Rn hc rfl rfl (by unfold zact zput; dsimp only; rw [hf]; dsimp only; rw [ht, hk, he, hb, hfin, Nat.beq_eq.mpr rfl]; rfl) (Nat.le_refl _)
theorem R_putz {i ci k p a : Nat} {kk x : Int32} (hc : zC mi pc = some (.putfield i, 3)) (hf : zfl (zown mi) i = some (ci, k, p)) (hk : zfk ci k = 0) (he : nI k = kk) (hfin : (!(zfin ci k) || (Nat.beq (zown mi) ci && decide ((zy mi).name = "<init>"))) = true) (ht : tg a = ci + 1) (hx : x = 0 ∨ x = 1) : Runs mi pc ls (.int x :: .ref a :: st) (n, tg, ln, I, J, O) Q ↔ Runs mi (pc + 3) ls st (n, tg, ln, zu I a kk x, J, O) Q := Rn hc rfl rfl (by
  have hx2 : (!(zisb ci k) || decide (x = 0) || decide (x = 1)) = true := by rcases hx with rfl | rfl <;> simp
  unfold zact zput; dsimp only; rw [hf]; dsimp only; rw [ht, hk, he, hfin, Nat.beq_eq.mpr rfl]; simp only [Bool.and_self, cond_true, hx2]; first | done | rfl) (Nat.le_refl _)
theorem R_putr {i ci k p a : Nat} {kk : Int32} {x : Option Nat} (hc : zC mi pc = some (.putfield i, 3)) (hf : zfl (zown mi) i = some (ci, k, p)) (hk : zfk ci k = 2) (he : nI k = kk) (hfin : (!(zfin ci k) || (Nat.beq (zown mi) ci && decide ((zy mi).name = "<init>"))) = true) (ht : tg a = ci + 1) : Runs mi pc ls (zrf x :: .ref a :: st) (n, tg, ln, I, J, O) Q ↔ Runs mi (pc + 3) ls st (n, tg, ln, I, J, zu O a kk x) Q := by
  cases x <;> exact Rn hc rfl rfl (by unfold zact zput; dsimp only [zrf]; rw [hf]; dsimp only; rw [ht, hk, he, hfin, Nat.beq_eq.mpr rfl]; rfl) (Nat.le_refl _)
theorem R_putl {i ci k p a : Nat} {kk : Int32} {x : Int64} (hc : zC mi pc = some (.putfield i, 3)) (hf : zfl (zown mi) i = some (ci, k, p)) (hk : zfk ci k = 1) (he : nI k = kk) (hfin : (!(zfin ci k) || (Nat.beq (zown mi) ci && decide ((zy mi).name = "<init>"))) = true) (ht : tg a = ci + 1) : Runs mi pc ls (.long x :: .ref a :: st) (n, tg, ln, I, J, O) Q ↔ Runs mi (pc + 3) ls st (n, tg, ln, I, zu J a kk x, O) Q := Rn hc rfl rfl (by unfold zact zput; dsimp only; rw [hf]; dsimp only; rw [ht, hk, he, hfin, Nat.beq_eq.mpr rfl]; rfl) (Nat.le_refl _)
/-- arrays: the index is looked at -/
theorem zin_iff {i : Int32} {n : Nat} : zin i n = true ↔ (0 ≤ i ∧ i < Int32.ofNat n) := by unfold zin; simp
theorem Rif {ins : Instr} {len : Nat} {c : Bool} {P : Prop} {pc' : Nat} {st0 : List Value} {h' : ZH} (hc : zC mi pc = some (ins, len)) (h1 : zretf mi ins st0 = none) (h2 : zcallf mi ins st0 h = none) (ha : zact mi pc ins ls st0 h = bif c then zN pc' ls st h' else none) (hP : c = true ↔ P) (hle : h.1 ≤ h'.1) : Runs mi pc ls st0 h Q ↔ (P ∧ Runs mi pc' ls st h' Q) := by
  cases hcc : c with
  | false =>
    have hn : ¬ P := fun q => by rw [hP.mpr q] at hcc; cases hcc
    refine ⟨fun q => absurd q (zno hc h1 h2 (by rw [ha, hcc]; rfl)), fun q => absurd q.1 hn⟩
  | true =>
    rw [and_iff_right (hP.mp hcc)]
    exact Rn hc h1 h2 (by rw [ha, hcc]; rfl) hle
theorem R_iald {a : Nat} {i : Int32} (hc : zC mi pc = some (.iaload, 1)) (ht : tg a = 20) : Runs mi pc ls (.int i :: .ref a :: st) (n, tg, ln, I, J, O) Q ↔ ((0 ≤ i ∧ i < Int32.ofNat (ln a)) ∧ Runs mi (pc + 1) ls (.int (I a i) :: st) (n, tg, ln, I, J, O) Q) := Rif hc rfl rfl (c := zin i (ln a)) (by unfold zact; dsimp only; rw [ht]; rfl) zin_iff (Nat.le_refl _)
theorem R_iald0 {a : Nat} {i : Int32} (hc : zC mi pc = some (.iaload, 1)) (ht : tg a = 30) : Runs mi pc ls (.int i :: .ref a :: st) (n, tg, ln, I, J, O) Q ↔ ((0 ≤ i ∧ i < Int32.ofNat (ln a)) ∧ Runs mi (pc + 1) ls (.int (I a i) :: st) (n, tg, ln, I, J, O) Q) := Rif hc rfl rfl (c := zin i (ln a)) (by unfold zact; dsimp only; rw [ht]; rfl) zin_iff (Nat.le_refl _)
theorem R_bald {a : Nat} {i : Int32} (hc : zC mi pc = some (.baload, 1)) (ht : tg a = 22) : Runs mi pc ls (.int i :: .ref a :: st) (n, tg, ln, I, J, O) Q ↔ ((0 ≤ i ∧ i < Int32.ofNat (ln a)) ∧ Runs mi (pc + 1) ls (.int (I a i) :: st) (n, tg, ln, I, J, O) Q) := Rif hc rfl rfl (c := zin i (ln a)) (by unfold zact; dsimp only; rw [ht]; rfl) zin_iff (Nat.le_refl _)
theorem R_lald {a : Nat} {i : Int32} (hc : zC mi pc = some (.laload, 1)) (ht : tg a = 21) : Runs mi pc ls (.int i :: .ref a :: st) (n, tg, ln, I, J, O) Q ↔ ((0 ≤ i ∧ i < Int32.ofNat (ln a)) ∧ Runs mi (pc + 1) ls (.long (J a i) :: st) (n, tg, ln, I, J, O) Q) := Rif hc rfl rfl (c := zin i (ln a)) (by unfold zact; dsimp only; rw [ht]; rfl) zin_iff (Nat.le_refl _)
theorem R_aald {a t : Nat} {i : Int32} (hc : zC mi pc = some (.aaload, 1)) (ht : tg a = t) (h3 : t = 23 ∨ t = 24 ∨ t = 25) : Runs mi pc ls (.int i :: .ref a :: st) (n, tg, ln, I, J, O) Q ↔ ((0 ≤ i ∧ i < Int32.ofNat (ln a)) ∧ Runs mi (pc + 1) ls (zrf (O a i) :: st) (n, tg, ln, I, J, O) Q) := by
  refine Rif hc rfl rfl (c := zin i (ln a)) (by
    unfold zact; dsimp only; rw [ht]; rcases h3 with rfl | rfl | rfl <;> rfl) zin_iff (Nat.le_refl _)
theorem R_iast {a : Nat} {i x : Int32} (hc : zC mi pc = some (.iastore, 1)) (ht : tg a = 20) : Runs mi pc ls (.int x :: .int i :: .ref a :: st) (n, tg, ln, I, J, O) Q ↔ ((0 ≤ i ∧ i < Int32.ofNat (ln a)) ∧ Runs mi (pc + 1) ls st (n, tg, ln, zu I a i x, J, O) Q) := Rif hc rfl rfl (c := zin i (ln a)) (by unfold zact; dsimp only; rw [ht]; rfl) zin_iff (Nat.le_refl _)
theorem R_bast {a : Nat} {i x : Int32} (hc : zC mi pc = some (.bastore, 1)) (ht : tg a = 22) (hx : x = 0 ∨ x = 1) : Runs mi pc ls (.int x :: .int i :: .ref a :: st) (n, tg, ln, I, J, O) Q ↔ ((0 ≤ i ∧ i < Int32.ofNat (ln a)) ∧ Runs mi (pc + 1) ls st (n, tg, ln, zu I a i x, J, O) Q) := by
  refine Rif hc rfl rfl (c := zin i (ln a)) (by
    unfold zact; dsimp only; rw [ht]; rcases hx with rfl | rfl <;> simp [zN, Nat.beq, zI]) zin_iff (Nat.le_refl _)
theorem R_last {a : Nat} {i : Int32} {x : Int64} (hc : zC mi pc = some (.lastore, 1)) (ht : tg a = 21) : Runs mi pc ls (.long x :: .int i :: .ref a :: st) (n, tg, ln, I, J, O) Q ↔ ((0 ≤ i ∧ i < Int32.ofNat (ln a)) ∧ Runs mi (pc + 1) ls st (n, tg, ln, I, zu J a i x, O) Q) := Rif hc rfl rfl (c := zin i (ln a)) (by unfold zact; dsimp only; rw [ht]; rfl) zin_iff (Nat.le_refl _)
/-- a holder, or nothing, into a bag's row -/
theorem R_aasth {a : Nat} {i : Int32} {x : Option Nat} (hc : zC mi pc = some (.aastore, 1)) (ht : tg a = 25) (hx : ∀ q, x = some q → tg q = 3) : Runs mi pc ls (zrf x :: .int i :: .ref a :: st) (n, tg, ln, I, J, O) Q ↔ ((0 ≤ i ∧ i < Int32.ofNat (ln a)) ∧ Runs mi (pc + 1) ls st (n, tg, ln, I, J, zu O a i x) Q) := by
  cases x with
  | none => exact Rif hc rfl rfl (c := zin i (ln a)) (by unfold zact; dsimp only [zrf]; rw [ht]; rfl) zin_iff (Nat.le_refl _)
  | some q => exact Rif hc rfl rfl (c := zin i (ln a)) (by unfold zact; dsimp only [zrf]; rw [ht, hx q rfl]; rfl) zin_iff (Nat.le_refl _)
theorem R_alen {a : Nat} (hc : zC mi pc = some (.arraylength, 1)) (ht : tg a = 20 ∨ tg a = 30) : Runs mi pc ls (.ref a :: st) (n, tg, ln, I, J, O) Q ↔ Runs mi (pc + 1) ls (.int (Int32.ofNat (ln a)) :: st) (n, tg, ln, I, J, O) Q := Rn hc rfl rfl (by unfold zact; dsimp only; rcases ht with ht | ht <;> (rw [ht]; rfl)) (Nat.le_refl _)
theorem R_copy {i p mj a b : Nat} {m : Int32} (hc : zC mi pc = some (.invokestatic i, 3)) (hk : zml (zown mi) i = some (11, mj, p)) (ha : tg a = 20) (hb : tg b = 20) (hs : zsumc st ≤ 8) : Runs mi pc ls (.int m :: .int 0 :: .ref a :: .int 0 :: .ref b :: st) (n, tg, ln, I, J, O) Q ↔ ((0 ≤ m ∧ m ≤ Int32.ofNat (ln a) ∧ m ≤ Int32.ofNat (ln b)) ∧ Runs mi (pc + 3) ls st (n, tg, ln, zcpy I a b m, J, O) Q) := by
  refine Rif hc rfl (by unfold zcallf; dsimp only; rw [hk]; rfl) (c := decide (0 ≤ m) && decide (m ≤ Int32.ofNat (ln a)) && decide (m ≤ Int32.ofNat (ln b))) ?_ (by simp [and_assoc]) (Nat.le_refl _)
  unfold zact; dsimp only; rw [hk]
  show (bif Nat.beq (tg a) 20 && Nat.beq (tg b) 20 && decide ((0 : Int32) = 0) && decide ((0 : Int32) = 0) && decide (0 ≤ m) && decide (m ≤ Int32.ofNat (ln a)) && decide (m ≤ Int32.ofNat (ln b)) && Nat.ble (zsumc st) 8 then zN (pc + 3) ls st (zI (n, tg, ln, I, J, O) (zcpy I a b m)) else none) = _
  rw [ha, hb, Nat.ble_eq.mpr hs]
  cases decide (0 ≤ m) <;> cases decide (m ≤ Int32.ofNat (ln a)) <;> cases decide (m ≤ Int32.ofNat (ln b)) <;> rfl
theorem R_objI {i p mj a : Nat} (hc : zC mi pc = some (.invokespecial i, 3)) (hk : zml (zown mi) i = some (10, mj, p)) (hs : zsumc st ≤ 8) : Runs mi pc ls (.ref a :: st) h Q ↔ Runs mi (pc + 3) ls st h Q := by
  refine Rn hc rfl (by unfold zcallf; dsimp only; rw [hk]; rfl) ?_ (Nat.le_refl _)
  unfold zact; dsimp only; rw [hk]
  show (bif Nat.ble (zsumc st) 8 then zN (pc + 3) ls st h else none) = _
  rw [Nat.ble_eq.mpr hs]; rfl
theorem R_slen {i p mj a : Nat} (hc : zC mi pc = some (.invokevirtual i, 3)) (hk : zml (zown mi) i = some (12, mj, p)) (ht : tg a = 31) (hs : zsumc st ≤ 8) : Runs mi pc ls (.ref a :: st) (n, tg, ln, I, J, O) Q ↔ Runs mi (pc + 3) ls (.int (Int32.ofNat (ln a)) :: st) (n, tg, ln, I, J, O) Q := by
  refine Rn hc rfl (by unfold zcallf; dsimp only; rw [hk]; rfl) ?_ (Nat.le_refl _)
  unfold zact; dsimp only; rw [hk]
  show (bif Nat.beq (tg a) 31 && Nat.ble (zsumc st) 8 then zN (pc + 3) ls (.int (Int32.ofNat (ln a)) :: st) (n, tg, ln, I, J, O) else none) = _
  rw [ht, Nat.ble_eq.mpr hs]; rfl
theorem R_sch {i p mj a : Nat} {j : Int32} (hc : zC mi pc = some (.invokevirtual i, 3)) (hk : zml (zown mi) i = some (13, mj, p)) (ht : tg a = 31) (hs : zsumc st ≤ 8) : Runs mi pc ls (.int j :: .ref a :: st) (n, tg, ln, I, J, O) Q ↔ ((0 ≤ j ∧ j < Int32.ofNat (ln a)) ∧ Runs mi (pc + 3) ls (.int (I a j) :: st) (n, tg, ln, I, J, O) Q) := by
  refine Rif hc rfl (by unfold zcallf; dsimp only; rw [hk]; rfl) (c := zin j (ln a)) ?_ zin_iff (Nat.le_refl _)
  unfold zact; dsimp only; rw [hk]
  show (bif Nat.beq (tg a) 31 && zin j (ln a) && Nat.ble (zsumc st) 8 then zN (pc + 3) ls (.int (I a j) :: st) (n, tg, ln, I, J, O) else none) = _
  rw [ht, Nat.ble_eq.mpr hs]
  cases zin j (ln a) <;> rfl
/-- calls -/
theorem R_callv {i p mj a oj mL rk np : Nat} {fl : Nat × Nat} {As rest : List Value} {en : List (Option Value)} (hc : zC mi pc = some (.invokevirtual i, 3)) (hk : zml (zown mi) i = some (0, mj, p)) (hq : zq mj = some (oj, mL, rk, np, fl)) (hd : st.drop np = .ref a :: rest) (hA : .ref a :: (st.take np).reverse = As) (hen : zent mL As = en) (hl : Nat.ble (zarg As).length mL = true) (ht : h.2.1 a = oj + 1) (hs : zsumc rest ≤ 8) : Runs mi pc ls st h Q ↔ Runs mj 0 en [] h (fun v h' => Runs mi (pc + 3) ls (v.toList ++ rest) h' Q) := by
  have he : zentry mj As = en := by unfold zentry; rw [hq]; exact hen
  rw [← he]
  refine Rk hc rfl ?_
  unfold zcallf; dsimp only; rw [hk]
  show (match zq mj with
      | some (oj, mL, _, np, _) => (match st.drop np with
        | .ref a :: rest => bif Nat.beq (h.2.1 a) (oj + 1) && Nat.ble (zsumc rest) 8 && Nat.ble (zarg (Value.ref a :: (st.take np).reverse)).length mL then some (mj, Value.ref a :: (st.take np).reverse, rest) else none
        | _ => none)
      | none => none) = _
  rw [hq]
  show (match st.drop np with
        | .ref a :: rest => bif Nat.beq (h.2.1 a) (oj + 1) && Nat.ble (zsumc rest) 8 && Nat.ble (zarg (Value.ref a :: (st.take np).reverse)).length mL then some (mj, Value.ref a :: (st.take np).reverse, rest) else none
        | _ => none) = _
  rw [hd]
  show (bif Nat.beq (h.2.1 a) (oj + 1) && Nat.ble (zsumc rest) 8 && Nat.ble (zarg (Value.ref a :: (st.take np).reverse)).length mL then some (mj, Value.ref a :: (st.take np).reverse, rest) else none) = _
  rw [ht, Nat.beq_eq.mpr rfl, Nat.ble_eq.mpr hs, hA, hl]; rfl
theorem R_calli {i p kd mj a oj mL rk np : Nat} {fl : Nat × Nat} {As rest : List Value} {en : List (Option Value)} (hc : zC mi pc = some (.invokespecial i, 3)) (hk : zml (zown mi) i = some (kd, mj, p)) (hkd : (Nat.beq kd 1 || Nat.beq kd 2) = true) (hq : zq mj = some (oj, mL, rk, np, fl)) (hd : st.drop np = .ref a :: rest) (hA : .ref a :: (st.take np).reverse = As) (hen : zent mL As = en) (hl : Nat.ble (zarg As).length mL = true) (hs : zsumc rest ≤ 8) : Runs mi pc ls st h Q ↔ Runs mj 0 en [] h (fun v h' => Runs mi (pc + 3) ls (v.toList ++ rest) h' Q) := by
  have he : zentry mj As = en := by unfold zentry; rw [hq]; exact hen
  rw [← he]
  refine Rk hc rfl ?_
  unfold zcallf; dsimp only; rw [hk]; dsimp only; rw [hkd, hq]; dsimp only [cond_true]; rw [hd]; dsimp only; rw [Nat.ble_eq.mpr hs, hA, hl]; rfl
theorem R_calls {i p mj oj mL rk np : Nat} {fl : Nat × Nat} {As rest : List Value} {en : List (Option Value)} (hc : zC mi pc = some (.invokestatic i, 3)) (hk : zml (zown mi) i = some (3, mj, p)) (hq : zq mj = some (oj, mL, rk, np, fl)) (hn : np ≤ st.length) (hd : st.drop np = rest) (hA : (st.take np).reverse = As) (hen : zent mL As = en) (hl : Nat.ble (zarg As).length mL = true) (hs : zsumc rest ≤ 8) : Runs mi pc ls st h Q ↔ Runs mj 0 en [] h (fun v h' => Runs mi (pc + 3) ls (v.toList ++ rest) h' Q) := by
  have he : zentry mj As = en := by unfold zentry; rw [hq]; exact hen
  rw [← he]
  refine Rk hc rfl ?_
  unfold zcallf; dsimp only; rw [hk]
  show (match zq mj with
      | some (_, mL, _, np, _) => bif Nat.ble np st.length && Nat.ble (zsumc (st.drop np)) 8 && Nat.ble (zarg (st.take np).reverse).length mL then some (mj, (st.take np).reverse, st.drop np) else none
      | none => none) = _
  rw [hq]
  show (bif Nat.ble np st.length && Nat.ble (zsumc (st.drop np)) 8 && Nat.ble (zarg (st.take np).reverse).length mL then some (mj, (st.take np).reverse, st.drop np) else none) = _
  rw [hd, hA, hl, Nat.ble_eq.mpr hs, Nat.ble_eq.mpr hn]; rfl
/-- answers -/
theorem R_iret {x : Int32} (hc : zC mi pc = some (.ireturn, 1)) (hr : zret mi = 1) : Runs mi pc ls [.int x] h Q ↔ Q (some (.int x)) h := Rr hc (by unfold zretf; dsimp only; rw [hr]; rfl)
theorem R_zret {x : Int32} (hc : zC mi pc = some (.ireturn, 1)) (hr : zret mi = 2) (hx : x = 0 ∨ x = 1) : Runs mi pc ls [.int x] h Q ↔ Q (some (.int x)) h := Rr hc (by unfold zretf; dsimp only; rw [hr]; rcases hx with rfl | rfl <;> rfl)
theorem R_lret {x : Int64} (hc : zC mi pc = some (.lreturn, 1)) (hr : zret mi = 3) : Runs mi pc ls [.long x] h Q ↔ Q (some (.long x)) h := Rr hc (by unfold zretf; dsimp only; rw [hr]; rfl)
theorem R_aretq {x : Option Nat} (hc : zC mi pc = some (.areturn, 1)) (hr : zret mi = 4) : Runs mi pc ls [zrf x] h Q ↔ Q (some (zrf x)) h := by
  cases x <;> exact Rr hc (by unfold zretf; dsimp only [zrf]; rw [hr]; rfl)
theorem R_aret {x : Nat} (hc : zC mi pc = some (.areturn, 1)) (hr : zret mi = 4) : Runs mi pc ls [.ref x] h Q ↔ Q (some (.ref x)) h := R_aretq (x := some x) hc hr
theorem R_vret (hc : zC mi pc = some (.return_, 1)) (hr : zret mi = 0) : Runs mi pc ls [] h Q ↔ Q none h := Rr hc (by unfold zretf; dsimp only; rw [hr]; rfl)
/-- making -/
theorem R_new {i p ci : Nat} (hc : zC mi pc = some (.new i, 3)) (hk : zkl (zown mi) i = some (ci, p)) : Runs mi pc ls st h Q ↔ Runs mi (pc + 3) ls (.ref h.1 :: st) (znew h (ci + 1) 0) Q := Rn hc rfl rfl (by unfold zact; dsimp only; rw [hk]) (Nat.le_succ _)
end ROWS
