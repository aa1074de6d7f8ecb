/-- a place out of a line of the row -/
def toM (f : Int32 → Int32) (b l q : Int32) : Int32 → Int32 := zsl (zset f (b + 4 + l) (f (b + 4 + l) - 1)) (b + 6 + 12 * l) 12 (fun k => if q ≤ k ∧ k < f (b + 4 + l) - 1 then f (b + 6 + 12 * l + k + 1) else f (b + 6 + 12 * l + k))
theorem zsl_inS {f g : Int32 → Int32} {d w q : Int32} (hd : 0 ≤ d ∧ d ≤ 2000) (hw : w ≤ 2000) (h0 : 0 ≤ q) (h1 : q + 1 < w) (hq : q < 1000) : zsl f d w g (d + q + 1) = g (q + 1) := by
  have e : d + q + 1 = d + (q + 1) := by grind
  rw [e]
  exact zsl_in hd hw (by grind) h1
theorem ixqS {d q : Int32} (hd : 0 ≤ d ∧ d ≤ 1098) (hq : 0 ≤ q ∧ q < 12) : 0 ≤ d + q + 1 ∧ d + q + 1 < 1170 := by grind
section MMOVE
variable {Q : Option Value → ZH → Prop} {n : Nat} {tg ln : Nat → Nat} {I : Nat → Int32 → Int32} {J : Nat → Int32 → Int64} {O : Nat → Int32 → Option Nat} {m r : Nat}
set_option maxHeartbeats 2000000 in
theorem c_M_takeOut {b l q : Int32} (h : MSh tg ln O m r) (hb : 0 ≤ b ∧ b ≤ 1080) (hl : l = 0 ∨ l = 1) (hs : I r (b + 4 + l) ≤ 12) (hq : 0 ≤ q ∧ q < I r (b + 4 + l)) : Runs 161 0 [some (.ref m), some (.int b), some (.int l), some (.int q), none] [] (n, tg, ln, I, J, O) Q ↔ Q none (n, tg, ln, zrow I r (toM (I r) b l q), J, O) := by
  obtain ⟨t0, o0, t1, l1⟩ := id h
  obtain ⟨hd0, hd1, hd2, hd3⟩ := ixd hb hl
  have il := ixl hb hl
  unfold toM
  simp only [s161_0, s161_0q, s161_1, s161_4, s161_5, s161_6, s161_7, s161_8, s161_9, s161_10, s161_11, s161_12, s161_13, s161_14, s161_15, s161_19, s161_19q, s161_20, s161_23, s161_24, s161_25, s161_26, s161_27, s161_28, s161_29, s161_32, s161_32q, s161_33, s161_36, s161_37, s161_39, s161_40, s161_42, s161_43, s161_44, s161_45, s161_47, s161_48, s161_48q, s161_49, s161_52, s161_53, s161_55, s161_56, s161_58, s161_59, s161_60, s161_61, s161_63, s161_64, s161_65, s161_66, s161_67, s161_68, s161_71, s161_74, t0, o0, t1, l1, zs0, tl_some, zrf_some, zdrop_i, zdrop_r, zdrop_n, i32_1170, il, true_and, zu_row0]
  generalize hd : b + 6 + 12 * l = d at *
  generalize hsz : I r (b + 4 + l) = sz at *
  generalize hF : zset (I r) (b + 4 + l) (sz - 1) = F at *
  have eF : F (b + 4 + l) = sz - 1 := by rw [← hF]; unfold zset; rw [if_pos rfl]
  have eF2 : ∀ k, d ≤ k → F k = I r k := fun k hk => by
    rw [← hF]; unfold zset; rw [if_neg (fun z => absurd hd2 (by rw [← z]; exact Int32.not_lt.mpr hk))]
  have loop : ∀ p, q ≤ p → p ≤ sz - 1 → (Runs 161 17 [some (.ref m), some (.int b), some (.int l), some (.int q), some (.int p)] [] (n, tg, ln, zrow I r (zsl F d 12 (fun k => if q ≤ k ∧ k < p then I r (d + k + 1) else I r (d + k))), J, O) Q ↔ Q none (n, tg, ln, zrow I r (zsl F d 12 (fun k => if q ≤ k ∧ k < sz - 1 then I r (d + k + 1) else I r (d + k))), J, O)) := by
    have es : ∀ g, zsl F d 12 g (b + 4 + l) = sz - 1 := fun g => by rw [zsl_out (Or.inl hd2), eF]
    refine zup_ind (sz - 1) (fun p hp h1 h2 => ?_) (fun p hp ih h1 h2 => ?_)
    · obtain rfl : p = sz - 1 := by clear es eF2; grind
      rw [s161_17]
      simp only [s161_0, s161_0q, s161_1, s161_4, s161_5, s161_6, s161_7, s161_8, s161_9, s161_10, s161_11, s161_12, s161_13, s161_14, s161_15, s161_19, s161_19q, s161_20, s161_23, s161_24, s161_25, s161_26, s161_27, s161_28, s161_29, s161_32, s161_32q, s161_33, s161_36, s161_37, s161_39, s161_40, s161_42, s161_43, s161_44, s161_45, s161_47, s161_48, s161_48q, s161_49, s161_52, s161_53, s161_55, s161_56, s161_58, s161_59, s161_60, s161_61, s161_63, s161_64, s161_65, s161_66, s161_67, s161_68, s161_71, s161_74, t0, o0, t1, l1, zs0, tl_some, zrf_some, zdrop_i, zdrop_r, zdrop_n, i32_1170, zrow_at, es, il, true_and, hd, Int32.le_refl, if_true]
    · rw [s161_17]
      have hp2 : ¬ sz - 1 ≤ p := Int32.not_le.mpr hp
      have p0 : 0 ≤ p := by clear es eF2 ih; grind
      have p11 : p < 11 := by clear es eF2 ih; grind
      have p12 : p < 12 := by clear es eF2 ih; grind
      have dd : 0 ≤ d ∧ d ≤ 2000 := by clear es eF2 ih; grind
      have rq := ixq ⟨hd0, hd1⟩ ⟨p0, p12⟩
      have rqS := ixqS ⟨hd0, hd1⟩ ⟨p0, p12⟩
      have e1 := @zsl_inS F (fun k => if q ≤ k ∧ k < p then I r (d + k + 1) else I r (d + k)) d 12 p dd (by decide) p0 (by clear es eF2 ih; grind) (by clear es eF2 ih; grind)
      have e2 : (if q ≤ p + 1 ∧ p + 1 < p then I r (d + (p + 1) + 1) else I r (d + (p + 1))) = I r (d + p + 1) := by
        rw [if_neg (by clear es eF2 ih; grind), show d + (p + 1) = d + p + 1 by grind]
      rw [e2] at e1
      have e3 : zset (zsl F d 12 (fun k => if q ≤ k ∧ k < p then I r (d + k + 1) else I r (d + k))) (d + p) (I r (d + p + 1)) = zsl F d 12 (fun k => if q ≤ k ∧ k < p + 1 then I r (d + k + 1) else I r (d + k)) := by
        rw [zsl_set dd (by decide) p0 p12]
        congr 1
        funext k
        unfold zset
        clear es eF2 ih
        by_cases hk : k = p
        · subst hk
          rw [if_pos rfl, if_pos (by grind)]
        · rw [if_neg hk]
          dsimp only
          by_cases hk2 : q ≤ k ∧ k < p
          · rw [if_pos hk2, if_pos (by grind)]
          · rw [if_neg hk2, if_neg (by grind)]
      have i1 := ih (by clear es eF2 ih; grind) (by clear es eF2 ih; grind)
      simp only [s161_0, s161_0q, s161_1, s161_4, s161_5, s161_6, s161_7, s161_8, s161_9, s161_10, s161_11, s161_12, s161_13, s161_14, s161_15, s161_19, s161_19q, s161_20, s161_23, s161_24, s161_25, s161_26, s161_27, s161_28, s161_29, s161_32, s161_32q, s161_33, s161_36, s161_37, s161_39, s161_40, s161_42, s161_43, s161_44, s161_45, s161_47, s161_48, s161_48q, s161_49, s161_52, s161_53, s161_55, s161_56, s161_58, s161_59, s161_60, s161_61, s161_63, s161_64, s161_65, s161_66, s161_67, s161_68, s161_71, s161_74, t0, o0, t1, l1, zs0, tl_some, zrf_some, zdrop_i, zdrop_r, zdrop_n, i32_1170, zrow_at, zu_zrow, es, il, true_and, hd, if_neg hp2, rq, rqS, e1, e3, i1]
  have l0 := loop q (Int32.le_refl q) (by clear eF2 loop; grind)
  have e0 : zsl F d 12 (fun k => if q ≤ k ∧ k < q then I r (d + k + 1) else I r (d + k)) = F := by
    have e9 : (fun k => if q ≤ k ∧ k < q then I r (d + k + 1) else I r (d + k)) = fun k => I r (d + k) := by
      funext k
      rw [if_neg (by grind)]
    rw [e9]
    funext k
    unfold zsl
    split
    next hk =>
      show I r (d + (k - d)) = F k
      rw [show d + (k - d) = k by grind, eF2 k hk.1]
    next => rfl
  rw [e0] at l0
  exact l0
end MMOVE
