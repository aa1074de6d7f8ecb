/-! THE REFERENCE: its row of ints, a plain of 90 at b -/
def MSh (tg ln : Nat → Nat) (O : Nat → Int32 → Option Nat) (m r : Nat) : Prop := tg m = 10 ∧ O m 0 = some r ∧ tg r = 20 ∧ ln r = 1170
/-- a stretch of a row; one place of it -/
def zsl (f : Int32 → Int32) (d w : Int32) (g : Int32 → Int32) : Int32 → Int32 := fun k => if d ≤ k ∧ k < d + w then g (k - d) else f k
def zset (f : Int32 → Int32) (q v : Int32) : Int32 → Int32 := fun k => if k = q then v else f k
theorem i32_1170 : Int32.ofNat 1170 = 1170 := rfl
theorem zrow_at {I : Nat → Int32 → Int32} {r : Nat} {F : Int32 → Int32} : zrow I r F r = F := by funext k; unfold zrow; rw [if_pos rfl]
theorem zrow_ne {I : Nat → Int32 → Int32} {r c : Nat} {F : Int32 → Int32} (h : c ≠ r) : zrow I r F c = I c := by funext k; unfold zrow; rw [if_neg h]
theorem zu_zrow {I : Nat → Int32 → Int32} {r : Nat} {F : Int32 → Int32} {k v : Int32} : zu (zrow I r F) r k v = zrow I r (zset F k v) := by funext c j; unfold zu zrow zset; grind
theorem zu_row0 {I : Nat → Int32 → Int32} {r : Nat} {k v : Int32} : zu I r k v = zrow I r (zset (I r) k v) := by funext c j; unfold zu zrow zset; grind
theorem zrow_zrow {I : Nat → Int32 → Int32} {r : Nat} {F G : Int32 → Int32} : zrow (zrow I r F) r G = zrow I r G := by funext c j; unfold zrow; grind
theorem zsl_in {f g : Int32 → Int32} {d w q : Int32} (hd : 0 ≤ d ∧ d ≤ 2000) (hw : w ≤ 2000) (h0 : 0 ≤ q) (h1 : q < w) : zsl f d w g (d + q) = g q := by
  unfold zsl
  rw [if_pos (by grind), show d + q - d = q by grind]
theorem zsl_in1 {f g : Int32 → Int32} {d w q : Int32} (hd : 0 ≤ d ∧ d ≤ 2000) (hw : w ≤ 2000) (h0 : 1 ≤ q) (h1 : q < w) : zsl f d w g (d + q - 1) = g (q - 1) := by
  unfold zsl
  rw [if_pos (by grind), show d + q - 1 - d = q - 1 by grind]
theorem zsl_out {f g : Int32 → Int32} {d w k : Int32} (h : k < d ∨ d + w ≤ k) : zsl f d w g k = f k := by
  unfold zsl
  rw [if_neg (by grind)]
theorem zsl_id {f : Int32 → Int32} {d w : Int32} : zsl f d w (fun k => f (d + k)) = f := by
  funext k
  unfold zsl
  split
  · show f (d + (k - d)) = f k
    rw [show d + (k - d) = k by grind]
  · rfl
theorem zsl_set {f g : Int32 → Int32} {d w q v : Int32} (hd : 0 ≤ d ∧ d ≤ 2000) (hw : w ≤ 2000) (h0 : 0 ≤ q) (h1 : q < w) : zset (zsl f d w g) (d + q) v = zsl f d w (zset g q v) := by
  funext k
  by_cases hk : k = d + q
  · subst hk
    rw [zsl_in hd hw h0 h1]
    unfold zset
    rw [if_pos rfl, if_pos rfl]
  · have hk2 : ¬ k - d = q := fun z => hk (by rw [← z]; grind)
    unfold zset zsl
    rw [if_neg hk]
    dsimp only
    rw [if_neg hk2]
theorem zsub1 (d q : Int32) : d + q - 1 = d + (q - 1) := by grind
theorem zsl_set1 {f g : Int32 → Int32} {d w q v : Int32} (hd : 0 ≤ d ∧ d ≤ 2000) (hw : w ≤ 2000) (h0 : 1 ≤ q) (h1 : q < w) : zset (zsl f d w g) (d + q - 1) v = zsl f d w (zset g (q - 1) v) := by
  rw [zsub1]
  exact zsl_set hd hw (by grind) (by grind)
theorem zswap_set {g : Int32 → Int32} {q : Int32} (h : 1 ≤ q) : zset (zset g q (g (q - 1))) (q - 1) (g q) = zswap g q := by
  funext k
  unfold zset zswap
  grind
theorem ix3 {b c x : Int32} (hb : 0 ≤ b ∧ b ≤ 1080) (hc : 0 ≤ c ∧ c ≤ 78) (hx : 0 ≤ x ∧ x < 12) : 0 ≤ b + c + x ∧ b + c + x < 1170 := by grind
theorem ixl {b l : Int32} (hb : 0 ≤ b ∧ b ≤ 1080) (hl : l = 0 ∨ l = 1) : 0 ≤ b + 4 + l ∧ b + 4 + l < 1170 := by grind
theorem ixd {b l : Int32} (hb : 0 ≤ b ∧ b ≤ 1080) (hl : l = 0 ∨ l = 1) : 0 ≤ b + 6 + 12 * l ∧ b + 6 + 12 * l ≤ 1098 ∧ b + 4 + l < b + 6 + 12 * l ∧ b + 6 + 12 * l + 12 ≤ b + 30 := by
  rcases hl with rfl | rfl
  · rw [show (12 : Int32) * 0 = 0 from rfl]; grind
  · rw [show (12 : Int32) * 1 = 12 from rfl]; grind
theorem ixq {d q : Int32} (hd : 0 ≤ d ∧ d ≤ 1098) (hq : 0 ≤ q ∧ q < 12) : 0 ≤ d + q ∧ d + q < 1170 := by grind
theorem ixq1 {d q : Int32} (hd : 0 ≤ d ∧ d ≤ 1098) (hq : 1 ≤ q ∧ q < 12) : 0 ≤ d + q - 1 ∧ d + q - 1 < 1170 := by grind
def swM (f : Int32 → Int32) (b x y : Int32) : Bool := decide (x < 12 ∧ y < 12 ∧ f (b + 30 + x) = 1 ∧ f (b + 30 + y) < 3 ∧ f (b + 42 + y) < f (b + 42 + x))
section MNIGHT
variable {Q : Option Value → ZH → Prop} {n : Nat} {tg ln : Nat → Nat} {I : Nat → Int32 → Int32} {J : Nat → Int32 → Int64} {O : Nat → Int32 → Option Nat} {m r : Nat}
theorem c_M_needs {x : Int32} {h : ZH} : Runs 154 0 [some (.int x)] [] h Q ↔ Q (some (.int (if x = 3 then 0 else if x = 4 then 3 else if x = 2 then 2 else 1))) h := by
  simp only [s154_0, s154_1, s154_2, s154_5, s154_6, s154_9, s154_10, s154_11, s154_14, s154_15, s154_18, s154_19, s154_20, s154_23, s154_24, s154_27, s154_28]
  grind
theorem c_M_whatAt {b l q : Int32} (h : MSh tg ln O m r) (h0 : 0 ≤ b + 6 + 12 * l + q ∧ b + 6 + 12 * l + q < 1170) : Runs 152 0 [some (.ref m), some (.int b), some (.int l), some (.int q)] [] (n, tg, ln, I, J, O) Q ↔ Q (some (.int (I r (b + 6 + 12 * l + q)))) (n, tg, ln, I, J, O) := by
  obtain ⟨t0, o0, t1, l1⟩ := id h
  simp only [s152_0, s152_0q, s152_1, s152_4, s152_5, s152_7, s152_8, s152_10, s152_11, s152_12, s152_13, s152_14, s152_15, s152_16, t0, o0, t1, l1, zs0, tl_some, zrf_some, zdrop_i, zdrop_r, zdrop_n, i32_1170, h0, true_and]
set_option maxHeartbeats 2000000 in
theorem c_M_pushIn {b l : Int32} (h : MSh tg ln O m r) (hb : 0 ≤ b ∧ b ≤ 1080) (hl : l = 0 ∨ l = 1) (hs : 0 ≤ I r (b + 4 + l) ∧ I r (b + 4 + l) ≤ 12) (hc : ∀ k, 0 ≤ k → k < I r (b + 4 + l) → 0 ≤ I r (b + 6 + 12 * l + k)) : Runs 158 0 [some (.ref m), some (.int b), some (.int l), none, none, none, none] [] (n, tg, ln, I, J, O) Q ↔ Q none (n, tg, ln, zrow I r (zsl (I r) (b + 6 + 12 * l) 12 (pushA (I r (b + 4 + l)) (swM (I r) b) (fun k => I r (b + 6 + 12 * l + k)))), J, O) := by
  obtain ⟨t0, o0, t1, l1⟩ := id h
  obtain ⟨hd0, hd1, hd2, hd3⟩ := ixd hb hl
  have il := ixl hb hl
  unfold pushA
  simp only [s158_0, s158_1, s158_3, s158_4, s158_6, s158_7, s158_8, s158_9, s158_10, s158_11, s158_15, s158_15q, s158_16, s158_19, s158_20, s158_21, s158_22, s158_23, s158_24, s158_25, s158_28, s158_28q, s158_29, s158_32, s158_33, s158_35, s158_36, s158_37, s158_39, s158_39q, s158_40, s158_43, s158_44, s158_46, s158_47, s158_48, s158_49, s158_50, s158_52, s158_54, s158_56, s158_59, s158_61, s158_63, s158_66, s158_66q, s158_67, s158_70, s158_71, s158_73, s158_74, s158_76, s158_77, s158_78, s158_79, s158_82, s158_82q, s158_83, s158_86, s158_87, s158_89, s158_90, s158_92, s158_93, s158_94, s158_95, s158_98, s158_98q, s158_99, s158_102, s158_103, s158_105, s158_106, s158_108, s158_109, s158_110, s158_110q, s158_111, s158_114, s158_115, s158_117, s158_118, s158_120, s158_121, s158_122, s158_125, s158_125q, s158_126, s158_129, s158_130, s158_132, s158_133, s158_135, s158_136, s158_136q, s158_137, s158_140, s158_141, s158_143, s158_144, s158_145, s158_146, s158_148, s158_149, s158_152, s158_155, zdrop_i, zdrop_r, zdrop_n]
  generalize b + 6 + 12 * l = d at *
  generalize hsz : I r (b + 4 + l) = sz at *
  have loop : ∀ q, ∀ g : Int32 → Int32, 1 ≤ q → (∀ k, 0 ≤ k → k < sz → 0 ≤ g k) → ∀ y z, (Runs 158 13 [some (.ref m), some (.int b), some (.int l), some (.int d), some (.int q), y, z] [] (n, tg, ln, zrow I r (zsl (I r) d 12 g), J, O) Q ↔ Q none (n, tg, ln, zrow I r (zsl (I r) d 12 (zfor sz (fun q f => if swM (I r) b (f q) (f (q - 1)) then zswap f q else f) q g)), J, O)) := by
    have es : ∀ g, zsl (I r) d 12 g (b + 4 + l) = sz := fun g => by rw [zsl_out (Or.inl hd2), hsz]
    have ek : ∀ g c x, 30 ≤ c → c ≤ 78 → 0 ≤ x → x < 12 → zsl (I r) d 12 g (b + c + x) = I r (b + c + x) := fun g c x h0 h1 h2 h3 => zsl_out (Or.inr (by clear hc; grind))
    refine zup_ind sz (fun q hq g h1 hg y z => ?_) (fun q hq ih g h1 hg y z => ?_)
    · rw [s158_13]
      have hq2 : sz ≤ q := Int32.not_lt.mp hq
      simp only [s158_0, s158_1, s158_3, s158_4, s158_6, s158_7, s158_8, s158_9, s158_10, s158_11, s158_15, s158_15q, s158_16, s158_19, s158_20, s158_21, s158_22, s158_23, s158_24, s158_25, s158_28, s158_28q, s158_29, s158_32, s158_33, s158_35, s158_36, s158_37, s158_39, s158_39q, s158_40, s158_43, s158_44, s158_46, s158_47, s158_48, s158_49, s158_50, s158_52, s158_54, s158_56, s158_59, s158_61, s158_63, s158_66, s158_66q, s158_67, s158_70, s158_71, s158_73, s158_74, s158_76, s158_77, s158_78, s158_79, s158_82, s158_82q, s158_83, s158_86, s158_87, s158_89, s158_90, s158_92, s158_93, s158_94, s158_95, s158_98, s158_98q, s158_99, s158_102, s158_103, s158_105, s158_106, s158_108, s158_109, s158_110, s158_110q, s158_111, s158_114, s158_115, s158_117, s158_118, s158_120, s158_121, s158_122, s158_125, s158_125q, s158_126, s158_129, s158_130, s158_132, s158_133, s158_135, s158_136, s158_136q, s158_137, s158_140, s158_141, s158_143, s158_144, s158_145, s158_146, s158_148, s158_149, s158_152, s158_155, t0, o0, t1, l1, zs0, tl_some, zrf_some, zdrop_i, zdrop_r, zdrop_n, i32_1170, zrow_at, es, il, true_and, zfor_end hq, if_pos hq2]
    · rw [s158_13]
      have hq2 : ¬ sz ≤ q := Int32.not_le.mpr hq
      have q12 : q < 12 := by clear hc ih es ek hg; grind
      have ec := @zsl_in (I r) g d 12 q ⟨hd0, by clear hc ih es ek hg; grind⟩ (by decide) (by clear hc ih es ek hg; grind) q12
      have ed := @zsl_in1 (I r) g d 12 q ⟨hd0, by clear hc ih es ek hg; grind⟩ (by decide) h1 q12
      have g0 := hg q (by clear hc ih es ek hg; grind) hq
      have g1 := hg (q - 1) (by clear hc ih es ek hg; grind) (by clear hc ih es ek hg; grind)
      have hsw : ∀ k, 0 ≤ k → k < sz → 0 ≤ zswap g q k := fun k k0 k1 => by
        have := hg k k0 k1
        clear hc ih es ek hg
        unfold zswap
        grind
      have e4 : ∀ v w, zset (zset (zsl (I r) d 12 g) (d + q) v) (d + q - 1) w = zsl (I r) d 12 (zset (zset g q v) (q - 1) w) := fun v w => by
        rw [zsl_set ⟨hd0, by clear hc ih es ek hg; grind⟩ (by decide) (by clear hc ih es ek hg; grind) q12, zsl_set1 ⟨hd0, by clear hc ih es ek hg; grind⟩ (by decide) h1 q12]
      have i1 := ih g (by clear hc ih es ek hg; grind) hg
      have i2 := ih (zswap g q) (by clear hc ih es ek hg; grind) hsw
      have rq := ixq ⟨hd0, hd1⟩ ⟨show 0 ≤ q by clear hc ih es ek hg i1 i2; grind, q12⟩
      have rq1 := ixq1 ⟨hd0, hd1⟩ ⟨h1, q12⟩
      simp only [s158_0, s158_1, s158_3, s158_4, s158_6, s158_7, s158_8, s158_9, s158_10, s158_11, s158_15, s158_15q, s158_16, s158_19, s158_20, s158_21, s158_22, s158_23, s158_24, s158_25, s158_28, s158_28q, s158_29, s158_32, s158_33, s158_35, s158_36, s158_37, s158_39, s158_39q, s158_40, s158_43, s158_44, s158_46, s158_47, s158_48, s158_49, s158_50, s158_52, s158_54, s158_56, s158_59, s158_61, s158_63, s158_66, s158_66q, s158_67, s158_70, s158_71, s158_73, s158_74, s158_76, s158_77, s158_78, s158_79, s158_82, s158_82q, s158_83, s158_86, s158_87, s158_89, s158_90, s158_92, s158_93, s158_94, s158_95, s158_98, s158_98q, s158_99, s158_102, s158_103, s158_105, s158_106, s158_108, s158_109, s158_110, s158_110q, s158_111, s158_114, s158_115, s158_117, s158_118, s158_120, s158_121, s158_122, s158_125, s158_125q, s158_126, s158_129, s158_130, s158_132, s158_133, s158_135, s158_136, s158_136q, s158_137, s158_140, s158_141, s158_143, s158_144, s158_145, s158_146, s158_148, s158_149, s158_152, s158_155, t0, o0, t1, l1, zs0, tl_some, zrf_some, zdrop_i, zdrop_r, zdrop_n, i32_1170, zrow_at, zu_zrow, es, il, true_and, if_neg hq2, rq, rq1, ec, ed, e4, zswap_set h1, i1, i2, zfor_go hq]
      unfold swM
      by_cases c1 : g q < 12
      · by_cases c2 : g (q - 1) < 12
        · have k1 := ek g 30 (g q) (by decide) (by decide) g0 c1
          have k2 := ek g 30 (g (q - 1)) (by decide) (by decide) g1 c2
          have k3 := ek g 42 (g q) (by decide) (by decide) g0 c1
          have k4 := ek g 42 (g (q - 1)) (by decide) (by decide) g1 c2
          have x1 := @ix3 b 30 (g q) hb (by decide) ⟨g0, c1⟩
          have x2 := @ix3 b 30 (g (q - 1)) hb (by decide) ⟨g1, c2⟩
          have x3 := @ix3 b 42 (g q) hb (by decide) ⟨g0, c1⟩
          have x4 := @ix3 b 42 (g (q - 1)) hb (by decide) ⟨g1, c2⟩
          simp only [if_neg (Int32.not_le.mpr c1), if_neg (Int32.not_le.mpr c2), k1, k2, k3, k4, x1, x2, x3, x4, c1, c2, true_and]
          clear hc ih es ek hg i1 i2 hsw
          grind
        · simp only [if_neg (Int32.not_le.mpr c1), if_pos (Int32.not_lt.mp c2), c1, c2, true_and, false_and, decide_false, Bool.false_eq_true, if_false]
      · simp only [if_pos (Int32.not_lt.mp c1), c1, false_and, decide_false, Bool.false_eq_true, if_false]
  have l0 := loop 1 (fun k => I r (d + k)) (by decide) hc none none
  rw [zsl_id, zrow_self] at l0
  exact l0
end MNIGHT
