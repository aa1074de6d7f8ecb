theorem znat_wd : (decide (Cond.native arraycopyName ∈ lw_tbl) && goodWord (Cond.native arraycopyName)) && (decide (Cond.static arraycopyName ∈ lw_tbl) && goodWord (Cond.static arraycopyName)) && (decide (Cond.initialized "java/lang/System" ∈ lw_tbl) && goodWord (Cond.initialized "java/lang/System")) && (decide (Cond.instanceMethod objectInit ∈ lw_tbl) && goodWord (Cond.instanceMethod objectInit)) && (decide (Cond.code objectInit ⟨#[0xb1]⟩ 1 none ∈ lw_tbl) && goodWord (Cond.code objectInit ⟨#[0xb1]⟩ 1 none)) && (decide (Cond.arrayClass .int ∈ lw_tbl) && (decide (Cond.arrayClass .long ∈ lw_tbl) && decide (Cond.arrayClass .boolean ∈ lw_tbl))) = true := by decide +kernel
theorem zwd_native : Cond.native arraycopyName ∈ zt := by
  have h := znat_wd
  simp only [Bool.and_eq_true, decide_eq_true_eq] at h
  exact List.mem_filter.mpr h.1.1.1.1.1
theorem zwd_static : Cond.static arraycopyName ∈ zt := by
  have h := znat_wd
  simp only [Bool.and_eq_true, decide_eq_true_eq] at h
  exact List.mem_filter.mpr h.1.1.1.1.2
theorem zwd_system : Cond.initialized "java/lang/System" ∈ zt := by
  have h := znat_wd
  simp only [Bool.and_eq_true, decide_eq_true_eq] at h
  exact List.mem_filter.mpr h.1.1.1.2
theorem zwd_objI : Cond.instanceMethod objectInit ∈ zt := by
  have h := znat_wd
  simp only [Bool.and_eq_true, decide_eq_true_eq] at h
  exact List.mem_filter.mpr h.1.1.2
theorem zwd_objC : Cond.code objectInit ⟨#[0xb1]⟩ 1 none ∈ zt := by
  have h := znat_wd
  simp only [Bool.and_eq_true, decide_eq_true_eq] at h
  exact List.mem_filter.mpr h.1.2
theorem zwd_arr : Cond.arrayClass .int ∈ zt ∧ Cond.arrayClass .long ∈ zt ∧ Cond.arrayClass .boolean ∈ zt := by
  have h := znat_wd
  simp only [Bool.and_eq_true, decide_eq_true_eq] at h
  exact ⟨List.mem_filter.mpr ⟨h.2.1, rfl⟩, List.mem_filter.mpr ⟨h.2.2.1, rfl⟩, List.mem_filter.mpr ⟨h.2.2.2, rfl⟩⟩
/-- the links of calls -/
theorem zml_facts {o i kd mj p0 : Nat} (h : zml o i = some (kd, mj, p0)) : zokL o i = true := by
  have hg := zguard (f := zmlT) h
  exact List.all_eq_true.mp (zokL_all o hg.2) i (List.mem_range.mpr hg.1)
section ZSIMN
variable {p : Program} {l : Launch} {e : Env} {R : Room} {s : State} {m : MethodId} {args : Array Value} {below : List Frame} {meth : Method} {c : Code} {H : Heap} {locs : List Loc} {cells slots : Nat} {Q : State → Prop}
variable {D : va_G} {ar : Nat → ClassId} {B b L : Nat} {xs : Nat → Int32} {adK adV : Nat → Nat}
theorem zp_self {α : Type} (f : Nat → α) (a : Nat) (v : α) : zp f a v a = v := if_pos rfl
theorem zp_ne {α : Type} (f : Nat → α) {a k : Nat} (v : α) (h : k ≠ a) : zp f a v k = f k := if_neg h
/-- behind a making: the new cell stands next -/
theorem zP_new {h : ZH} {t n q : Nat} {ec : va_E} {H1 : Heap} (P : zPt D ar (zup b B adK) B L xs s h H locs cells) (ht : t ≤ 25) (hn : n ≤ 4096) (hP : va_P D zcl (zWd ar (zup b B adK) B h ++ [(q, ec)]) H1) (hD : va_D (fun q => B ≤ q) (zWd ar (zup b B adK) B h ++ [(q, ec)])) (hS : va_S (fun q => B ≤ q) s.heap H1 locs) (hsz : H1.size ≤ s.heap.size + (cells + 1)) (he : zcell ar (zup b B adK) (znew h t n) h.1 = ec) : q = zup b B adK h.1 ∧ zPt D ar (zup b B adK) B L xs s (znew h t n) H1 locs (cells + 1) := by
  obtain ⟨hH, -, hc, hw⟩ := P
  have h8 := hH.1
  have hlen : (zWd ar (zup b B adK) B h).length = h.1 - 8 := by simp [zWd]
  have hlast : (zWd ar (zup b B adK) B h ++ [(q, ec)])[h.1 - 8]? = some (q, ec) := by
    rw [List.getElem?_append_right (by omega), hlen, Nat.sub_self]
    rfl
  have hq1 : q < H1.size := (hP _ _ hlast).lt
  have hqB : B ≤ q := hD.2 _ _ hlast
  have hq2 : B + (h.1 - 8) ≤ q := by
    rcases Nat.lt_or_ge q (B + (h.1 - 8)) with g | g
    · have hj : (zWd ar (zup b B adK) B h ++ [(q, ec)])[q - B]? = some (B + (q - B + 8 - 8), zcell ar (zup b B adK) h (q - B + 8)) := by
        rw [List.getElem?_append_left (by omega)]
        have := zWd_at (ar := ar) (up := zup b B adK) (B := B) (h := h) (a := q - B + 8) (by omega) (by omega)
        rwa [show q - B + 8 - 8 = q - B by omega] at this ⊢
      have := hD.1 _ _ _ _ hj hlast (by show B + (q - B + 8 - 8) = q; omega)
      omega
    · exact g
  have hHs := hH.2.1
  have hqe : q = B + (h.1 - 8) := by omega
  have eup : zup b B adK h.1 = B + (h.1 - 8) := zup_hi h8
  refine ⟨by rw [eup]; exact hqe, ⟨by show 8 ≤ h.1 + 1; omega, by show H1.size = B + (h.1 + 1 - 8); omega, fun a h1 h2 => ?_⟩, hS, by omega, hw.new ht hn⟩
  have h2 : a < h.1 + 1 := h2
  by_cases hae : a = h.1
  · subst hae
    rw [he, ← hqe]
    exact hP _ _ hlast
  · rw [zcell_ne (h := h) (zp_ne _ _ hae) (zp_ne _ _ hae) (zp_ne _ _ hae) (zp_ne _ _ hae) (zp_ne _ _ hae)]
    refine hP (a - 8) _ ?_
    rw [List.getElem?_append_left (by omega)]
    exact zWd_at h1 (by omega)
theorem zknew {h h' : ZH} {ls' : List (Option Value)} {st' : List Value} {pc' nL : Nat} (hn : h'.1 = h.1 + 1) (kk : ∀ H' locs' lsJ', zPt D ar (zup b B adK) B L xs s h' H' locs' (cells + (h'.1 - h.1)) → zLR (zup b B adK) ls' lsJ' nL → W p l e R s m args below meth c H' locs' (cells + (h'.1 - h.1)) (slots + 4096 * (h'.1 - h.1)) Q (F0 m pc' lsJ' (st'.map (zV (zup b B adK))))) : ∀ H' locs' lsJ', zPt D ar (zup b B adK) B L xs s h' H' locs' (cells + 1) → zLR (zup b B adK) ls' lsJ' nL → W p l e R s m args below meth c H' locs' (cells + 1) (slots + 4096) Q (F0 m pc' lsJ' (st'.map (zV (zup b B adK)))) := by
  have e0 : h'.1 - h.1 = 1 := by omega
  rw [e0] at kk
  simpa using kk
theorem zstep_new {mi pc pc' len i : Nat} {ls ls' : List (Option Value)} {st st' : List Value} {h h' : ZH} {lsJ : Array Slot} (C : zCx p R s m args meth c D ar B b L xs adK adV mi) (hz : zC mi pc = some (.new i, len)) (ha : zact mi pc (.new i) ls st h = some (pc', ls', st', h')) (P : zPt D ar (zup b B adK) B L xs s h H locs cells) (hl : zLR (zup b B adK) ls lsJ c.maxLocals) (hR : cells + (h'.1 - h.1) ≤ R.cells ∧ slots + 4096 * (h'.1 - h.1) ≤ R.slots) (kk : ∀ H' locs' lsJ', zPt D ar (zup b B adK) B L xs s h' H' locs' (cells + (h'.1 - h.1)) → zLR (zup b B adK) ls' lsJ' c.maxLocals → W p l e R s m args below meth c H' locs' (cells + (h'.1 - h.1)) (slots + 4096 * (h'.1 - h.1)) Q (F0 m pc' lsJ' (st'.map (zV (zup b B adK))))) : W p l e R s m args below meth c H locs cells slots Q (F0 m pc lsJ (st.map (zV (zup b B adK)))) := by
  obtain ⟨hx, hb, -, hown, hts, -, hE, hbB, hBs⟩ := C
  obtain ⟨-, hd, hlen, -⟩ := zC_facts hz
  obtain rfl : 3 = len := by simpa [zilen] using hlen
  unfold zact at ha; dsimp only at ha; split at ha
  next ci p0 hk =>
    cases ha
    obtain ⟨q, hc, hw⟩ := zK_facts hk
    obtain ⟨hty, -, hci, hN, -⟩ := zcls hc
    have e0 : (znew h (ci + 1) 0).1 - h.1 = 1 := by show h.1 + 1 - h.1 = 1; omega
    rw [e0] at hR
    have k2 := zknew (h := h) (by rfl) kk
    have hN29 := zNf_le ci
    have ez : zcell ar (zup b B adK) (znew h (ci + 1) 0) h.1 = .inr (ci, zfs (zup b B adK) (znew h (ci + 1) 0) ci h.1) := zcell_obj (zp_self _ _ _) hci
    refine va_new (C := q.1) (T := q.2.1) (N := q.2.2) (fs := zfs (zup b B adK) (znew h (ci + 1) 0) ci h.1) hx hb hts (zlay hc) (zty ci) hty hown (hts _ hw) (hts _ (zinst hc).1) (hts _ (zinst hc).2) hE.1 (zWd_P P.1) zWd_D P.2.1 (fun q hq => Nat.le_trans hBs hq) hc (fun j hj => ?_) (by omega) (by omega) hd (fun qa H1 hP1 hD1 hS1 => zW_size (fun hsz => ?_))
    · rw [vp_V, List.getD_eq_getElem?_getD, zfs_at _ _ _ _ _ (by omega)]
      exact zdef0 (ar := ar) hc hj
    · obtain ⟨hqe, P1⟩ := zP_new (t := ci + 1) (n := 0) P (by omega) (by omega) hP1 hD1 hS1 hsz ez
      have k3 := k2 H1 locs lsJ P1 hl
      simp only [List.map_cons, zV, ← hqe] at k3
      exact W.widen (Nat.le_refl _) (by omega) k3
  next => cases ha
theorem zclamp {n : Int32} (h0 : 0 ≤ n) (h1 : n ≤ 4096) : n.toNatClampNeg ≤ 4096 := by
  have a0 : (0 : Int) ≤ n.toInt := by simpa using Int32.le_iff_toInt_le.mp h0
  have a1 : n.toInt ≤ 4096 := by simpa using Int32.le_iff_toInt_le.mp h1
  show n.toInt.toNat ≤ 4096
  omega
theorem zstep_newa {mi pc pc' len : Nat} {ty : ArrayType} {ls ls' : List (Option Value)} {st st' : List Value} {h h' : ZH} {lsJ : Array Slot} (C : zCx p R s m args meth c D ar B b L xs adK adV mi) (hz : zC mi pc = some (.newarray ty, len)) (ha : zact mi pc (.newarray ty) ls st h = some (pc', ls', st', h')) (P : zPt D ar (zup b B adK) B L xs s h H locs cells) (hl : zLR (zup b B adK) ls lsJ c.maxLocals) (hR : cells + (h'.1 - h.1) ≤ R.cells ∧ slots + 4096 * (h'.1 - h.1) ≤ R.slots) (kk : ∀ H' locs' lsJ', zPt D ar (zup b B adK) B L xs s h' H' locs' (cells + (h'.1 - h.1)) → zLR (zup b B adK) ls' lsJ' c.maxLocals → W p l e R s m args below meth c H' locs' (cells + (h'.1 - h.1)) (slots + 4096 * (h'.1 - h.1)) Q (F0 m pc' lsJ' (st'.map (zV (zup b B adK))))) : W p l e R s m args below meth c H locs cells slots Q (F0 m pc lsJ (st.map (zV (zup b B adK)))) := by
  obtain ⟨hx, hb, -, hown, hts, -, hE, hbB, hBs⟩ := C
  obtain ⟨-, hd, hlen, -⟩ := zC_facts hz
  obtain rfl : 2 = len := by simpa [zilen] using hlen
  unfold zact at ha; dsimp only at ha; split at ha
  next n st0 =>
    cases hq : (decide (0 ≤ n) && decide (n ≤ 4096)) with
    | false => rw [hq] at ha; cases ha
    | true =>
      rw [hq] at ha
      simp only [Bool.and_eq_true, decide_eq_true_eq] at hq
      have hn4 := zclamp hq.1 hq.2
      have hn0 : ¬ n < 0 := Int32.not_lt.mpr hq.1
      dsimp only [cond_true] at ha
      cases ty <;> first | (cases ha; done) | skip
      case boolean =>
        cases ha
        have e0 : (znew h 22 n.toNatClampNeg).1 - h.1 = 1 := by show h.1 + 1 - h.1 = 1; omega
        rw [e0] at hR
        have k2 := zknew (h := h) (by rfl) kk
        refine va_newa (atype := .boolean) (ty := .boolean) (a0 := (n.toNatClampNeg, .inl (fun _ => 0))) hx hb (hts _ zwd_arr.2.2) rfl hE.1 (zWd_P P.1) zWd_D P.2.1 (fun q hq => Nat.le_trans hBs hq) (fun _ => rfl) hn0 rfl (by show n.toNatClampNeg * 1 ≤ _; omega) (by omega) (by omega) hd (fun qa cA H1 hK1 hP1 hD1 hS1 => zW_size (fun hsz => ?_))
        have hcA : cA = ar 2 := by
          have h1 := (hK1.2 6 (cA, .boolean) rfl).2
          have h2 := (hE.1.2 2 _ rfl).2
          exact Option.some.inj (h1.symm.trans h2)
        subst hcA
        have ez : zcell ar (zup b B adK) (znew h 22 n.toNatClampNeg) h.1 = .inl (ar 2, n.toNatClampNeg, .inl (fun _ => 0)) := by
          rw [zcell_22 (zp_self _ _ _)]
          simp [znew, zp]
        obtain ⟨hqe, P1⟩ := zP_new (t := 22) P (by omega) hn4 hP1 hD1 hS1 hsz ez
        have k3 := k2 H1 locs lsJ P1 hl
        simp only [List.map_cons, zV, ← hqe] at k3
        exact W.widen (Nat.le_refl _) (by omega) k3
      case int =>
        cases ha
        have e0 : (znew h 20 n.toNatClampNeg).1 - h.1 = 1 := by show h.1 + 1 - h.1 = 1; omega
        rw [e0] at hR
        have k2 := zknew (h := h) (by rfl) kk
        refine va_newa (atype := .int) (ty := .int) (a0 := (n.toNatClampNeg, .inl (fun _ => 0))) hx hb (hts _ zwd_arr.1) rfl hE.1 (zWd_P P.1) zWd_D P.2.1 (fun q hq => Nat.le_trans hBs hq) (fun _ => rfl) hn0 rfl (by show n.toNatClampNeg * 4 ≤ _; omega) (by omega) (by omega) hd (fun qa cA H1 hK1 hP1 hD1 hS1 => zW_size (fun hsz => ?_))
        have hcA : cA = ar 0 := by
          have h1 := (hK1.2 6 (cA, .int) rfl).2
          have h2 := (hE.1.2 0 _ rfl).2
          exact Option.some.inj (h1.symm.trans h2)
        subst hcA
        have ez : zcell ar (zup b B adK) (znew h 20 n.toNatClampNeg) h.1 = .inl (ar 0, n.toNatClampNeg, .inl (fun _ => 0)) := by
          rw [zcell_20 (zp_self _ _ _)]
          simp [znew, zp]
        obtain ⟨hqe, P1⟩ := zP_new (t := 20) P (by omega) hn4 hP1 hD1 hS1 hsz ez
        have k3 := k2 H1 locs lsJ P1 hl
        simp only [List.map_cons, zV, ← hqe] at k3
        exact W.widen (Nat.le_refl _) (by omega) k3
      case long =>
        cases ha
        have e0 : (znew h 21 n.toNatClampNeg).1 - h.1 = 1 := by show h.1 + 1 - h.1 = 1; omega
        rw [e0] at hR
        have k2 := zknew (h := h) (by rfl) kk
        refine va_newa (atype := .long) (ty := .long) (a0 := (n.toNatClampNeg, .inr (.inl (fun _ => 0)))) hx hb (hts _ zwd_arr.2.1) rfl hE.1 (zWd_P P.1) zWd_D P.2.1 (fun q hq => Nat.le_trans hBs hq) (fun _ => rfl) hn0 rfl (by show n.toNatClampNeg * 8 ≤ _; omega) (by omega) (by omega) hd (fun qa cA H1 hK1 hP1 hD1 hS1 => zW_size (fun hsz => ?_))
        have hcA : cA = ar 1 := by
          have h1 := (hK1.2 6 (cA, .long) rfl).2
          have h2 := (hE.1.2 1 _ rfl).2
          exact Option.some.inj (h1.symm.trans h2)
        subst hcA
        have ez : zcell ar (zup b B adK) (znew h 21 n.toNatClampNeg) h.1 = .inl (ar 1, n.toNatClampNeg, .inr (.inl (fun _ => 0))) := by
          rw [zcell_21 (zp_self _ _ _)]
          simp [znew, zp]
        obtain ⟨hqe, P1⟩ := zP_new (t := 21) P (by omega) hn4 hP1 hD1 hS1 hsz ez
        have k3 := k2 H1 locs lsJ P1 hl
        simp only [List.map_cons, zV, ← hqe] at k3
        exact W.widen (Nat.le_refl _) (by omega) k3
  next => cases ha
theorem zstep_anew {mi pc pc' len i : Nat} {ls ls' : List (Option Value)} {st st' : List Value} {h h' : ZH} {lsJ : Array Slot} (C : zCx p R s m args meth c D ar B b L xs adK adV mi) (hz : zC mi pc = some (.anewarray i, len)) (ha : zact mi pc (.anewarray i) ls st h = some (pc', ls', st', h')) (P : zPt D ar (zup b B adK) B L xs s h H locs cells) (hl : zLR (zup b B adK) ls lsJ c.maxLocals) (hR : cells + (h'.1 - h.1) ≤ R.cells ∧ slots + 4096 * (h'.1 - h.1) ≤ R.slots) (kk : ∀ H' locs' lsJ', zPt D ar (zup b B adK) B L xs s h' H' locs' (cells + (h'.1 - h.1)) → zLR (zup b B adK) ls' lsJ' c.maxLocals → W p l e R s m args below meth c H' locs' (cells + (h'.1 - h.1)) (slots + 4096 * (h'.1 - h.1)) Q (F0 m pc' lsJ' (st'.map (zV (zup b B adK))))) : W p l e R s m args below meth c H locs cells slots Q (F0 m pc lsJ (st.map (zV (zup b B adK)))) := by
  obtain ⟨hx, hb, -, hown, hts, -, hE, hbB, hBs⟩ := C
  obtain ⟨-, hd, hlen, -⟩ := zC_facts hz
  obtain rfl : 3 = len := by simpa [zilen] using hlen
  have main : ∀ (ci t n : Nat) (k : Int32) (q : vw_C) (st0 : List Value), n = k.toNatClampNeg → 0 ≤ k → k ≤ 4096 → (t = 23 ∨ t = 24 ∨ t = 25) → zrC t = q.1 → Cond.classLink (zo (zown mi)) i q.1 ∈ zt → va_AO q.1 s → st = .int k :: st0 → pc' = pc + 3 → ls' = ls → st' = .ref h.1 :: st0 → h' = znew h t n → W p l e R s m args below meth c H locs cells slots Q (F0 m pc lsJ (st.map (zV (zup b B adK)))) := by
    intro ci t n k q st0 en hk0 hk4 ht hC hw hAO e1 e2 e3 e4 e5
    subst en; subst e1; subst e2; subst e3; subst e4; subst e5
    have hn4 := zclamp hk0 hk4
    have e0 : (znew h t k.toNatClampNeg).1 - h.1 = 1 := by show h.1 + 1 - h.1 = 1; omega
    rw [e0] at hR
    have k2 := zknew (h := h) (by rfl) kk
    have hty := ztys_rf (ar := ar) ht
    rw [hC] at hty
    refine va_newq (C := q.1) hx hb hown (hts _ hw) hAO hE.1 (zWd_P P.1) zWd_D P.2.1 (fun q hq => Nat.le_trans hBs hq) (Int32.not_lt.mpr hk0) rfl (by omega) (by omega) (by omega) hd (fun qa cA H1 hK1 hP1 hD1 hS1 => zW_size (fun hsz => ?_))
    have hcA : cA = ar (t - 20) := by
      obtain ⟨_, _, -, -, -, h1⟩ := (hK1.2 6 (cA, .object q.1) rfl).2
      obtain ⟨_, _, -, -, -, h2⟩ := (hE.1.2 (t - 20) _ hty).2
      exact Option.some.inj (h1.symm.trans h2)
    subst hcA
    have ez : zcell ar (zup b B adK) (znew h t k.toNatClampNeg) h.1 = .inl (ar (t - 20), k.toNatClampNeg, .inr (.inr (.inr (.inr (fun _ => none))))) := by
      have e6 : (znew h t k.toNatClampNeg).2.1 h.1 = t := zp_self _ _ _
      rw [zcell_rf (by rw [e6]; exact ht), e6]
      simp [znew, zp]
    obtain ⟨hqe, P1⟩ := zP_new (t := t) P (by omega) hn4 hP1 hD1 hS1 hsz ez
    have k3 := k2 H1 locs lsJ P1 hl
    simp only [List.map_cons, zV, ← hqe] at k3
    exact W.widen (Nat.le_refl _) (by omega) k3
  unfold zact at ha; dsimp only at ha; split at ha
  next ci p0 n st0 hk =>
    cases hq : (decide (0 ≤ n) && decide (n ≤ 4096)) with
    | false => rw [hq] at ha; cases ha
    | true =>
      rw [hq] at ha
      simp only [Bool.and_eq_true, decide_eq_true_eq] at hq
      dsimp only [cond_true] at ha
      obtain ⟨q, hc, hw⟩ := zK_facts hk
      obtain ⟨-, -, -, -, hqn⟩ := zcls hc
      split at ha
      · cases ha
        exact main 4 23 _ n q _ rfl hq.1 hq.2 (by omega) (by rw [hqn]; rfl) hw (by rw [hqn]; exact hE.2.2.2.2.1.1) rfl rfl rfl rfl rfl
      · cases ha
        exact main 0 24 _ n q _ rfl hq.1 hq.2 (by omega) (by rw [hqn]; rfl) hw (by rw [hqn]; exact hE.2.2.2.2.1.2.1) rfl rfl rfl rfl rfl
      · cases ha
        exact main 2 25 _ n q _ rfl hq.1 hq.2 (by omega) (by rw [hqn]; rfl) hw (by rw [hqn]; exact hE.2.2.2.2.1.2.2) rfl rfl rfl rfl rfl
      · cases ha
  next => cases ha
end ZSIMN
