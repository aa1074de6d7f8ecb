theorem zq_some {mi : Nat} (h : mi < 207) : ∃ q, zq mi = some q ∧ (zgw (zqp mi).2.1 (.initialized (zy mi).cls) = true) ∧ (zy mi).cls = zo q.1 ∧ plainName (zy mi).cls = true ∧ ((zy mi).cls ≠ "java/lang/invoke/MethodHandle" ∧ (zy mi).cls ≠ "java/lang/invoke/VarHandle") ∧ (parseMethodDescriptor (zy mi).desc).map (fun d => d.parameters.length) = some q.2.2.2.1 ∧ zrkok mi q.2.2.1 = true ∧ zown mi = q.1 ∧ zret mi = q.2.2.1 := by
  have hk := zokM_all mi h
  unfold zokM at hk
  cases hq : zq mi with
  | none => rw [hq] at hk; cases hk
  | some q =>
    obtain ⟨o, mL, rk, np, fi, li⟩ := q
    rw [hq] at hk
    simp only [Bool.and_eq_true, decide_eq_true_eq] at hk
    exact ⟨_, rfl, hk.1, hk.2.1, hk.2.2.1, hk.2.2.2.1, hk.2.2.2.2.1, hk.2.2.2.2.2, by unfold zown; rw [hq], by unfold zret; rw [hq]⟩
theorem zcode_in {mi : Nat} {q : Nat × Nat × Nat × Nat × Nat × Nat} (h : mi < 206) (hq : zq mi = some q) : Cond.code (zy mi) (zb mi) q.2.1 (zr mi) ∈ zt := by
  have := zcode_206 mi h
  unfold zcode at this
  rw [hq] at this
  exact this
theorem zgood {mi : Nat} (h : mi < 206) {q : Nat × Nat × Nat × Nat × Nat × Nat} (hq : zq mi = some q) : GoodIn zt (zwds mi) := by
  intro w hw
  unfold zwds at hw
  rw [hq] at hw
  have : w ∈ zt := by
    rcases List.mem_cons.mp hw with rfl | hw
    · exact zcode_in h hq
    · exact hw
  exact ⟨this, zt_good w this⟩
set_option maxHeartbeats 2000000 in
theorem zmet_of {n : Nat} (ih : zSim n) {l : Launch} {D : va_G} {ar : Nat → ClassId} {B b L : Nat} {xs : Nat → Int32} {adK adV : Nat → Nat} {mj : Nat} {As : List Value} {h h1 : ZH} {v : Option Value} {q : Nat × Nat × Nat × Nat × Nat × Nat} (hmj : mj < 207) (hq : zq mj = some q) (hz : zex n mj 0 (zentry mj As) [] h = some (v, h1)) (hw : zwf L xs h) (hbB : b < B) (hA : (zarg As).length ≤ q.2.1) : Met l (zy mj) (zwds mj) (zrm mj (h1.1 - h.1)) (zPc D ar B b L xs adK adV As h) (zQc D ar B b L xs adK v h1) (h1.1 - h.1) (4096 * (h1.1 - h.1)) (fun q => B ≤ q) := by
  obtain ⟨q', hq', hini, hcls, hpl, -, -, hrk, howm, hrtm⟩ := zq_some hmj
  cases hq.symm.trans hq'
  have hwds : zwds mj = Cond.code (zy mj) (zb mj) q.2.1 (zr mj) :: zt := by unfold zwds; rw [hq]
  have hrm : zrm mj (h1.1 - h.1) = { frames := q.2.2.2.2.1, cells := h1.1 - h.1, slots := 4096 * (h1.1 - h.1), locals := q.2.2.2.2.2 } := by unfold zrm; rw [hq]
  refine Met.ofW (cc := zb mj) (maxL := q.2.1) (ret := zr mj) hpl hwds ?_
  intro p e s m args below meth c s₁ B0 hml hP
  obtain ⟨rfl, hE, hH⟩ := hP
  have hts := atoms_spec (ws := zwds mj) B0.pre
  have hown : s.vm.findClass (zy mj).cls = some m.cls := findClass_of_methodNamed B0.named
  have hnm : meth.name = (zy mj).name := (name_of_methodNamed B0.named B0.method).1
  have hlocks := B0.notSynchronized
  have hret := B0.returns
  rw [lg_entry_eq]
  have hBs : B ≤ s.heap.size := by rw [hH.2.1]; exact Nat.le_add_right _ _
  have hC : zCx p (headSpec (zwds mj) (zrm mj (h1.1 - h.1))).room s m (As.map (zV (zup b B adK))).toArray meth c D ar B b L xs adK adV mj := by
    refine ⟨B0.exec, B0.bytes, ⟨q, hq, hml, ?_, ?_⟩, by rw [howm, ← hcls]; exact hown, fun w hw => hts w (by rw [hwds]; exact List.mem_cons_of_mem _ hw), hnm, hE, hbB, hBs⟩
    · show _ ≤ (zrm mj (h1.1 - h.1)).frames; rw [hrm]; exact Nat.le_refl _
    · show _ ≤ (zrm mj (h1.1 - h.1)).locals; rw [hrm]; exact Nat.le_refl _
  have hent : zentry mj As = zent q.2.1 As := by unfold zentry; rw [hq]
  have hLR := zent_LR (up := zup b B adK) hA
  rw [← hent, ← hml] at hLR
  rw [hml] at hLR
  refine ih p l e _ s m _ below meth c s.heap [] 0 0 _ D ar B b L xs adK adV mj 0 (zentry mj As) [] h v h1 _ (h1.1 - h.1) (4096 * (h1.1 - h.1)) hz hC ⟨hH, va_S.rf, rfl, hw⟩ (by rw [hml]; exact hLR) (by omega) (by omega) (by show _ ≤ (zrm mj (h1.1 - h.1)).cells; rw [hrm]; exact Nat.le_refl _) (by show _ ≤ (zrm mj (h1.1 - h.1)).slots; rw [hrm]; exact Nat.le_refl _) ?_
  intro pc' lsJ' H' locs' stJ hr P
  obtain ⟨hHf, hSf, hszf, hwf⟩ := P
  have hqq : ∀ t : State, t.heap = H' → s.WarmedH t.vm → zQc D ar B b L xs adK v h1 (As.map (zV (zup b B adK))).toArray s (.returned (v.map (zV (zup b B adK)))) t := fun t ht _ => ⟨rfl, ⟨by rw [ht]; exact hHf, hwf⟩, hSf.F ht⟩
  unfold zRet at hr
  rw [hrtm] at hr
  rcases hr with ⟨rfl, hd, hr, rfl⟩ | ⟨x, rfl, hd, hr, rfl⟩ | ⟨x, rfl, hd, hr, rfl⟩ | ⟨w, rfl, hwr, hd, hr, rfl⟩
  · have e1 : zr mj = none := by
      unfold zrkok at hrk
      rw [hr] at hrk
      cases hz2 : zr mj with
      | none => rfl
      | some t => rw [hz2] at hrk; cases hrk
    exact W.vret (hlocks := hlocks) B0.exec B0.bytes (hret.trans e1) hqq hSf.2.2 hd
  · rcases hr with hr | ⟨hr, hx01⟩
    · have e1 : zr mj = some .int := by
        unfold zrkok at hrk
        rw [hr] at hrk
        cases hz2 : zr mj with
        | none => rw [hz2] at hrk; cases hrk
        | some t => rw [hz2] at hrk; cases t <;> first | rfl | (cases hrk; done)
      exact W.zret (hlocks := hlocks) B0.exec B0.bytes (hret.trans e1) rfl hqq hSf.2.2 hd
    · have e1 : zr mj = some .boolean := by
        unfold zrkok at hrk
        rw [hr] at hrk
        cases hz2 : zr mj with
        | none => rw [hz2] at hrk; cases hrk
        | some t => rw [hz2] at hrk; cases t <;> first | rfl | (cases hrk; done)
      exact W.zret (hlocks := hlocks) B0.exec B0.bytes (hret.trans e1) (by rcases hx01 with rfl | rfl <;> decide) hqq hSf.2.2 hd
  · have e1 : zr mj = some .long := by
      unfold zrkok at hrk
      rw [hr] at hrk
      cases hz2 : zr mj with
      | none => rw [hz2] at hrk; cases hrk
      | some t => rw [hz2] at hrk; cases t <;> first | rfl | (cases hrk; done)
    exact W.lret (hlocks := hlocks) B0.exec B0.bytes (hret.trans e1) hqq hSf.2.2 hd
  · have e1 : ∃ cn, zr mj = some (.object cn) := by
      unfold zrkok at hrk
      rw [hr] at hrk
      cases hz2 : zr mj with
      | none => rw [hz2] at hrk; cases hrk
      | some t => rw [hz2] at hrk; cases t <;> first | exact ⟨_, rfl⟩ | (cases hrk; done)
    obtain ⟨cn, e1⟩ := e1
    exact W.aret (hlocks := hlocks) B0.exec B0.bytes (hret.trans e1) (Or.inl ⟨cn, rfl⟩) (hwr.elim (fun z => Or.inl (by rw [z]; rfl)) (fun z => z.elim (fun a z => Or.inr ⟨_, by rw [z]; rfl⟩))) hqq hSf.2.2 hd
