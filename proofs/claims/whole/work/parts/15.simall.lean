section ZALL
variable {p : Program} {l : Launch} {e : Env} {R : Room} {s : State} {m : MethodId} {args : Array Value} {below : List Frame} {meth : Method} {c : Code} {H : Heap} {locs : List Loc} {cells slots : Nat} {Q : State → Prop}
variable {D : va_G} {ar : Nat → ClassId} {B b L : Nat} {xs : Nat → Int32} {adK adV : Nat → Nat}
theorem zrun {pc : Nat} {lsJ : Array Slot} {st0 rest : List Value} {h h1 : ZH} {v : Option Value} {a : Array Value} (P : zPt D ar (zup b B adK) B L xs s h H locs cells) (hle : h.1 ≤ h1.1) (hr : va_Run p l e R s m args below meth c H locs cells slots (h1.1 - h.1) (4096 * (h1.1 - h.1)) (F0 m pc lsJ st0) rest (zQc D ar B b L xs adK v h1 a) (fun q => B ≤ q)) (kk : ∀ H' locs', zPt D ar (zup b B adK) B L xs s h1 H' locs' (cells + (h1.1 - h.1)) → W p l e R s m args below meth c H' locs' (cells + (h1.1 - h.1)) (slots + 4096 * (h1.1 - h.1)) Q (F0 m (pc + 3) lsJ ((v.map (zV (zup b B adK))).toList ++ rest))) : W p l e R s m args below meth c H locs cells slots Q (F0 m pc lsJ st0) := by
  intro T hT X
  obtain ⟨v', st₀, t, T', L0, h0, X', hL, e1, e2, ⟨hv, ⟨hH, hw⟩, hz, hk⟩, st⟩ := hr T hT X
  cases hv
  rw [h0] at hz hk
  obtain ⟨hH0, hS0, hc0, -⟩ := P
  rw [← e1] at hH hz hk
  have hs1 := hH0.2.1
  have hs2 := hH.2.1
  have h8 := hH0.1
  obtain ⟨t2, a1, b1⟩ := kk T'.heap (locs ++ L0) ⟨hH, ⟨Nat.le_trans hS0.1 hz, fun q g1 g2 => (hk q (Nat.lt_of_lt_of_le g1 hS0.1) g2).trans (hS0.2.1 q g1 g2), fun q hq => by
    rcases List.mem_append.mp hq with g | g
    · exact hS0.2.2 q g
    · exact hL q g⟩, by omega, hw⟩ T' rfl X'
  exact ⟨t2, st t2 a1, b1⟩
theorem zblind {As : List Value} {h : ZH} (hbB : b < B) : FrameBlind (zPc D ar B b L xs adK adV As h) := by
  intro a U g mk q
  obtain ⟨h1, h2, h3⟩ := q
  have hb : b < U.heap.size := by rw [h3.2.1]; omega
  exact ⟨h1, zEnv.moved (u := U) (U := U.calling g mk a) (State.WarmedH.refl U) (fun _ _ _ => rfl) hb hbB h2, h3⟩
theorem zpre {As : List Value} {h : ZH} (hbB : b < B) (hBs : B ≤ s.heap.size) (hE : zEnv D ar B b L xs adK adV s s.heap) (P : zPt D ar (zup b B adK) B L xs s h H locs cells) : ∀ U : State, U.heap = H → s.WarmedH U.vm → zPc D ar B b L xs adK adV As h (As.map (zV (zup b B adK))).toArray U := by
  intro U hU hW
  refine ⟨rfl, ?_, by rw [hU]; exact P.1⟩
  rw [hU]
  exact zEnv.moved hW (fun q g1 g2 => P.2.1.2.1 q g1 g2) (Nat.lt_of_lt_of_le hbB hBs) hbB hE
theorem zroom_spec {mi mj : Nat} {qi qj : Nat × Nat × Nat × Nat × Nat × Nat} (h : zroom mi mj = true) (hi : zq mi = some qi) (hj : zq mj = some qj) (h1 : qi.2.2.2.2.1 ≤ R.frames) (h2 : qi.2.2.2.2.2 ≤ R.locals) (k : Nat) : (zrm mj k).frames + 1 ≤ R.frames ∧ 8 + (qj.2.1 + 11) + (zrm mj k).locals ≤ R.locals := by
  obtain ⟨o, mL, rk, np, fi, li⟩ := qi
  obtain ⟨o', mL', rk', np', fi', li'⟩ := qj
  unfold zroom at h
  rw [hi, hj] at h
  simp only [Bool.and_eq_true, Nat.ble_eq] at h
  unfold zrm
  rw [hj]
  dsimp only at h1 h2 ⊢
  omega
theorem zrm_c (mj k : Nat) : (zrm mj k).cells = k ∧ (zrm mj k).slots = 4096 * k := by
  unfold zrm
  split <;> exact ⟨rfl, rfl⟩
theorem zsplit {st rest : List Value} {np : Nat} {x : Value} (h : st.drop np = x :: rest) : st = (st.take np).reverse.reverse ++ x :: rest ∧ (st.take np).reverse.length = np := by
  refine ⟨by rw [List.reverse_reverse, ← h, List.take_append_drop], ?_⟩
  have : np < st.length := by
    rcases Nat.lt_or_ge np st.length with g | g
    · exact g
    · rw [List.drop_eq_nil_of_le g] at h; cases h
  simp
  omega
theorem zokR_A {mi i kd mj p0 : Nat} (h : zokR mi i = true) (hk : zml (zown mi) i = some (kd, mj, p0)) (h1 : kd ≤ 3) : zroom mi mj = true := by
  unfold zokR at h
  rw [hk] at h
  dsimp only at h
  rw [Nat.ble_eq.mpr h1] at h
  exact h
theorem zmap_rev (up : Nat → Nat) (l : List Value) : (l.reverse).map (zV up) = (l.map (zV up)).reverse := List.map_reverse
set_option maxHeartbeats 4000000 in
theorem zcallstep {n mi pc len mj : Nat} {ins : Instr} {ls : List (Option Value)} {st As rest : List Value} {h h1 : ZH} {v : Option Value} {lsJ : Array Slot} (ih : zSim n) (C : zCx p R s m args meth c D ar B b L xs adK adV mi) (hz : zC mi pc = some (ins, len)) (ha : zcallf mi ins st h = some (mj, As, rest)) (hx1 : zex n mj 0 (zentry mj As) [] h = some (v, h1)) (P : zPt D ar (zup b B adK) B L xs s h H locs cells) (hl : zLR (zup b B adK) ls lsJ c.maxLocals) (hR : cells + (h1.1 - h.1) ≤ R.cells ∧ slots + 4096 * (h1.1 - h.1) ≤ R.slots) (kk : ∀ H' locs', zPt D ar (zup b B adK) B L xs s h1 H' locs' (cells + (h1.1 - h.1)) → W p l e R s m args below meth c H' locs' (cells + (h1.1 - h.1)) (slots + 4096 * (h1.1 - h.1)) Q (F0 m (pc + 3) lsJ ((v.toList ++ rest).map (zV (zup b B adK))))) : W p l e R s m args below meth c H locs cells slots Q (F0 m pc lsJ (st.map (zV (zup b B adK)))) := by
  obtain ⟨hx, hb, ⟨qi, hqi, hml, hfr, hlo⟩, hown, hts, -, hE, hbB, hBs⟩ := C
  obtain ⟨-, hd, hlen, hok⟩ := zC_facts hz
  have hle := zex_le _ _ _ _ _ _ _ _ hx1
  have k2 : ∀ H' locs', zPt D ar (zup b B adK) B L xs s h1 H' locs' (cells + (h1.1 - h.1)) → W p l e R s m args below meth c H' locs' (cells + (h1.1 - h.1)) (slots + 4096 * (h1.1 - h.1)) Q (F0 m (pc + 3) lsJ ((v.map (zV (zup b B adK))).toList ++ rest.map (zV (zup b B adK)))) := by
    intro H' locs' hP'
    have := kk H' locs' hP'
    rw [List.map_append] at this
    cases v <;> exact this
  cases ins <;> first | (cases ha; done) | skip
  case invokevirtual i =>
    obtain rfl : 3 = len := by simpa [zilen] using hlen
    unfold zcallf at ha; dsimp only at ha; split at ha
    next mj0 p0 hk =>
      split at ha
      next oj mL rk np fl hqj =>
        split at ha
        next a rest0 hdr =>
          cases hs : (Nat.beq (h.2.1 a) (oj + 1) && Nat.ble (zsumc rest0) 8 && Nat.ble (zarg (.ref a :: (st.take np).reverse)).length mL) with
          | false => rw [hs] at ha; cases ha
          | true =>
            rw [hs] at ha
            cases ha
            simp only [Bool.and_eq_true, Nat.beq_eq, Nat.ble_eq] at hs
            obtain ⟨⟨hta, hs8⟩, hAl⟩ := hs
            have hL := zml_facts hk
            unfold zokL at hL
            rw [hk] at hL
            simp only [Bool.and_eq_true, Nat.blt_eq] at hL
            obtain ⟨hL1, hL2, hL3, hL4, hL5⟩ := hL
            obtain ⟨qj, hqj', hini, hcls, -, hcn, hpar, -, howj, -⟩ := zq_some (mi := mj) (by omega)
            cases hqj.symm.trans hqj'
            have hcj : ∃ r : vw_C, zcl[oj]? = some r := by
              have : oj < zcl.length := by rw [howj] at hL4; exact hL4
              exact ⟨_, List.getElem?_eq_getElem this⟩
            obtain ⟨r, hr⟩ := hcj
            obtain ⟨-, -, hci, -, hrn⟩ := zcls hr
            obtain ⟨-, -, -, hat⟩ := zP_at P hta (by omega) (by omega)
            rw [zcell_obj hta hci] at hat
            have hM := zmet_of ih (l := l) (D := D) (ar := ar) (adK := adK) (adV := adV) (by omega) hqj hx1 P.2.2.2 hbB hAl
            obtain ⟨es, el⟩ := zsplit hdr
            have hroom := zroom_spec (zokR_A hok hk (by omega)) hqi hqj hfr hlo (h1.1 - h.1)
            have hwds : zwds mj = Cond.code (zy mj) (zb mj) mL (zr mj) :: zt := by unfold zwds; rw [hqj]
            have hcb := callB_of (Ts := zt) (ws := zwds mj) (y := zy mj) (bytes := zb mj) (maxL := mL) (ret := zr mj) (rm := zrm mj (h1.1 - h.1)) (own := zo (zown mi)) (index := i) np hts (zgood hL5 hqj) hwds (zrm_c mj _).1 (zrm_c mj _).2 (hts _ (zgw_mem hini)) (hts _ (zgw_mem hL1)) ⟨hcn.1, hcn.2, hpar⟩ hroom
            have hrecv := va_recv hE.1 (zP1 hat) hr (q0 := 0) rfl
            rw [hrn, ← hcls] at hrecv
            refine zrun P hle (va_runV (As := ((st.take np).reverse).map (zV (zup b B adK))) (b := zup b B adK a) (rest := rest.map (zV (zup b B adK))) ⟨hx, hb, rfl, hown, hts⟩ hM ⟨hcb, hts _ (zgw_mem hL2), hts _ (zgw_mem hL3)⟩ ⟨zblind hbB, hrecv, zpre hbB hBs hE P⟩ rfl (by rw [List.length_map]; exact el) hl.2.1 ?_ (lv_room (by rw [zV_sum]; exact hs8)) hd hR) k2
            show st.map (zV (zup b B adK)) = _
            conv => lhs; rw [es]
            rw [List.map_append, zmap_rev]
            rfl
        next => cases ha
      next => cases ha
    next => cases ha
  case invokespecial i =>
    obtain rfl : 3 = len := by simpa [zilen] using hlen
    unfold zcallf at ha; dsimp only at ha; split at ha
    next kd mj0 p0 hk =>
      cases hkd : (Nat.beq kd 1 || Nat.beq kd 2) with
      | false => rw [hkd] at ha; cases ha
      | true =>
        rw [hkd] at ha
        dsimp only [cond_true] at ha
        simp only [Bool.or_eq_true, Nat.beq_eq] at hkd
        split at ha
        next oj mL rk np fl hqj =>
          split at ha
          next a rest0 hdr =>
            cases hs : (Nat.ble (zsumc rest0) 8 && Nat.ble (zarg (.ref a :: (st.take np).reverse)).length mL) with
            | false => rw [hs] at ha; cases ha
            | true =>
              rw [hs] at ha
              cases ha
              simp only [Bool.and_eq_true, Nat.ble_eq] at hs
              obtain ⟨hs8, hAl⟩ := hs
              have hL := zml_facts hk
              unfold zokL at hL
              obtain ⟨es, el⟩ := zsplit hdr
              have hroom := zroom_spec (zokR_A hok hk (by omega)) hqi hqj hfr hlo (h1.1 - h.1)
              have hwds : zwds mj = Cond.code (zy mj) (zb mj) mL (zr mj) :: zt := by unfold zwds; rw [hqj]
              have hst : st.map (zV (zup b B adK)) = (((st.take np).reverse).map (zV (zup b B adK))).reverse ++ .ref (zup b B adK a) :: rest.map (zV (zup b B adK)) := by
                conv => lhs; rw [es]
                rw [List.map_append, zmap_rev]
                rfl
              rcases hkd with rfl | rfl
              · rw [hk] at hL
                simp only [Bool.and_eq_true, Nat.blt_eq, decide_eq_true_eq, Nat.beq_eq] at hL
                obtain ⟨hL1, hL2, hL3, hL4, hL5⟩ := hL
                obtain ⟨qj, hqj', hini, hcls, -, hcn, hpar, hrk, howj, hrt⟩ := zq_some (mi := mj) (by omega)
                cases hqj.symm.trans hqj'
                have hM := zmet_of ih (l := l) (D := D) (ar := ar) (adK := adK) (adV := adV) (by omega) hqj hx1 P.2.2.2 hbB hAl
                have e1 : zr mj = none := by
                  unfold zrkok at hrk
                  rw [hrt] at hL4
                  dsimp only at hL4 hrk
                  rw [hL4] at hrk
                  cases hz2 : zr mj with
                  | none => rfl
                  | some t => rw [hz2] at hrk; cases hrk
                have hwds2 : zwds mj = Cond.code (zy mj) (zb mj) mL none :: zt := by rw [hwds, e1]
                have hcb := callB_of (Ts := zt) (ws := zwds mj) (y := zy mj) (bytes := zb mj) (maxL := mL) (ret := none) (rm := zrm mj (h1.1 - h.1)) (own := zo (zown mi)) (index := i) np hts (zgood hL5 hqj) hwds2 (zrm_c mj _).1 (zrm_c mj _).2 (hts _ (zgw_mem hini)) (hts _ (zgw_mem hL1)) ⟨hcn.1, hcn.2, hpar⟩ hroom
                exact zrun P hle (va_runI (As := ((st.take np).reverse).map (zV (zup b B adK))) (b := zup b B adK a) (rest := rest.map (zV (zup b B adK))) ⟨hx, hb, rfl, hown, hts⟩ hM ⟨hcb, hL3, hts _ (zgw_mem hL2)⟩ ⟨zblind hbB, zpre hbB hBs hE P⟩ rfl (by rw [List.length_map]; exact el) hl.2.1 hst (lv_room (by rw [zV_sum]; exact hs8)) hd hR) k2
              · rw [hk] at hL
                simp only [Bool.and_eq_true, Nat.blt_eq, decide_eq_true_eq, Nat.beq_eq] at hL
                obtain ⟨hL1, hL2, hL3, hL4, hL5⟩ := hL
                obtain ⟨qj, hqj', hini, hcls, -, hcn, hpar, hrk, howj, hrt⟩ := zq_some (mi := mj) (by omega)
                cases hqj.symm.trans hqj'
                have hM := zmet_of ih (l := l) (D := D) (ar := ar) (adK := adK) (adV := adV) (by omega) hqj hx1 P.2.2.2 hbB hAl
                have e1 : zr mj = none := by
                  unfold zrkok at hrk
                  rw [hrt] at hL4
                  dsimp only at hL4 hrk
                  rw [hL4] at hrk
                  cases hz2 : zr mj with
                  | none => rfl
                  | some t => rw [hz2] at hrk; cases hrk
                have hwds2 : zwds mj = Cond.code (zy mj) (zb mj) mL none :: zt := by rw [hwds, e1]
                have hcb := va_cnB (Ts := zt) (ws := zwds mj) (y := zy mj) (bytes := zb mj) (maxL := mL) (ret := none) (rm := zrm mj (h1.1 - h.1)) (own := zo (zown mi)) (index := i) (host := "PoplarQueue") (args := args) (s := s) (R := R) np hts (zgood hL5 hqj) hwds2 (zrm_c mj _).1 (zrm_c mj _).2 (hE.2.2.2.1 _ _ _ _ hk) (hts _ (zgw_mem hini)) ⟨hcn.1, hcn.2, hpar⟩ hroom
                exact zrun P hle (va_runIN (As := ((st.take np).reverse).map (zV (zup b B adK))) (b := zup b B adK a) (rest := rest.map (zV (zup b B adK))) ⟨hx, hb, rfl, hown, hts⟩ hM ⟨hcb, hL3, hts _ (zgw_mem hL2)⟩ ⟨zblind hbB, zpre hbB hBs hE P⟩ rfl (by rw [List.length_map]; exact el) hl.2.1 hst (lv_room (by rw [zV_sum]; exact hs8)) hd hR) k2
          next => cases ha
        next => cases ha
    next => cases ha
  case invokestatic i =>
    obtain rfl : 3 = len := by simpa [zilen] using hlen
    unfold zcallf at ha; dsimp only at ha; split at ha
    next mj0 p0 hk =>
      split at ha
      next oj mL rk np fl hqj =>
        cases hs : (Nat.ble np st.length && Nat.ble (zsumc (st.drop np)) 8 && Nat.ble (zarg (st.take np).reverse).length mL) with
        | false => rw [hs] at ha; cases ha
        | true =>
          rw [hs] at ha
          cases ha
          simp only [Bool.and_eq_true, Nat.ble_eq] at hs
          obtain ⟨⟨hnp, hs8⟩, hAl⟩ := hs
          have hL := zml_facts hk
          unfold zokL at hL
          rw [hk] at hL
          simp only [Bool.and_eq_true, Nat.blt_eq] at hL
          obtain ⟨hL1, hL2, hL5⟩ := hL
          obtain ⟨qj, hqj', hini, hcls, -, hcn, hpar, -, howj, -⟩ := zq_some (mi := mj) (by omega)
          cases hqj.symm.trans hqj'
          have hM := zmet_of ih (l := l) (D := D) (ar := ar) (adK := adK) (adV := adV) (by omega) hqj hx1 P.2.2.2 hbB hAl
          have hroom := zroom_spec (zokR_A hok hk (by omega)) hqi hqj hfr hlo (h1.1 - h.1)
          have hwds : zwds mj = Cond.code (zy mj) (zb mj) mL (zr mj) :: zt := by unfold zwds; rw [hqj]
          have hcb := callB_of (Ts := zt) (ws := zwds mj) (y := zy mj) (bytes := zb mj) (maxL := mL) (ret := zr mj) (rm := zrm mj (h1.1 - h.1)) (own := zo (zown mi)) (index := i) np hts (zgood hL5 hqj) hwds (zrm_c mj _).1 (zrm_c mj _).2 (hts _ (zgw_mem hini)) (hts _ (zgw_mem hL1)) ⟨hcn.1, hcn.2, hpar⟩ hroom
          refine zrun P hle (va_runS (As := ((st.take np).reverse).map (zV (zup b B adK))) (rest := (st.drop np).map (zV (zup b B adK))) ⟨hx, hb, rfl, hown, hts⟩ hM ⟨hcb, hts _ (zgw_mem hL2)⟩ ⟨zblind hbB, zpre hbB hBs hE P⟩ rfl (by rw [List.length_map, List.length_reverse, List.length_take]; omega) hl.2.1 ?_ (lv_room (by rw [zV_sum]; exact hs8)) hd hR) k2
          show st.map (zV (zup b B adK)) = _
          rw [zmap_rev, List.reverse_reverse, ← List.map_append, List.take_append_drop]
      next => cases ha
    next => cases ha
theorem zsim : ∀ n, zSim n := by
  intro n
  induction n with
  | zero =>
    intro p l e R s m args below meth c H locs cells slots Q D ar B b L xs adK adV mi pc ls st h v hf lsJ cF sF hx
    simp [zex] at hx
  | succ n ih =>
    intro p l e R s m args below meth c H locs cells slots Q D ar B b L xs adK adV mi pc ls st h v hf lsJ cF sF hx C P hl hcF hsF hRc hRs hret
    cases hc : zC mi pc with
    | none => unfold zex at hx; rw [hc] at hx; cases hx
    | some x =>
      obtain ⟨ins, len⟩ := x
      rw [zex_eq hc] at hx
      cases hr : zretf mi ins st with
      | some w =>
        rw [hr] at hx
        cases hx
        have e1 : cF = cells := by omega
        have e2 : sF = slots := by omega
        subst e1; subst e2
        exact hret pc lsJ H locs _ (zretf_spec hc hr) P
      | none =>
        rw [hr] at hx
        dsimp only at hx
        cases hk : zcallf mi ins st h with
        | some y =>
          obtain ⟨mj, As, rest⟩ := y
          rw [hk] at hx
          dsimp only at hx
          cases hz : zex n mj 0 (zentry mj As) [] h with
          | none => rw [hz] at hx; cases hx
          | some q =>
            obtain ⟨v1, h1⟩ := q
            rw [hz] at hx
            dsimp only at hx
            have l1 := zex_le _ _ _ _ _ _ _ _ hz
            have l2 := zex_le _ _ _ _ _ _ _ _ hx
            exact zcallstep ih C hc hk hz P hl ⟨by omega, by omega⟩ (fun H' locs' P' => ih p l e R s m args below meth c H' locs' _ _ Q D ar B b L xs adK adV mi (pc + 3) ls (v1.toList ++ rest) h1 v hf lsJ cF sF hx C P' hl (by omega) (by omega) hRc hRs hret)
        | none =>
          rw [hk] at hx
          dsimp only at hx
          cases ha : zact mi pc ins ls st h with
          | none => rw [ha] at hx; cases hx
          | some y =>
            obtain ⟨pc', ls', st', h'⟩ := y
            rw [ha] at hx
            dsimp only at hx
            cases hq : Nat.ble h.1 h'.1 with
            | false => rw [hq] at hx; cases hx
            | true =>
              rw [hq] at hx
              dsimp only [cond_true] at hx
              have l1 := Nat.ble_eq.mp hq
              have l2 := zex_le _ _ _ _ _ _ _ _ hx
              exact zstep C hc ha P hl ⟨by omega, by omega⟩ (fun H' locs' lsJ' P' hl' => ih p l e R s m args below meth c H' locs' _ _ Q D ar B b L xs adK adV mi pc' ls' st' h' v hf lsJ' cF sF hx C P' hl' (by omega) (by omega) hRc hRs hret)
end ZALL
