theorem zroomB_spec {mi f w : Nat} {R : Room} (h : zroomB mi f w = true) (hq : ∃ q, zq mi = some q ∧ q.2.2.2.2.1 ≤ R.frames ∧ q.2.2.2.2.2 ≤ R.locals) : f ≤ R.frames ∧ w ≤ R.locals := by
  obtain ⟨⟨o, mL, rk, np, fi, li⟩, hq, h1, h2⟩ := hq
  unfold zroomB at h
  rw [hq] at h
  simp only [Bool.and_eq_true, Nat.ble_eq] at h
  exact ⟨Nat.le_trans h.1 h1, Nat.le_trans h.2 h2⟩
theorem zokR_B {mi i kd mj p0 : Nat} (h : zokR mi i = true) (hk : zml (zown mi) i = some (kd, mj, p0)) (h1 : 4 ≤ kd) : (kd ≤ 11 → zroomB mi 1 40 = true) ∧ (12 ≤ kd → zroomB mi 4 90 = true) := by
  unfold zokR at h
  rw [hk] at h
  dsimp only at h
  have e : Nat.ble kd 3 = false := by
    cases hb : Nat.ble kd 3 with
    | false => rfl
    | true => rw [Nat.ble_eq] at hb; omega
  rw [e] at h
  constructor
  · intro h2
    rw [Nat.ble_eq.mpr h2] at h
    exact h
  · intro h2
    have e2 : Nat.ble kd 11 = false := by
      cases hb : Nat.ble kd 11 with
      | false => rfl
      | true => rw [Nat.ble_eq] at hb; omega
    rw [e2] at h
    exact h
section ZSIMC
variable {p : Program} {l : Launch} {e : Env} {R : Room} {s : State} {m : MethodId} {args : Array Value} {below : List Frame} {meth : Method} {c : Code} {H : Heap} {locs : List Loc} {cells slots : Nat} {Q : State → Prop}
variable {D : va_G} {ar : Nat → ClassId} {B b L : Nat} {xs : Nat → Int32} {adK adV : Nat → Nat}
theorem zstep_obj {mi pc pc' len i : Nat} {ls ls' : List (Option Value)} {st st' : List Value} {h h' : ZH} {lsJ : Array Slot} (C : zCx p R s m args meth c D ar B b L xs adK adV mi) (hz : zC mi pc = some (.invokespecial i, len)) (ha : zact mi pc (.invokespecial i) ls st h = some (pc', ls', st', h')) (P : zPt D ar (zup b B adK) B L xs s h H locs cells) (hl : zLR (zup b B adK) ls lsJ c.maxLocals) (kk : ∀ H' locs' lsJ', zPt D ar (zup b B adK) B L xs s h' H' locs' (cells + (h'.1 - h.1)) → zLR (zup b B adK) ls' lsJ' c.maxLocals → W p l e R s m args below meth c H' locs' (cells + (h'.1 - h.1)) (slots + 4096 * (h'.1 - h.1)) Q (F0 m pc' lsJ' (st'.map (zV (zup b B adK))))) : W p l e R s m args below meth c H locs cells slots Q (F0 m pc lsJ (st.map (zV (zup b B adK)))) := by
  obtain ⟨hx, hb, ⟨q, hq, hml, hfr, hlo⟩, hown, hts, -, hE, hbB, hBs⟩ := C
  obtain ⟨-, hd, hlen, hok⟩ := zC_facts hz
  obtain rfl : 3 = len := by simpa [zilen] using hlen
  unfold zact at ha; dsimp only at ha; split at ha
  next mj p0 hk =>
    split at ha
    next a rest =>
      cases hs : Nat.ble (zsumc rest) 8 with
      | false => rw [hs] at ha; cases ha
      | true =>
        rw [hs] at ha
        cases ha
        have hL := zml_facts hk
        unfold zokL at hL
        rw [hk] at hL
        have hroom := zroomB_spec ((zokR_B hok hk (by omega)).1 (by omega)) ⟨q, hq, hfr, hlo⟩
        have k2 := zkn rfl kk _ _ _ P hl
        have hs8 : zsumc st' ≤ 8 := Nat.ble_eq.mp hs
        refine W.objInit hx hb hown (hts _ (zgw_mem hL)) (hts _ zwd_objI) (hts _ zwd_objC) rfl hl.2.1 rfl hd hroom.1 ?_ k2
        show 2 * 0 + ((st'.map (zV (zup b B adK))).map fun v => v.category).sum + 12 ≤ R.locals
        rw [zV_sum]
        omega
    next => cases ha
  next => cases ha
theorem zstep_copy {mi pc pc' len i : Nat} {ls ls' : List (Option Value)} {st st' : List Value} {h h' : ZH} {lsJ : Array Slot} (C : zCx p R s m args meth c D ar B b L xs adK adV mi) (hz : zC mi pc = some (.invokestatic i, len)) (ha : zact mi pc (.invokestatic i) ls st h = some (pc', ls', st', h')) (P : zPt D ar (zup b B adK) B L xs s h H locs cells) (hl : zLR (zup b B adK) ls lsJ c.maxLocals) (kk : ∀ H' locs' lsJ', zPt D ar (zup b B adK) B L xs s h' H' locs' (cells + (h'.1 - h.1)) → zLR (zup b B adK) ls' lsJ' c.maxLocals → W p l e R s m args below meth c H' locs' (cells + (h'.1 - h.1)) (slots + 4096 * (h'.1 - h.1)) Q (F0 m pc' lsJ' (st'.map (zV (zup b B adK))))) : W p l e R s m args below meth c H locs cells slots Q (F0 m pc lsJ (st.map (zV (zup b B adK)))) := by
  obtain ⟨hx, hb, ⟨q, hq, hml, hfr, hlo⟩, hown, hts, -, hE, hbB, hBs⟩ := C
  obtain ⟨-, hd, hlen, hok⟩ := zC_facts hz
  obtain rfl : 3 = len := by simpa [zilen] using hlen
  have hw := P.2.2.2
  unfold zact at ha; dsimp only at ha; split at ha
  next mj p0 hk =>
    split at ha
    next n d a sp b0 rest =>
      cases hs : (Nat.beq (h.2.1 a) 20 && Nat.beq (h.2.1 b0) 20 && decide (d = 0) && decide (sp = 0) && decide (0 ≤ n) && decide (n ≤ Int32.ofNat (h.2.2.1 a)) && decide (n ≤ Int32.ofNat (h.2.2.1 b0)) && Nat.ble (zsumc rest) 8) with
      | false => rw [hs] at ha; cases ha
      | true =>
        rw [hs] at ha
        cases ha
        simp only [Bool.and_eq_true, Nat.beq_eq, decide_eq_true_eq, Nat.ble_eq] at hs
        obtain ⟨⟨⟨⟨⟨⟨⟨hta, htb⟩, rfl⟩, rfl⟩, hn0⟩, hna⟩, hnb⟩, hs8⟩ := hs
        have hL := zml_facts hk
        unfold zokL at hL
        rw [hk] at hL
        have hroom := zroomB_spec ((zokR_B hok hk (by omega)).1 (by omega)) ⟨q, hq, hfr, hlo⟩
        have k2 := zkn (h := h) (by rfl) kk
        obtain ⟨g8, glt, eup, -⟩ := zP_at P hta (by omega) (by omega)
        obtain ⟨f8, flt, fup, -⟩ := zP_at P htb (by omega) (by omega)
        have ha4 := hw.2.2.2.2.1 a (by omega) (by omega)
        have hb4 := hw.2.2.2.2.1 b0 (by omega) (by omega)
        have a0 : (0 : Int) ≤ n.toInt := by simpa using Int32.le_iff_toInt_le.mp hn0
        have a1 : n.toInt ≤ (h.2.2.1 a : Int) := by
          have := Int32.le_iff_toInt_le.mp hna
          rwa [show (Int32.ofNat (h.2.2.1 a)).toInt = (h.2.2.1 a : Int) from nI_toInt (by omega)] at this
        have a2 : n.toInt ≤ (h.2.2.1 b0 : Int) := by
          have := Int32.le_iff_toInt_le.mp hnb
          rwa [show (Int32.ofNat (h.2.2.1 b0)).toInt = (h.2.2.1 b0 : Int) from nI_toInt (by omega)] at this
        have ec : (n.toNatClampNeg : Int) = n.toInt := by
          show ((n.toInt.toNat : Nat) : Int) = _
          omega
        have he := zWd_at (ar := ar) (up := zup b B adK) (B := B) (h := h) g8 glt
        rw [zcell_20 hta] at he
        have hf := zWd_at (ar := ar) (up := zup b B adK) (B := B) (h := h) f8 flt
        rw [zcell_20 htb] at hf
        have z0 : (0 : Int32).toNatClampNeg = 0 := by decide
        simp only [List.map_cons, zV, eup, fup]
        refine va_copyi (ty := .int) hx hb (by rw [hl.2.1]) hown (hts _ (zgw_mem hL)) (hts _ zwd_native) (hts _ zwd_static) (hts _ zwd_system) hE.1 (zWd_P P.1) zWd_D (zS0 P.2.1) (b0 - 8) (a - 8) 0 0 hf he rfl rfl rfl (by decide) (by decide) (Int32.not_lt.mpr hn0) (by rw [z0]; omega) (by rw [z0]; omega) (fun i _ => rfl) hroom.1 ?_ hd (fun H1 locs1 hP1 _ hS1 => zW_size (fun hsz => k2 H1 locs1 lsJ (zP_set P g8 glt rfl (hw.I (fun c j hc => ?_)) hP1 hS1 hsz (fun c _ _ hne => zcell_ne rfl rfl ?_ rfl rfl) (fun hv2 => ?_)) hl))
        · rw [zV_sum]
          show zsumc st' + 18 ≤ _
          omega
        · unfold zcpy
          rw [if_neg (fun z => by omega)]
        · funext j
          show zcpy h.2.2.2.1 a b0 n c j = _
          unfold zcpy
          rw [if_neg (fun z => hne z.1)]
        · rw [zcell_20 (h := zI h (zcpy h.2.2.2.1 a b0 n)) hta]
          refine zat_i (fun j hj => ?_) hv2
          rw [z0]
          show va_cpy _ _ 0 0 n.toNatClampNeg j = zcpy h.2.2.2.1 a b0 n a (nI j)
          unfold va_cpy zcpy
          have hj : j < h.2.2.1 a := hj
          have ej : (nI j).toInt = (j : Int) := nI_toInt (by omega)
          have hc1 : (0 : Int32) ≤ nI j := Int32.le_iff_toInt_le.mpr (by rw [ej]; simp)
          by_cases hjn : j < n.toNatClampNeg
          · rw [if_pos ⟨Nat.zero_le _, by omega⟩, if_pos ⟨rfl, hc1, Int32.lt_iff_toInt_lt.mpr (by rw [ej]; omega)⟩]
            simp
          · rw [if_neg (fun z => by omega), if_neg (fun z => by
              have := Int32.lt_iff_toInt_lt.mp z.2.2
              rw [ej] at this
              omega)]
    next => cases ha
  next => cases ha
end ZSIMC
