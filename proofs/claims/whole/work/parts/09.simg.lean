section ZSIMG
variable {p : Program} {l : Launch} {e : Env} {R : Room} {s : State} {m : MethodId} {args : Array Value} {below : List Frame} {meth : Method} {c : Code} {H : Heap} {locs : List Loc} {cells slots : Nat} {Q : State → Prop}
variable {D : va_G} {ar : Nat → ClassId} {B b L : Nat} {xs : Nat → Int32} {adK adV : Nat → Nat}
theorem zcell_20 {h : ZH} {a : Nat} {up : Nat → Nat} (ht : h.2.1 a = 20) : zcell ar up h a = .inl (ar 0, h.2.2.1 a, .inl (fun j => h.2.2.2.1 a (nI j))) := by unfold zcell; rw [ht]; rfl
theorem zcell_21 {h : ZH} {a : Nat} {up : Nat → Nat} (ht : h.2.1 a = 21) : zcell ar up h a = .inl (ar 1, h.2.2.1 a, .inr (.inl (fun j => h.2.2.2.2.1 a (nI j)))) := by unfold zcell; rw [ht]; rfl
theorem zcell_22 {h : ZH} {a : Nat} {up : Nat → Nat} (ht : h.2.1 a = 22) : zcell ar up h a = .inl (ar 2, h.2.2.1 a, .inl (fun j => h.2.2.2.1 a (nI j))) := by unfold zcell; rw [ht]; rfl
def zrA (ar : Nat → ClassId) (t : Nat) : ClassId := ar (t - 20)
theorem zcell_rf {h : ZH} {a : Nat} {up : Nat → Nat} (ht : h.2.1 a = 23 ∨ h.2.1 a = 24 ∨ h.2.1 a = 25) : zcell ar up h a = .inl (ar (h.2.1 a - 20), h.2.2.1 a, .inr (.inr (.inr (.inr (fun j => (h.2.2.2.2.2 a (nI j)).map up))))) := by
  rcases ht with ht | ht | ht <;> (unfold zcell; rw [ht]; rfl)
def zrC (t : Nat) : String := match t with
  | 23 => "PoplarQueue$Plain"
  | 24 => "PoplarQueue$Bag"
  | _ => "PoplarQueue$Holder"
theorem ztys_rf {t : Nat} (ht : t = 23 ∨ t = 24 ∨ t = 25) : (ztys ar)[t - 20]? = some (ar (t - 20), .object (zrC t)) := by
  rcases ht with rfl | rfl | rfl <;> rfl
theorem zat_i {cA : ClassId} {n : Nat} {f g : Nat → Int32} {q : Nat} {H1 : Heap} (hfg : ∀ j, j < n → f j = g j) (h : va_at D zcl (q, .inl (cA, n, .inl f)) H1) : va_at D zcl (q, .inl (cA, n, .inl g)) H1 := by
  have h1 : H1[q]? = some (arrV cA n (fun j => .int (f j))) := h
  show H1[q]? = some (arrV cA n (fun j => .int (g j)))
  rw [h1, zarr_congr (fun j hj => by rw [hfg j hj])]
theorem zat_l {cA : ClassId} {n : Nat} {f g : Nat → Int64} {q : Nat} {H1 : Heap} (hfg : ∀ j, j < n → f j = g j) (h : va_at D zcl (q, .inl (cA, n, .inr (.inl f))) H1) : va_at D zcl (q, .inl (cA, n, .inr (.inl g))) H1 := by
  have h1 : H1[q]? = some (arrV cA n (fun j => .long (f j))) := h
  show H1[q]? = some (arrV cA n (fun j => .long (g j)))
  rw [h1, zarr_congr (fun j hj => by rw [hfg j hj])]
theorem zat_q {cA : ClassId} {n : Nat} {f g : Nat → Option Nat} {q : Nat} {H1 : Heap} (hfg : ∀ j, j < n → f j = g j) (h : va_at D zcl (q, .inl (cA, n, .inr (.inr (.inr (.inr f))))) H1) : va_at D zcl (q, .inl (cA, n, .inr (.inr (.inr (.inr g))))) H1 := by
  have h1 : H1[q]? = some (arrV cA n (fun j => va_rf (f j))) := h
  show H1[q]? = some (arrV cA n (fun j => va_rf (g j)))
  rw [h1, zarr_congr (fun j hj => by rw [hfg j hj])]
/-- a place of an array, by its number: the small machine's store is the machine's -/
theorem zu_row {α : Type} {f : Nat → Int32 → α} {a n j : Nat} {i : Int32} {v : α} (hi : nI i.toNatClampNeg = i) (hin : vp_in i n) (hn : n ≤ 4096) (hj : j < n) : (if j = i.toNatClampNeg then v else f a (nI j)) = zu f a i v a (nI j) := by
  have hlt : i.toNatClampNeg < n := Nat.not_le.mp fun q => hin (Or.inr q)
  unfold zu
  by_cases h : j = i.toNatClampNeg
  · rw [if_pos h, if_pos ⟨rfl, by rw [h]; exact hi⟩]
  · rw [if_neg h, if_neg (fun q => h (nI_inj (by omega) (by omega) (q.2.trans hi.symm)))]
theorem zstep_ald {mi pc pc' len : Nat} {ins : Instr} {ls ls' : List (Option Value)} {st st' : List Value} {h h' : ZH} {lsJ : Array Slot} (hi : ins = .iaload ∨ ins = .baload ∨ ins = .laload ∨ ins = .aaload ∨ ins = .arraylength) (C : zCx p R s m args meth c D ar B b L xs adK adV mi) (hz : zC mi pc = some (ins, len)) (ha : zact mi pc ins ls st h = some (pc', ls', st', h')) (P : zPt D ar (zup b B adK) B L xs s h H locs cells) (hl : zLR (zup b B adK) ls lsJ c.maxLocals) (kk : ∀ H' locs' lsJ', zPt D ar (zup b B adK) B L xs s h' H' locs' (cells + (h'.1 - h.1)) → zLR (zup b B adK) ls' lsJ' c.maxLocals → W p l e R s m args below meth c H' locs' (cells + (h'.1 - h.1)) (slots + 4096 * (h'.1 - h.1)) Q (F0 m pc' lsJ' (st'.map (zV (zup b B adK))))) : W p l e R s m args below meth c H locs cells slots Q (F0 m pc lsJ (st.map (zV (zup b B adK)))) := by
  obtain ⟨hx, hb, -, hown, hts, -, hE, hbB, hBs⟩ := C
  obtain ⟨-, hd, hlen, -⟩ := zC_facts hz
  have hw := P.2.2.2
  rcases hi with rfl | rfl | rfl | rfl | rfl
  · obtain rfl : 1 = len := by simpa [zilen] using hlen
    unfold zact at ha; dsimp only at ha; split at ha
    next i a st0 =>
      cases hq : ((Nat.beq (h.2.1 a) 20 || Nat.beq (h.2.1 a) 30) && zin i (h.2.2.1 a)) with
      | false => rw [hq] at ha; cases ha
      | true =>
        rw [hq] at ha
        cases ha
        simp only [Bool.and_eq_true, Bool.or_eq_true, Nat.beq_eq] at hq
        obtain ⟨ht, hin⟩ := hq
        have k2 := zkn rfl kk _ _ _ P hl
        rcases ht with ht | ht
        · obtain ⟨-, -, -, hat⟩ := zP_at P ht (by omega) (by omega)
          rw [zcell_20 ht] at hat
          obtain ⟨hv, hn⟩ := zin_vp hin (hw.2.2.2.2.1 a (by omega) (by omega))
          refine va_iald hx hb hE.1 (zP1 hat) 0 0 rfl rfl hv hd ?_
          rw [hn]
          exact k2
        · obtain rfl := hw.2.2.1 a ht
          obtain ⟨hL, hL0, hxs⟩ := hw.2.2.2.2.2.1
          rw [hL0] at hin
          obtain ⟨hv, hn⟩ := zin_vp hin hL
          have hlt : i.toNatClampNeg < L := Nat.not_le.mp fun q => hv (Or.inr q)
          have e1 := hxs _ hlt
          rw [hn] at e1
          rw [e1] at k2
          exact va_sld hx hb hE.2.1 (Nat.lt_of_lt_of_le hbB hBs) (fun q => absurd hbB (Nat.not_lt.mpr q)) P.2.1 hv hd k2
    next => cases ha
  · obtain rfl : 1 = len := by simpa [zilen] using hlen
    unfold zact at ha; dsimp only at ha; split at ha
    next i a st0 =>
      cases hq : (Nat.beq (h.2.1 a) 22 && zin i (h.2.2.1 a)) with
      | false => rw [hq] at ha; cases ha
      | true =>
        rw [hq] at ha
        cases ha
        simp only [Bool.and_eq_true, Nat.beq_eq] at hq
        obtain ⟨ht, hin⟩ := hq
        have k2 := zkn rfl kk _ _ _ P hl
        obtain ⟨-, -, -, hat⟩ := zP_at P ht (by omega) (by omega)
        rw [zcell_22 ht] at hat
        obtain ⟨hv, hn⟩ := zin_vp hin (hw.2.2.2.2.1 a (by omega) (by omega))
        refine va_zald hx hb hE.1 (zP1 hat) 0 2 rfl rfl hv hd ?_
        rw [hn]
        exact k2
    next => cases ha
  · obtain rfl : 1 = len := by simpa [zilen] using hlen
    unfold zact at ha; dsimp only at ha; split at ha
    next i a st0 =>
      cases hq : (Nat.beq (h.2.1 a) 21 && zin i (h.2.2.1 a)) with
      | false => rw [hq] at ha; cases ha
      | true =>
        rw [hq] at ha
        cases ha
        simp only [Bool.and_eq_true, Nat.beq_eq] at hq
        obtain ⟨ht, hin⟩ := hq
        have k2 := zkn rfl kk _ _ _ P hl
        obtain ⟨-, -, -, hat⟩ := zP_at P ht (by omega) (by omega)
        rw [zcell_21 ht] at hat
        obtain ⟨hv, hn⟩ := zin_vp hin (hw.2.2.2.2.1 a (by omega) (by omega))
        refine va_lald hx hb hE.1 (zP1 hat) 0 1 rfl rfl hv hd ?_
        rw [hn]
        exact k2
    next => cases ha
  · obtain rfl : 1 = len := by simpa [zilen] using hlen
    unfold zact at ha; dsimp only at ha; split at ha
    next i a st0 =>
      cases hq : ((Nat.beq (h.2.1 a) 23 || Nat.beq (h.2.1 a) 24 || Nat.beq (h.2.1 a) 25) && zin i (h.2.2.1 a)) with
      | false => rw [hq] at ha; cases ha
      | true =>
        rw [hq] at ha
        cases ha
        simp only [Bool.and_eq_true, Bool.or_eq_true, Nat.beq_eq, or_assoc] at hq
        obtain ⟨ht, hin⟩ := hq
        have k2 := zkn rfl kk _ _ _ P hl
        obtain ⟨-, -, -, hat⟩ := zP_at P (a := a) rfl (by omega) (by omega)
        rw [zcell_rf ht] at hat
        obtain ⟨hv, hn⟩ := zin_vp hin (hw.2.2.2.2.1 a (by omega) (by omega))
        refine va_aldq hx hb hE.1 (zP1 hat) 0 (h.2.1 a - 20) rfl (ztys_rf ht) hv hd ?_
        rw [hn]
        rw [List.map_cons, zV_rf] at k2
        exact k2
    next => cases ha
  · obtain rfl : 1 = len := by simpa [zilen] using hlen
    unfold zact at ha; dsimp only at ha; split at ha
    next a st0 =>
      cases hq : (Nat.beq (h.2.1 a) 20 || Nat.beq (h.2.1 a) 30) with
      | false => rw [hq] at ha; cases ha
      | true =>
        rw [hq] at ha
        cases ha
        simp only [Bool.or_eq_true, Nat.beq_eq] at hq
        have k2 := zkn rfl kk _ _ _ P hl
        rcases hq with ht | ht
        · obtain ⟨-, -, -, hat⟩ := zP_at P ht (by omega) (by omega)
          rw [zcell_20 ht] at hat
          exact va_alen hx hb hE.1 (zP1 hat) 0 0 rfl rfl rfl hd k2
        · obtain rfl := hw.2.2.1 a ht
          obtain ⟨hL, hL0, hxs⟩ := hw.2.2.2.2.2.1
          rw [hL0] at k2
          exact va_slen hx hb hE.2.1 (Nat.lt_of_lt_of_le hbB hBs) (fun q => absurd hbB (Nat.not_lt.mpr q)) P.2.1 hd k2
    next => cases ha
theorem zstep_ast {mi pc pc' len : Nat} {ins : Instr} {ls ls' : List (Option Value)} {st st' : List Value} {h h' : ZH} {lsJ : Array Slot} (hi : ins = .iastore ∨ ins = .bastore ∨ ins = .lastore ∨ ins = .aastore) (C : zCx p R s m args meth c D ar B b L xs adK adV mi) (hz : zC mi pc = some (ins, len)) (ha : zact mi pc ins ls st h = some (pc', ls', st', h')) (P : zPt D ar (zup b B adK) B L xs s h H locs cells) (hl : zLR (zup b B adK) ls lsJ c.maxLocals) (kk : ∀ H' locs' lsJ', zPt D ar (zup b B adK) B L xs s h' H' locs' (cells + (h'.1 - h.1)) → zLR (zup b B adK) ls' lsJ' c.maxLocals → W p l e R s m args below meth c H' locs' (cells + (h'.1 - h.1)) (slots + 4096 * (h'.1 - h.1)) Q (F0 m pc' lsJ' (st'.map (zV (zup b B adK))))) : W p l e R s m args below meth c H locs cells slots Q (F0 m pc lsJ (st.map (zV (zup b B adK)))) := by
  obtain ⟨hx, hb, -, hown, hts, -, hE, hbB, hBs⟩ := C
  obtain ⟨-, hd, hlen, -⟩ := zC_facts hz
  have hw := P.2.2.2
  rcases hi with rfl | rfl | rfl | rfl
  · obtain rfl : 1 = len := by simpa [zilen] using hlen
    unfold zact at ha; dsimp only at ha; split at ha
    next x i a st0 =>
      cases hq : (Nat.beq (h.2.1 a) 20 && zin i (h.2.2.1 a)) with
      | false => rw [hq] at ha; cases ha
      | true =>
        rw [hq] at ha
        cases ha
        simp only [Bool.and_eq_true, Nat.beq_eq] at hq
        obtain ⟨ht, hin⟩ := hq
        have k2 := zkn (h := h) (by rfl) kk
        obtain ⟨g8, glt, eup, -⟩ := zP_at P ht (by omega) (by omega)
        have hn4 := hw.2.2.2.2.1 a (by omega) (by omega)
        obtain ⟨hv, hn⟩ := zin_vp hin hn4
        have he := zWd_at (ar := ar) (up := zup b B adK) (B := B) (h := h) g8 glt
        rw [zcell_20 ht] at he
        simp only [List.map_cons, zV, eup]
        refine va_iast hx hb hE.1 (zWd_P P.1) zWd_D (zS0 P.2.1) (a - 8) 0 he rfl hv hd (fun H1 locs1 hP1 _ hS1 => zW_size (fun hsz => k2 H1 locs1 lsJ (zP_set P g8 glt rfl (hw.I (fun c j hc => congrFun (zu_ne (by omega)) j)) hP1 hS1 hsz (fun c _ _ hne => zcell_ne rfl rfl (zu_ne hne) rfl rfl) (fun hv2 => ?_)) hl))
        rw [zcell_20 (h := zI h (zu h.2.2.2.1 a i x)) ht]
        exact zat_i (fun j hj => zu_row hn hv hn4 hj) hv2
    next => cases ha
  · obtain rfl : 1 = len := by simpa [zilen] using hlen
    unfold zact at ha; dsimp only at ha; split at ha
    next x i a st0 =>
      cases hq : (Nat.beq (h.2.1 a) 22 && zin i (h.2.2.1 a) && (decide (x = 0) || decide (x = 1))) with
      | false => rw [hq] at ha; cases ha
      | true =>
        rw [hq] at ha
        cases ha
        simp only [Bool.and_eq_true, Nat.beq_eq, Bool.or_eq_true, decide_eq_true_eq] at hq
        obtain ⟨⟨ht, hin⟩, hx01⟩ := hq
        have k2 := zkn (h := h) (by rfl) kk
        obtain ⟨g8, glt, eup, -⟩ := zP_at P ht (by omega) (by omega)
        have hn4 := hw.2.2.2.2.1 a (by omega) (by omega)
        obtain ⟨hv, hn⟩ := zin_vp hin hn4
        have he := zWd_at (ar := ar) (up := zup b B adK) (B := B) (h := h) g8 glt
        rw [zcell_22 ht] at he
        simp only [List.map_cons, zV, eup]
        have hnar : vp_nar .boolean x = x := by rcases hx01 with rfl | rfl <;> decide
        refine va_zast hx hb hE.1 (zWd_P P.1) zWd_D (zS0 P.2.1) (a - 8) 2 he rfl hv hd (fun H1 locs1 hP1 _ hS1 => zW_size (fun hsz => k2 H1 locs1 lsJ (zP_set P g8 glt rfl (hw.I (fun c j hc => congrFun (zu_ne (by omega)) j)) hP1 hS1 hsz (fun c _ _ hne => zcell_ne rfl rfl (zu_ne hne) rfl rfl) (fun hv2 => ?_)) hl))
        rw [zcell_22 (h := zI h (zu h.2.2.2.1 a i x)) ht]
        rw [hnar] at hv2
        exact zat_i (fun j hj => zu_row hn hv hn4 hj) hv2
    next => cases ha
  · obtain rfl : 1 = len := by simpa [zilen] using hlen
    unfold zact at ha; dsimp only at ha; split at ha
    next x i a st0 =>
      cases hq : (Nat.beq (h.2.1 a) 21 && zin i (h.2.2.1 a)) with
      | false => rw [hq] at ha; cases ha
      | true =>
        rw [hq] at ha
        cases ha
        simp only [Bool.and_eq_true, Nat.beq_eq] at hq
        obtain ⟨ht, hin⟩ := hq
        have k2 := zkn (h := h) (by rfl) kk
        obtain ⟨g8, glt, eup, -⟩ := zP_at P ht (by omega) (by omega)
        have hn4 := hw.2.2.2.2.1 a (by omega) (by omega)
        obtain ⟨hv, hn⟩ := zin_vp hin hn4
        have he := zWd_at (ar := ar) (up := zup b B adK) (B := B) (h := h) g8 glt
        rw [zcell_21 ht] at he
        simp only [List.map_cons, zV, eup]
        refine va_last hx hb hE.1 (zWd_P P.1) zWd_D (zS0 P.2.1) (a - 8) 1 he rfl hv hd (fun H1 locs1 hP1 _ hS1 => zW_size (fun hsz => k2 H1 locs1 lsJ (zP_set P g8 glt rfl (hw.J _) hP1 hS1 hsz (fun c _ _ hne => zcell_ne rfl rfl rfl (zu_ne hne) rfl) (fun hv2 => ?_)) hl))
        rw [zcell_21 (h := zJ h (zu h.2.2.2.2.1 a i x)) ht]
        exact zat_l (fun j hj => zu_row hn hv hn4 hj) hv2
    next => cases ha
  · obtain rfl : 1 = len := by simpa [zilen] using hlen
    unfold zact at ha; dsimp only at ha; split at ha
    next q i a st0 =>
      cases hq : (((Nat.beq (h.2.1 a) 23 && Nat.beq (h.2.1 q) 5) || (Nat.beq (h.2.1 a) 24 && Nat.beq (h.2.1 q) 1) || (Nat.beq (h.2.1 a) 25 && Nat.beq (h.2.1 q) 3)) && zin i (h.2.2.1 a)) with
      | false => rw [hq] at ha; cases ha
      | true =>
        rw [hq] at ha
        cases ha
        simp only [Bool.and_eq_true, Nat.beq_eq, Bool.or_eq_true, or_assoc] at hq
        obtain ⟨htq, hin⟩ := hq
        have k2 := zkn (h := h) (by rfl) kk
        have ht : h.2.1 a = 23 ∨ h.2.1 a = 24 ∨ h.2.1 a = 25 := by omega
        have hcq : ∃ (ci : Nat) (r : vw_C), h.2.1 q = ci + 1 ∧ ci < 10 ∧ zcl[ci]? = some r ∧ r.1 = zrC (h.2.1 a) := by
          rcases htq with ⟨h1, h2⟩ | ⟨h1, h2⟩ | ⟨h1, h2⟩
          · exact ⟨4, _, h2, by decide, rfl, by rw [h1]; rfl⟩
          · exact ⟨0, _, h2, by decide, rfl, by rw [h1]; rfl⟩
          · exact ⟨2, _, h2, by decide, rfl, by rw [h1]; rfl⟩
        obtain ⟨ci, r, hq1, hci, hr, hrn⟩ := hcq
        obtain ⟨g8, glt, eup, -⟩ := zP_at P (a := a) rfl (by omega) (by omega)
        obtain ⟨f8, flt, fup, -⟩ := zP_at P (a := q) rfl (by omega) (by omega)
        have hn4 := hw.2.2.2.2.1 a (by omega) (by omega)
        obtain ⟨hv, hn⟩ := zin_vp hin hn4
        have he := zWd_at (ar := ar) (up := zup b B adK) (B := B) (h := h) g8 glt
        rw [zcell_rf ht] at he
        have hf := zWd_at (ar := ar) (up := zup b B adK) (B := B) (h := h) f8 flt
        rw [zcell_obj hq1 hci] at hf
        have hty := ztys_rf (ar := ar) ht
        rw [← hrn] at hty
        simp only [List.map_cons, zV, eup, fup]
        refine va_astq hx hb hE.1 (zWd_P P.1) zWd_D (zS0 P.2.1) (a - 8) (h.2.1 a - 20) (q - 8) ci he hty hf hr hv hd (fun H1 locs1 hP1 _ hS1 => zW_size (fun hsz => k2 H1 locs1 lsJ (zP_set P g8 glt rfl (hw.O _) hP1 hS1 hsz (fun c _ _ hne => zcell_ne rfl rfl rfl rfl (zu_ne hne)) (fun hv2 => ?_)) hl))
        rw [zcell_rf (h := zO h (zu h.2.2.2.2.2 a i (some q))) ht]
        refine zat_q (fun j hj => ?_) hv2
        show (if j = i.toNatClampNeg then some (B + (q - 8)) else (h.2.2.2.2.2 a (nI j)).map (zup b B adK)) = (zu h.2.2.2.2.2 a i (some q) a (nI j)).map (zup b B adK)
        rw [← zu_row hn hv hn4 hj]
        by_cases hj2 : j = i.toNatClampNeg
        · rw [if_pos hj2, if_pos hj2, Option.map_some, fup]
        · rw [if_neg hj2, if_neg hj2]
    next i a st0 =>
      cases hq : ((Nat.beq (h.2.1 a) 23 || Nat.beq (h.2.1 a) 24 || Nat.beq (h.2.1 a) 25) && zin i (h.2.2.1 a)) with
      | false => rw [hq] at ha; cases ha
      | true =>
        rw [hq] at ha
        cases ha
        simp only [Bool.and_eq_true, Nat.beq_eq, Bool.or_eq_true, or_assoc] at hq
        obtain ⟨ht, hin⟩ := hq
        have k2 := zkn (h := h) (by rfl) kk
        obtain ⟨g8, glt, eup, -⟩ := zP_at P (a := a) rfl (by omega) (by omega)
        have hn4 := hw.2.2.2.2.1 a (by omega) (by omega)
        obtain ⟨hv, hn⟩ := zin_vp hin hn4
        have he := zWd_at (ar := ar) (up := zup b B adK) (B := B) (h := h) g8 glt
        rw [zcell_rf ht] at he
        simp only [List.map_cons, zV, eup]
        refine va_astqN hx hb hE.1 (zWd_P P.1) zWd_D (zS0 P.2.1) (a - 8) (h.2.1 a - 20) he (ztys_rf ht) hv hd (fun H1 locs1 hP1 _ hS1 => zW_size (fun hsz => k2 H1 locs1 lsJ (zP_set P g8 glt rfl (hw.O _) hP1 hS1 hsz (fun c _ _ hne => zcell_ne rfl rfl rfl rfl (zu_ne hne)) (fun hv2 => ?_)) hl))
        rw [zcell_rf (h := zO h (zu h.2.2.2.2.2 a i none)) ht]
        refine zat_q (fun j hj => ?_) hv2
        show (if j = i.toNatClampNeg then none else (h.2.2.2.2.2 a (nI j)).map (zup b B adK)) = (zu h.2.2.2.2.2 a i none a (nI j)).map (zup b B adK)
        rw [← zu_row hn hv hn4 hj]
        by_cases hj2 : j = i.toNatClampNeg
        · rw [if_pos hj2, if_pos hj2, Option.map_none]
        · rw [if_neg hj2, if_neg hj2]
    next => cases ha
end ZSIMG
