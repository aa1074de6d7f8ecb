/-! the two members of String, over the seven texts -/
section ZSIMS
variable {p : Program} {l : Launch} {e : Env} {R : Room} {s : State} {m : MethodId} {args : Array Value} {below : List Frame} {meth : Method} {c : Code} {H : Heap} {locs : List Loc} {cells slots : Nat} {Q : State → Prop}
variable {D : va_G} {ar : Nat → ClassId} {B b L : Nat} {xs : Nat → Int32} {adK adV : Nat → Nat}
theorem zstep_str {mi pc pc' len i : Nat} {ls ls' : List (Option Value)} {st st' : List Value} {h h' : ZH} {lsJ : Array Slot} (C : zCx p R s m args meth c D ar B b L xs adK adV mi) (hz : zC mi pc = some (.invokevirtual i, len)) (ha : zact mi pc (.invokevirtual i) ls st h = some (pc', ls', st', h')) (P : zPt D ar (zup b B adK) B L xs s h H locs cells) (hl : zLR (zup b B adK) ls lsJ c.maxLocals) (hR : cells + (h'.1 - h.1) ≤ R.cells ∧ slots + 4096 * (h'.1 - h.1) ≤ R.slots) (kk : ∀ H' locs' lsJ', zPt D ar (zup b B adK) B L xs s h' H' locs' (cells + (h'.1 - h.1)) → zLR (zup b B adK) ls' lsJ' c.maxLocals → W p l e R s m args below meth c H' locs' (cells + (h'.1 - h.1)) (slots + 4096 * (h'.1 - h.1)) Q (F0 m pc' lsJ' (st'.map (zV (zup b B adK))))) : W p l e R s m args below meth c H locs cells slots Q (F0 m pc lsJ (st.map (zV (zup b B adK)))) := by
  obtain ⟨hx, hb, ⟨q, hq, hml, hfr, hlo⟩, hown, hts, -, hE, hbB, hBs⟩ := C
  obtain ⟨-, hd, hlen, hok⟩ := zC_facts hz
  obtain rfl : 3 = len := by simpa [zilen] using hlen
  have hw := P.2.2.2
  have hS := P.2.1
  have hJ : jE B adK adV s s.heap := hE.2.2.2.2.2
  have txt : ∀ a, h.2.1 a = 31 → ∃ k, k < 7 ∧ a = k + 1 ∧ zup b B adK a = adK k := by
    intro a ht
    obtain ⟨g1, g2⟩ := hw.2.2.2.1 a ht
    refine ⟨a - 1, by omega, by omega, ?_⟩
    unfold zup
    rw [if_neg (by omega), if_pos (by omega)]
  unfold zact at ha; dsimp only at ha; split at ha
  next mj p0 hk =>
    split at ha
    next a rest =>
      cases hs : (Nat.beq (h.2.1 a) 31 && Nat.ble (zsumc rest) 8) with
      | false => rw [hs] at ha; cases ha
      | true =>
        rw [hs] at ha
        cases ha
        simp only [Bool.and_eq_true, Nat.beq_eq, Nat.ble_eq] at hs
        obtain ⟨ht, hs8⟩ := hs
        obtain ⟨k, hk7, rfl, hup⟩ := txt a ht
        have hL := zml_facts hk
        unfold zokL at hL
        rw [hk] at hL
        have hroom := zroomB_spec ((zokR_B hok hk (by omega)).2 (by omega)) ⟨q, hq, hfr, hlo⟩
        have k2 := zkn rfl kk _ _ _ P hl
        have hk1 := jlen_ok ⟨k, hk7⟩
        dsimp only at hk1
        have hle := (hw.2.2.2.2.2.2 k hk7).1
        simp only [List.map_cons, zV] at k2 ⊢
        rw [hle, ← hk1.1] at k2
        rw [hup]
        refine jrun rfl (va_runV (y := yjLen) (C := "java/lang/String") (index := i) (own := zo (zown mi)) (bytes := prog_15_method_54_code) (maxL := 1) (ret := some .int) (Ts := zt) (cc := zb mi) (nL := c.maxLocals) (n := 0) (b := adK k) (As := []) (rest := rest.map (zV (zup b B adK))) ⟨hx, hb, rfl, hown, hts⟩ (jm_len hk7) ⟨callB_of 0 hts (jgood jw_cLen) rfl rfl rfl (hts _ jw_iS) (hts _ (zgw_mem hL)) ⟨by decide +kernel, by decide +kernel, by decide +kernel⟩ ⟨Nat.le_trans (Nat.le_of_ble_eq_true rfl) hroom.1, Nat.le_trans (Nat.le_of_ble_eq_true rfl) hroom.2⟩, hts _ jw_nLen, hts _ jw_sLen⟩ ⟨jblind, vk_recv hJ.1 hk7 hS, jpre hJ hS⟩ rfl rfl hl.2.1 rfl (lv_room (by rw [zV_sum]; exact hs8)) hd ⟨by have := hR.1; omega, by have := hR.2; omega⟩) k2
    next => cases ha
  next mj p0 hk =>
    split at ha
    next i0 a rest =>
      cases hs : (Nat.beq (h.2.1 a) 31 && zin i0 (h.2.2.1 a) && Nat.ble (zsumc rest) 8) with
      | false => rw [hs] at ha; cases ha
      | true =>
        rw [hs] at ha
        cases ha
        simp only [Bool.and_eq_true, Nat.beq_eq, Nat.ble_eq] at hs
        obtain ⟨⟨ht, hzi⟩, hs8⟩ := hs
        obtain ⟨k, hk7, rfl, hup⟩ := txt a ht
        have hL := zml_facts hk
        unfold zokL at hL
        rw [hk] at hL
        have hroom := zroomB_spec ((zokR_B hok hk (by omega)).2 (by omega)) ⟨q, hq, hfr, hlo⟩
        have k2 := zkn rfl kk _ _ _ P hl
        have hk1 := jlen_ok ⟨k, hk7⟩
        dsimp only at hk1
        have hle := (hw.2.2.2.2.2.2 k hk7).1
        rw [hle] at hzi
        obtain ⟨hin, hni⟩ := zin_vp hzi (by omega)
        have hlt : i0.toNatClampNeg < zslen k := Nat.not_le.mp fun z => hin (Or.inr z)
        have hb1 := (jbyt_ok ⟨k, hk7⟩ ⟨i0.toNatClampNeg, by omega⟩).2.2 hlt
        dsimp only at hb1
        have hv := (hw.2.2.2.2.2.2 k hk7).2 _ hlt
        rw [hni] at hv
        simp only [List.map_cons, zV] at k2 ⊢
        rw [hv, ← hb1] at k2
        rw [hup]
        refine jrun rfl (va_runV (y := yjChr) (C := "java/lang/String") (index := i) (own := zo (zown mi)) (bytes := prog_15_method_56_code) (maxL := 2) (ret := some .char) (Ts := zt) (cc := zb mi) (nL := c.maxLocals) (n := 1) (b := adK k) (As := [.int i0]) (rest := rest.map (zV (zup b B adK))) ⟨hx, hb, rfl, hown, hts⟩ (jm_chr hk7 (by rw [hk1.1]; exact hin)) ⟨callB_of 1 hts (jgood jw_cChr) rfl rfl rfl (hts _ jw_iS) (hts _ (zgw_mem hL)) ⟨by decide +kernel, by decide +kernel, by decide +kernel⟩ ⟨Nat.le_trans (Nat.le_of_ble_eq_true rfl) hroom.1, Nat.le_trans (Nat.le_of_ble_eq_true rfl) hroom.2⟩, hts _ jw_nChr, hts _ jw_sChr⟩ ⟨jblind, vk_recv hJ.1 hk7 hS, jpre hJ hS⟩ rfl rfl hl.2.1 rfl (lv_room (by rw [zV_sum]; exact hs8)) hd ⟨by have := hR.1; omega, by have := hR.2; omega⟩) k2
    next => cases ha
  next => cases ha
end ZSIMS
