theorem zfm_V (up : Nat → Nat) (h : ZH) (ci a k : Nat) : zV up (zfm h ci a k) = zfv up h ci a k := by
  unfold zfm zfv
  generalize zfk ci k = n
  match n with
  | 0 => rfl
  | 1 => rfl
  | n + 2 => rfl
theorem zfs_at (up : Nat → Nat) (h : ZH) (ci a k : Nat) (hk : k < zNf ci) : (zfs up h ci a)[k]? = some (zfv up h ci a k) := by
  unfold zfs
  rw [List.getElem?_map, List.getElem?_range hk]
  rfl
theorem zfs_len (up : Nat → Nat) (h : ZH) (ci a : Nat) : (zfs up h ci a).length = zNf ci := by simp [zfs]
theorem zNf_le (ci : Nat) : zNf ci ≤ 29 := by
  unfold zNf
  split
  next q hq =>
    have : ∀ q ∈ zcl, q.2.2 ≤ 29 := by decide
    exact this q (List.mem_of_getElem? hq)
  next => omega
theorem zu_at {α : Type} (f : Nat → Int32 → α) (a : Nat) (j k : Nat) (v : α) (hj : j < 4096) (hk : k < 4096) : zu f a (nI k) v a (nI j) = if j = k then v else f a (nI j) := by
  unfold zu
  by_cases h : j = k
  · subst h; rw [if_pos ⟨rfl, rfl⟩, if_pos rfl]
  · rw [if_neg (fun q => h (nI_inj (by omega) (by omega) q.2)), if_neg h]
theorem zput_spec {up : Nat → Nat} {h h' : ZH} {ci a k L : Nat} {xs : Nat → Int32} {v : Value} {q : vw_C} (hq : zcl[ci]? = some q) (hk : k < q.2.2) (hp : zput h ci a k v = some h') (h8 : 8 ≤ a) (hw : zwf L xs h) :
    (narrow (zty ci k) (zV up v) = zV up v ∧ fits (zty ci k) (zV up v) = true) ∧ h'.1 = h.1 ∧ h'.2.1 = h.2.1 ∧ h'.2.2.1 = h.2.2.1 ∧ (∀ c, c ≠ a → h'.2.2.2.1 c = h.2.2.2.1 c ∧ h'.2.2.2.2.1 c = h.2.2.2.2.1 c ∧ h'.2.2.2.2.2 c = h.2.2.2.2.2 c) ∧ zfs up h' ci a = (zfs up h ci a).set k (zV up v) ∧ zwf L xs h' := by
  have hal := zallow_at hq hk
  have hN : zNf ci = q.2.2 := (zcls hq).2.2.2.1
  have hN29 := zNf_le ci
  have fsset : ∀ (g : ZH), (∀ j, j < zNf ci → zfv up g ci a j = if j = k then zV up v else zfv up h ci a j) → zfs up g ci a = (zfs up h ci a).set k (zV up v) := by
    intro g hg
    apply List.ext_getElem?
    intro j
    by_cases hj : j < zNf ci
    · rw [zfs_at _ _ _ _ _ hj, hg j hj, List.getElem?_set]
      by_cases hjk : k = j
      · subst hjk
        rw [if_pos rfl, if_pos rfl, if_pos (by rw [zfs_len]; exact hj)]
      · rw [if_neg (Ne.symm hjk), if_neg hjk, zfs_at _ _ _ _ _ hj]
    · rw [List.getElem?_eq_none (by rw [zfs_len]; omega), List.getElem?_eq_none (by rw [List.length_set, zfs_len]; omega)]
  unfold zput at hp
  split at hp
  next x h0 =>
    cases hb : (!(zisb ci k) || decide (x = 0) || decide (x = 1)) with
    | false => rw [hb] at hp; cases hp
    | true =>
      rw [hb] at hp
      cases hp
      refine ⟨znar0 hal h0 (by simpa [or_assoc] using hb), rfl, rfl, rfl, fun c hc => ⟨zu_ne hc, rfl, rfl⟩, fsset _ (fun j hj => ?_), hw.I (fun c j hc => congrFun (zu_ne (by omega)) j)⟩
      by_cases hjk : j = k
      · subst hjk
        rw [if_pos rfl]
        show (match zfk ci j with | 0 => _ | 1 => _ | _ => _) = _
        rw [h0]
        show Value.int (zu h.2.2.2.1 a (nI j) x a (nI j)) = _
        rw [zu_at _ _ _ _ _ (by omega) (by omega), if_pos rfl]
        rfl
      · rw [if_neg hjk]
        unfold zfv
        show (match zfk ci j with | 0 => Value.int (zu h.2.2.2.1 a (nI k) x a (nI j)) | 1 => _ | _ => _) = _
        rw [zu_at _ _ _ _ _ (by omega) (by omega), if_neg hjk]
        rfl
  next x h0 =>
    cases hp
    refine ⟨znar1 hal h0, rfl, rfl, rfl, fun c hc => ⟨rfl, zu_ne hc, rfl⟩, fsset _ (fun j hj => ?_), hw.J _⟩
    by_cases hjk : j = k
    · subst hjk
      rw [if_pos rfl]
      show (match zfk ci j with | 0 => _ | 1 => _ | _ => _) = _
      rw [h0]
      show Value.long (zu h.2.2.2.2.1 a (nI j) x a (nI j)) = _
      rw [zu_at _ _ _ _ _ (by omega) (by omega), if_pos rfl]
      rfl
    · rw [if_neg hjk]
      unfold zfv
      show (match zfk ci j with | 0 => _ | 1 => Value.long (zu h.2.2.2.2.1 a (nI k) x a (nI j)) | _ => _) = _
      rw [zu_at _ _ _ _ _ (by omega) (by omega), if_neg hjk]
      rfl
  next x h0 =>
    cases hp
    refine ⟨znar2 hal h0 (Or.inr ⟨_, rfl⟩), rfl, rfl, rfl, fun c hc => ⟨rfl, rfl, zu_ne hc⟩, fsset _ (fun j hj => ?_), hw.O _⟩
    by_cases hjk : j = k
    · subst hjk
      rw [if_pos rfl]
      show (match zfk ci j with | 0 => _ | 1 => _ | _ => _) = _
      rw [h0]
      show zV up (zrf (zu h.2.2.2.2.2 a (nI j) (some x) a (nI j))) = _
      rw [zu_at _ _ _ _ _ (by omega) (by omega), if_pos rfl]
      rfl
    · rw [if_neg hjk]
      unfold zfv
      show (match zfk ci j with | 0 => _ | 1 => _ | _ => zV up (zrf (zu h.2.2.2.2.2 a (nI k) (some x) a (nI j)))) = _
      rw [zu_at _ _ _ _ _ (by omega) (by omega), if_neg hjk]
      rfl
  next h0 =>
    cases hp
    refine ⟨znar2 hal h0 (Or.inl rfl), rfl, rfl, rfl, fun c hc => ⟨rfl, rfl, zu_ne hc⟩, fsset _ (fun j hj => ?_), hw.O _⟩
    by_cases hjk : j = k
    · subst hjk
      rw [if_pos rfl]
      show (match zfk ci j with | 0 => _ | 1 => _ | _ => _) = _
      rw [h0]
      show zV up (zrf (zu h.2.2.2.2.2 a (nI j) none a (nI j))) = _
      rw [zu_at _ _ _ _ _ (by omega) (by omega), if_pos rfl]
      rfl
    · rw [if_neg hjk]
      unfold zfv
      show (match zfk ci j with | 0 => _ | 1 => _ | _ => zV up (zrf (zu h.2.2.2.2.2 a (nI k) none a (nI j)))) = _
      rw [zu_at _ _ _ _ _ (by omega) (by omega), if_neg hjk]
      rfl
  next => cases hp
section ZSIMH
variable {p : Program} {l : Launch} {e : Env} {R : Room} {s : State} {m : MethodId} {args : Array Value} {below : List Frame} {meth : Method} {c : Code} {H : Heap} {locs : List Loc} {cells slots : Nat} {Q : State → Prop}
variable {D : va_G} {ar : Nat → ClassId} {B b L : Nat} {xs : Nat → Int32} {adK adV : Nat → Nat}
theorem zP1 {x : Nat × va_E} (h : va_at D zcl x H) : va_P D zcl [x] H := by
  intro j w hj
  cases j with
  | zero => cases hj; exact h
  | succ j => simp at hj
theorem zstep_get {mi pc pc' i len : Nat} {ls ls' : List (Option Value)} {st st' : List Value} {h h' : ZH} {lsJ : Array Slot} (C : zCx p R s m args meth c D ar B b L xs adK adV mi) (hz : zC mi pc = some (.getfield i, len)) (ha : zact mi pc (.getfield i) ls st h = some (pc', ls', st', h')) (P : zPt D ar (zup b B adK) B L xs s h H locs cells) (hl : zLR (zup b B adK) ls lsJ c.maxLocals) (kk : ∀ H' locs' lsJ', zPt D ar (zup b B adK) B L xs s h' H' locs' (cells + (h'.1 - h.1)) → zLR (zup b B adK) ls' lsJ' c.maxLocals → W p l e R s m args below meth c H' locs' (cells + (h'.1 - h.1)) (slots + 4096 * (h'.1 - h.1)) Q (F0 m pc' lsJ' (st'.map (zV (zup b B adK))))) : W p l e R s m args below meth c H locs cells slots Q (F0 m pc lsJ (st.map (zV (zup b B adK)))) := by
  obtain ⟨hx, hb, -, hown, hts, -, hE, -, -⟩ := C
  obtain ⟨-, hd, hlen, -⟩ := zC_facts hz
  obtain rfl : 3 = len := by simpa [zilen] using hlen
  unfold zact at ha
  dsimp only at ha
  split at ha
  next ci k p0 a st0 hf =>
    cases hq : Nat.beq (h.2.1 a) (ci + 1) with
    | false => rw [hq] at ha; cases ha
    | true =>
      rw [hq] at ha
      cases ha
      have ht : h.2.1 a = ci + 1 := by simpa using hq
      obtain ⟨q, hc, hk, hw, -⟩ := zF_facts hf
      obtain ⟨-, -, hci, hN, -⟩ := zcls hc
      obtain ⟨-, -, -, hat⟩ := zP_at P ht (by omega) (by omega)
      rw [zcell_obj ht hci] at hat
      have k2 := zkn rfl kk _ _ _ P hl
      simp only [List.map_cons, zfm_V] at k2
      exact va_get (C := q.1) (T := q.2.1) (N := q.2.2) (ws := [(zup b B adK a, .inr (ci, zfs (zup b B adK) h ci a))]) hx hb hts (zlay hc) hown hE.1 (zP1 hat) 0 rfl hc k hk (hts _ hw) (fun x h => h) (zfs_at _ _ _ _ _ (by rw [hN]; exact hk)) hd k2
  next => cases ha
theorem zstep_put {mi pc pc' i len : Nat} {ls ls' : List (Option Value)} {st st' : List Value} {h h' : ZH} {lsJ : Array Slot} (C : zCx p R s m args meth c D ar B b L xs adK adV mi) (hz : zC mi pc = some (.putfield i, len)) (ha : zact mi pc (.putfield i) ls st h = some (pc', ls', st', h')) (P : zPt D ar (zup b B adK) B L xs s h H locs cells) (hl : zLR (zup b B adK) ls lsJ c.maxLocals) (kk : ∀ H' locs' lsJ', zPt D ar (zup b B adK) B L xs s h' H' locs' (cells + (h'.1 - h.1)) → zLR (zup b B adK) ls' lsJ' c.maxLocals → W p l e R s m args below meth c H' locs' (cells + (h'.1 - h.1)) (slots + 4096 * (h'.1 - h.1)) Q (F0 m pc' lsJ' (st'.map (zV (zup b B adK))))) : W p l e R s m args below meth c H locs cells slots Q (F0 m pc lsJ (st.map (zV (zup b B adK)))) := by
  obtain ⟨hx, hb, -, hown, hts, hnm, hE, -, -⟩ := C
  obtain ⟨-, hd, hlen, -⟩ := zC_facts hz
  obtain rfl : 3 = len := by simpa [zilen] using hlen
  unfold zact at ha
  dsimp only at ha
  split at ha
  next ci k p0 v a st0 hf =>
    cases hq : (Nat.beq (h.2.1 a) (ci + 1) && (!(zfin ci k) || (Nat.beq (zown mi) ci && decide ((zy mi).name = "<init>")))) with
    | false => rw [hq] at ha; cases ha
    | true =>
      rw [hq] at ha
      simp only [Bool.and_eq_true, Nat.beq_eq, Bool.or_eq_true, Bool.not_eq_true', decide_eq_true_eq] at hq
      obtain ⟨ht, hfin⟩ := hq
      cases hp : zput h ci a k v with
      | none => rw [hp] at ha; cases ha
      | some h2 =>
        rw [hp] at ha
        cases ha
        obtain ⟨q, hc, hk, hw, hdecl⟩ := zF_facts hf
        obtain ⟨hty, hnmx, hci, hN, -⟩ := zcls hc
        obtain ⟨g8, glt, eup, -⟩ := zP_at P ht (by omega) (by omega)
        obtain ⟨⟨hnar, hfit⟩, e1, e2, e3, eo, efs, hwf⟩ := zput_spec (up := zup b B adK) hc hk hp g8 P.2.2.2
        have k2 := zkn e1 kk
        have he := zWd_at (ar := ar) (up := zup b B adK) (B := B) (h := h) g8 glt
        rw [zcell_obj ht hci] at he
        have ez : zcell ar (zup b B adK) h' a = .inr (ci, (zfs (zup b B adK) h ci a).set k (zV (zup b B adK) v)) := by
          rw [zcell_obj (ci := ci) (by rw [e2]; exact ht) hci, efs]
        have fin : ∀ (H1 : Heap) (locs1 : List Loc), va_P D zcl ((zWd ar (zup b B adK) B h).set (a - 8) (B + (a - 8), .inr (ci, (zfs (zup b B adK) h ci a).set k (zV (zup b B adK) v)))) H1 → va_D (fun q => B ≤ q) ((zWd ar (zup b B adK) B h).set (a - 8) (B + (a - 8), .inr (ci, (zfs (zup b B adK) h ci a).set k (zV (zup b B adK) v)))) → va_S (fun q => B ≤ q) H H1 locs1 → W p l e R s m args below meth c H1 locs1 cells slots Q (F0 m (pc + 3) lsJ (st'.map (zV (zup b B adK)))) :=
          fun H1 locs1 hP1 _ hS1 => zW_size (fun hsz => k2 H1 locs1 lsJ (zP_set P g8 glt e1 hwf hP1 hS1 hsz (fun c _ _ hne => zcell_ne (by rw [e2]) (by rw [e3]) (eo c hne).1 (eo c hne).2.1 (eo c hne).2.2) (fun hv => by rw [ez]; exact hv)) hl)
        simp only [List.map_cons, zV.eq_1, eup]
        have hzf : zfin ci k = (q.2.1 k).2.2.2 := by unfold zfin; rw [hc]
        by_cases hf2 : zfin ci k = true
        · obtain ⟨ho, hini⟩ := hfin.resolve_left (by rw [hf2]; decide)
          exact va_putF (C := q.1) (T := q.2.1) (N := q.2.2) hx hb hts (zlay hc) (zty ci) hty hnmx hown hE.1 (zWd_P P.1) zWd_D (zS0 P.2.1) (a - 8) he hc k hk (hts _ hw) (fun x h => h) (by rw [← hzf]; exact hf2) (by rw [hnm]; exact hini) (by rw [hdecl, ho]) (hty k hk) hnar hfit (by rw [zfs_len, hN]; exact hk) hd fin
        · exact va_put (C := q.1) (T := q.2.1) (N := q.2.2) hx hb hts (zlay hc) (zty ci) hty hnmx hown hE.1 (zWd_P P.1) zWd_D (zS0 P.2.1) (a - 8) he hc k hk (hts _ hw) (fun x h => h) (by rw [← hzf]; simpa using hf2) (hty k hk) hnar hfit (by rw [zfs_len, hN]; exact hk) hd fin
  next => cases ha
end ZSIMH
