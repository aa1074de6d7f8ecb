/-! THE SMALL MACHINE'S STATES AND THE MACHINE'S -/
def zup (b B : Nat) (adK : Nat → Nat) (k : Nat) : Nat := if k = 0 then b else if k < 8 then adK (k - 1) else B + (k - 8)
def zV (up : Nat → Nat) (v : Value) : Value := match v with
  | .ref k => .ref (up k)
  | v => v
theorem zup_hi {b B : Nat} {adK : Nat → Nat} {k : Nat} (h : 8 ≤ k) : zup b B adK k = B + (k - 8) := by
  unfold zup
  rw [if_neg (by omega), if_neg (by omega)]
theorem zV_cat (up : Nat → Nat) (v : Value) : (zV up v).category = v.category := by cases v <;> rfl
theorem zV_rf (up : Nat → Nat) (r : Option Nat) : zV up (zrf r) = va_rf (r.map up) := by cases r <;> rfl
theorem zV_sum (up : Nat → Nat) (st : List Value) : ((st.map (zV up)).map fun v => v.category).sum = zsumc st := by
  unfold zsumc
  rw [List.map_map]
  congr 1
  exact List.map_congr_left (fun v _ => zV_cat up v)
/-! locals -/
def zLR (up : Nat → Nat) (ls : List (Option Value)) (lsJ : Array Slot) (nL : Nat) : Prop := ls.length = nL ∧ lsJ.size = nL ∧ lv_wf lsJ ∧ ∀ (i : Nat) (v : Value), ls[i]? = some (some v) → lsJ[i]? = some (.val (zV up v))
def zlv (up : Nat → Nat) (ls : List (Option Value)) : List (Nat × Value) := (List.range ls.length).filterMap (fun i => match ls[i]? with
  | some (some v) => some (i, zV up v)
  | _ => none)
theorem zlv_mem {up : Nat → Nat} {ls : List (Option Value)} {q : Nat × Value} : q ∈ zlv up ls ↔ ∃ v, ls[q.1]? = some (some v) ∧ q.2 = zV up v := by
  unfold zlv
  rw [List.mem_filterMap]
  constructor
  · rintro ⟨i, -, hi⟩
    split at hi
    next v hv => cases hi; exact ⟨v, hv, rfl⟩
    next => cases hi
  · rintro ⟨v, hv, hq⟩
    refine ⟨q.1, List.mem_range.mpr (List.getElem?_eq_some_iff.mp hv).1, ?_⟩
    rw [hv]
    exact congrArg some (Prod.ext rfl hq.symm)
theorem zLR.has {up : Nat → Nat} {ls : List (Option Value)} {lsJ : Array Slot} {nL : Nat} (h : zLR up ls lsJ nL) : lv_has lsJ nL (zlv up ls) := ⟨h.2.1, h.2.2.1, fun q hq => by
  obtain ⟨v, hv, he⟩ := zlv_mem.mp hq
  rw [he]
  exact h.2.2.2 _ _ hv⟩
theorem zst_get {ls : List (Option Value)} {i j : Nat} {v w : Value} (hi : i < ls.length) (h : (zst ls i v)[j]? = some (some w)) : (j = i ∧ w = v) ∨ (j ≠ i ∧ ls[j]? = some (some w) ∧ (j + 1 = i → w.category ≠ 2)) := by
  cases i with
  | zero =>
    unfold zst at h
    rw [List.getElem?_set] at h
    by_cases hj : j = 0
    · subst hj
      simp [hi] at h
      exact Or.inl ⟨rfl, h.symm⟩
    · rw [if_neg (Ne.symm hj)] at h
      exact Or.inr ⟨hj, h, fun q => by omega⟩
  | succ i =>
    unfold zst at h
    rw [List.getElem?_set] at h
    by_cases hj : j = i + 1
    · subst hj
      simp [hi] at h
      exact Or.inl ⟨rfl, h.symm⟩
    · rw [if_neg (Ne.symm hj)] at h
      refine Or.inr ⟨hj, ?_⟩
      by_cases hk : i = j
      · subst hk
        rw [List.getElem?_modify_eq] at h
        cases hl : ls[i]? with
        | none => rw [hl] at h; cases h
        | some o =>
          rw [hl] at h
          have h : zdrop o = some w := Option.some.inj h
          cases o with
          | none => cases h
          | some u => cases u <;> first | (cases h; done) | (cases h; exact ⟨rfl, fun _ hc => by cases hc⟩)
      · rw [List.getElem?_modify_ne _ _ hk] at h
        exact ⟨h, fun q => by omega⟩
theorem zst_len (ls : List (Option Value)) (i : Nat) (v : Value) : (zst ls i v).length = ls.length := by
  cases i <;> simp [zst]
theorem zLR.st1 {up : Nat → Nat} {ls : List (Option Value)} {lsJ lsJ' : Array Slot} {nL i : Nat} {v : Value} (h : zLR up ls lsJ nL) (hi : i < ls.length) (h' : lv_has lsJ' nL ((i, zV up v) :: (zlv up ls).filter (fun q => !(q.1 == i) && !(q.1 + 1 == i && q.2.category == 2)))) : zLR up (zst ls i v) lsJ' nL := by
  refine ⟨(zst_len ls i v).trans h.1, h'.1, h'.2.1, fun j w hj => ?_⟩
  rcases zst_get hi hj with ⟨rfl, rfl⟩ | ⟨hne, hl, hc⟩
  · exact h'.2.2 _ List.mem_cons_self
  · refine h'.2.2 (j, zV up w) (List.mem_cons_of_mem _ (List.mem_filter.mpr ⟨zlv_mem.mpr ⟨w, hl, rfl⟩, ?_⟩))
    simp only [zV_cat, Bool.and_eq_true, Bool.not_eq_true', beq_eq_false_iff_ne, ne_eq, Bool.and_eq_false_iff]
    refine ⟨hne, ?_⟩
    by_cases hq : j + 1 = i
    · exact Or.inr (hc hq)
    · exact Or.inl hq
theorem zLR.st2 {up : Nat → Nat} {ls : List (Option Value)} {lsJ lsJ' : Array Slot} {nL i : Nat} {x : Int64} (h : zLR up ls lsJ nL) (hi : i + 1 < ls.length) (h' : lv_has lsJ' nL ((i, Value.long x) :: (zlv up ls).filter (fun q => !(q.1 == i) && (!(q.1 == i + 1) && !(q.1 + 1 == i && q.2.category == 2))))) : zLR up ((zst ls i (.long x)).set (i + 1) none) lsJ' nL := by
  refine ⟨by rw [List.length_set]; exact (zst_len ls i _).trans h.1, h'.1, h'.2.1, fun j w hj => ?_⟩
  rw [List.getElem?_set] at hj
  by_cases hj1 : i + 1 = j
  · rw [if_pos hj1] at hj
    split at hj <;> simp at hj
  · rw [if_neg hj1] at hj
    rcases zst_get (by omega) hj with ⟨rfl, rfl⟩ | ⟨hne, hl, hc⟩
    · exact h'.2.2 _ List.mem_cons_self
    · refine h'.2.2 (j, zV up w) (List.mem_cons_of_mem _ (List.mem_filter.mpr ⟨zlv_mem.mpr ⟨w, hl, rfl⟩, ?_⟩))
      simp only [zV_cat, Bool.and_eq_true, Bool.not_eq_true', beq_eq_false_iff_ne, ne_eq, Bool.and_eq_false_iff]
      refine ⟨hne, Ne.symm hj1, ?_⟩
      by_cases hq : j + 1 = i
      · exact Or.inr (hc hq)
      · exact Or.inl hq
theorem zarg_lg (As : List Value) : (lg_sl As).length = (zarg As).length := by
  induction As with
  | nil => rfl
  | cons v vs ih => cases v <;> (simp [lg_sl, zarg, Value.category] at ih ⊢; omega)
theorem zarg_at : ∀ (As : List Value) (i j : Nat) (v : Value), (zarg As)[i]? = some (some v) → (j + i, v) ∈ lv_args j As
  | [], i, j, v, h => by simp [zarg] at h
  | w :: vs, i, j, v, h => by
    cases i with
    | zero =>
      have : w = v := by cases w <;> simp [zarg] at h <;> exact h
      subst this
      exact List.mem_cons_self
    | succ i =>
      cases w with
      | double x =>
        cases i with
        | zero => simp [zarg] at h
        | succ i =>
          have := zarg_at vs i (j + 2) v (by simpa [zarg] using h)
          have e : j + (i + 1 + 1) = j + 2 + i := by omega
          rw [e]
          simp only [lv_args, Value.category, if_true]
          exact List.mem_cons_of_mem _ this
      | long x =>
        cases i with
        | zero => simp [zarg] at h
        | succ i =>
          have := zarg_at vs i (j + 2) v (by simpa [zarg] using h)
          have e : j + (i + 1 + 1) = j + 2 + i := by omega
          rw [e]
          simp only [lv_args, Value.category, if_true]
          exact List.mem_cons_of_mem _ this
      | _ =>
        have := zarg_at vs i (j + 1) v (by simpa [zarg] using h)
        have e : j + (i + 1) = j + 1 + i := by omega
        rw [e]
        simp only [lv_args, Value.category]
        exact List.mem_cons_of_mem _ (by simpa using this)
theorem zarg_map (up : Nat → Nat) : ∀ As : List Value, zarg (As.map (zV up)) = (zarg As).map (fun o => o.map (zV up))
  | [] => rfl
  | w :: vs => by
    have ih := zarg_map up vs
    cases w <;> simp [zarg, zV, ih]
theorem zent_LR {up : Nat → Nat} {As : List Value} {mL : Nat} (hl : (zarg As).length ≤ mL) : zLR up (zent mL As) ((lg_sl (As.map (zV up)) ++ List.replicate (mL - (lg_sl (As.map (zV up))).length) Slot.unset).toArray) mL := by
  have hlen : (lg_sl (As.map (zV up))).length ≤ mL := by
    rw [zarg_lg, zarg_map, List.length_map]
    exact hl
  have h := lv_entry (As.map (zV up)) hlen
  refine ⟨by simp [zent]; omega, h.1, h.2.1, fun i v hi => ?_⟩
  have hz : (zarg As)[i]? = some (some v) := by
    unfold zent at hi
    by_cases hlt : i < (zarg As).length
    · rwa [List.getElem?_append_left hlt] at hi
    · rw [List.getElem?_append_right (by omega)] at hi
      have := List.eq_of_mem_replicate (List.mem_of_getElem? hi)
      cases this
  have h2 := zarg_at (As.map (zV up)) i 0 (zV up v) (by rw [zarg_map, List.getElem?_map, hz]; rfl)
  rw [Nat.zero_add] at h2
  exact h.2.2 _ h2
/-! the heap -/
def ztys (ar : Nat → ClassId) : List (ClassId × FieldType) := [(ar 0, .int), (ar 1, .long), (ar 2, .boolean), (ar 3, .object "PoplarQueue$Plain"), (ar 4, .object "PoplarQueue$Bag"), (ar 5, .object "PoplarQueue$Holder")]
def zNf (ci : Nat) : Nat := match zcl[ci]? with
  | some q => q.2.2
  | none => 0
def zfv (up : Nat → Nat) (h : ZH) (ci a k : Nat) : Value := match zfk ci k with
  | 0 => .int (h.2.2.2.1 a (nI k))
  | 1 => .long (h.2.2.2.2.1 a (nI k))
  | _ => zV up (zrf (h.2.2.2.2.2 a (nI k)))
def zfs (up : Nat → Nat) (h : ZH) (ci a : Nat) : List Value := (List.range (zNf ci)).map (zfv up h ci a)
def zcell (ar : Nat → ClassId) (up : Nat → Nat) (h : ZH) (a : Nat) : va_E := match h.2.1 a with
  | 20 => .inl (ar 0, h.2.2.1 a, .inl (fun j => h.2.2.2.1 a (nI j)))
  | 21 => .inl (ar 1, h.2.2.1 a, .inr (.inl (fun j => h.2.2.2.2.1 a (nI j))))
  | 22 => .inl (ar 2, h.2.2.1 a, .inl (fun j => h.2.2.2.1 a (nI j)))
  | 23 => .inl (ar 3, h.2.2.1 a, .inr (.inr (.inr (.inr (fun j => (h.2.2.2.2.2 a (nI j)).map up)))))
  | 24 => .inl (ar 4, h.2.2.1 a, .inr (.inr (.inr (.inr (fun j => (h.2.2.2.2.2 a (nI j)).map up)))))
  | 25 => .inl (ar 5, h.2.2.1 a, .inr (.inr (.inr (.inr (fun j => (h.2.2.2.2.2 a (nI j)).map up)))))
  | t => .inr (t - 1, zfs up h (t - 1) a)
def zHR (D : va_G) (ar : Nat → ClassId) (up : Nat → Nat) (B : Nat) (h : ZH) (H : Heap) : Prop := 8 ≤ h.1 ∧ H.size = B + (h.1 - 8) ∧ ∀ a, 8 ≤ a → a < h.1 → va_at D zcl (B + (a - 8), zcell ar up h a) H
def zslen (i : Nat) : Nat := match zstr[i]? with
  | some t => t.2.length
  | none => 0
def zsch (i j : Nat) : Int32 := match zstr[i]? with
  | some t => Int32.ofNat ((t.2.toList.getD j 'a').toNat)
  | none => 0
/-- the small heap is in order: tags by places; the script at 0, the seven texts at 1 .. 7 -/
def zwf (L : Nat) (xs : Nat → Int32) (h : ZH) : Prop := 8 ≤ h.1 ∧ (∀ a, 1 ≤ h.2.1 a → h.2.1 a ≤ 25 → 8 ≤ a ∧ a < h.1) ∧ (∀ a, h.2.1 a = 30 → a = 0) ∧ (∀ a, h.2.1 a = 31 → 1 ≤ a ∧ a ≤ 7) ∧ (∀ a, 20 ≤ h.2.1 a → h.2.1 a ≤ 25 → h.2.2.1 a ≤ 4096) ∧ (L ≤ 4096 ∧ h.2.2.1 0 = L ∧ ∀ j, j < L → h.2.2.2.1 0 (nI j) = xs j) ∧ ∀ i, i < 7 → h.2.2.1 (i + 1) = zslen i ∧ ∀ j, j < zslen i → h.2.2.2.1 (i + 1) (nI j) = zsch i j
theorem zwf.I {L : Nat} {xs : Nat → Int32} {h : ZH} (w : zwf L xs h) {f : Nat → Int32 → Int32} (hf : ∀ a j, a < 8 → f a j = h.2.2.2.1 a j) : zwf L xs (zI h f) := by
  obtain ⟨w1, w2, w3, w4, w5, ⟨w6, w7, w8⟩, w9⟩ := w
  exact ⟨w1, w2, w3, w4, w5, ⟨w6, w7, fun j hj => (hf 0 _ (by omega)).trans (w8 j hj)⟩, fun i hi => ⟨(w9 i hi).1, fun j hj => (hf (i + 1) _ (by omega)).trans ((w9 i hi).2 j hj)⟩⟩
theorem zwf.J {L : Nat} {xs : Nat → Int32} {h : ZH} (w : zwf L xs h) (f : Nat → Int32 → Int64) : zwf L xs (zJ h f) := w
theorem zwf.O {L : Nat} {xs : Nat → Int32} {h : ZH} (w : zwf L xs h) (f : Nat → Int32 → Option Nat) : zwf L xs (zO h f) := w
theorem zwf.new {L : Nat} {xs : Nat → Int32} {h : ZH} (w : zwf L xs h) {t n : Nat} (ht : t ≤ 25) (hn : n ≤ 4096) : zwf L xs (znew h t n) := by
  obtain ⟨w1, w2, w3, w4, w5, ⟨w6, w7, w8⟩, w9⟩ := w
  have e : ∀ {α : Type} (f : Nat → α) (v : α) (a : Nat), a ≠ h.1 → zp f h.1 v a = f a := fun f v a ha => if_neg ha
  have eq : ∀ {α : Type} (f : Nat → α) (v : α), zp f h.1 v h.1 = v := fun f v => if_pos rfl
  refine ⟨by show 8 ≤ h.1 + 1; omega, fun a h1 h2 => ?_, fun a h1 => ?_, fun a h1 => ?_, fun a h1 h2 => ?_, ⟨w6, ?_, fun j hj => ?_⟩, fun i hi => ⟨?_, fun j hj => ?_⟩⟩
  · show 8 ≤ a ∧ a < h.1 + 1
    by_cases ha : a = h.1
    · omega
    · have := w2 a (by simpa only [znew, e h.2.1 t a ha] using h1) (by simpa only [znew, e h.2.1 t a ha] using h2)
      omega
  · by_cases ha : a = h.1
    · subst ha
      have h1 : zp h.2.1 h.1 t h.1 = 30 := h1
      rw [eq] at h1
      omega
    · exact w3 a (by simpa only [znew, e h.2.1 t a ha] using h1)
  · by_cases ha : a = h.1
    · subst ha
      have h1 : zp h.2.1 h.1 t h.1 = 31 := h1
      rw [eq] at h1
      omega
    · exact w4 a (by simpa only [znew, e h.2.1 t a ha] using h1)
  · show zp h.2.2.1 h.1 n a ≤ 4096
    by_cases ha : a = h.1
    · subst ha
      rw [eq]
      exact hn
    · rw [e _ _ _ ha]
      exact w5 a (by simpa only [znew, e h.2.1 t a ha] using h1) (by simpa only [znew, e h.2.1 t a ha] using h2)
  · show zp h.2.2.1 h.1 n 0 = L
    rw [e _ _ _ (by omega)]
    exact w7
  · show zp h.2.2.2.1 h.1 (fun _ => 0) 0 (nI j) = xs j
    rw [e _ _ _ (by omega)]
    exact w8 j hj
  · show zp h.2.2.1 h.1 n (i + 1) = _
    rw [e _ _ _ (by omega)]
    exact (w9 i hi).1
  · show zp h.2.2.2.1 h.1 (fun _ => 0) (i + 1) (nI j) = _
    rw [e _ _ _ (by omega)]
    exact (w9 i hi).2 j hj
