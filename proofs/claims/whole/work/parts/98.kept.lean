/-! WHAT NO RUN CHANGES: tags and lengths of what is there, and the script -/
def KEEP (h h' : ZH) : Prop := h.1 ≤ h'.1 ∧ ∀ c, c < h.1 → h'.2.1 c = h.2.1 c ∧ h'.2.2.1 c = h.2.2.1 c ∧ (h.2.1 c = 30 → h'.2.2.2.1 c = h.2.2.2.1 c)
theorem KEEP.refl {h : ZH} : KEEP h h := ⟨Nat.le_refl _, fun _ _ => ⟨rfl, rfl, fun _ => rfl⟩⟩
theorem KEEP.of {h h' : ZH} (e : h' = h) : KEEP h h' := e ▸ KEEP.refl
theorem KEEP.trans {h h1 h2 : ZH} (a : KEEP h h1) (b : KEEP h1 h2) : KEEP h h2 := ⟨Nat.le_trans a.1 b.1, fun c hc => by
  obtain ⟨a1, a2, a3⟩ := a.2 c hc
  obtain ⟨b1, b2, b3⟩ := b.2 c (Nat.lt_of_lt_of_le hc a.1)
  exact ⟨b1.trans a1, b2.trans a2, fun z => (b3 (a1.trans z)).trans (a3 z)⟩⟩
theorem KEEP.i {h : ZH} {f : Nat → Int32 → Int32} (hf : ∀ c, c < h.1 → h.2.1 c = 30 → f c = h.2.2.2.1 c) : KEEP h (zI h f) := ⟨Nat.le_refl _, fun c hc => ⟨rfl, rfl, hf c hc⟩⟩
theorem KEEP.j {h : ZH} {f : Nat → Int32 → Int64} : KEEP h (zJ h f) := ⟨Nat.le_refl _, fun _ _ => ⟨rfl, rfl, fun _ => rfl⟩⟩
theorem KEEP.o {h : ZH} {f : Nat → Int32 → Option Nat} : KEEP h (zO h f) := ⟨Nat.le_refl _, fun _ _ => ⟨rfl, rfl, fun _ => rfl⟩⟩
theorem KEEP.new {h : ZH} {t k : Nat} : KEEP h (znew h t k) := ⟨Nat.le_succ _, fun c hc => ⟨zpN (Nat.ne_of_lt hc), zpN (Nat.ne_of_lt hc), fun _ => zpN (Nat.ne_of_lt hc)⟩⟩
theorem KEEP.iu {h : ZH} {a : Nat} {k v : Int32} {t : Nat} (ht : h.2.1 a = t) (h3 : t ≠ 30) : KEEP h (zI h (zu h.2.2.2.1 a k v)) := KEEP.i (fun c _ z => zuo (fun e => h3 (by rw [← ht, ← e]; exact z)))
theorem zlda_inv2 {pc pc' i : Nat} {ls ls' : List (Option Value)} {st st' : List Value} {h h' : ZH} (ha : zlda pc ls i st h = some (pc', ls', st', h')) : h' = h := by
  unfold zlda at ha
  split at ha <;> first | (cases ha; done) | (cases ha; rfl)
theorem bif_some {α : Type} {b : Bool} {x : Option α} {y : α} (h : (bif b then x else none) = some y) : b = true ∧ x = some y := by
  cases b with
  | false => cases h
  | true => exact ⟨rfl, h⟩
theorem zput_keep {h h' : ZH} {ci a k : Nat} {v : Value} (hc : ci < 20) (ht : h.2.1 a = ci + 1) (hp : zput h ci a k v = some h') : KEEP h h' := by
  unfold zput at hp
  split at hp
  · obtain ⟨-, e⟩ := bif_some hp
    cases e
    exact KEEP.iu ht (by omega)
  · cases hp; exact KEEP.j
  · cases hp; exact KEEP.o
  · cases hp; exact KEEP.o
  · cases hp
theorem zfl_lt {o i ci k p : Nat} (h : zfl o i = some (ci, k, p)) : ci < 20 := by
  obtain ⟨q, hq, -⟩ := zF_facts h
  have := (zcls hq).2.2.1
  omega
set_option maxHeartbeats 4000000 in
theorem zact_keep {mi pc pc' : Nat} {ins : Instr} {ls ls' : List (Option Value)} {st st' : List Value} {h h' : ZH} (ha : zact mi pc ins ls st h = some (pc', ls', st', h')) : KEEP h h' := by
  cases ins <;> first | (cases ha; done) | skip
  case putfield i =>
    unfold zact at ha; dsimp only at ha; split at ha
    next ci k p0 v a st0 hf =>
      obtain ⟨hb, e⟩ := bif_some ha
      split at e
      next h2 hp =>
        cases e
        simp only [Bool.and_eq_true, Nat.beq_eq] at hb
        exact zput_keep (zfl_lt hf) hb.1 hp
      next => cases e
    next => cases ha
  case iastore =>
    unfold zact at ha; dsimp only at ha; split at ha
    next =>
      obtain ⟨hb, e⟩ := bif_some ha
      cases e
      simp only [Bool.and_eq_true, Nat.beq_eq] at hb
      exact KEEP.iu hb.1 (by decide)
    next => cases ha
  case bastore =>
    unfold zact at ha; dsimp only at ha; split at ha
    next =>
      obtain ⟨hb, e⟩ := bif_some ha
      cases e
      simp only [Bool.and_eq_true, Nat.beq_eq] at hb
      exact KEEP.iu hb.1.1 (by decide)
    next => cases ha
  case lastore =>
    unfold zact at ha; dsimp only at ha; split at ha
    next => obtain ⟨hb, e⟩ := bif_some ha; cases e; exact KEEP.j
    next => cases ha
  case aastore =>
    unfold zact at ha; dsimp only at ha; split at ha
    next => obtain ⟨hb, e⟩ := bif_some ha; cases e; exact KEEP.o
    next => obtain ⟨hb, e⟩ := bif_some ha; cases e; exact KEEP.o
    next => cases ha
  case new i =>
    unfold zact at ha; dsimp only at ha; split at ha
    next => cases ha; exact KEEP.new
    next => cases ha
  case newarray ty =>
    unfold zact at ha; dsimp only at ha; split at ha
    next =>
      obtain ⟨hb, e⟩ := bif_some ha
      split at e <;> first | (cases e; done) | (cases e; exact KEEP.new)
    next => cases ha
  case anewarray i =>
    unfold zact at ha; dsimp only at ha; split at ha
    next =>
      obtain ⟨hb, e⟩ := bif_some ha
      split at e <;> first | (cases e; done) | (cases e; exact KEEP.new)
    next => cases ha
  case invokestatic i =>
    unfold zact at ha; dsimp only at ha; split at ha
    next =>
      split at ha
      next =>
        obtain ⟨hb, e⟩ := bif_some ha
        cases e
        simp only [Bool.and_eq_true, Nat.beq_eq] at hb
        have hb := hb.1.1.1.1.1.1.1
        refine KEEP.i (fun c _ z => ?_)
        exact zcpy_o (fun e => by rw [e, hb] at z; exact absurd z (by decide))
      next => cases ha
    next => cases ha
  all_goals first
    | exact KEEP.of (zgo_inv ha).2.2.2
    | exact KEEP.of (by obtain ⟨x, -, -, -, -, e⟩ := zldi_inv ha; exact e)
    | exact KEEP.of (by obtain ⟨x, -, -, -, -, e⟩ := zldl_inv ha; exact e)
    | exact KEEP.of (zlda_inv2 ha)
    | (cases ha; exact KEEP.refl)
    | skip
  all_goals (unfold zact at ha; dsimp only at ha)
  all_goals (repeat' split at ha)
  all_goals first
    | (cases ha; done)
    | (cases ha; exact KEEP.refl)
    | exact KEEP.of (zgo_inv ha).2.2.2
    | exact KEEP.of (zbr_inv ha).2.2.1
    | exact KEEP.of (zst1_inv ha).2.2.2.2
    | exact KEEP.of (zst2_inv ha).2.2.2.2
    | (obtain ⟨hb, e⟩ := bif_some ha; cases e; exact KEEP.refl)
theorem zex_keep : ∀ (n : Nat) (mi pc : Nat) (ls : List (Option Value)) (st : List Value) (h : ZH) (v : Option Value) (hf : ZH), zex n mi pc ls st h = some (v, hf) → KEEP h hf := by
  intro n
  induction n with
  | zero => intro mi pc ls st h v hf hr; simp [zex] at hr
  | succ n ih =>
    intro mi pc ls st h v hf hr
    unfold zex at hr
    cases hc : zC mi pc with
    | none => rw [hc] at hr; cases hr
    | some e =>
      obtain ⟨ins, len⟩ := e
      rw [hc] at hr
      dsimp only at hr
      cases ha : zretf mi ins st with
      | some v => rw [ha] at hr; cases hr; exact KEEP.refl
      | none =>
        rw [ha] at hr
        dsimp only at hr
        cases hb : zcallf mi ins st h with
        | some x =>
          obtain ⟨mj, As, rest⟩ := x
          rw [hb] at hr
          dsimp only at hr
          cases hz : zex n mj 0 (zentry mj As) [] h with
          | none => rw [hz] at hr; cases hr
          | some q =>
            obtain ⟨v1, h1⟩ := q
            rw [hz] at hr
            dsimp only at hr
            exact (ih _ _ _ _ _ _ _ hz).trans (ih _ _ _ _ _ _ _ hr)
        | none =>
          rw [hb] at hr
          dsimp only at hr
          cases hx : zact mi pc ins ls st h with
          | none => rw [hx] at hr; cases hr
          | some x =>
            obtain ⟨pc', ls', st', h'⟩ := x
            rw [hx] at hr
            dsimp only at hr
            obtain ⟨-, hr⟩ := bif_some hr
            exact (zact_keep hx).trans (ih _ _ _ _ _ _ _ hr)
theorem Runs.keep {mi pc : Nat} {ls : List (Option Value)} {st : List Value} {h : ZH} {Q : Option Value → ZH → Prop} (hr : Runs mi pc ls st h Q) : Runs mi pc ls st h (fun v h' => Q v h' ∧ KEEP h h') := by
  obtain ⟨n, v, h', a, b⟩ := hr
  exact ⟨n, v, h', a, b, zex_keep _ _ _ _ _ _ _ _ a⟩
