/-! THE SMALL MACHINE'S RUNS ARE THE MACHINE'S -/
section ZSTEPALL
variable {p : Program} {l : Launch} {e : Env} {R : Room} {s : State} {m : MethodId} {args : Array Value} {below : List Frame} {meth : Method} {c : Code} {H : Heap} {locs : List Loc} {cells slots : Nat} {Q : State → Prop}
variable {D : va_G} {ar : Nat → ClassId} {B b L : Nat} {xs : Nat → Int32} {adK adV : Nat → Nat}
theorem zstep {mi pc pc' len : Nat} {ins : Instr} {ls ls' : List (Option Value)} {st st' : List Value} {h h' : ZH} {lsJ : Array Slot} (C : zCx p R s m args meth c D ar B b L xs adK adV mi) (hz : zC mi pc = some (ins, len)) (ha : zact mi pc ins ls st h = some (pc', ls', st', h')) (P : zPt D ar (zup b B adK) B L xs s h H locs cells) (hl : zLR (zup b B adK) ls lsJ c.maxLocals) (hR : cells + (h'.1 - h.1) ≤ R.cells ∧ slots + 4096 * (h'.1 - h.1) ≤ R.slots) (kk : ∀ H' locs' lsJ', zPt D ar (zup b B adK) B L xs s h' H' locs' (cells + (h'.1 - h.1)) → zLR (zup b B adK) ls' lsJ' c.maxLocals → W p l e R s m args below meth c H' locs' (cells + (h'.1 - h.1)) (slots + 4096 * (h'.1 - h.1)) Q (F0 m pc' lsJ' (st'.map (zV (zup b B adK))))) : W p l e R s m args below meth c H locs cells slots Q (F0 m pc lsJ (st.map (zV (zup b B adK)))) := by
  by_cases hp : zplain ins = true
  · exact zstepA hp C hz ha P hl kk
  · cases ins <;> first | (exact absurd rfl hp) | skip
    case getfield i => exact zstep_get C hz ha P hl kk
    case putfield i => exact zstep_put C hz ha P hl kk
    case iaload => exact zstep_ald (Or.inl rfl) C hz ha P hl kk
    case baload => exact zstep_ald (Or.inr (Or.inl rfl)) C hz ha P hl kk
    case laload => exact zstep_ald (Or.inr (Or.inr (Or.inl rfl))) C hz ha P hl kk
    case aaload => exact zstep_ald (Or.inr (Or.inr (Or.inr (Or.inl rfl)))) C hz ha P hl kk
    case arraylength => exact zstep_ald (Or.inr (Or.inr (Or.inr (Or.inr rfl)))) C hz ha P hl kk
    case iastore => exact zstep_ast (Or.inl rfl) C hz ha P hl kk
    case bastore => exact zstep_ast (Or.inr (Or.inl rfl)) C hz ha P hl kk
    case lastore => exact zstep_ast (Or.inr (Or.inr (Or.inl rfl))) C hz ha P hl kk
    case aastore => exact zstep_ast (Or.inr (Or.inr (Or.inr rfl))) C hz ha P hl kk
    case new i => exact zstep_new C hz ha P hl hR kk
    case newarray ty => exact zstep_newa C hz ha P hl hR kk
    case anewarray i => exact zstep_anew C hz ha P hl hR kk
    case invokevirtual i => exact zstep_str C hz ha P hl hR kk
    case invokespecial i => exact zstep_obj C hz ha P hl kk
    case invokestatic i => exact zstep_copy C hz ha P hl kk
end ZSTEPALL
/-- where a method answers -/
def zRet (mi : Nat) (up : Nat → Nat) (pc : Nat) (v : Option Value) (stJ : List Value) : Prop :=
  (v = none ∧ decode (zb mi) pc = .ok (.return_, 1) ∧ zret mi = 0 ∧ stJ = []) ∨ (∃ x, v = some (.int x) ∧ decode (zb mi) pc = .ok (.ireturn, 1) ∧ (zret mi = 1 ∨ zret mi = 2 ∧ (x = 0 ∨ x = 1)) ∧ stJ = [.int x]) ∨ (∃ x, v = some (.long x) ∧ decode (zb mi) pc = .ok (.lreturn, 1) ∧ zret mi = 3 ∧ stJ = [.long x]) ∨ (∃ w, v = some w ∧ (w = .null ∨ ∃ a, w = .ref a) ∧ decode (zb mi) pc = .ok (.areturn, 1) ∧ zret mi = 4 ∧ stJ = [zV up w])
theorem zretf_spec {mi pc len : Nat} {ins : Instr} {st : List Value} {v : Option Value} {up : Nat → Nat} (hz : zC mi pc = some (ins, len)) (hr : zretf mi ins st = some v) : zRet mi up pc v (st.map (zV up)) := by
  obtain ⟨-, hd, hlen, -⟩ := zC_facts hz
  cases ins <;> first | (cases hr; done) | skip
  case ireturn =>
    obtain rfl : 1 = len := by simpa [zilen] using hlen
    unfold zretf at hr; dsimp only at hr; split at hr
    next x =>
      cases hq : (Nat.beq (zret mi) 1 || (Nat.beq (zret mi) 2 && (decide (x = 0) || decide (x = 1)))) with
      | false => rw [hq] at hr; cases hr
      | true =>
        rw [hq] at hr
        cases hr
        simp only [Bool.or_eq_true, Bool.and_eq_true, Nat.beq_eq, decide_eq_true_eq] at hq
        exact Or.inr (Or.inl ⟨x, rfl, hd, hq, rfl⟩)
    next => cases hr
  case lreturn =>
    obtain rfl : 1 = len := by simpa [zilen] using hlen
    unfold zretf at hr; dsimp only at hr; split at hr
    next x =>
      cases hq : Nat.beq (zret mi) 3 with
      | false => rw [hq] at hr; cases hr
      | true =>
        rw [hq] at hr
        cases hr
        exact Or.inr (Or.inr (Or.inl ⟨x, rfl, hd, Nat.beq_eq.mp hq, rfl⟩))
    next => cases hr
  case areturn =>
    obtain rfl : 1 = len := by simpa [zilen] using hlen
    unfold zretf at hr; dsimp only at hr; split at hr
    next x =>
      cases hq : Nat.beq (zret mi) 4 with
      | false => rw [hq] at hr; cases hr
      | true =>
        rw [hq] at hr
        cases hr
        exact Or.inr (Or.inr (Or.inr ⟨.ref x, rfl, Or.inr ⟨x, rfl⟩, hd, Nat.beq_eq.mp hq, rfl⟩))
    next =>
      cases hq : Nat.beq (zret mi) 4 with
      | false => rw [hq] at hr; cases hr
      | true =>
        rw [hq] at hr
        cases hr
        exact Or.inr (Or.inr (Or.inr ⟨.null, rfl, Or.inl rfl, hd, Nat.beq_eq.mp hq, rfl⟩))
    next => cases hr
  case return_ =>
    obtain rfl : 1 = len := by simpa [zilen] using hlen
    unfold zretf at hr; dsimp only at hr; split at hr
    next =>
      cases hq : Nat.beq (zret mi) 0 with
      | false => rw [hq] at hr; cases hr
      | true =>
        rw [hq] at hr
        cases hr
        exact Or.inl ⟨rfl, hd, Nat.beq_eq.mp hq, rfl⟩
    next => cases hr
/-- the simulation, at n -/
def zSim (n : Nat) : Prop := ∀ (p : Program) (l : Launch) (e : Env) (R : Room) (s : State) (m : MethodId) (args : Array Value) (below : List Frame) (meth : Method) (c : Code) (H : Heap) (locs : List Loc) (cells slots : Nat) (Q : State → Prop) (D : va_G) (ar : Nat → ClassId) (B b L : Nat) (xs : Nat → Int32) (adK adV : Nat → Nat) (mi pc : Nat) (ls : List (Option Value)) (st : List Value) (h : ZH) (v : Option Value) (hf : ZH) (lsJ : Array Slot) (cF sF : Nat),
  zex n mi pc ls st h = some (v, hf) → zCx p R s m args meth c D ar B b L xs adK adV mi → zPt D ar (zup b B adK) B L xs s h H locs cells → zLR (zup b B adK) ls lsJ c.maxLocals → cells + (hf.1 - h.1) = cF → slots + 4096 * (hf.1 - h.1) = sF → cF ≤ R.cells → sF ≤ R.slots →
  (∀ pc' lsJ' H' locs' stJ, zRet mi (zup b B adK) pc' v stJ → zPt D ar (zup b B adK) B L xs s hf H' locs' cF → W p l e R s m args below meth c H' locs' cF sF Q (F0 m pc' lsJ' stJ)) → W p l e R s m args below meth c H locs cells slots Q (F0 m pc lsJ (st.map (zV (zup b B adK))))
def zwds (mi : Nat) : List Cond := match zq mi with
  | some q => Cond.code (zy mi) (zb mi) q.2.1 (zr mi) :: zt
  | none => []
def zrm (mi k : Nat) : Room := match zq mi with
  | some q => { frames := q.2.2.2.2.1, cells := k, slots := 4096 * k, locals := q.2.2.2.2.2 }
  | none => { frames := 0, cells := k, slots := 4096 * k, locals := 0 }
def zPc (D : va_G) (ar : Nat → ClassId) (B b L : Nat) (xs : Nat → Int32) (adK adV : Nat → Nat) (As : List Value) (h : ZH) : Array Value → State → Prop := fun v U => v = (As.map (zV (zup b B adK))).toArray ∧ zEnv D ar B b L xs adK adV U U.heap ∧ zHR D ar (zup b B adK) B h U.heap
def zQc (D : va_G) (ar : Nat → ClassId) (B b L : Nat) (xs : Nat → Int32) (adK : Nat → Nat) (v : Option Value) (h : ZH) : Array Value → State → Outcome → State → Prop := fun _ st oc t => oc = .returned (v.map (zV (zup b B adK))) ∧ (zHR D ar (zup b B adK) B h t.heap ∧ zwf L xs h) ∧ va_F (fun q => B ≤ q) st t
theorem zEnv.moved {D : va_G} {ar : Nat → ClassId} {B b L : Nat} {xs : Nat → Int32} {adK adV : Nat → Nat} {u U : State} {H H1 : Heap} (hW : u.WarmedH U.vm) (hq : ∀ a : Nat, a < H.size → ¬ B ≤ a → H1[a]? = H[a]?) (hb : b < H.size) (hbB : b < B) (h : zEnv D ar B b L xs adK adV u H) : zEnv D ar B b L xs adK adV U H1 := by
  obtain ⟨h1, h2, h3, h4, ⟨h5, h6, h7⟩, h8, h9, h10⟩ := h
  have ha := hW.alike
  exact ⟨h1.moved ha, (h2.kept (hq b hb (Nat.not_le.mpr hbB))).moved ha, fun i t ht => (h3 i t ht).warm hW, fun o i mj p0 hk => va_Nw.warmM hW (h4 o i mj p0 hk), ⟨h5.moved ha, h6.moved ha, h7.moved ha⟩, (h8.kept hq).moved ha, (h9.kept hq).moved ha, (h10.kept hq).moved ha⟩
