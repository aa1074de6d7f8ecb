section ZSIM
variable {p : Program} {l : Launch} {e : Env} {R : Room} {s : State} {m : MethodId} {args : Array Value} {below : List Frame} {meth : Method} {c : Code} {H : Heap} {locs : List Loc} {cells slots : Nat} {Q : State → Prop}
variable {D : va_G} {ar : Nat → ClassId} {B b L : Nat} {xs : Nat → Int32} {adK adV : Nat → Nat}
theorem zkn {h h' : ZH} {ls' : List (Option Value)} {st' : List Value} {pc' nL : Nat} (hn : h'.1 = h.1) (kk : ∀ H' locs' lsJ', zPt D ar (zup b B adK) B L xs s h' H' locs' (cells + (h'.1 - h.1)) → zLR (zup b B adK) ls' lsJ' nL → W p l e R s m args below meth c H' locs' (cells + (h'.1 - h.1)) (slots + 4096 * (h'.1 - h.1)) Q (F0 m pc' lsJ' (st'.map (zV (zup b B adK))))) : ∀ H' locs' lsJ', zPt D ar (zup b B adK) B L xs s h' H' locs' cells → zLR (zup b B adK) ls' lsJ' nL → W p l e R s m args below meth c H' locs' cells slots Q (F0 m pc' lsJ' (st'.map (zV (zup b B adK)))) := by
  have e0 : h'.1 - h.1 = 0 := by omega
  rw [e0] at kk
  simpa using kk
theorem zgo_inv {pc pc' : Nat} {off : Int} {ls ls' : List (Option Value)} {st st' : List Value} {h h' : ZH} (ha : zgo pc off ls st h = some (pc', ls', st', h')) : (pc : Int) + off = (pc' : Int) ∧ ls' = ls ∧ st' = st ∧ h' = h := by
  unfold zgo at ha
  split at ha
  next t ht => cases ha; exact ⟨ht, rfl, rfl, rfl⟩
  next => cases ha
theorem zbr_inv {q : Bool} {pc pc' : Nat} {off : Int} {ls ls' : List (Option Value)} {st st' : List Value} {h h' : ZH} (ha : zbr q pc off ls st h = some (pc', ls', st', h')) : ls' = ls ∧ st' = st ∧ h' = h ∧ ∃ t : Nat, (pc : Int) + off = (t : Int) ∧ ((q = true ∧ pc' = t) ∨ (q = false ∧ pc' = pc + 3)) := by
  unfold zbr at ha
  split at ha
  next t ht =>
    cases q
    · cases ha; exact ⟨rfl, rfl, rfl, _, ht, Or.inr ⟨rfl, rfl⟩⟩
    · cases ha; exact ⟨rfl, rfl, rfl, _, ht, Or.inl ⟨rfl, rfl⟩⟩
  next => cases ha
theorem zst1_inv {pc pc' i : Nat} {v : Value} {ls ls' : List (Option Value)} {st st' : List Value} {h h' : ZH} (ha : zst1 pc ls i v st h = some (pc', ls', st', h')) : i < ls.length ∧ pc' = pc ∧ ls' = zst ls i v ∧ st' = st ∧ h' = h := by
  unfold zst1 at ha
  cases hb : Nat.blt i ls.length with
  | false => rw [hb] at ha; cases ha
  | true => rw [hb] at ha; cases ha; exact ⟨by simpa using hb, rfl, rfl, rfl, rfl⟩
theorem zst2_inv {pc pc' i : Nat} {v : Int64} {ls ls' : List (Option Value)} {st st' : List Value} {h h' : ZH} (ha : zst2 pc ls i v st h = some (pc', ls', st', h')) : i + 1 < ls.length ∧ pc' = pc ∧ ls' = (zst ls i (.long v)).set (i + 1) none ∧ st' = st ∧ h' = h := by
  unfold zst2 at ha
  cases hb : Nat.blt (i + 1) ls.length with
  | false => rw [hb] at ha; cases ha
  | true => rw [hb] at ha; cases ha; exact ⟨by simpa using hb, rfl, rfl, rfl, rfl⟩
theorem zldi_inv {pc pc' i : Nat} {ls ls' : List (Option Value)} {st st' : List Value} {h h' : ZH} (ha : zldi pc ls i st h = some (pc', ls', st', h')) : ∃ x, ls[i]? = some (some (.int x)) ∧ pc' = pc ∧ ls' = ls ∧ st' = .int x :: st ∧ h' = h := by
  unfold zldi at ha
  split at ha
  next x hx => cases ha; exact ⟨x, hx, rfl, rfl, rfl, rfl⟩
  next => cases ha
theorem zldl_inv {pc pc' i : Nat} {ls ls' : List (Option Value)} {st st' : List Value} {h h' : ZH} (ha : zldl pc ls i st h = some (pc', ls', st', h')) : ∃ x, ls[i]? = some (some (.long x)) ∧ pc' = pc ∧ ls' = ls ∧ st' = .long x :: st ∧ h' = h := by
  unfold zldl at ha
  split at ha
  next x hx => cases ha; exact ⟨x, hx, rfl, rfl, rfl, rfl⟩
  next => cases ha
theorem zlda_inv {pc pc' i : Nat} {ls ls' : List (Option Value)} {st st' : List Value} {h h' : ZH} (ha : zlda pc ls i st h = some (pc', ls', st', h')) : pc' = pc ∧ ls' = ls ∧ h' = h ∧ ((∃ x, ls[i]? = some (some (.ref x)) ∧ st' = .ref x :: st) ∨ (ls[i]? = some (some .null) ∧ st' = .null :: st)) := by
  unfold zlda at ha
  split at ha
  next x hx => cases ha; exact ⟨rfl, rfl, rfl, Or.inl ⟨x, hx, rfl⟩⟩
  next hx => cases ha; exact ⟨rfl, rfl, rfl, Or.inr ⟨hx, rfl⟩⟩
  next => cases ha
/-- the steps that touch neither heap nor calls -/
def zplain (ins : Instr) : Bool := match ins with
  | .getfield _ => false
  | .putfield _ => false
  | .iaload => false
  | .baload => false
  | .laload => false
  | .aaload => false
  | .iastore => false
  | .bastore => false
  | .lastore => false
  | .aastore => false
  | .arraylength => false
  | .new _ => false
  | .newarray _ => false
  | .anewarray _ => false
  | .invokevirtual _ => false
  | .invokespecial _ => false
  | .invokestatic _ => false
  | _ => true
set_option maxHeartbeats 4000000 in
theorem zstepA {mi pc pc' len : Nat} {ins : Instr} {ls ls' : List (Option Value)} {st st' : List Value} {h h' : ZH} {lsJ : Array Slot} (hp : zplain ins = true) (C : zCx p R s m args meth c D ar B b L xs adK adV mi) (hz : zC mi pc = some (ins, len)) (ha : zact mi pc ins ls st h = some (pc', ls', st', h')) (P : zPt D ar (zup b B adK) B L xs s h H locs cells) (hl : zLR (zup b B adK) ls lsJ c.maxLocals) (kk : ∀ H' locs' lsJ', zPt D ar (zup b B adK) B L xs s h' H' locs' (cells + (h'.1 - h.1)) → zLR (zup b B adK) ls' lsJ' c.maxLocals → W p l e R s m args below meth c H' locs' (cells + (h'.1 - h.1)) (slots + 4096 * (h'.1 - h.1)) Q (F0 m pc' lsJ' (st'.map (zV (zup b B adK))))) : W p l e R s m args below meth c H locs cells slots Q (F0 m pc lsJ (st.map (zV (zup b B adK)))) := by
  obtain ⟨hx, hb, ⟨q, hq, hml, hfr, hlo⟩, hown, hts, hnm, hE, hbB, hBs⟩ := C
  obtain ⟨-, hd, hlen, -⟩ := zC_facts hz
  cases ins <;> first | (cases hp; done) | (exfalso; unfold zact at ha; cases ha; done) | skip
  case iconst v => cases ha; obtain rfl : 1 = len := by simpa [zilen] using hlen
                   exact lv_iconst hx hb hd rfl (zkn rfl kk _ _ _ P hl)
  case bipush v => cases ha; obtain rfl : 2 = len := by simpa [zilen] using hlen
                   exact lv_bipush hx hb hd rfl (zkn rfl kk _ _ _ P hl)
  case sipush v => cases ha; obtain rfl : 3 = len := by simpa [zilen] using hlen
                   exact lv_sipush hx hb hd rfl (zkn rfl kk _ _ _ P hl)
  case lconst v => cases ha; obtain rfl : 1 = len := by simpa [zilen] using hlen
                   exact lv_lconst hx hb hd rfl (zkn rfl kk _ _ _ P hl)
  case aconst_null => cases ha; obtain rfl : 1 = len := by simpa [zilen] using hlen
                      exact lv_null hx hb hd (zkn rfl kk _ _ _ P hl)
  case ldc i =>
    obtain rfl : 2 = len := by simpa [zilen] using hlen
    unfold zact at ha
    dsimp only at ha
    split at ha
    next v p0 hv =>
      cases ha
      rcases z1_facts hv with ⟨x, rfl, hw⟩ | ⟨ho, a, t, rfl, ht, hi, h1, h7⟩
      · exact lv_ldc hx hb hown (hts _ hw) hd (zkn rfl kk _ _ _ P hl)
      · have hk := hE.2.2.1 (a - 1) t ht
        rw [hi] at hk
        rw [ho] at hown
        have e0 : zup b B adK a = adK (a - 1) := by
          unfold zup
          rw [if_neg (Nat.ne_of_gt h1), if_pos (Nat.lt_of_le_of_lt h7 (by decide))]
        have k := zkn rfl kk _ _ _ P hl
        simp only [List.map_cons, zV, e0] at k
        exact va_ldcS hx hb hown hk hd k
    next => cases ha
  case ldc_w i =>
    obtain rfl : 3 = len := by simpa [zilen] using hlen
    unfold zact at ha
    dsimp only at ha
    split at ha
    next v p0 hv =>
      cases ha
      rcases z1_facts hv with ⟨x, hx1, hw⟩ | ⟨ho, a, t, hx1, -⟩
      · cases hx1
        exact lv_ldcw hx hb hown (hts _ hw) hd (zkn rfl kk _ _ _ P hl)
      · cases hx1
    next => cases ha
  case ldc2_w i =>
    obtain rfl : 3 = len := by simpa [zilen] using hlen
    unfold zact at ha
    dsimp only at ha
    split at ha
    next v p0 hv =>
      cases ha
      obtain ⟨x, hx1, hw⟩ := z2_facts hv
      cases hx1
      exact lv_ldc2 hx hb hown (hts _ hw) hd (zkn rfl kk _ _ _ P hl)
    next => cases ha
  case iload_n k =>
    obtain rfl : 1 = len := by simpa [zilen] using hlen
    obtain ⟨x, h1, rfl, rfl, rfl, rfl⟩ := zldi_inv ha
    exact lv_iload_n hx hb hd rfl (hl.2.2.2 _ _ h1) (zkn rfl kk _ _ _ P hl)
  case iload k =>
    obtain rfl : 2 = len := by simpa [zilen] using hlen
    obtain ⟨x, h1, rfl, rfl, rfl, rfl⟩ := zldi_inv ha
    exact lv_iload hx hb hd (hl.2.2.2 _ _ h1) (zkn rfl kk _ _ _ P hl)
  case lload_n k =>
    obtain rfl : 1 = len := by simpa [zilen] using hlen
    obtain ⟨x, h1, rfl, rfl, rfl, rfl⟩ := zldl_inv ha
    exact lv_lload_n hx hb hd rfl (hl.2.2.2 _ _ h1) (zkn rfl kk _ _ _ P hl)
  case lload k =>
    obtain rfl : 2 = len := by simpa [zilen] using hlen
    obtain ⟨x, h1, rfl, rfl, rfl, rfl⟩ := zldl_inv ha
    exact lv_lload hx hb hd (hl.2.2.2 _ _ h1) (zkn rfl kk _ _ _ P hl)
  case aload_n k =>
    obtain rfl : 1 = len := by simpa [zilen] using hlen
    obtain ⟨rfl, rfl, rfl, ⟨x, h1, rfl⟩ | ⟨h1, rfl⟩⟩ := zlda_inv ha
    · exact lv_aload_n hx hb hd rfl (hl.2.2.2 _ _ h1) (zkn rfl kk _ _ _ P hl)
    · exact lv_aload_nN hx hb hd rfl (hl.2.2.2 _ _ h1) (zkn rfl kk _ _ _ P hl)
  case aload k =>
    obtain rfl : 2 = len := by simpa [zilen] using hlen
    obtain ⟨rfl, rfl, rfl, ⟨x, h1, rfl⟩ | ⟨h1, rfl⟩⟩ := zlda_inv ha
    · exact lv_aload hx hb hd (hl.2.2.2 _ _ h1) (zkn rfl kk _ _ _ P hl)
    · exact lv_aloadN hx hb hd (hl.2.2.2 _ _ h1) (zkn rfl kk _ _ _ P hl)
  case istore_n k =>
    obtain rfl : 1 = len := by simpa [zilen] using hlen
    unfold zact at ha
    dsimp only at ha
    split at ha
    next v st0 =>
      obtain ⟨hi, rfl, rfl, rfl, rfl⟩ := zst1_inv ha
      exact lv_istore_n hx hb hd rfl hl.has (by rw [← hl.1]; exact hi) rfl (fun lsJ' h' => zkn rfl kk _ _ _ P (hl.st1 (v := .int v) hi h'))
    next => cases ha
  case istore k =>
    obtain rfl : 2 = len := by simpa [zilen] using hlen
    unfold zact at ha
    dsimp only at ha
    split at ha
    next v st0 =>
      obtain ⟨hi, rfl, rfl, rfl, rfl⟩ := zst1_inv ha
      exact lv_istore hx hb hd hl.has (by rw [← hl.1]; exact hi) rfl (fun lsJ' h' => zkn rfl kk _ _ _ P (hl.st1 (v := .int v) hi h'))
    next => cases ha
  case lstore_n k =>
    obtain rfl : 1 = len := by simpa [zilen] using hlen
    unfold zact at ha
    dsimp only at ha
    split at ha
    next v st0 =>
      obtain ⟨hi, rfl, rfl, rfl, rfl⟩ := zst2_inv ha
      exact lv_lstore_n hx hb hd rfl hl.has (by rw [← hl.1]; exact hi) rfl (fun lsJ' h' => zkn rfl kk _ _ _ P (hl.st2 (x := v) hi h'))
    next => cases ha
  case lstore k =>
    obtain rfl : 2 = len := by simpa [zilen] using hlen
    unfold zact at ha
    dsimp only at ha
    split at ha
    next v st0 =>
      obtain ⟨hi, rfl, rfl, rfl, rfl⟩ := zst2_inv ha
      exact lv_lstore hx hb hd hl.has (by rw [← hl.1]; exact hi) rfl (fun lsJ' h' => zkn rfl kk _ _ _ P (hl.st2 (x := v) hi h'))
    next => cases ha
  case astore_n k =>
    obtain rfl : 1 = len := by simpa [zilen] using hlen
    unfold zact at ha
    dsimp only at ha
    split at ha
    next v st0 =>
      obtain ⟨hi, rfl, rfl, rfl, rfl⟩ := zst1_inv ha
      exact lv_astore_n hx hb hd rfl hl.has (by rw [← hl.1]; exact hi) rfl (fun lsJ' h' => zkn rfl kk _ _ _ P (hl.st1 (v := .ref v) hi h'))
    next st0 =>
      obtain ⟨hi, rfl, rfl, rfl, rfl⟩ := zst1_inv ha
      exact lv_astore_nN hx hb hd rfl hl.has (by rw [← hl.1]; exact hi) rfl (fun lsJ' h' => zkn rfl kk _ _ _ P (hl.st1 (v := .null) hi h'))
    next => cases ha
  case astore k =>
    obtain rfl : 2 = len := by simpa [zilen] using hlen
    unfold zact at ha
    dsimp only at ha
    split at ha
    next v st0 =>
      obtain ⟨hi, rfl, rfl, rfl, rfl⟩ := zst1_inv ha
      exact lv_astore hx hb hd hl.has (by rw [← hl.1]; exact hi) rfl (fun lsJ' h' => zkn rfl kk _ _ _ P (hl.st1 (v := .ref v) hi h'))
    next st0 =>
      obtain ⟨hi, rfl, rfl, rfl, rfl⟩ := zst1_inv ha
      exact lv_astoreN hx hb hd hl.has (by rw [← hl.1]; exact hi) rfl (fun lsJ' h' => zkn rfl kk _ _ _ P (hl.st1 (v := .null) hi h'))
    next => cases ha
  case iinc k v =>
    obtain rfl : 3 = len := by simpa [zilen] using hlen
    unfold zact at ha
    dsimp only at ha
    split at ha
    next x h1 =>
      obtain ⟨hi, rfl, rfl, rfl, rfl⟩ := zst1_inv ha
      obtain ⟨j, hj⟩ := List.getElem?_of_mem (zlv_mem (up := zup b B adK).mpr ⟨.int x, h1, rfl⟩ : (k, Value.int x) ∈ zlv (zup b B adK) ls)
      exact lv_iinc hx hb hd hl.has hj rfl (by rw [← hl.1]; exact hi) rfl (fun lsJ' h' => zkn rfl kk _ _ _ P (hl.st1 (v := .int (x + Int32.ofInt v)) hi h'))
    next => cases ha
  case iadd => obtain rfl : 1 = len := by simpa [zilen] using hlen
               unfold zact at ha; dsimp only at ha; split at ha
               · cases ha; exact lv_iadd hx hb hd (zkn rfl kk _ _ _ P hl)
               · cases ha
  case isub => obtain rfl : 1 = len := by simpa [zilen] using hlen
               unfold zact at ha; dsimp only at ha; split at ha
               · cases ha; exact lv_isub hx hb hd (zkn rfl kk _ _ _ P hl)
               · cases ha
  case imul => obtain rfl : 1 = len := by simpa [zilen] using hlen
               unfold zact at ha; dsimp only at ha; split at ha
               · cases ha; exact lv_imul hx hb hd (zkn rfl kk _ _ _ P hl)
               · cases ha
  case iand => obtain rfl : 1 = len := by simpa [zilen] using hlen
               unfold zact at ha; dsimp only at ha; split at ha
               · cases ha; exact lv_iand hx hb hd (zkn rfl kk _ _ _ P hl)
               · cases ha
  case ior => obtain rfl : 1 = len := by simpa [zilen] using hlen
              unfold zact at ha; dsimp only at ha; split at ha
              · cases ha; exact lv_ior hx hb hd (zkn rfl kk _ _ _ P hl)
              · cases ha
  case ixor => obtain rfl : 1 = len := by simpa [zilen] using hlen
               unfold zact at ha; dsimp only at ha; split at ha
               · cases ha; exact lv_ixor hx hb hd (zkn rfl kk _ _ _ P hl)
               · cases ha
  case idiv => obtain rfl : 1 = len := by simpa [zilen] using hlen
               unfold zact at ha; dsimp only at ha; split at ha
               · split at ha
                 · cases ha
                 next hne => cases ha; exact lv_idiv hx hb hd hne (zkn rfl kk _ _ _ P hl)
               · cases ha
  case irem => obtain rfl : 1 = len := by simpa [zilen] using hlen
               unfold zact at ha; dsimp only at ha; split at ha
               · split at ha
                 · cases ha
                 next hne => cases ha; exact lv_irem hx hb hd hne (zkn rfl kk _ _ _ P hl)
               · cases ha
  case ishl => obtain rfl : 1 = len := by simpa [zilen] using hlen
               unfold zact at ha; dsimp only at ha; split at ha
               · cases ha; exact lv_ishl hx hb hd (zkn rfl kk _ _ _ P hl)
               · cases ha
  case ishr => obtain rfl : 1 = len := by simpa [zilen] using hlen
               unfold zact at ha; dsimp only at ha; split at ha
               · cases ha; exact lv_ishr hx hb hd (zkn rfl kk _ _ _ P hl)
               · cases ha
  case iushr => obtain rfl : 1 = len := by simpa [zilen] using hlen
                unfold zact at ha; dsimp only at ha; split at ha
                · cases ha; exact lv_iushr hx hb hd rfl (zkn rfl kk _ _ _ P hl)
                · cases ha
  case ladd => obtain rfl : 1 = len := by simpa [zilen] using hlen
               unfold zact at ha; dsimp only at ha; split at ha
               · cases ha; exact lv_ladd hx hb hd (zkn rfl kk _ _ _ P hl)
               · cases ha
  case lmul => obtain rfl : 1 = len := by simpa [zilen] using hlen
               unfold zact at ha; dsimp only at ha; split at ha
               · cases ha; exact lv_lmul hx hb hd (zkn rfl kk _ _ _ P hl)
               · cases ha
  case land => obtain rfl : 1 = len := by simpa [zilen] using hlen
               unfold zact at ha; dsimp only at ha; split at ha
               · cases ha; exact lv_land hx hb hd (zkn rfl kk _ _ _ P hl)
               · cases ha
  case lor => obtain rfl : 1 = len := by simpa [zilen] using hlen
              unfold zact at ha; dsimp only at ha; split at ha
              · cases ha; exact lv_lor hx hb hd (zkn rfl kk _ _ _ P hl)
              · cases ha
  case lxor => obtain rfl : 1 = len := by simpa [zilen] using hlen
               unfold zact at ha; dsimp only at ha; split at ha
               · cases ha; exact lv_lxor hx hb hd (zkn rfl kk _ _ _ P hl)
               · cases ha
  case ldiv => obtain rfl : 1 = len := by simpa [zilen] using hlen
               unfold zact at ha; dsimp only at ha; split at ha
               · split at ha
                 · cases ha
                 next hne => cases ha; exact lv_ldiv hx hb hd hne (zkn rfl kk _ _ _ P hl)
               · cases ha
  case lrem => obtain rfl : 1 = len := by simpa [zilen] using hlen
               unfold zact at ha; dsimp only at ha; split at ha
               · split at ha
                 · cases ha
                 next hne => cases ha; exact lv_lrem hx hb hd hne (zkn rfl kk _ _ _ P hl)
               · cases ha
  case lneg => obtain rfl : 1 = len := by simpa [zilen] using hlen
               unfold zact at ha; dsimp only at ha; split at ha
               · cases ha; exact lv_lneg hx hb hd (zkn rfl kk _ _ _ P hl)
               · cases ha
  case lshl => obtain rfl : 1 = len := by simpa [zilen] using hlen
               unfold zact at ha; dsimp only at ha; split at ha
               · cases ha; exact lv_lshl hx hb hd rfl (zkn rfl kk _ _ _ P hl)
               · cases ha
  case lcmp => obtain rfl : 1 = len := by simpa [zilen] using hlen
               unfold zact at ha; dsimp only at ha; split at ha
               · cases ha; exact W.lcmp hx hb hd (zkn rfl kk _ _ _ P hl)
               · cases ha
  case i2l => obtain rfl : 1 = len := by simpa [zilen] using hlen
              unfold zact at ha; dsimp only at ha; split at ha
              · cases ha; exact lv_i2l hx hb hd rfl (zkn rfl kk _ _ _ P hl)
              · cases ha
  case l2i => obtain rfl : 1 = len := by simpa [zilen] using hlen
              unfold zact at ha; dsimp only at ha; split at ha
              · cases ha; exact lv_l2i hx hb hd rfl (zkn rfl kk _ _ _ P hl)
              · cases ha
  case dup => obtain rfl : 1 = len := by simpa [zilen] using hlen
              unfold zact at ha; dsimp only at ha; split at ha
              · cases ha; exact lv_dup hx hb hd rfl (zkn rfl kk _ _ _ P hl)
              · cases ha; exact lv_dup hx hb hd rfl (zkn rfl kk _ _ _ P hl)
              · cases ha
  case dup2 => obtain rfl : 1 = len := by simpa [zilen] using hlen
               unfold zact at ha; dsimp only at ha; split at ha
               · cases ha; exact lv_dup2_11 hx hb hd rfl rfl (zkn rfl kk _ _ _ P hl)
               · cases ha
  case pop => obtain rfl : 1 = len := by simpa [zilen] using hlen
              unfold zact at ha; dsimp only at ha; split at ha
              · cases ha; exact lv_pop hx hb hd rfl (zkn rfl kk _ _ _ P hl)
              · cases ha
  case goto off =>
    obtain rfl : 3 = len := by simpa [zilen] using hlen
    obtain ⟨ht, rfl, rfl, rfl⟩ := zgo_inv ha
    exact lv_goto hx hb hd ht (zkn rfl kk _ _ _ P hl)
  case ifCond cn off =>
    obtain rfl : 3 = len := by simpa [zilen] using hlen
    unfold zact at ha; dsimp only at ha; split at ha
    · obtain ⟨rfl, rfl, rfl, t, ht, hh⟩ := zbr_inv ha
      rcases hh with ⟨h1, rfl⟩ | ⟨h1, rfl⟩ <;> cases cn <;> simp only [zcmp, decide_eq_true_eq, decide_eq_false_iff_not] at h1
      · exact lv_if_eq hx hb hd ht (fun _ => zkn rfl kk _ _ _ P hl) (fun n => absurd h1 n)
      · exact lv_if_ne hx hb hd ht (fun _ => zkn rfl kk _ _ _ P hl) (fun n => absurd n h1)
      · exact lv_if_lt hx hb hd ht (fun _ => zkn rfl kk _ _ _ P hl) (fun n => absurd h1 n)
      · exact lv_if_ge hx hb hd ht (fun _ => zkn rfl kk _ _ _ P hl) (fun n => absurd h1 n)
      · exact lv_if_gt hx hb hd ht (fun _ => zkn rfl kk _ _ _ P hl) (fun n => absurd h1 n)
      · exact lv_if_le hx hb hd ht (fun _ => zkn rfl kk _ _ _ P hl) (fun n => absurd h1 n)
      · exact lv_if_eq hx hb hd ht (fun n => absurd n h1) (fun _ => zkn rfl kk _ _ _ P hl)
      · exact lv_if_ne hx hb hd ht (fun n => absurd n h1) (fun _ => zkn rfl kk _ _ _ P hl)
      · exact lv_if_lt hx hb hd ht (fun n => absurd n h1) (fun _ => zkn rfl kk _ _ _ P hl)
      · exact lv_if_ge hx hb hd ht (fun n => absurd n h1) (fun _ => zkn rfl kk _ _ _ P hl)
      · exact lv_if_gt hx hb hd ht (fun n => absurd n h1) (fun _ => zkn rfl kk _ _ _ P hl)
      · exact lv_if_le hx hb hd ht (fun n => absurd n h1) (fun _ => zkn rfl kk _ _ _ P hl)
    · cases ha
  case if_icmp cn off =>
    obtain rfl : 3 = len := by simpa [zilen] using hlen
    unfold zact at ha; dsimp only at ha; split at ha
    · obtain ⟨rfl, rfl, rfl, t, ht, hh⟩ := zbr_inv ha
      rcases hh with ⟨h1, rfl⟩ | ⟨h1, rfl⟩ <;> cases cn <;> simp only [zcmp, decide_eq_true_eq, decide_eq_false_iff_not] at h1
      · exact lv_icmp_eq hx hb hd ht (fun _ => zkn rfl kk _ _ _ P hl) (fun n => absurd h1 n)
      · exact lv_icmp_ne hx hb hd ht (fun _ => zkn rfl kk _ _ _ P hl) (fun n => absurd n h1)
      · exact lv_icmp_lt hx hb hd ht (fun _ => zkn rfl kk _ _ _ P hl) (fun n => absurd h1 n)
      · exact lv_icmp_ge hx hb hd ht (fun _ => zkn rfl kk _ _ _ P hl) (fun n => absurd h1 n)
      · exact lv_icmp_gt hx hb hd ht (fun _ => zkn rfl kk _ _ _ P hl) (fun n => absurd h1 n)
      · exact lv_icmp_le hx hb hd ht (fun _ => zkn rfl kk _ _ _ P hl) (fun n => absurd h1 n)
      · exact lv_icmp_eq hx hb hd ht (fun n => absurd n h1) (fun _ => zkn rfl kk _ _ _ P hl)
      · exact lv_icmp_ne hx hb hd ht (fun n => absurd n h1) (fun _ => zkn rfl kk _ _ _ P hl)
      · exact lv_icmp_lt hx hb hd ht (fun n => absurd n h1) (fun _ => zkn rfl kk _ _ _ P hl)
      · exact lv_icmp_ge hx hb hd ht (fun n => absurd n h1) (fun _ => zkn rfl kk _ _ _ P hl)
      · exact lv_icmp_gt hx hb hd ht (fun n => absurd n h1) (fun _ => zkn rfl kk _ _ _ P hl)
      · exact lv_icmp_le hx hb hd ht (fun n => absurd n h1) (fun _ => zkn rfl kk _ _ _ P hl)
    · cases ha
  case ifnull off =>
    obtain rfl : 3 = len := by simpa [zilen] using hlen
    unfold zact at ha; dsimp only at ha; split at ha
    · cases ha; exact lv_ifnull hx hb hd (zkn rfl kk _ _ _ P hl)
    · obtain ⟨ht, rfl, rfl, rfl⟩ := zgo_inv ha
      exact lv_ifnullN hx hb hd ht (zkn rfl kk _ _ _ P hl)
    · cases ha
  case ifnonnull off =>
    obtain rfl : 3 = len := by simpa [zilen] using hlen
    unfold zact at ha; dsimp only at ha; split at ha
    · obtain ⟨ht, rfl, rfl, rfl⟩ := zgo_inv ha
      exact lv_ifnonnull hx hb hd ht (zkn rfl kk _ _ _ P hl)
    · cases ha; exact lv_ifnonnullN hx hb hd (zkn rfl kk _ _ _ P hl)
    · cases ha
  case tableswitch dflt lo hi offs =>
    unfold zact at ha; dsimp only at ha; split at ha
    · split at ha
      next hc =>
        obtain ⟨ht, rfl, rfl, rfl⟩ := zgo_inv ha
        exact lv_tableOut hx hb hd hc ht (zkn rfl kk _ _ _ P hl)
      next hc =>
        split at ha
        next off ho =>
          obtain ⟨ht, rfl, rfl, rfl⟩ := zgo_inv ha
          exact lv_tableIn hx hb hd (fun q => hc (Or.inl q)) (fun q => hc (Or.inr q)) ho ht (zkn rfl kk _ _ _ P hl)
        next => cases ha
    · cases ha
end ZSIM
