/-! THE START: what the Statement gives of the state at the law's entry, and the small heap of it -/
def zsk (i : Nat) : Nat := match zstr[i]? with
  | some t => t.1
  | none => 0
def zsT (i : Nat) : Term := .string "PoplarQueue$Reader" (zsk i)
def gFlat : List Cond := flatC (Jvm.Cond.and given_1 narrow_1)
theorem gf_len : ∀ i : Fin 7, jlen.getD i.val 0 < 2 ^ 31 := by decide +kernel
theorem gf_ex : ∀ i : Fin 7, Cond.exactly (zsT i.val) "java/lang/String" ∈ gFlat := by decide +kernel
theorem gf_co : ∀ i : Fin 7, Cond.eq (.field (zsT i.val) "java/lang/String" "coder" "B") (.int 0) ∈ gFlat := by decide +kernel
theorem gf_ar : ∀ i : Fin 7, Cond.arrayOf (.field (zsT i.val) "java/lang/String" "value" "[B") .byte ∈ gFlat := by decide +kernel
theorem gf_le : ∀ i : Fin 7, Cond.eq (.length (.field (zsT i.val) "java/lang/String" "value" "[B")) (.int (Int32.ofNat (jlen.getD i.val 0))) ∈ gFlat := by decide +kernel
theorem gf_el : ∀ i : Fin 7, ∀ j : Fin 6, j.val < jlen.getD i.val 0 → Cond.eq (.elem (.field (zsT i.val) "java/lang/String" "value" "[B") (.int (Int32.ofNat j.val))) (.int ((jbyt.getD i.val []).getD j.val 0)) ∈ gFlat := by decide +kernel
theorem gf_ne : ∀ i j : Fin 7, i.val ≠ j.val → Cond.not (Cond.eq (zsT i.val) (zsT j.val)) ∈ gFlat ∨ Cond.not (Cond.eq (zsT j.val) (zsT i.val)) ∈ gFlat := by decide +kernel
theorem gf_cs : Cond.eq (.static "java/lang/String" "COMPACT_STRINGS" "Z") (.int 1) ∈ gFlat := by decide +kernel
theorem gf_fm : Cond.isRef (.static "jdk/internal/util/Preconditions" "SIOOBE_FORMATTER" "Ljava/util/function/BiFunction;") ∈ gFlat := by decide +kernel
theorem lw_sr : ∀ i : Fin 7, ∀ t, zstr[i.val]? = some t → Cond.stringRef "PoplarQueue$Reader" t.1 t.2 ∈ lw_tbl := by
  have h : (zstr.all fun t => decide (Cond.stringRef "PoplarQueue$Reader" t.1 t.2 ∈ lw_tbl)) = true := by decide +kernel
  intro i t ht
  exact of_decide_eq_true (List.all_eq_true.mp h t (List.mem_of_getElem? ht))
theorem lw_ls1 : Cond.laysStatic "java/lang/String" "COMPACT_STRINGS" "Z" ∈ lw_tbl := by decide +kernel
theorem lw_ls2 : Cond.laysStatic "jdk/internal/util/Preconditions" "SIOOBE_FORMATTER" "Ljava/util/function/BiFunction;" ∈ lw_tbl := by decide +kernel
theorem lw_ao1 : Cond.arrayOver (.object "PoplarQueue$Plain") ∈ lw_tbl := by decide +kernel
theorem lw_ao2 : Cond.arrayOver (.object "PoplarQueue$Bag") ∈ lw_tbl := by decide +kernel
theorem lw_ao3 : Cond.arrayOver (.object "PoplarQueue$Holder") ∈ lw_tbl := by decide +kernel
theorem zarr_of {args : Array Value} {s : State} {ty : FieldType} (h : (Cond.arrayClass ty).before args s = true) : ∃ cA, ArrOfT s cA ty ∧ s.vm.findClass ("[" ++ ty.toString) = some cA := by
  obtain ⟨c, k, comp, h1, h2, h3⟩ := Cond.arrayClass_spec h
  exact ⟨c, fun n z => ⟨fun k h => (by cases h), k, h2, comp, h3⟩, h1⟩
theorem zaro_of {args : Array Value} {s : State} {C : String} (h : (Cond.arrayOver (.object C)).before args s = true) : ∃ cA, ArrOfT s cA (.object C) ∧ va_RA s cA (.object C) := by
  obtain ⟨comp, c, k, h1, h2, h3, h4, h5⟩ := Cond.arrayOver_spec h
  exact ⟨c, fun n z => ⟨fun k h => (by cases h), k, h3, comp, h4⟩, k, comp, h3, h4, h1, h5⟩
theorem zenv_start {s : State} {b L : Nat} {xs : Nat → Int32} (hts : ∀ w ∈ lw_tbl, w.before #[Value.ref b] s = true) (hX : va_X b L xs s s.heap) (hgv : (Jvm.Cond.and given_1 narrow_1).before #[Value.ref b] s = true) : ∃ (D : va_G) (ar : Nat → ClassId) (adK adV : Nat → Nat), zEnv D ar s.heap.size b L xs adK adV s s.heap := by
  have hg : ∀ w ∈ gFlat, w.before #[Value.ref b] s = true := flat_of_before _ hgv
  have hA : ∀ a : Nat, a < s.heap.size → ¬ (fun q : Nat => s.heap.size ≤ q) a := fun a h => Nat.not_le.mpr h
  obtain ⟨cI, aI, rI⟩ := zarr_of (hts _ (zt_in _ zwd_arr.1))
  obtain ⟨cJ, aJ, rJ⟩ := zarr_of (hts _ (zt_in _ zwd_arr.2.1))
  obtain ⟨cZ, aZ, rZ⟩ := zarr_of (hts _ (zt_in _ zwd_arr.2.2))
  obtain ⟨cP, aP, rP⟩ := zaro_of (hts _ lw_ao1)
  obtain ⟨cB, aB, rB⟩ := zaro_of (hts _ lw_ao2)
  obtain ⟨cH, aH, rH⟩ := zaro_of (hts _ lw_ao3)
  have h0 : ∀ k : Nat, ∃ x : ClassId × (Nat → Nat), ∀ q : vw_C, zcl[k]? = some q → u_Kn s q.1 q.2.1 q.2.2 x.1 x.2 := by
    intro k
    cases hq : zcl[k]? with
    | none => exact ⟨(cI, fun _ => 0), fun q h => by cases h⟩
    | some q =>
      obtain ⟨cC, iS, h⟩ := u_known hts (fun w hw => zt_in w (zlay hq w hw)) (hts _ (zt_in _ (zinst hq).1))
      exact ⟨(cC, iS), fun q' h' => by cases h'; exact h⟩
  obtain ⟨f, hf⟩ := Classical.axiomOfChoice h0
  obtain ⟨adK, adV, hS, hev⟩ := vk_Sof (args := #[Value.ref b]) (s := s) (N := 7) (tm := zsT) (len := jlen) (byt := jbyt) (A := fun q : Nat => s.heap.size ≤ q) (fun i hi => gf_len ⟨i, hi⟩) (fun i hi => hg _ (gf_ex ⟨i, hi⟩)) (fun i hi => hg _ (gf_co ⟨i, hi⟩)) (fun i hi => hg _ (gf_ar ⟨i, hi⟩)) (fun i hi => hg _ (gf_le ⟨i, hi⟩)) (fun i hi j hj => hg _ (gf_el ⟨i, hi⟩ ⟨j, by have := jlen_ok ⟨i, hi⟩; dsimp only at this; omega⟩ hj)) (fun i j hi hj hne => (gf_ne ⟨i, hi⟩ ⟨j, hj⟩ hne).imp (hg _) (hg _)) hA
  refine ⟨(fun k => (f k).1, fun k => (f k).2), fun k => match k with
    | 0 => cI
    | 1 => cJ
    | 2 => cZ
    | 3 => cP
    | 4 => cB
    | _ => cH, adK, adV, ⟨fun k q hq => hf k q hq, fun k q hq => ?_⟩, hX, fun i t ht => ?_, fun o i mj p0 hk => ?_, ⟨va_AO.of (hts _ lw_ao1), va_AO.of (hts _ lw_ao2), va_AO.of (hts _ lw_ao3)⟩, hS, va_Zof (hts _ lw_ls1) (hts _ (zt_in _ jw_iS)) (va_eqi (hg _ gf_cs)) hA, va_Zqof (hts _ lw_ls2) (hts _ (zt_in _ jw_iP)) (hg _ gf_fm) hA⟩
  · match k, hq with
    | 0, hq => cases hq; exact ⟨aI, rI⟩
    | 1, hq => cases hq; exact ⟨aJ, rJ⟩
    | 2, hq => cases hq; exact ⟨aZ, rZ⟩
    | 3, hq => cases hq; exact ⟨aP, rP⟩
    | 4, hq => cases hq; exact ⟨aB, rB⟩
    | 5, hq => cases hq; exact ⟨aH, rH⟩
    | k + 6, hq => simp [ztys] at hq
  · have hi : i < 7 := by
      have := (List.getElem?_eq_some_iff.mp ht).1
      exact this
    have e1 := hev i hi
    have e2 : zsT i = .string "PoplarQueue$Reader" t.1 := by
      unfold zsT zsk
      rw [ht]
    rw [e2] at e1
    exact vk_R.of (hts _ (lw_sr ⟨i, hi⟩ t ht)) e1
  · have hL := zml_facts hk
    unfold zokL at hL
    rw [hk] at hL
    simp only [Bool.and_eq_true, decide_eq_true_eq] at hL
    exact va_Nw.of rfl (hts _ (zseg_in _ _ (List.mem_of_getElem? hL.1)))
def tgS (a : Nat) : Nat := if a = 0 then 30 else if a < 8 then 31 else 0
def lnS (L a : Nat) : Nat := if a = 0 then L else if a < 8 then zslen (a - 1) else 0
def inS (xs : Nat → Int32) (a : Nat) (i : Int32) : Int32 := if a = 0 then xs i.toNatClampNeg else zsch (a - 1) i.toNatClampNeg
theorem inS_0 {xs : Nat → Int32} {j : Nat} (h : j < 4096) : inS xs 0 (nI j) = xs j := by
  unfold inS
  rw [if_pos rfl, show (nI j).toNatClampNeg = j from Int32.toNatClampNeg_ofNat_of_lt (by omega)]
theorem inS_s {xs : Nat → Int32} {i j : Nat} (h : j < 4096) : inS xs (i + 1) (nI j) = zsch i j := by
  unfold inS
  rw [if_neg (by omega), show (nI j).toNatClampNeg = j from Int32.toNatClampNeg_ofNat_of_lt (by omega), Nat.add_sub_cancel]
def zh0 (L : Nat) (xs : Nat → Int32) : ZH := (8, tgS, lnS L, inS xs, fun _ _ => 0, fun _ _ => none)
theorem zh0_txt {L : Nat} {xs : Nat → Int32} {i : Nat} (hi : i < 7) : tgS (i + 1) = 31 ∧ lnS L (i + 1) = zslen i ∧ ∀ j, j < zslen i → inS xs (i + 1) (nI j) = zsch i j := by
  have h6 := (jlen_ok ⟨i, hi⟩).2.1
  dsimp only at h6
  refine ⟨?_, ?_, fun j hj => inS_s (by omega)⟩
  · unfold tgS
    rw [if_neg (by omega), if_pos (by omega)]
  · unfold lnS
    rw [if_neg (by omega), if_pos (by omega), Nat.add_sub_cancel]
theorem zh0_Z {L : Nat} {xs : Nat → Int32} : Z0 L (tgS, lnS L, inS xs, fun _ _ => 0, fun _ _ => none) := ⟨⟨rfl, rfl⟩, fun _ hi => zh0_txt (L := L) (xs := xs) hi⟩
theorem tgS_v (a : Nat) : (a = 0 ∧ tgS a = 30) ∨ (1 ≤ a ∧ a ≤ 7 ∧ tgS a = 31) ∨ (8 ≤ a ∧ tgS a = 0) := by
  unfold tgS
  by_cases h1 : a = 0
  · exact Or.inl ⟨h1, by rw [if_pos h1]⟩
  · by_cases h2 : a < 8
    · exact Or.inr (Or.inl ⟨by omega, by omega, by rw [if_neg h1, if_pos h2]⟩)
    · exact Or.inr (Or.inr ⟨by omega, by rw [if_neg h1, if_neg h2]⟩)
theorem zh0_wf {L : Nat} {xs : Nat → Int32} (hL : L ≤ 3072) : zwf L xs (zh0 L xs) := by
  refine ⟨Nat.le_refl 8, fun a h1 h2 => ?_, fun a h => ?_, fun a h => ?_, fun a h1 h2 => ?_, ⟨by omega, rfl, fun j hj => inS_0 (by omega)⟩, fun i hi => (zh0_txt (L := L) (xs := xs) hi).2⟩
  · have h1 : 1 ≤ tgS a := h1
    have h2 : tgS a ≤ 25 := h2
    rcases tgS_v a with h | h | h <;> omega
  · have h : tgS a = 30 := h
    rcases tgS_v a with h' | h' | h' <;> omega
  · have h : tgS a = 31 := h
    rcases tgS_v a with h' | h' | h' <;> omega
  · have h1 : 20 ≤ tgS a := h1
    have h2 : tgS a ≤ 25 := h2
    rcases tgS_v a with h | h | h <;> omega
/-! THE CLAIM OUT OF ONE WALK OF THE LAW'S BODY. Your part is whole_start (and what it stands on); all else here is the same for every law, but numbers. -/
def R_law : String := "PoplarQueueLaw"
def lw_P (b : Addr) (xs : List Int32) (args : Array Value) (s : State) : Prop := args = #[.ref b] ∧ s.IntsAt b xs ∧ xs.length ≤ 3072 ∧ (Jvm.Cond.and given_1 narrow_1).before args s = true
def lw_Q (_ : Array Value) (s : State) (o : Outcome) (t : State) : Prop := o = .returned (some (.int 1)) ∧ Framed s o t [] 600000 7302249
def lw_Z (below : List Frame) (a : Array Value) (s : State) : State → Prop := fun t => ∃ o, t.status = .running ∧ Ended t below o ∧ lw_Q a s o t
/-- the law's own end, with 1 on the stack, nothing written that was there before, its room as the claim has it -/
theorem lw_ret {p : Program} {l : Launch} {e : Env} {s : State} {m : MethodId} {below : List Frame} {meth : Method} {c : Code} {b : Nat} (hx : p.tables.exec = Jvm.exec) (hb : c.code = code) (hr : meth.sig.returnType = ret) (hlocks : meth.locks = false) {pc : Nat} {H : Heap} {ls : Array Slot} (hdg : decode code pc = .ok (.ireturn, 1)) : W p l e room_1 s m #[Value.ref b] below meth c H [] 600000 7302249 (lw_Z below #[Value.ref b] s) (F0 m pc ls [.int 1]) := by
  intro T hT X
  obtain ⟨fs, hret, hrun, hended, hW, hframe⟩ := X.leave (v := some (.int 1)) (hlocks := hlocks) (fun h => by rw [hr] at h; cases h)
  have hmeth' : T.vm.method? m = some meth := X.method'
  refine ⟨T.setFrames fs, ?_, .returned (some (.int 1)), hrun, hended, rfl, ⟨_, rfl⟩, hW, hframe⟩
  jvm_step X.here [X.here.top, hx, hb, hdg, hmeth', hr, ret, narrow_b1]
  (try refine ⟨rfl, ?_⟩); (try refine ⟨rfl, ?_⟩)
  first | (intro acts; rw [hret _ acts rfl rfl rfl]) | rw [hret _ _ rfl rfl rfl]
  exact Steps.refl _
/-- what holds at the law's entry: the machine, the code, the tables' words (any of lw_tbl by 'hts w (by decide +kernel)'), the script of L ints xs at the cell b, what the Statement gives of the start (any of its parts by flat_of_before) -/
def lw_At (p : Program) (s : State) (m : MethodId) (meth : Method) (c : Code) (b L : Nat) (xs : Nat → Int32) : Prop :=
  p.tables.exec = Jvm.exec ∧ c.code = code ∧ meth.sig.returnType = ret ∧ c.maxLocals = 4 ∧ s.vm.findClass R_law = some m.cls ∧ (∀ w ∈ lw_tbl, w.before #[Value.ref b] s = true) ∧ va_X b L xs s s.heap ∧ b < s.heap.size ∧ meth.locks = false ∧ (Jvm.Cond.and given_1 narrow_1).before #[Value.ref b] s = true ∧ meth.name = "law"
/-- YOUR PART: from the entry, for every script of at most 3072 ints, the law comes to its end with true -/
theorem whole_start {p : Program} {e : Env} {s : State} {m : MethodId} {below : List Frame} {meth : Method} {c : Code} (l : Launch) {b L : Nat} {xs : Nat → Int32} (hL : L ≤ 3072) (C0 : lw_At p s m meth c b L xs) : W p l e room_1 s m #[Value.ref b] below meth c s.heap [] 0 0 (lw_Z below #[Value.ref b] s) (entryFrame m ([Value.ref b] : List Value).toArray 4) := by
  obtain ⟨hx, hb, hr, hml, hown, hts, hX, hbl, hlocks, hgv, hnm⟩ := id C0
  obtain ⟨D, ar, adK, adV, hE⟩ := zenv_start hts hX hgv
  obtain ⟨n, v, hf, hz, hv, hn⟩ := law_run hL (zh0_Z (L := L) (xs := xs))
  subst hv
  have hq : zq 206 = some (12, 4, 2, 1, 9, 196) := by decide +kernel
  have hC : zCx p room_1 s m #[Value.ref b] meth c D ar s.heap.size b L xs adK adV 206 := ⟨hx, hb.trans (show code = zb 206 from rfl), ⟨_, hq, hml, Nat.le_of_ble_eq_true rfl, Nat.le_of_ble_eq_true rfl⟩, hown, fun w hw => hts w (zt_in w hw), hnm, hE, hbl, Nat.le_refl _⟩
  have h8 := zex_le _ _ _ _ _ _ _ _ hz
  have hLR := zent_LR (up := zup b s.heap.size adK) (As := [.ref 0]) (mL := 4) (Nat.le_of_ble_eq_true rfl)
  rw [lg_entry_eq]
  refine zsim n p l e room_1 s m #[Value.ref b] below meth c s.heap [] 0 0 _ D ar s.heap.size b L xs adK adV 206 0 [some (.ref 0), none, none, none] [] (zh0 L xs) (some (.int 1)) hf _ (hf.1 - 8) (4096 * (hf.1 - 8)) hz hC ⟨⟨Nat.le_refl 8, rfl, fun a h1 h2 => absurd h2 (Nat.not_lt.mpr h1)⟩, va_S.rf, rfl, zh0_wf hL⟩ (by rw [hml]; exact hLR) (Nat.zero_add _) (Nat.zero_add _) (by show _ ≤ 600000; omega) (by show _ ≤ 7302249; omega) ?_
  intro pc' lsJ' H' locs' stJ hret P
  have fin : ∀ x : Int32, x = 1 → decode (zb 206) pc' = .ok (.ireturn, 1) → W p l e room_1 s m #[Value.ref b] below meth c H' locs' (hf.1 - 8) (4096 * (hf.1 - 8)) (lw_Z below #[Value.ref b] s) (F0 m pc' lsJ' [.int x]) := by
    intro x hx1 hd
    subst hx1
    refine va_forget (fun q hq => P.2.1.2.2 q hq) ?_
    refine W.widen (k := 600000) (n := 7302249) (by omega) (by omega) ?_
    exact lw_ret hx hb hr hlocks hd
  rcases hret with ⟨h, -⟩ | ⟨x, h, hd, -, rfl⟩ | ⟨x, h, -⟩ | ⟨w, h, hw, -⟩
  · cases h
  · exact fin x (by cases h; rfl) hd
  · cases h
  · cases h
    rcases hw with hw | ⟨a, hw⟩ <;> cases hw
set_option maxHeartbeats 4000000 in
theorem lw_walk (l : Launch) (b : Addr) (xs : List Int32) : MetFree l x (headSpec (Jvm.Cond.code x code maxLocals ret :: tables_1) room_1) (lw_P b xs) (fun _ _ _ _ _ => True) lw_Q := by
  refine MetFree.of_bodyS (code := code) (maxLocals := maxLocals) (ret := ret) (by decide) ?_ ?_
  · intro args s m h hn
    obtain ⟨meth, c, h1, h2, h3, h4, h5, h6, -, -⟩ := Cond.code_spec hn (atoms_spec (ws := Jvm.Cond.code x code maxLocals ret :: tables_1) h _ List.mem_cons_self)
    exact ⟨meth, c, h1, h2, h3, h4, h5, h6⟩
  · intro p e s m args below meth c s₁ B hml0 hP _
    obtain ⟨rfl, hx, hbd, hgv⟩ := hP
    obtain ⟨scr, harrAt, hlist, hof, hsmall⟩ := hx
    obtain ⟨hcb, hkn, -, -⟩ := State.arrayAt?_spec harrAt
    have hown : s.vm.findClass R_law = some m.cls := findClass_of_methodNamed B.named
    have hts0 : ∀ c ∈ (Jvm.Cond.code x code maxLocals ret :: tables_1), c.before #[Value.ref b] s = true := atoms_spec (ws := Jvm.Cond.code x code maxLocals ret :: tables_1) B.pre
    have hts : ∀ w ∈ lw_tbl, w.before #[Value.ref b] s = true := k2_hts_sels lw_privs (fun w hw => hts0 w (List.mem_cons_of_mem _ hw)) lw_privs_ok
    have hml : c.maxLocals = 4 := B.maxLocals_eq (hts0 _ List.mem_cons_self)
    have X₀ : Stand p l e room_1 s m #[Value.ref b] below meth c s₁ [] 0 0 := Stand.of_body B
    have hh0 : s₁.heap = s.heap := by rw [B.state]; rfl
    have hsz : scr.slots.size = xs.length := by rw [← Array.length_toList, hlist, List.length_map]
    have hval : ∀ j : Nat, j < xs.length → scr.slots[j]? = some (.int (xs.getD j 0)) := fun j hj => by
      rw [← Array.getElem?_toList, hlist]
      simp [hj]
    have hbl : b < s.heap.size := (Array.getElem?_eq_some_iff.mp hcb).1
    have hX : va_X b xs.length (fun j => xs.getD j 0) s s.heap := ⟨scr, hcb, hof, hkn, hsz, hval⟩
    have K : W p l e room_1 s m #[Value.ref b] below meth c s₁.heap [] 0 0 (lw_Z below #[Value.ref b] s) (entryFrame m ([Value.ref b] : List Value).toArray 4) := by
      rw [hh0]
      exact whole_start l hbd ⟨B.exec, B.bytes, B.returns, hml, hown, hts, hX, hbl, B.notSynchronized, hgv, (name_of_methodNamed B.named B.method).1⟩
    obtain ⟨t, a1, o, b1, b2, b3⟩ := K s₁ rfl X₀
    exact ⟨t, o, a1, b1, b2, b3⟩
theorem lw_pre_spec {args : Array Value} {s : State} (h : (Jvm.Cond.and given_1 narrow_1).before args s = true) (hr : rest_1_c.before args s = true) : ∃ (b : Addr) (xs : List Int32), lw_P b xs args s := by
  have hs := flat_of_before _ h
  have hq := flat_of_before _ hr
  have hc : (Cond.count 1).before args s = true := hs _ (by decide +kernel)
  have harr : (Cond.arrayOf (.arg 0) .int).before args s = true := hs _ (by decide +kernel)
  have hle : (Cond.le (.length (.arg 0)) (.int 3072)).before args s = true := hs _ (by decide +kernel)
  have hlen : (Cond.isInt (.length (.arg 0))).before args s = true := hq _ (by decide +kernel)
  have hall : (Cond.all (.arg 0) (.isInt (.elem (.arg 0) (.index 0)))).before args s = true := hq _ (by decide +kernel)
  obtain ⟨b, xs, hb, hx⟩ := State.ints_of_pre rfl harr hlen hall
  have hsm : xs.length < 2 ^ 31 := hx.choose_spec.2.2.2
  have hev : (Term.length (.arg 0)).eval args s none [] s = some (.int xs.length.toInt32) := hx.length_eval hb
  have hv := Cond.le_ints hev (show (Term.int 3072).eval args s none [] s = some (.int 3072) from rfl)
  have hd : xs.length.toInt32 ≤ 3072 := by
    simpa [Cond.before, Cond.holds, hv] using hle
  have hN : xs.length ≤ 3072 := (Int32.ofNat_le_ofNat hsm (by decide)).mp (show Int32.ofNat xs.length ≤ Int32.ofNat 3072 from hd)
  exact ⟨b, xs, Cond.one_arg hc (show args[0]? = some (.ref b) from hb), hx, hN, h⟩
theorem lw_comes (l : Launch) : Comes l x (Jvm.Cond.code x code maxLocals ret :: tables_1) room_1 (fun tb e args s => Calls_1 tb e args s ∧ rest_1 tb e args s ∧ Pre_1 tb e args s)
    (fun _ _ args s o t => lw_Q args s o t) := by
  intro p e ha hc hk s m args below hf hfit hheap happ hpre
  obtain ⟨b, xs, hP⟩ := lw_pre_spec hpre.2.2 hpre.2.1
  obtain ⟨k, o, h1, h2, h3, hQ⟩ := lw_walk l b xs p e ha hc hk s m args below hf ((Spec.applies_iff_loose hf).mp happ).1 hP trivial
  exact ⟨k, o, h1, h2, h3, hQ⟩
theorem lw_frame {s t : State} {o : Outcome} {args : Array Value} (h : Framed s o t [] 600000 7302249) :
    Framed s o t (fieldLocs frame_1_writes args s ++ arrayLocs frame_1_arrays args s ++ staticLocs frame_1_statics s) 600000 7302249 := h
theorem lw_limb (L : Cond) (hL : ∀ (args : Array Value) (s t : State), L.after args s (.returned (some (.int 1))) t = true) :
    ArmFor flags0 classFile x code maxLocals ret World_1 tables_1 room_1 Calls_1 rest_1 Pre_1
      (fun tb e a s o t => postC L tb e a s o t ∧ Framed s o t (fieldLocs frame_1_writes a s ++ arrayLocs frame_1_arrays a s ++ staticLocs frame_1_statics s) 600000 7302249) := by
  intro l _ _ _ p e ha hc hk s m args below hf hfit hheap happ hpre
  obtain ⟨k, o, h1, h2, h3, rfl, hF⟩ := lw_comes l p e ha hc hk s m args below hf hfit hheap happ hpre
  exact ⟨k, _, h1, h2, h3, hL args s _, lw_frame hF⟩
theorem i_vc : Claimed_1_1 ∧ Claimed_1_2 := ⟨lw_limb limb_1_1 (fun args s t => by simp [limb_1_1, Cond.after, Cond.holds, Cond.value]), lw_limb limb_1_2 (fun args s t => Cond.after_iff.mpr (by
  first | (rw [show limb_1_2 = Cond.eq .result (.int 1) from rfl, Cond.eq_ints (x := 1) (y := 1) rfl rfl]; simp; done) | (simp [limb_1_2, Cond.value, Term.eval]; done)))⟩
