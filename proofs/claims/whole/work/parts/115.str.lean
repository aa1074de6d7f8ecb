/-! THE MEMBERS OF String, over the seven texts: what the JDK's own code answers -/
def yjLen : MethodName := ⟨"java/lang/String", "length", "()I"⟩
def yjCod : MethodName := ⟨"java/lang/String", "coder", "()B"⟩
def yjChr : MethodName := ⟨"java/lang/String", "charAt", "(I)C"⟩
def yjIsL : MethodName := ⟨"java/lang/String", "isLatin1", "()Z"⟩
def yjLat : MethodName := ⟨"java/lang/StringLatin1", "charAt", "([BI)C"⟩
def yjChk : MethodName := ⟨"java/lang/String", "checkIndex", "(II)V"⟩
def yjPre : MethodName := ⟨"jdk/internal/util/Preconditions", "checkIndex", "(IILjava/util/function/BiFunction;)I"⟩
theorem jw_iS : Cond.initialized "java/lang/String" ∈ zt := zgw_mem (p := 1011) (by decide +kernel)
theorem jw_iL : Cond.initialized "java/lang/StringLatin1" ∈ zt := zgw_mem (p := 1012) (by decide +kernel)
theorem jw_iP : Cond.initialized "jdk/internal/util/Preconditions" ∈ zt := zgw_mem (p := 1013) (by decide +kernel)
theorem jw_nLen : Cond.instanceMethod yjLen ∈ zt := zgw_mem (p := 2049) (by decide +kernel)
theorem jw_sLen : Cond.selects "java/lang/String" yjLen yjLen ∈ zt := zgw_mem (p := 2050) (by decide +kernel)
theorem jw_cLen : Cond.code yjLen prog_15_method_54_code 1 (some .int) ∈ zt := zgw_mem (p := 2051) (by decide +kernel)
theorem jw_lCod : Cond.methodLink "java/lang/String" 335 yjCod ∈ zt := zgw_mem (p := 2052) (by decide +kernel)
theorem jw_nCod : Cond.instanceMethod yjCod ∈ zt := zgw_mem (p := 2053) (by decide +kernel)
theorem jw_sCod : Cond.selects "java/lang/String" yjCod yjCod ∈ zt := zgw_mem (p := 2054) (by decide +kernel)
theorem jw_cCod : Cond.code yjCod prog_15_method_152_code 1 (some .byte) ∈ zt := zgw_mem (p := 2055) (by decide +kernel)
theorem jw_fCmp : Cond.fieldLink "java/lang/String" 38 "java/lang/String" "COMPACT_STRINGS" "Z" ∈ zt := zgw_mem (p := 2056) (by decide +kernel)
theorem jw_nChr : Cond.instanceMethod yjChr ∈ zt := zgw_mem (p := 2059) (by decide +kernel)
theorem jw_sChr : Cond.selects "java/lang/String" yjChr yjChr ∈ zt := zgw_mem (p := 2060) (by decide +kernel)
theorem jw_cChr : Cond.code yjChr prog_15_method_56_code 2 (some .char) ∈ zt := zgw_mem (p := 2061) (by decide +kernel)
theorem jw_lIsL : Cond.methodLink "java/lang/String" 492 yjIsL ∈ zt := zgw_mem (p := 2062) (by decide +kernel)
theorem jw_nIsL : Cond.instanceMethod yjIsL ∈ zt := zgw_mem (p := 2063) (by decide +kernel)
theorem jw_sIsL : Cond.selects "java/lang/String" yjIsL yjIsL ∈ zt := zgw_mem (p := 2064) (by decide +kernel)
theorem jw_cIsL : Cond.code yjIsL prog_15_method_154_code 1 (some .boolean) ∈ zt := zgw_mem (p := 2065) (by decide +kernel)
theorem jw_lLat : Cond.methodLink "java/lang/String" 495 yjLat ∈ zt := zgw_mem (p := 2066) (by decide +kernel)
theorem jw_tLat : Cond.static yjLat ∈ zt := zgw_mem (p := 2067) (by decide +kernel)
theorem jw_cLat : Cond.code yjLat prog_16_method_2_code 2 (some .char) ∈ zt := zgw_mem (p := 2068) (by decide +kernel)
theorem jw_lChk : Cond.methodLink "java/lang/StringLatin1" 9 yjChk ∈ zt := zgw_mem (p := 2069) (by decide +kernel)
theorem jw_tChk : Cond.static yjChk ∈ zt := zgw_mem (p := 2070) (by decide +kernel)
theorem jw_cChk : Cond.code yjChk prog_15_method_155_code 2 none ∈ zt := zgw_mem (p := 2071) (by decide +kernel)
theorem jw_fFmt : Cond.fieldLink "java/lang/String" 1053 "jdk/internal/util/Preconditions" "SIOOBE_FORMATTER" "Ljava/util/function/BiFunction;" ∈ zt := zgw_mem (p := 2072) (by decide +kernel)
theorem jw_lPre : Cond.methodLink "java/lang/String" 1059 yjPre ∈ zt := zgw_mem (p := 2074) (by decide +kernel)
theorem jw_tPre : Cond.static yjPre ∈ zt := zgw_mem (p := 2075) (by decide +kernel)
theorem jw_cPre : Cond.code yjPre prog_19_method_11_code 3 (some .int) ∈ zt := zgw_mem (p := 2076) (by decide +kernel)
theorem jw_fVal : Cond.fieldLink "java/lang/String" 9 "java/lang/String" "value" "[B" ∈ zt := zgw_mem (p := 6010) (by decide +kernel)
theorem jw_fCod : Cond.fieldLink "java/lang/String" 15 "java/lang/String" "coder" "B" ∈ zt := zgw_mem (p := 6011) (by decide +kernel)
def jlen : List Nat := (List.range 7).map zslen
def jbyt : List (List Int32) := (List.range 7).map fun i => (List.range (zslen i)).map (zsch i)
theorem jlen_ok : ∀ k : Fin 7, jlen.getD k.val 0 = zslen k.val ∧ zslen k.val ≤ 6 ∧ Int32.ofNat (zslen k.val) >>> ((0 : Int32) &&& 31) = Int32.ofNat (zslen k.val) := by decide +kernel
theorem jbyt_ok : ∀ k : Fin 7, ∀ j : Fin 6, (((jbyt.getD k.val []).getD j.val 0 &&& 255).toUInt32 % 65536).toInt32 = (jbyt.getD k.val []).getD j.val 0 ∧ narrow .char (.int ((jbyt.getD k.val []).getD j.val 0)) = .int ((jbyt.getD k.val []).getD j.val 0) ∧ (j.val < zslen k.val → (jbyt.getD k.val []).getD j.val 0 = zsch k.val j.val) := by decide +kernel
def jE (B : Nat) (adK adV : Nat → Nat) (U : State) (Hp : Heap) : Prop := vk_S 7 jlen jbyt adK adV (fun q => B ≤ q) U Hp ∧ va_Z "java/lang/String" "COMPACT_STRINGS" "Z" (.int 1) (fun q => B ≤ q) U Hp ∧ va_Zq "jdk/internal/util/Preconditions" "SIOOBE_FORMATTER" "Ljava/util/function/BiFunction;" (fun q => B ≤ q) U Hp
theorem jE.moved {B : Nat} {adK adV : Nat → Nat} {u U : State} {H H1 : Heap} (hvm : u.vm.Alike U.vm) (hq : ∀ a : Nat, a < H.size → ¬ B ≤ a → H1[a]? = H[a]?) (h : jE B adK adV u H) : jE B adK adV U H1 := ⟨(h.1.kept hq).moved hvm, (h.2.1.kept hq).moved hvm, (h.2.2.kept hq).moved hvm⟩
def jP (B : Nat) (adK adV : Nat → Nat) (As : List Value) : Array Value → State → Prop := fun v U => v = As.toArray ∧ jE B adK adV U U.heap
def jQ (v : Option Value) : Array Value → State → Outcome → State → Prop := fun _ st oc t => oc = .returned v ∧ t.heap = st.heap
theorem jblind {B : Nat} {adK adV : Nat → Nat} {As : List Value} : FrameBlind (jP B adK adV As) := fun a U g mk q => ⟨q.1, jE.moved (u := U) (U := U.calling g mk a) (Vm.Alike.refl U.vm) (fun _ _ _ => rfl) q.2⟩
theorem jgood {y : MethodName} {cc : ByteArray} {n : Nat} {r : Option FieldType} (h : Cond.code y cc n r ∈ zt) : GoodIn zt (Cond.code y cc n r :: zt) := by
  intro w hw
  have : w ∈ zt := by
    rcases List.mem_cons.mp hw with rfl | hw
    · exact h
    · exact hw
  exact ⟨this, zt_good w this⟩
section JSTR
variable {p : Program} {l : Launch} {e : Env} {R : Room} {s : State} {m : MethodId} {args : Array Value} {below : List Frame} {meth : Method} {c : Code} {H : Heap} {locs : List Loc} {cells slots : Nat} {Q : State → Prop}
variable {B : Nat} {adK adV : Nat → Nat}
theorem jpre {As : List Value} (hE : jE B adK adV s s.heap) (hS : va_S (fun q => B ≤ q) s.heap H locs) : ∀ U : State, U.heap = H → s.WarmedH U.vm → jP B adK adV As As.toArray U := fun U hU hW => ⟨rfl, by rw [hU]; exact jE.moved hW.alike (fun q g1 g2 => hS.2.1 q g1 g2) hE⟩
theorem jrun {pc : Nat} {ls : Array Slot} {st0 rest st1 : List Value} {v : Option Value} {a : Array Value} (hst : v.toList ++ rest = st1) (hr : va_Run p l e R s m args below meth c H locs cells slots 0 0 (F0 m pc ls st0) rest (jQ v a) (fun _ => False)) (kk : W p l e R s m args below meth c H locs cells slots Q (F0 m (pc + 3) ls st1)) : W p l e R s m args below meth c H locs cells slots Q (F0 m pc ls st0) := by
  subst hst
  intro T hT X
  obtain ⟨v', st₀, t, T', L0, h0, X', hL, e1, e2, ⟨hv, ht⟩, st⟩ := hr T hT X
  cases hv
  have hL0 : L0 = [] := by
    cases L0 with
    | nil => rfl
    | cons q _ => exact (hL q List.mem_cons_self).elim
  subst hL0
  rw [List.append_nil] at X'
  obtain ⟨t2, a1, b1⟩ := kk T' (e1.trans (ht.trans h0)) X'
  exact ⟨t2, st t2 a1, b1⟩
theorem jm_pre {i n : Int32} {v : Value} (hv : v = .null ∨ ∃ t, v = .ref t) (h0 : ¬ i < 0) (hn : i < n) : Met l yjPre (Cond.code yjPre prog_19_method_11_code 3 (some .int) :: zt) { frames := 0, cells := 0, slots := 0, locals := 0 } (jP B adK adV [.int i, .int n, v]) (jQ (some (.int i))) 0 0 (fun _ => False) := by
  refine Met.ofW (cc := prog_19_method_11_code) (maxL := 3) (ret := some .int) (by decide +kernel) rfl ?_
  intro p e s m args below meth c s₁ B0 hml hP
  obtain ⟨rfl, hE⟩ := hP
  have hx := B0.exec
  have hb := B0.bytes
  have hr := B0.returns
  have hlk := B0.notSynchronized
  have key : ∀ ls : Array Slot, ls[0]? = some (.val (.int i)) → ls[1]? = some (.val (.int n)) → W p l e (headSpec (Cond.code yjPre prog_19_method_11_code 3 (some .int) :: zt) { frames := 0, cells := 0, slots := 0, locals := 0 }).room s m ([.int i, .int n, v] : List Value).toArray below meth c s.heap [] 0 0 (MQ below (jQ (some (.int i))) ([.int i, .int n, v] : List Value).toArray s 0 0 (fun _ => False)) (F0 m 0 ls []) := by
    intro ls g0 g1
    refine lv_iload_n hx hb (k := 0) (by decide +kernel) rfl g0 ?_
    refine lv_if_lt hx hb (off := 8) (tgt := 9) (by decide +kernel) rfl (fun z => absurd z h0) (fun _ => ?_)
    refine lv_iload_n hx hb (k := 0) (by decide +kernel) rfl g0 ?_
    refine lv_iload_n hx hb (k := 1) (by decide +kernel) rfl g1 ?_
    refine lv_icmp_lt hx hb (off := 10) (tgt := 16) (by decide +kernel) rfl (fun _ => ?_) (fun z => absurd hn z)
    refine lv_iload_n hx hb (k := 0) (by decide +kernel) rfl g0 ?_
    exact W.iret (hlocks := hlk) hx hb hr (fun t ht _ => ⟨rfl, ht⟩) (fun _ h => by cases h) (by decide +kernel)
  rw [lg_entry_eq]
  rcases hv with rfl | ⟨t, rfl⟩
  · have hl := lv_entry ([.int i, .int n, .null]) (n := 3) (Nat.le_of_ble_eq_true rfl)
    exact key _ (hl.2.2 (0, .int i) List.mem_cons_self) (hl.2.2 (1, .int n) (List.mem_cons_of_mem _ List.mem_cons_self))
  · have hl := lv_entry ([.int i, .int n, .ref t]) (n := 3) (Nat.le_of_ble_eq_true rfl)
    exact key _ (hl.2.2 (0, .int i) List.mem_cons_self) (hl.2.2 (1, .int n) (List.mem_cons_of_mem _ List.mem_cons_self))
theorem jm_chk {i n : Int32} (h0 : ¬ i < 0) (hn : i < n) : Met l yjChk (Cond.code yjChk prog_15_method_155_code 2 none :: zt) { frames := 1, cells := 0, slots := 0, locals := 22 } (jP B adK adV [.int i, .int n]) (jQ none) 0 0 (fun _ => False) := by
  refine Met.ofW (cc := prog_15_method_155_code) (maxL := 2) (ret := none) (by decide +kernel) rfl ?_
  intro p e s m args below meth c s₁ B0 hml hP
  obtain ⟨rfl, hE⟩ := hP
  have hx := B0.exec
  have hb := B0.bytes
  have hr := B0.returns
  have hlk := B0.notSynchronized
  have hts0 := atoms_spec (ws := Cond.code yjChk prog_15_method_155_code 2 none :: zt) B0.pre
  have hts : ∀ w ∈ zt, w.before ([.int i, .int n] : List Value).toArray s = true := fun w hw => hts0 w (List.mem_cons_of_mem _ hw)
  have hown : s.vm.findClass "java/lang/String" = some m.cls := findClass_of_methodNamed B0.named
  have hl := lv_entry ([.int i, .int n]) (n := 2) (Nat.le_of_ble_eq_true rfl)
  rw [lg_entry_eq]
  generalize (lg_sl ([.int i, .int n]) ++ List.replicate (2 - (lg_sl ([.int i, .int n])).length) Slot.unset).toArray = ls at hl ⊢
  have g0 := hl.2.2 (0, .int i) List.mem_cons_self
  have g1 := hl.2.2 (1, .int n) (List.mem_cons_of_mem _ List.mem_cons_self)
  refine lv_iload_n hx hb (k := 0) (by decide +kernel) rfl g0 ?_
  refine lv_iload_n hx hb (k := 1) (by decide +kernel) rfl g1 ?_
  have fin : ∀ (w : Value), (w = .null ∨ ∃ t, w = .ref t) → va_Z "jdk/internal/util/Preconditions" "SIOOBE_FORMATTER" "Ljava/util/function/BiFunction;" w (fun q => B ≤ q) s s.heap → W p l e (headSpec (Cond.code yjChk prog_15_method_155_code 2 none :: zt) { frames := 1, cells := 0, slots := 0, locals := 22 }).room s m ([.int i, .int n] : List Value).toArray below meth c s.heap [] 0 0 (MQ below (jQ none) ([.int i, .int n] : List Value).toArray s 0 0 (fun _ => False)) (F0 m 2 ls [.int n, .int i]) := by
    intro w hw hz
    refine va_gets hx hb hz va_S.rf hown (hts _ jw_fFmt) (fun _ h => h) (by decide +kernel) ?_
    refine jrun (st1 := [.int i]) rfl (va_runS (y := yjPre) (index := 1059) (own := "java/lang/String") (bytes := prog_19_method_11_code) (maxL := 3) (ret := some .int) (Ts := zt) (cc := prog_15_method_155_code) (nL := 2) (n := 3) (As := [.int i, .int n, w]) (rest := []) ⟨hx, hb, hml, hown, hts⟩ (jm_pre hw h0 hn) ⟨callB_of 3 hts (jgood jw_cPre) rfl rfl rfl (hts _ jw_iP) (hts _ jw_lPre) ⟨by decide +kernel, by decide +kernel, by decide +kernel⟩ ⟨Nat.le_of_ble_eq_true rfl, Nat.le_of_ble_eq_true rfl⟩, hts _ jw_tPre⟩ ⟨jblind, jpre hE va_S.rf⟩ rfl rfl hl.1 rfl (lv_room (Nat.le_of_ble_eq_true rfl)) (show decode prog_15_method_155_code 5 = .ok (.invokestatic 1059, 3) by decide +kernel) ⟨Nat.le_of_ble_eq_true rfl, Nat.le_of_ble_eq_true rfl⟩) ?_
    refine lv_pop hx hb (by decide +kernel) rfl ?_
    exact W.vret (hlocks := hlk) hx hb hr (fun t ht _ => ⟨rfl, ht⟩) (fun _ h => by cases h) (by decide +kernel)
  rcases hE.2.2 with hz | ⟨t, hz⟩
  · exact fin _ (Or.inl rfl) hz
  · exact fin _ (Or.inr ⟨t, rfl⟩) hz
theorem jm_lat {k : Nat} {i : Int32} (hk : k < 7) (hin : vp_in i (jlen.getD k 0)) : Met l yjLat (Cond.code yjLat prog_16_method_2_code 2 (some .char) :: zt) { frames := 2, cells := 0, slots := 0, locals := 43 } (jP B adK adV [.ref (adV k), .int i]) (jQ (some (.int ((jbyt.getD k []).getD i.toNatClampNeg 0)))) 0 0 (fun _ => False) := by
  have hk1 := jlen_ok ⟨k, hk⟩
  have hlt : i.toNatClampNeg < jlen.getD k 0 := Nat.not_le.mp fun q => hin (Or.inr q)
  have hb1 := jbyt_ok ⟨k, hk⟩ ⟨i.toNatClampNeg, by have := hk1.1; have := hk1.2.1; dsimp only at *; omega⟩
  dsimp only at hk1 hb1
  have h0 : ¬ i < 0 := fun q => hin (Or.inl q)
  have hi0 : (0 : Int) ≤ i.toInt := by simpa using Int32.le_iff_toInt_le.mp (Int32.not_lt.mp h0)
  have hn : i < Int32.ofNat (jlen.getD k 0) := by
    refine Int32.lt_iff_toInt_lt.mpr ?_
    rw [show (Int32.ofNat (jlen.getD k 0)).toInt = ((jlen.getD k 0 : Nat) : Int) from nI_toInt (by omega)]
    have : (i.toNatClampNeg : Int) = i.toInt := by
      show ((i.toInt.toNat : Nat) : Int) = _
      omega
    omega
  refine Met.ofW (cc := prog_16_method_2_code) (maxL := 2) (ret := some .char) (by decide +kernel) rfl ?_
  intro p e s m args below meth c s₁ B0 hml hP
  obtain ⟨rfl, hE⟩ := hP
  have hx := B0.exec
  have hb := B0.bytes
  have hr := B0.returns
  have hlk := B0.notSynchronized
  have hts0 := atoms_spec (ws := Cond.code yjLat prog_16_method_2_code 2 (some .char) :: zt) B0.pre
  have hts : ∀ w ∈ zt, w.before ([.ref (adV k), .int i] : List Value).toArray s = true := fun w hw => hts0 w (List.mem_cons_of_mem _ hw)
  have hown : s.vm.findClass "java/lang/StringLatin1" = some m.cls := findClass_of_methodNamed B0.named
  have hl := lv_entry ([.ref (adV k), .int i]) (n := 2) (Nat.le_of_ble_eq_true rfl)
  rw [lg_entry_eq]
  generalize (lg_sl ([.ref (adV k), .int i]) ++ List.replicate (2 - (lg_sl ([.ref (adV k), .int i])).length) Slot.unset).toArray = ls at hl ⊢
  have g0 := hl.2.2 (0, .ref (adV k)) List.mem_cons_self
  have g1 := hl.2.2 (1, .int i) (List.mem_cons_of_mem _ List.mem_cons_self)
  have hT := (hE.1.1 k hk).2.2.2
  refine lv_iload_n hx hb (k := 1) (by decide +kernel) rfl g1 ?_
  refine lv_aload_n hx hb (k := 0) (by decide +kernel) rfl g0 ?_
  refine va_tlen hx hb hT va_S.rf rfl (by decide +kernel) ?_
  refine jrun (st1 := []) rfl (va_runS (y := yjChk) (index := 9) (own := "java/lang/StringLatin1") (bytes := prog_15_method_155_code) (maxL := 2) (ret := none) (Ts := zt) (cc := prog_16_method_2_code) (nL := 2) (n := 2) (As := [.int i, .int (Int32.ofNat (jlen.getD k 0))]) (rest := []) ⟨hx, hb, hml, hown, hts⟩ (jm_chk h0 hn) ⟨callB_of 2 hts (jgood jw_cChk) rfl rfl rfl (hts _ jw_iS) (hts _ jw_lChk) ⟨by decide +kernel, by decide +kernel, by decide +kernel⟩ ⟨Nat.le_of_ble_eq_true rfl, Nat.le_of_ble_eq_true rfl⟩, hts _ jw_tChk⟩ ⟨jblind, jpre hE va_S.rf⟩ rfl rfl hl.1 rfl (lv_room (Nat.le_of_ble_eq_true rfl)) (show decode prog_16_method_2_code 3 = .ok (.invokestatic 9, 3) by decide +kernel) ⟨Nat.le_of_ble_eq_true rfl, Nat.le_of_ble_eq_true rfl⟩) ?_
  refine lv_aload_n hx hb (k := 0) (by decide +kernel) rfl g0 ?_
  refine lv_iload_n hx hb (k := 1) (by decide +kernel) rfl g1 ?_
  refine va_tb hx hb hT va_S.rf hin rfl (by decide +kernel) ?_
  refine lv_sipush hx hb (n := 255) (v := 255) (by decide +kernel) (by decide) ?_
  refine lv_iand hx hb (by decide +kernel) ?_
  refine lv_i2c hx hb (by decide +kernel) hb1.1 ?_
  exact W.zret (hlocks := hlk) hx hb hr hb1.2.1 (fun t ht _ => ⟨rfl, ht⟩) (fun _ h => by cases h) (by decide +kernel)
theorem jm_isl {k : Nat} (hk : k < 7) : Met l yjIsL (Cond.code yjIsL prog_15_method_154_code 1 (some .boolean) :: zt) { frames := 0, cells := 0, slots := 0, locals := 0 } (jP B adK adV [.ref (adK k)]) (jQ (some (.int 1))) 0 0 (fun _ => False) := by
  refine Met.ofW (cc := prog_15_method_154_code) (maxL := 1) (ret := some .boolean) (by decide +kernel) rfl ?_
  intro p e s m args below meth c s₁ B0 hml hP
  obtain ⟨rfl, hE⟩ := hP
  have hx := B0.exec
  have hb := B0.bytes
  have hr := B0.returns
  have hlk := B0.notSynchronized
  have hts0 := atoms_spec (ws := Cond.code yjIsL prog_15_method_154_code 1 (some .boolean) :: zt) B0.pre
  have hts : ∀ w ∈ zt, w.before ([.ref (adK k)] : List Value).toArray s = true := fun w hw => hts0 w (List.mem_cons_of_mem _ hw)
  have hown : s.vm.findClass "java/lang/String" = some m.cls := findClass_of_methodNamed B0.named
  have hl := lv_entry ([.ref (adK k)]) (n := 1) (Nat.le_of_ble_eq_true rfl)
  rw [lg_entry_eq]
  generalize (lg_sl ([.ref (adK k)]) ++ List.replicate (1 - (lg_sl ([.ref (adK k)])).length) Slot.unset).toArray = ls at hl ⊢
  have g0 := hl.2.2 (0, .ref (adK k)) List.mem_cons_self
  refine va_gets hx hb hE.2.1 va_S.rf hown (hts _ jw_fCmp) (fun _ h => h) (by decide +kernel) ?_
  refine lv_if_eq hx hb (off := 14) (tgt := 17) (by decide +kernel) rfl (fun z => absurd z (by decide)) (fun _ => ?_)
  refine lv_aload_n hx hb (k := 0) (by decide +kernel) rfl g0 ?_
  refine vk_getf hx hb (hE.1.1 k hk).2.1 va_S.rf hown (hts _ jw_fCod) (fun _ h => h) (by decide +kernel) ?_
  refine lv_if_ne hx hb (off := 7) (tgt := 17) (by decide +kernel) rfl (fun z => absurd rfl z) (fun _ => ?_)
  refine lv_iconst hx hb (v := 1) (n := 1) (by decide +kernel) (by decide) ?_
  refine lv_goto hx hb (off := 4) (tgt := 18) (by decide +kernel) rfl ?_
  exact W.zret (hlocks := hlk) hx hb hr (by decide) (fun t ht _ => ⟨rfl, ht⟩) (fun _ h => by cases h) (by decide +kernel)
theorem jm_cod {k : Nat} (hk : k < 7) : Met l yjCod (Cond.code yjCod prog_15_method_152_code 1 (some .byte) :: zt) { frames := 0, cells := 0, slots := 0, locals := 0 } (jP B adK adV [.ref (adK k)]) (jQ (some (.int 0))) 0 0 (fun _ => False) := by
  refine Met.ofW (cc := prog_15_method_152_code) (maxL := 1) (ret := some .byte) (by decide +kernel) rfl ?_
  intro p e s m args below meth c s₁ B0 hml hP
  obtain ⟨rfl, hE⟩ := hP
  have hx := B0.exec
  have hb := B0.bytes
  have hr := B0.returns
  have hlk := B0.notSynchronized
  have hts0 := atoms_spec (ws := Cond.code yjCod prog_15_method_152_code 1 (some .byte) :: zt) B0.pre
  have hts : ∀ w ∈ zt, w.before ([.ref (adK k)] : List Value).toArray s = true := fun w hw => hts0 w (List.mem_cons_of_mem _ hw)
  have hown : s.vm.findClass "java/lang/String" = some m.cls := findClass_of_methodNamed B0.named
  have hl := lv_entry ([.ref (adK k)]) (n := 1) (Nat.le_of_ble_eq_true rfl)
  rw [lg_entry_eq]
  generalize (lg_sl ([.ref (adK k)]) ++ List.replicate (1 - (lg_sl ([.ref (adK k)])).length) Slot.unset).toArray = ls at hl ⊢
  have g0 := hl.2.2 (0, .ref (adK k)) List.mem_cons_self
  refine va_gets hx hb hE.2.1 va_S.rf hown (hts _ jw_fCmp) (fun _ h => h) (by decide +kernel) ?_
  refine lv_if_eq hx hb (off := 10) (tgt := 13) (by decide +kernel) rfl (fun z => absurd z (by decide)) (fun _ => ?_)
  refine lv_aload_n hx hb (k := 0) (by decide +kernel) rfl g0 ?_
  refine vk_getf hx hb (hE.1.1 k hk).2.1 va_S.rf hown (hts _ jw_fCod) (fun _ h => h) (by decide +kernel) ?_
  refine lv_goto hx hb (off := 4) (tgt := 14) (by decide +kernel) rfl ?_
  exact W.zret (hlocks := hlk) hx hb hr (by decide) (fun t ht _ => ⟨rfl, ht⟩) (fun _ h => by cases h) (by decide +kernel)
theorem jm_len {k : Nat} (hk : k < 7) : Met l yjLen (Cond.code yjLen prog_15_method_54_code 1 (some .int) :: zt) { frames := 1, cells := 0, slots := 0, locals := 20 } (jP B adK adV [.ref (adK k)]) (jQ (some (.int (Int32.ofNat (jlen.getD k 0))))) 0 0 (fun _ => False) := by
  have hk1 := jlen_ok ⟨k, hk⟩
  dsimp only at hk1
  refine Met.ofW (cc := prog_15_method_54_code) (maxL := 1) (ret := some .int) (by decide +kernel) rfl ?_
  intro p e s m args below meth c s₁ B0 hml hP
  obtain ⟨rfl, hE⟩ := hP
  have hx := B0.exec
  have hb := B0.bytes
  have hr := B0.returns
  have hlk := B0.notSynchronized
  have hts0 := atoms_spec (ws := Cond.code yjLen prog_15_method_54_code 1 (some .int) :: zt) B0.pre
  have hts : ∀ w ∈ zt, w.before ([.ref (adK k)] : List Value).toArray s = true := fun w hw => hts0 w (List.mem_cons_of_mem _ hw)
  have hown : s.vm.findClass "java/lang/String" = some m.cls := findClass_of_methodNamed B0.named
  have hl := lv_entry ([.ref (adK k)]) (n := 1) (Nat.le_of_ble_eq_true rfl)
  rw [lg_entry_eq]
  generalize (lg_sl ([.ref (adK k)]) ++ List.replicate (1 - (lg_sl ([.ref (adK k)])).length) Slot.unset).toArray = ls at hl ⊢
  have g0 := hl.2.2 (0, .ref (adK k)) List.mem_cons_self
  have hT := (hE.1.1 k hk).2.2.2
  refine lv_aload_n hx hb (k := 0) (by decide +kernel) rfl g0 ?_
  refine vk_getf hx hb (hE.1.1 k hk).2.2.1 va_S.rf hown (hts _ jw_fVal) (fun _ h => h) (by decide +kernel) ?_
  refine va_tlen hx hb hT va_S.rf rfl (by decide +kernel) ?_
  refine lv_aload_n hx hb (k := 0) (by decide +kernel) rfl g0 ?_
  refine jrun (st1 := [.int 0, .int (Int32.ofNat (jlen.getD k 0))]) rfl (va_runV (y := yjCod) (C := "java/lang/String") (index := 335) (own := "java/lang/String") (bytes := prog_15_method_152_code) (maxL := 1) (ret := some .byte) (Ts := zt) (cc := prog_15_method_54_code) (nL := 1) (n := 0) (b := adK k) (As := []) (rest := [.int (Int32.ofNat (jlen.getD k 0))]) ⟨hx, hb, hml, hown, hts⟩ (jm_cod hk) ⟨callB_of 0 hts (jgood jw_cCod) rfl rfl rfl (hts _ jw_iS) (hts _ jw_lCod) ⟨by decide +kernel, by decide +kernel, by decide +kernel⟩ ⟨Nat.le_of_ble_eq_true rfl, Nat.le_of_ble_eq_true rfl⟩, hts _ jw_nCod, hts _ jw_sCod⟩ ⟨jblind, vk_recv hE.1 hk va_S.rf, jpre hE va_S.rf⟩ rfl rfl hl.1 rfl (lv_room (Nat.le_of_ble_eq_true rfl)) (show decode prog_15_method_54_code 6 = .ok (.invokevirtual 335, 3) by decide +kernel) ⟨Nat.le_of_ble_eq_true rfl, Nat.le_of_ble_eq_true rfl⟩) ?_
  refine lv_ishr hx hb (by decide +kernel) ?_
  rw [hk1.1, hk1.2.2]
  exact W.iret (hlocks := hlk) hx hb hr (fun t ht _ => ⟨rfl, ht⟩) (fun _ h => by cases h) (by decide +kernel)
theorem jm_chr {k : Nat} {i : Int32} (hk : k < 7) (hin : vp_in i (jlen.getD k 0)) : Met l yjChr (Cond.code yjChr prog_15_method_56_code 2 (some .char) :: zt) { frames := 3, cells := 0, slots := 0, locals := 64 } (jP B adK adV [.ref (adK k), .int i]) (jQ (some (.int ((jbyt.getD k []).getD i.toNatClampNeg 0)))) 0 0 (fun _ => False) := by
  have hk1 := jlen_ok ⟨k, hk⟩
  have hlt : i.toNatClampNeg < jlen.getD k 0 := Nat.not_le.mp fun q => hin (Or.inr q)
  have hb1 := jbyt_ok ⟨k, hk⟩ ⟨i.toNatClampNeg, by have := hk1.1; have := hk1.2.1; dsimp only at *; omega⟩
  dsimp only at hk1 hb1
  refine Met.ofW (cc := prog_15_method_56_code) (maxL := 2) (ret := some .char) (by decide +kernel) rfl ?_
  intro p e s m args below meth c s₁ B0 hml hP
  obtain ⟨rfl, hE⟩ := hP
  have hx := B0.exec
  have hb := B0.bytes
  have hr := B0.returns
  have hlk := B0.notSynchronized
  have hts0 := atoms_spec (ws := Cond.code yjChr prog_15_method_56_code 2 (some .char) :: zt) B0.pre
  have hts : ∀ w ∈ zt, w.before ([.ref (adK k), .int i] : List Value).toArray s = true := fun w hw => hts0 w (List.mem_cons_of_mem _ hw)
  have hown : s.vm.findClass "java/lang/String" = some m.cls := findClass_of_methodNamed B0.named
  have hl := lv_entry ([.ref (adK k), .int i]) (n := 2) (Nat.le_of_ble_eq_true rfl)
  rw [lg_entry_eq]
  generalize (lg_sl ([.ref (adK k), .int i]) ++ List.replicate (2 - (lg_sl ([.ref (adK k), .int i])).length) Slot.unset).toArray = ls at hl ⊢
  have g0 := hl.2.2 (0, .ref (adK k)) List.mem_cons_self
  have g1 := hl.2.2 (1, .int i) (List.mem_cons_of_mem _ List.mem_cons_self)
  refine lv_aload_n hx hb (k := 0) (by decide +kernel) rfl g0 ?_
  refine jrun (st1 := [.int 1]) rfl (va_runV (y := yjIsL) (C := "java/lang/String") (index := 492) (own := "java/lang/String") (bytes := prog_15_method_154_code) (maxL := 1) (ret := some .boolean) (Ts := zt) (cc := prog_15_method_56_code) (nL := 2) (n := 0) (b := adK k) (As := []) (rest := []) ⟨hx, hb, hml, hown, hts⟩ (jm_isl hk) ⟨callB_of 0 hts (jgood jw_cIsL) rfl rfl rfl (hts _ jw_iS) (hts _ jw_lIsL) ⟨by decide +kernel, by decide +kernel, by decide +kernel⟩ ⟨Nat.le_of_ble_eq_true rfl, Nat.le_of_ble_eq_true rfl⟩, hts _ jw_nIsL, hts _ jw_sIsL⟩ ⟨jblind, vk_recv hE.1 hk va_S.rf, jpre hE va_S.rf⟩ rfl rfl hl.1 rfl (lv_room (Nat.le_of_ble_eq_true rfl)) (show decode prog_15_method_56_code 1 = .ok (.invokevirtual 492, 3) by decide +kernel) ⟨Nat.le_of_ble_eq_true rfl, Nat.le_of_ble_eq_true rfl⟩) ?_
  refine lv_if_eq hx hb (off := 12) (tgt := 16) (by decide +kernel) rfl (fun z => absurd z (by decide)) (fun _ => ?_)
  refine lv_aload_n hx hb (k := 0) (by decide +kernel) rfl g0 ?_
  refine vk_getf hx hb (hE.1.1 k hk).2.2.1 va_S.rf hown (hts _ jw_fVal) (fun _ h => h) (by decide +kernel) ?_
  refine lv_iload_n hx hb (k := 1) (by decide +kernel) rfl g1 ?_
  refine jrun (st1 := [.int ((jbyt.getD k []).getD i.toNatClampNeg 0)]) rfl (va_runS (y := yjLat) (index := 495) (own := "java/lang/String") (bytes := prog_16_method_2_code) (maxL := 2) (ret := some .char) (Ts := zt) (cc := prog_15_method_56_code) (nL := 2) (n := 2) (As := [.ref (adV k), .int i]) (rest := []) ⟨hx, hb, hml, hown, hts⟩ (jm_lat hk hin) ⟨callB_of 2 hts (jgood jw_cLat) rfl rfl rfl (hts _ jw_iL) (hts _ jw_lLat) ⟨by decide +kernel, by decide +kernel, by decide +kernel⟩ ⟨Nat.le_of_ble_eq_true rfl, Nat.le_of_ble_eq_true rfl⟩, hts _ jw_tLat⟩ ⟨jblind, jpre hE va_S.rf⟩ rfl rfl hl.1 rfl (lv_room (Nat.le_of_ble_eq_true rfl)) (show decode prog_15_method_56_code 12 = .ok (.invokestatic 495, 3) by decide +kernel) ⟨Nat.le_of_ble_eq_true rfl, Nat.le_of_ble_eq_true rfl⟩) ?_
  exact W.zret (hlocks := hlk) hx hb hr hb1.2.1 (fun t ht _ => ⟨rfl, ht⟩) (fun _ h => by cases h) (by decide +kernel)
end JSTR
