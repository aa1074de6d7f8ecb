/-! WHAT THE TABLES SAY, CHECKED: each row of the small machine's code is the bytecode's; each link is among the words. -/
def zt : List Cond := lw_tbl.filter goodWord
def zseg (s : Nat) : List Cond := match s with
  | 0 => k2_sels lw_privs
  | 1 => tables_1_1
  | 2 => tables_1_2
  | 3 => tables_1_3
  | 4 => tables_1_4
  | 5 => tables_1_5
  | 6 => tables_1_6
  | _ => []
theorem zseg_in (s : Nat) (w : Cond) (h : w ∈ zseg s) : w ∈ lw_tbl := by
  unfold lw_tbl tables_1
  match s, h with
  | 0, h => exact List.mem_append_left _ h
  | 1, h => exact List.mem_append_right _ (List.mem_append_left _ h)
  | 2, h => exact List.mem_append_right _ (List.mem_append_right _ (List.mem_append_left _ h))
  | 3, h => exact List.mem_append_right _ (List.mem_append_right _ (List.mem_append_right _ (List.mem_append_left _ h)))
  | 4, h => exact List.mem_append_right _ (List.mem_append_right _ (List.mem_append_right _ (List.mem_append_right _ (List.mem_append_left _ h))))
  | 5, h => exact List.mem_append_right _ (List.mem_append_right _ (List.mem_append_right _ (List.mem_append_right _ (List.mem_append_right _ (List.mem_append_left _ h)))))
  | 6, h => exact List.mem_append_right _ (List.mem_append_right _ (List.mem_append_right _ (List.mem_append_right _ (List.mem_append_right _ (List.mem_append_right _ h)))))
  | n + 7, h => exact absurd h List.not_mem_nil
def zgw (p : Nat) (w : Cond) : Bool := decide ((zseg (p / 1000))[p % 1000]? = some w) && goodWord w
theorem zgw_mem {p : Nat} {w : Cond} (h : zgw p w = true) : w ∈ zt := by
  unfold zgw at h
  simp only [Bool.and_eq_true, decide_eq_true_eq] at h
  exact List.mem_filter.mpr ⟨zseg_in _ _ (List.mem_of_getElem? h.1), h.2⟩
theorem zgr_mem {s p : Nat} {w : Cond} (h : (zseg s)[p]? = some w) (hg : goodWord w = true) : w ∈ zt := List.mem_filter.mpr ⟨zseg_in _ _ (List.mem_of_getElem? h), hg⟩
theorem zt_good : ∀ w ∈ zt, (w.onTables && w.keeps) = true ∨ ∃ ty, w = .arrayClass ty := fun w h => good_of_word (List.mem_filter.mp h).2
theorem zt_in : ∀ w ∈ zt, w ∈ lw_tbl := fun w h => (List.mem_filter.mp h).1
def zrkok (mi rk : Nat) : Bool := match rk, zr mi with
  | 0, none => true
  | 1, some .int => true
  | 2, some .boolean => true
  | 3, some .long => true
  | 4, some (.object _) => true
  | _, _ => false
/-- a method: its words but for its code -/
def zokM (mi : Nat) : Bool := match zq mi with
  | none => false
  | some (o, _, rk, np, _, _) => zgw (zqp mi).2.1 (.initialized (zy mi).cls) && (decide ((zy mi).cls = zo o) && (plainName (zy mi).cls && (decide ((zy mi).cls ≠ "java/lang/invoke/MethodHandle" ∧ (zy mi).cls ≠ "java/lang/invoke/VarHandle") && (decide ((parseMethodDescriptor (zy mi).desc).map (fun d => d.parameters.length) = some np) && zrkok mi rk))))
/-- the room that a call asks -/
def zroom (mi mj : Nat) : Bool := match zq mi, zq mj with
  | some (_, _, _, _, fi, li), some (_, mL, _, _, fj, lj) => Nat.ble (fj + 1) fi && Nat.ble (8 + (mL + 11) + lj) li
  | _, _ => false
def zroomB (mi f w : Nat) : Bool := match zq mi with
  | some (_, _, _, _, fi, li) => Nat.ble f fi && Nat.ble w li
  | _ => false
def zokR (mi i : Nat) : Bool := match zml (zown mi) i with
  | some (kd, mj, _) => bif Nat.ble kd 3 then zroom mi mj else bif Nat.ble kd 11 then zroomB mi 1 40 else zroomB mi 4 90
  | none => false
/-- a method link, with the words of what it names -/
def zokL (o i : Nat) : Bool := match zml o i with
  | none => true
  | some (0, mj, p) => zgw p (.methodLink (zo o) i (zy mj)) && (zgw (zqp mj).2.2.1 (.instanceMethod (zy mj)) && (zgw (zqp mj).2.2.2 (.selects (zy mj).cls (zy mj) (zy mj)) && (Nat.blt (zown mj) 10 && Nat.blt mj 206)))
  | some (1, mj, p) => zgw p (.methodLink (zo o) i (zy mj)) && (zgw (zqp mj).2.2.1 (.instanceMethod (zy mj)) && (decide ((zy mj).name = "<init>") && (Nat.beq (zret mj) 0 && Nat.blt mj 206)))
  | some (2, mj, p) => decide ((zseg (p / 1000))[p % 1000]? = some (.methodLinkNest (zo o) i (zy mj) "PoplarQueue")) && (zgw (zqp mj).2.2.1 (.instanceMethod (zy mj)) && (decide ((zy mj).name = "<init>") && (Nat.beq (zret mj) 0 && Nat.blt mj 206)))
  | some (3, mj, p) => zgw p (.methodLink (zo o) i (zy mj)) && (zgw (zqp mj).2.2.1 (.static (zy mj)) && Nat.blt mj 206)
  | some (10, _, p) => zgw p (.methodLink (zo o) i objectInit)
  | some (11, _, p) => zgw p (.methodLink (zo o) i arraycopyName)
  | some (12, _, p) => zgw p (.methodLink (zo o) i ⟨"java/lang/String", "length", "()I"⟩)
  | some (13, _, p) => zgw p (.methodLink (zo o) i ⟨"java/lang/String", "charAt", "(I)C"⟩)
  | _ => false
def zilen (ins : Instr) : Nat := match ins with
  | .bipush _ => 2
  | .ldc _ => 2
  | .iload _ => 2
  | .lload _ => 2
  | .aload _ => 2
  | .istore _ => 2
  | .lstore _ => 2
  | .astore _ => 2
  | .newarray _ => 2
  | .sipush _ => 3
  | .ldc_w _ => 3
  | .ldc2_w _ => 3
  | .iinc _ _ => 3
  | .goto _ => 3
  | .ifCond _ _ => 3
  | .if_icmp _ _ => 3
  | .ifnull _ => 3
  | .ifnonnull _ => 3
  | .getfield _ => 3
  | .putfield _ => 3
  | .new _ => 3
  | .anewarray _ => 3
  | .invokevirtual _ => 3
  | .invokespecial _ => 3
  | .invokestatic _ => 3
  | .tableswitch _ _ _ _ => 0
  | _ => 1
def zokI (mi pc : Nat) : Bool := match zC mi pc with
  | none => true
  | some (ins, len) => decide (decode (zb mi) pc = .ok (ins, len)) && ((Nat.beq (zilen ins) 0 || Nat.beq (zilen ins) len) && match ins with
    | .invokevirtual i => zokR mi i
    | .invokespecial i => zokR mi i
    | .invokestatic i => zokR mi i
    | _ => true)
def zokF (o i : Nat) : Bool := match zfl o i with
  | none => true
  | some (ci, k, p) => match zcl[ci]? with
    | some q => Nat.blt k q.2.2 && (zgw p (.fieldLink (zo o) i (q.2.1 k).1 (q.2.1 k).2.1 (q.2.1 k).2.2.1) && decide ((q.2.1 k).1 = zo ci))
    | none => false
def zokK (o i : Nat) : Bool := (match zkl o i with
  | none => true
  | some (ci, p) => match zcl[ci]? with
    | some q => zgw p (.classLink (zo o) i q.1) && decide (q.1 = zo ci)
    | none => false) && ((match zk1 o i with
  | none => true
  | some (.int v, p) => zgw p (.constant (zo o) i v)
  | some (.ref a, _) => Nat.beq o 5 && (match zstr[a - 1]? with
    | some t => Nat.beq t.1 i && (Nat.ble 1 a && Nat.ble a 7)
    | none => false)
  | _ => false) && (match zk2 o i with
  | none => true
  | some (.long v, p) => zgw p (.constantLong (zo o) i v)
  | _ => false))
theorem zokF_all : ((List.range 14).all fun o => (List.range 512).all fun i => zokF o i) = true := by decide +kernel
theorem zokK_all : ((List.range 14).all fun o => (List.range 512).all fun i => zokK o i) = true := by decide +kernel
theorem zlay_all : (zcl.all fun q => (u_ws q.1 q.2.1 q.2.2).all fun w => decide (w ∈ lw_tbl) && goodWord w) = true := by decide +kernel
theorem zball {P : Nat → Prop} {n : Nat} (h : ∀ m, m < n → P m) (hn : P n) : ∀ m, m < n + 1 → P m := fun m hm => (Nat.lt_or_ge m n).elim (h m) (fun g => (show m = n by omega) ▸ hn)
theorem zball0 {P : Nat → Prop} : ∀ m, m < 0 → P m := fun m h => absurd h (Nat.not_lt_zero m)
theorem zokL_0 : ((List.range 512).all fun i => zokL 0 i) = true := by decide +kernel
theorem zokL_1 : ((List.range 512).all fun i => zokL 1 i) = true := by decide +kernel
theorem zokL_2 : ((List.range 512).all fun i => zokL 2 i) = true := by decide +kernel
theorem zokL_3 : ((List.range 512).all fun i => zokL 3 i) = true := by decide +kernel
theorem zokL_4 : ((List.range 512).all fun i => zokL 4 i) = true := by decide +kernel
theorem zokL_5 : ((List.range 512).all fun i => zokL 5 i) = true := by decide +kernel
theorem zokL_6 : ((List.range 512).all fun i => zokL 6 i) = true := by decide +kernel
theorem zokL_7 : ((List.range 512).all fun i => zokL 7 i) = true := by decide +kernel
theorem zokL_8 : ((List.range 512).all fun i => zokL 8 i) = true := by decide +kernel
theorem zokL_9 : ((List.range 512).all fun i => zokL 9 i) = true := by decide +kernel
theorem zokL_10 : ((List.range 512).all fun i => zokL 10 i) = true := by decide +kernel
theorem zokL_11 : ((List.range 512).all fun i => zokL 11 i) = true := by decide +kernel
theorem zokL_12 : ((List.range 512).all fun i => zokL 12 i) = true := by decide +kernel
theorem zokL_13 : ((List.range 512).all fun i => zokL 13 i) = true := by decide +kernel
theorem zokL_all : ∀ o, o < 14 → ((List.range 512).all fun i => zokL o i) = true := zball (zball (zball (zball (zball (zball (zball (zball (zball (zball (zball (zball (zball (zball (zball0) zokL_0) zokL_1) zokL_2) zokL_3) zokL_4) zokL_5) zokL_6) zokL_7) zokL_8) zokL_9) zokL_10) zokL_11) zokL_12) zokL_13
theorem zokM_0 : ((List.range 12).all fun k => zokM (k + 0)) = true := by decide +kernel
theorem zokM_12 : ((List.range 12).all fun k => zokM (k + 12)) = true := by decide +kernel
theorem zokM_24 : ((List.range 12).all fun k => zokM (k + 24)) = true := by decide +kernel
theorem zokM_36 : ((List.range 12).all fun k => zokM (k + 36)) = true := by decide +kernel
theorem zokM_48 : ((List.range 12).all fun k => zokM (k + 48)) = true := by decide +kernel
theorem zokM_60 : ((List.range 12).all fun k => zokM (k + 60)) = true := by decide +kernel
theorem zokM_72 : ((List.range 12).all fun k => zokM (k + 72)) = true := by decide +kernel
theorem zokM_84 : ((List.range 12).all fun k => zokM (k + 84)) = true := by decide +kernel
theorem zokM_96 : ((List.range 12).all fun k => zokM (k + 96)) = true := by decide +kernel
theorem zokM_108 : ((List.range 12).all fun k => zokM (k + 108)) = true := by decide +kernel
theorem zokM_120 : ((List.range 12).all fun k => zokM (k + 120)) = true := by decide +kernel
theorem zokM_132 : ((List.range 12).all fun k => zokM (k + 132)) = true := by decide +kernel
theorem zokM_144 : ((List.range 12).all fun k => zokM (k + 144)) = true := by decide +kernel
theorem zokM_156 : ((List.range 12).all fun k => zokM (k + 156)) = true := by decide +kernel
theorem zokM_168 : ((List.range 12).all fun k => zokM (k + 168)) = true := by decide +kernel
theorem zokM_180 : ((List.range 12).all fun k => zokM (k + 180)) = true := by decide +kernel
theorem zokM_192 : ((List.range 12).all fun k => zokM (k + 192)) = true := by decide +kernel
theorem zokM_204 : ((List.range 3).all fun k => zokM (k + 204)) = true := by decide +kernel
theorem zokM_all (mi : Nat) (h : mi < 207) : zokM mi = true := by
  rcases Nat.lt_or_ge mi 12 with g | g
  · have := List.all_eq_true.mp zokM_0 (mi - 0) (List.mem_range.mpr (by omega)); simpa [show mi - 0 + 0 = mi by omega] using this
  rcases Nat.lt_or_ge mi 24 with g | g
  · have := List.all_eq_true.mp zokM_12 (mi - 12) (List.mem_range.mpr (by omega)); simpa [show mi - 12 + 12 = mi by omega] using this
  rcases Nat.lt_or_ge mi 36 with g | g
  · have := List.all_eq_true.mp zokM_24 (mi - 24) (List.mem_range.mpr (by omega)); simpa [show mi - 24 + 24 = mi by omega] using this
  rcases Nat.lt_or_ge mi 48 with g | g
  · have := List.all_eq_true.mp zokM_36 (mi - 36) (List.mem_range.mpr (by omega)); simpa [show mi - 36 + 36 = mi by omega] using this
  rcases Nat.lt_or_ge mi 60 with g | g
  · have := List.all_eq_true.mp zokM_48 (mi - 48) (List.mem_range.mpr (by omega)); simpa [show mi - 48 + 48 = mi by omega] using this
  rcases Nat.lt_or_ge mi 72 with g | g
  · have := List.all_eq_true.mp zokM_60 (mi - 60) (List.mem_range.mpr (by omega)); simpa [show mi - 60 + 60 = mi by omega] using this
  rcases Nat.lt_or_ge mi 84 with g | g
  · have := List.all_eq_true.mp zokM_72 (mi - 72) (List.mem_range.mpr (by omega)); simpa [show mi - 72 + 72 = mi by omega] using this
  rcases Nat.lt_or_ge mi 96 with g | g
  · have := List.all_eq_true.mp zokM_84 (mi - 84) (List.mem_range.mpr (by omega)); simpa [show mi - 84 + 84 = mi by omega] using this
  rcases Nat.lt_or_ge mi 108 with g | g
  · have := List.all_eq_true.mp zokM_96 (mi - 96) (List.mem_range.mpr (by omega)); simpa [show mi - 96 + 96 = mi by omega] using this
  rcases Nat.lt_or_ge mi 120 with g | g
  · have := List.all_eq_true.mp zokM_108 (mi - 108) (List.mem_range.mpr (by omega)); simpa [show mi - 108 + 108 = mi by omega] using this
  rcases Nat.lt_or_ge mi 132 with g | g
  · have := List.all_eq_true.mp zokM_120 (mi - 120) (List.mem_range.mpr (by omega)); simpa [show mi - 120 + 120 = mi by omega] using this
  rcases Nat.lt_or_ge mi 144 with g | g
  · have := List.all_eq_true.mp zokM_132 (mi - 132) (List.mem_range.mpr (by omega)); simpa [show mi - 132 + 132 = mi by omega] using this
  rcases Nat.lt_or_ge mi 156 with g | g
  · have := List.all_eq_true.mp zokM_144 (mi - 144) (List.mem_range.mpr (by omega)); simpa [show mi - 144 + 144 = mi by omega] using this
  rcases Nat.lt_or_ge mi 168 with g | g
  · have := List.all_eq_true.mp zokM_156 (mi - 156) (List.mem_range.mpr (by omega)); simpa [show mi - 156 + 156 = mi by omega] using this
  rcases Nat.lt_or_ge mi 180 with g | g
  · have := List.all_eq_true.mp zokM_168 (mi - 168) (List.mem_range.mpr (by omega)); simpa [show mi - 168 + 168 = mi by omega] using this
  rcases Nat.lt_or_ge mi 192 with g | g
  · have := List.all_eq_true.mp zokM_180 (mi - 180) (List.mem_range.mpr (by omega)); simpa [show mi - 180 + 180 = mi by omega] using this
  rcases Nat.lt_or_ge mi 204 with g | g
  · have := List.all_eq_true.mp zokM_192 (mi - 192) (List.mem_range.mpr (by omega)); simpa [show mi - 192 + 192 = mi by omega] using this
  rcases Nat.lt_or_ge mi 207 with g | g
  · have := List.all_eq_true.mp zokM_204 (mi - 204) (List.mem_range.mpr (by omega)); simpa [show mi - 204 + 204 = mi by omega] using this
  omega
theorem zcw_0 : Cond.code (zy 0) (zb 0) 1 (zr 0) ∈ zt := zgr_mem (s := 1) (p := 190) rfl rfl
theorem zcw_1 : Cond.code (zy 1) (zb 1) 1 (zr 1) ∈ zt := zgr_mem (s := 3) (p := 229) rfl rfl
theorem zcw_2 : Cond.code (zy 2) (zb 2) 1 (zr 2) ∈ zt := zgr_mem (s := 2) (p := 180) rfl rfl
theorem zcw_3 : Cond.code (zy 3) (zb 3) 3 (zr 3) ∈ zt := zgr_mem (s := 3) (p := 217) rfl rfl
theorem zcw_4 : Cond.code (zy 4) (zb 4) 2 (zr 4) ∈ zt := zgr_mem (s := 3) (p := 225) rfl rfl
theorem zcw_5 : Cond.code (zy 5) (zb 5) 2 (zr 5) ∈ zt := zgr_mem (s := 4) (p := 18) rfl rfl
theorem zcw_6 : Cond.code (zy 6) (zb 6) 3 (zr 6) ∈ zt := zgr_mem (s := 4) (p := 23) rfl rfl
theorem zcw_7 : Cond.code (zy 7) (zb 7) 3 (zr 7) ∈ zt := zgr_mem (s := 4) (p := 51) rfl rfl
theorem zcw_8 : Cond.code (zy 8) (zb 8) 6 (zr 8) ∈ zt := zgr_mem (s := 4) (p := 55) rfl rfl
theorem zcw_9 : Cond.code (zy 9) (zb 9) 3 (zr 9) ∈ zt := zgr_mem (s := 4) (p := 64) rfl rfl
theorem zcw_10 : Cond.code (zy 10) (zb 10) 1 (zr 10) ∈ zt := zgr_mem (s := 1) (p := 151) rfl rfl
theorem zcw_11 : Cond.code (zy 11) (zb 11) 1 (zr 11) ∈ zt := zgr_mem (s := 2) (p := 176) rfl rfl
theorem zcw_12 : Cond.code (zy 12) (zb 12) 2 (zr 12) ∈ zt := zgr_mem (s := 2) (p := 236) rfl rfl
theorem zcw_13 : Cond.code (zy 13) (zb 13) 2 (zr 13) ∈ zt := zgr_mem (s := 3) (p := 99) rfl rfl
theorem zcw_14 : Cond.code (zy 14) (zb 14) 5 (zr 14) ∈ zt := zgr_mem (s := 3) (p := 234) rfl rfl
theorem zcw_15 : Cond.code (zy 15) (zb 15) 2 (zr 15) ∈ zt := zgr_mem (s := 4) (p := 35) rfl rfl
theorem zcw_16 : Cond.code (zy 16) (zb 16) 1 (zr 16) ∈ zt := zgr_mem (s := 4) (p := 39) rfl rfl
theorem zcw_17 : Cond.code (zy 17) (zb 17) 1 (zr 17) ∈ zt := zgr_mem (s := 2) (p := 224) rfl rfl
theorem zcw_18 : Cond.code (zy 18) (zb 18) 1 (zr 18) ∈ zt := zgr_mem (s := 3) (p := 12) rfl rfl
theorem zcw_19 : Cond.code (zy 19) (zb 19) 1 (zr 19) ∈ zt := zgr_mem (s := 3) (p := 15) rfl rfl
theorem zcw_20 : Cond.code (zy 20) (zb 20) 2 (zr 20) ∈ zt := zgr_mem (s := 2) (p := 221) rfl rfl
theorem zcw_21 : Cond.code (zy 21) (zb 21) 1 (zr 21) ∈ zt := zgr_mem (s := 1) (p := 37) rfl rfl
theorem zcw_22 : Cond.code (zy 22) (zb 22) 1 (zr 22) ∈ zt := zgr_mem (s := 3) (p := 66) rfl rfl
theorem zcw_23 : Cond.code (zy 23) (zb 23) 1 (zr 23) ∈ zt := zgr_mem (s := 3) (p := 36) rfl rfl
theorem zcw_24 : Cond.code (zy 24) (zb 24) 2 (zr 24) ∈ zt := zgr_mem (s := 2) (p := 214) rfl rfl
theorem zcw_25 : Cond.code (zy 25) (zb 25) 1 (zr 25) ∈ zt := zgr_mem (s := 2) (p := 129) rfl rfl
theorem zcw_26 : Cond.code (zy 26) (zb 26) 1 (zr 26) ∈ zt := zgr_mem (s := 2) (p := 103) rfl rfl
theorem zcw_27 : Cond.code (zy 27) (zb 27) 2 (zr 27) ∈ zt := zgr_mem (s := 2) (p := 21) rfl rfl
theorem zcw_28 : Cond.code (zy 28) (zb 28) 2 (zr 28) ∈ zt := zgr_mem (s := 2) (p := 133) rfl rfl
theorem zcw_29 : Cond.code (zy 29) (zb 29) 3 (zr 29) ∈ zt := zgr_mem (s := 3) (p := 19) rfl rfl
theorem zcw_30 : Cond.code (zy 30) (zb 30) 3 (zr 30) ∈ zt := zgr_mem (s := 3) (p := 40) rfl rfl
theorem zcw_31 : Cond.code (zy 31) (zb 31) 3 (zr 31) ∈ zt := zgr_mem (s := 2) (p := 202) rfl rfl
theorem zcw_32 : Cond.code (zy 32) (zb 32) 7 (zr 32) ∈ zt := zgr_mem (s := 3) (p := 195) rfl rfl
theorem zcw_33 : Cond.code (zy 33) (zb 33) 6 (zr 33) ∈ zt := zgr_mem (s := 3) (p := 201) rfl rfl
theorem zcw_34 : Cond.code (zy 34) (zb 34) 11 (zr 34) ∈ zt := zgr_mem (s := 3) (p := 206) rfl rfl
theorem zcw_35 : Cond.code (zy 35) (zb 35) 5 (zr 35) ∈ zt := zgr_mem (s := 3) (p := 198) rfl rfl
theorem zcw_36 : Cond.code (zy 36) (zb 36) 1 (zr 36) ∈ zt := zgr_mem (s := 1) (p := 31) rfl rfl
theorem zcw_37 : Cond.code (zy 37) (zb 37) 1 (zr 37) ∈ zt := zgr_mem (s := 2) (p := 99) rfl rfl
theorem zcw_38 : Cond.code (zy 38) (zb 38) 2 (zr 38) ∈ zt := zgr_mem (s := 2) (p := 14) rfl rfl
theorem zcw_39 : Cond.code (zy 39) (zb 39) 2 (zr 39) ∈ zt := zgr_mem (s := 2) (p := 188) rfl rfl
theorem zcw_40 : Cond.code (zy 40) (zb 40) 2 (zr 40) ∈ zt := zgr_mem (s := 2) (p := 192) rfl rfl
theorem zcw_41 : Cond.code (zy 41) (zb 41) 2 (zr 41) ∈ zt := zgr_mem (s := 2) (p := 125) rfl rfl
theorem zcw_42 : Cond.code (zy 42) (zb 42) 1 (zr 42) ∈ zt := zgr_mem (s := 2) (p := 232) rfl rfl
theorem zcw_43 : Cond.code (zy 43) (zb 43) 2 (zr 43) ∈ zt := zgr_mem (s := 2) (p := 197) rfl rfl
theorem zcw_44 : Cond.code (zy 44) (zb 44) 4 (zr 44) ∈ zt := zgr_mem (s := 3) (p := 150) rfl rfl
theorem zcw_45 : Cond.code (zy 45) (zb 45) 2 (zr 45) ∈ zt := zgr_mem (s := 2) (p := 154) rfl rfl
theorem zcw_46 : Cond.code (zy 46) (zb 46) 5 (zr 46) ∈ zt := zgr_mem (s := 2) (p := 150) rfl rfl
theorem zcw_47 : Cond.code (zy 47) (zb 47) 3 (zr 47) ∈ zt := zgr_mem (s := 3) (p := 62) rfl rfl
theorem zcw_48 : Cond.code (zy 48) (zb 48) 2 (zr 48) ∈ zt := zgr_mem (s := 3) (p := 74) rfl rfl
theorem zcw_49 : Cond.code (zy 49) (zb 49) 3 (zr 49) ∈ zt := zgr_mem (s := 3) (p := 82) rfl rfl
theorem zcw_50 : Cond.code (zy 50) (zb 50) 2 (zr 50) ∈ zt := zgr_mem (s := 3) (p := 78) rfl rfl
theorem zcw_51 : Cond.code (zy 51) (zb 51) 3 (zr 51) ∈ zt := zgr_mem (s := 3) (p := 1) rfl rfl
theorem zcw_52 : Cond.code (zy 52) (zb 52) 5 (zr 52) ∈ zt := zgr_mem (s := 3) (p := 5) rfl rfl
theorem zcw_53 : Cond.code (zy 53) (zb 53) 3 (zr 53) ∈ zt := zgr_mem (s := 3) (p := 9) rfl rfl
theorem zcw_54 : Cond.code (zy 54) (zb 54) 1 (zr 54) ∈ zt := zgr_mem (s := 3) (p := 24) rfl rfl
theorem zcw_55 : Cond.code (zy 55) (zb 55) 3 (zr 55) ∈ zt := zgr_mem (s := 3) (p := 29) rfl rfl
theorem zcw_56 : Cond.code (zy 56) (zb 56) 4 (zr 56) ∈ zt := zgr_mem (s := 3) (p := 33) rfl rfl
theorem zcw_57 : Cond.code (zy 57) (zb 57) 4 (zr 57) ∈ zt := zgr_mem (s := 3) (p := 44) rfl rfl
theorem zcw_58 : Cond.code (zy 58) (zb 58) 1 (zr 58) ∈ zt := zgr_mem (s := 1) (p := 100) rfl rfl
theorem zcw_59 : Cond.code (zy 59) (zb 59) 2 (zr 59) ∈ zt := zgr_mem (s := 2) (p := 10) rfl rfl
theorem zcw_60 : Cond.code (zy 60) (zb 60) 1 (zr 60) ∈ zt := zgr_mem (s := 2) (p := 166) rfl rfl
theorem zcw_61 : Cond.code (zy 61) (zb 61) 2 (zr 61) ∈ zt := zgr_mem (s := 2) (p := 42) rfl rfl
theorem zcw_62 : Cond.code (zy 62) (zb 62) 1 (zr 62) ∈ zt := zgr_mem (s := 2) (p := 108) rfl rfl
theorem zcw_63 : Cond.code (zy 63) (zb 63) 1 (zr 63) ∈ zt := zgr_mem (s := 2) (p := 117) rfl rfl
theorem zcw_64 : Cond.code (zy 64) (zb 64) 3 (zr 64) ∈ zt := zgr_mem (s := 2) (p := 146) rfl rfl
theorem zcw_65 : Cond.code (zy 65) (zb 65) 1 (zr 65) ∈ zt := zgr_mem (s := 2) (p := 121) rfl rfl
theorem zcw_66 : Cond.code (zy 66) (zb 66) 1 (zr 66) ∈ zt := zgr_mem (s := 2) (p := 138) rfl rfl
theorem zcw_67 : Cond.code (zy 67) (zb 67) 3 (zr 67) ∈ zt := zgr_mem (s := 2) (p := 47) rfl rfl
theorem zcw_68 : Cond.code (zy 68) (zb 68) 2 (zr 68) ∈ zt := zgr_mem (s := 2) (p := 112) rfl rfl
theorem zcw_69 : Cond.code (zy 69) (zb 69) 1 (zr 69) ∈ zt := zgr_mem (s := 2) (p := 26) rfl rfl
theorem zcw_70 : Cond.code (zy 70) (zb 70) 3 (zr 70) ∈ zt := zgr_mem (s := 2) (p := 38) rfl rfl
theorem zcw_71 : Cond.code (zy 71) (zb 71) 3 (zr 71) ∈ zt := zgr_mem (s := 2) (p := 34) rfl rfl
theorem zcw_72 : Cond.code (zy 72) (zb 72) 1 (zr 72) ∈ zt := zgr_mem (s := 1) (p := 171) rfl rfl
theorem zcw_73 : Cond.code (zy 73) (zb 73) 1 (zr 73) ∈ zt := zgr_mem (s := 2) (p := 172) rfl rfl
theorem zcw_74 : Cond.code (zy 74) (zb 74) 3 (zr 74) ∈ zt := zgr_mem (s := 3) (p := 168) rfl rfl
theorem zcw_75 : Cond.code (zy 75) (zb 75) 4 (zr 75) ∈ zt := zgr_mem (s := 3) (p := 184) rfl rfl
theorem zcw_76 : Cond.code (zy 76) (zb 76) 1 (zr 76) ∈ zt := zgr_mem (s := 1) (p := 106) rfl rfl
theorem zcw_77 : Cond.code (zy 77) (zb 77) 1 (zr 77) ∈ zt := zgr_mem (s := 2) (p := 2) rfl rfl
theorem zcw_78 : Cond.code (zy 78) (zb 78) 2 (zr 78) ∈ zt := zgr_mem (s := 1) (p := 234) rfl rfl
theorem zcw_79 : Cond.code (zy 79) (zb 79) 2 (zr 79) ∈ zt := zgr_mem (s := 2) (p := 30) rfl rfl
theorem zcw_80 : Cond.code (zy 80) (zb 80) 1 (zr 80) ∈ zt := zgr_mem (s := 1) (p := 23) rfl rfl
theorem zcw_81 : Cond.code (zy 81) (zb 81) 2 (zr 81) ∈ zt := zgr_mem (s := 1) (p := 230) rfl rfl
theorem zcw_82 : Cond.code (zy 82) (zb 82) 2 (zr 82) ∈ zt := zgr_mem (s := 1) (p := 238) rfl rfl
theorem zcw_83 : Cond.code (zy 83) (zb 83) 1 (zr 83) ∈ zt := zgr_mem (s := 2) (p := 6) rfl rfl
theorem zcw_84 : Cond.code (zy 84) (zb 84) 2 (zr 84) ∈ zt := zgr_mem (s := 2) (p := 162) rfl rfl
theorem zcw_85 : Cond.code (zy 85) (zb 85) 3 (zr 85) ∈ zt := zgr_mem (s := 2) (p := 184) rfl rfl
theorem zcw_86 : Cond.code (zy 86) (zb 86) 3 (zr 86) ∈ zt := zgr_mem (s := 2) (p := 206) rfl rfl
theorem zcw_87 : Cond.code (zy 87) (zb 87) 4 (zr 87) ∈ zt := zgr_mem (s := 2) (p := 218) rfl rfl
theorem zcw_88 : Cond.code (zy 88) (zb 88) 1 (zr 88) ∈ zt := zgr_mem (s := 2) (p := 228) rfl rfl
theorem zcw_89 : Cond.code (zy 89) (zb 89) 4 (zr 89) ∈ zt := zgr_mem (s := 3) (p := 49) rfl rfl
theorem zcw_90 : Cond.code (zy 90) (zb 90) 2 (zr 90) ∈ zt := zgr_mem (s := 3) (p := 58) rfl rfl
theorem zcw_91 : Cond.code (zy 91) (zb 91) 2 (zr 91) ∈ zt := zgr_mem (s := 3) (p := 70) rfl rfl
theorem zcw_92 : Cond.code (zy 92) (zb 92) 3 (zr 92) ∈ zt := zgr_mem (s := 3) (p := 87) rfl rfl
theorem zcw_93 : Cond.code (zy 93) (zb 93) 3 (zr 93) ∈ zt := zgr_mem (s := 3) (p := 91) rfl rfl
theorem zcw_94 : Cond.code (zy 94) (zb 94) 1 (zr 94) ∈ zt := zgr_mem (s := 3) (p := 95) rfl rfl
theorem zcw_95 : Cond.code (zy 95) (zb 95) 2 (zr 95) ∈ zt := zgr_mem (s := 3) (p := 103) rfl rfl
theorem zcw_96 : Cond.code (zy 96) (zb 96) 2 (zr 96) ∈ zt := zgr_mem (s := 3) (p := 110) rfl rfl
theorem zcw_97 : Cond.code (zy 97) (zb 97) 2 (zr 97) ∈ zt := zgr_mem (s := 3) (p := 114) rfl rfl
theorem zcw_98 : Cond.code (zy 98) (zb 98) 4 (zr 98) ∈ zt := zgr_mem (s := 3) (p := 122) rfl rfl
theorem zcw_99 : Cond.code (zy 99) (zb 99) 5 (zr 99) ∈ zt := zgr_mem (s := 3) (p := 126) rfl rfl
theorem zcw_100 : Cond.code (zy 100) (zb 100) 7 (zr 100) ∈ zt := zgr_mem (s := 3) (p := 130) rfl rfl
theorem zcw_101 : Cond.code (zy 101) (zb 101) 3 (zr 101) ∈ zt := zgr_mem (s := 3) (p := 138) rfl rfl
theorem zcw_102 : Cond.code (zy 102) (zb 102) 4 (zr 102) ∈ zt := zgr_mem (s := 3) (p := 154) rfl rfl
theorem zcw_103 : Cond.code (zy 103) (zb 103) 3 (zr 103) ∈ zt := zgr_mem (s := 3) (p := 164) rfl rfl
theorem zcw_104 : Cond.code (zy 104) (zb 104) 2 (zr 104) ∈ zt := zgr_mem (s := 3) (p := 172) rfl rfl
theorem zcw_105 : Cond.code (zy 105) (zb 105) 3 (zr 105) ∈ zt := zgr_mem (s := 3) (p := 176) rfl rfl
theorem zcw_106 : Cond.code (zy 106) (zb 106) 4 (zr 106) ∈ zt := zgr_mem (s := 3) (p := 188) rfl rfl
theorem zcw_107 : Cond.code (zy 107) (zb 107) 11 (zr 107) ∈ zt := zgr_mem (s := 3) (p := 192) rfl rfl
theorem zcw_108 : Cond.code (zy 108) (zb 108) 3 (zr 108) ∈ zt := zgr_mem (s := 3) (p := 210) rfl rfl
theorem zcw_109 : Cond.code (zy 109) (zb 109) 7 (zr 109) ∈ zt := zgr_mem (s := 3) (p := 221) rfl rfl
theorem zcw_110 : Cond.code (zy 110) (zb 110) 5 (zr 110) ∈ zt := zgr_mem (s := 4) (p := 14) rfl rfl
theorem zcw_111 : Cond.code (zy 111) (zb 111) 5 (zr 111) ∈ zt := zgr_mem (s := 4) (p := 27) rfl rfl
theorem zcw_112 : Cond.code (zy 112) (zb 112) 5 (zr 112) ∈ zt := zgr_mem (s := 4) (p := 31) rfl rfl
theorem zcw_113 : Cond.code (zy 113) (zb 113) 6 (zr 113) ∈ zt := zgr_mem (s := 4) (p := 46) rfl rfl
theorem zcw_114 : Cond.code (zy 114) (zb 114) 3 (zr 114) ∈ zt := zgr_mem (s := 4) (p := 60) rfl rfl
theorem zcw_115 : Cond.code (zy 115) (zb 115) 2 (zr 115) ∈ zt := zgr_mem (s := 4) (p := 68) rfl rfl
theorem zcw_116 : Cond.code (zy 116) (zb 116) 1 (zr 116) ∈ zt := zgr_mem (s := 2) (p := 209) rfl rfl
theorem zcw_117 : Cond.code (zy 117) (zb 117) 1 (zr 117) ∈ zt := zgr_mem (s := 3) (p := 106) rfl rfl
theorem zcw_118 : Cond.code (zy 118) (zb 118) 1 (zr 118) ∈ zt := zgr_mem (s := 3) (p := 213) rfl rfl
theorem zcw_119 : Cond.code (zy 119) (zb 119) 2 (zr 119) ∈ zt := zgr_mem (s := 3) (p := 52) rfl rfl
theorem zcw_120 : Cond.code (zy 120) (zb 120) 4 (zr 120) ∈ zt := zgr_mem (s := 3) (p := 118) rfl rfl
theorem zcw_121 : Cond.code (zy 121) (zb 121) 4 (zr 121) ∈ zt := zgr_mem (s := 3) (p := 134) rfl rfl
theorem zcw_122 : Cond.code (zy 122) (zb 122) 6 (zr 122) ∈ zt := zgr_mem (s := 3) (p := 142) rfl rfl
theorem zcw_123 : Cond.code (zy 123) (zb 123) 6 (zr 123) ∈ zt := zgr_mem (s := 3) (p := 146) rfl rfl
theorem zcw_124 : Cond.code (zy 124) (zb 124) 3 (zr 124) ∈ zt := zgr_mem (s := 3) (p := 180) rfl rfl
theorem zcw_125 : Cond.code (zy 125) (zb 125) 3 (zr 125) ∈ zt := zgr_mem (s := 4) (p := 72) rfl rfl
theorem zcw_126 : Cond.code (zy 126) (zb 126) 1 (zr 126) ∈ zt := zgr_mem (s := 4) (p := 77) rfl rfl
theorem zcw_127 : Cond.code (zy 127) (zb 127) 6 (zr 127) ∈ zt := zgr_mem (s := 4) (p := 175) rfl rfl
theorem zcw_128 : Cond.code (zy 128) (zb 128) 2 (zr 128) ∈ zt := zgr_mem (s := 5) (p := 160) rfl rfl
theorem zcw_129 : Cond.code (zy 129) (zb 129) 3 (zr 129) ∈ zt := zgr_mem (s := 5) (p := 153) rfl rfl
theorem zcw_130 : Cond.code (zy 130) (zb 130) 2 (zr 130) ∈ zt := zgr_mem (s := 4) (p := 171) rfl rfl
theorem zcw_131 : Cond.code (zy 131) (zb 131) 2 (zr 131) ∈ zt := zgr_mem (s := 4) (p := 179) rfl rfl
theorem zcw_132 : Cond.code (zy 132) (zb 132) 1 (zr 132) ∈ zt := zgr_mem (s := 4) (p := 194) rfl rfl
theorem zcw_133 : Cond.code (zy 133) (zb 133) 1 (zr 133) ∈ zt := zgr_mem (s := 4) (p := 199) rfl rfl
theorem zcw_134 : Cond.code (zy 134) (zb 134) 1 (zr 134) ∈ zt := zgr_mem (s := 4) (p := 191) rfl rfl
theorem zcw_135 : Cond.code (zy 135) (zb 135) 4 (zr 135) ∈ zt := zgr_mem (s := 4) (p := 213) rfl rfl
theorem zcw_136 : Cond.code (zy 136) (zb 136) 4 (zr 136) ∈ zt := zgr_mem (s := 4) (p := 225) rfl rfl
theorem zcw_137 : Cond.code (zy 137) (zb 137) 4 (zr 137) ∈ zt := zgr_mem (s := 4) (p := 229) rfl rfl
theorem zcw_138 : Cond.code (zy 138) (zb 138) 2 (zr 138) ∈ zt := zgr_mem (s := 4) (p := 221) rfl rfl
theorem zcw_139 : Cond.code (zy 139) (zb 139) 1 (zr 139) ∈ zt := zgr_mem (s := 4) (p := 209) rfl rfl
theorem zcw_140 : Cond.code (zy 140) (zb 140) 4 (zr 140) ∈ zt := zgr_mem (s := 4) (p := 237) rfl rfl
theorem zcw_141 : Cond.code (zy 141) (zb 141) 6 (zr 141) ∈ zt := zgr_mem (s := 4) (p := 233) rfl rfl
theorem zcw_142 : Cond.code (zy 142) (zb 142) 2 (zr 142) ∈ zt := zgr_mem (s := 4) (p := 217) rfl rfl
theorem zcw_143 : Cond.code (zy 143) (zb 143) 1 (zr 143) ∈ zt := zgr_mem (s := 5) (p := 5) rfl rfl
theorem zcw_144 : Cond.code (zy 144) (zb 144) 1 (zr 144) ∈ zt := zgr_mem (s := 5) (p := 9) rfl rfl
theorem zcw_145 : Cond.code (zy 145) (zb 145) 2 (zr 145) ∈ zt := zgr_mem (s := 5) (p := 1) rfl rfl
theorem zcw_146 : Cond.code (zy 146) (zb 146) 1 (zr 146) ∈ zt := zgr_mem (s := 4) (p := 205) rfl rfl
theorem zcw_147 : Cond.code (zy 147) (zb 147) 3 (zr 147) ∈ zt := zgr_mem (s := 4) (p := 187) rfl rfl
theorem zcw_148 : Cond.code (zy 148) (zb 148) 1 (zr 148) ∈ zt := zgr_mem (s := 4) (p := 183) rfl rfl
theorem zcw_149 : Cond.code (zy 149) (zb 149) 4 (zr 149) ∈ zt := zgr_mem (s := 5) (p := 17) rfl rfl
theorem zcw_150 : Cond.code (zy 150) (zb 150) 2 (zr 150) ∈ zt := zgr_mem (s := 5) (p := 13) rfl rfl
theorem zcw_151 : Cond.code (zy 151) (zb 151) 3 (zr 151) ∈ zt := zgr_mem (s := 5) (p := 25) rfl rfl
theorem zcw_152 : Cond.code (zy 152) (zb 152) 4 (zr 152) ∈ zt := zgr_mem (s := 5) (p := 33) rfl rfl
theorem zcw_153 : Cond.code (zy 153) (zb 153) 5 (zr 153) ∈ zt := zgr_mem (s := 5) (p := 29) rfl rfl
theorem zcw_154 : Cond.code (zy 154) (zb 154) 1 (zr 154) ∈ zt := zgr_mem (s := 5) (p := 45) rfl rfl
theorem zcw_155 : Cond.code (zy 155) (zb 155) 4 (zr 155) ∈ zt := zgr_mem (s := 5) (p := 21) rfl rfl
theorem zcw_156 : Cond.code (zy 156) (zb 156) 3 (zr 156) ∈ zt := zgr_mem (s := 5) (p := 37) rfl rfl
theorem zcw_157 : Cond.code (zy 157) (zb 157) 5 (zr 157) ∈ zt := zgr_mem (s := 5) (p := 41) rfl rfl
theorem zcw_158 : Cond.code (zy 158) (zb 158) 7 (zr 158) ∈ zt := zgr_mem (s := 5) (p := 61) rfl rfl
theorem zcw_159 : Cond.code (zy 159) (zb 159) 3 (zr 159) ∈ zt := zgr_mem (s := 5) (p := 69) rfl rfl
theorem zcw_160 : Cond.code (zy 160) (zb 160) 5 (zr 160) ∈ zt := zgr_mem (s := 5) (p := 65) rfl rfl
theorem zcw_161 : Cond.code (zy 161) (zb 161) 5 (zr 161) ∈ zt := zgr_mem (s := 5) (p := 77) rfl rfl
theorem zcw_162 : Cond.code (zy 162) (zb 162) 6 (zr 162) ∈ zt := zgr_mem (s := 5) (p := 73) rfl rfl
theorem zcw_163 : Cond.code (zy 163) (zb 163) 4 (zr 163) ∈ zt := zgr_mem (s := 5) (p := 57) rfl rfl
theorem zcw_164 : Cond.code (zy 164) (zb 164) 2 (zr 164) ∈ zt := zgr_mem (s := 5) (p := 53) rfl rfl
theorem zcw_165 : Cond.code (zy 165) (zb 165) 1 (zr 165) ∈ zt := zgr_mem (s := 5) (p := 49) rfl rfl
theorem zcw_166 : Cond.code (zy 166) (zb 166) 4 (zr 166) ∈ zt := zgr_mem (s := 5) (p := 81) rfl rfl
theorem zcw_167 : Cond.code (zy 167) (zb 167) 4 (zr 167) ∈ zt := zgr_mem (s := 5) (p := 91) rfl rfl
theorem zcw_168 : Cond.code (zy 168) (zb 168) 3 (zr 168) ∈ zt := zgr_mem (s := 5) (p := 87) rfl rfl
theorem zcw_169 : Cond.code (zy 169) (zb 169) 4 (zr 169) ∈ zt := zgr_mem (s := 5) (p := 95) rfl rfl
theorem zcw_170 : Cond.code (zy 170) (zb 170) 3 (zr 170) ∈ zt := zgr_mem (s := 5) (p := 99) rfl rfl
theorem zcw_171 : Cond.code (zy 171) (zb 171) 3 (zr 171) ∈ zt := zgr_mem (s := 5) (p := 103) rfl rfl
theorem zcw_172 : Cond.code (zy 172) (zb 172) 1 (zr 172) ∈ zt := zgr_mem (s := 5) (p := 108) rfl rfl
theorem zcw_173 : Cond.code (zy 173) (zb 173) 2 (zr 173) ∈ zt := zgr_mem (s := 5) (p := 112) rfl rfl
theorem zcw_174 : Cond.code (zy 174) (zb 174) 2 (zr 174) ∈ zt := zgr_mem (s := 5) (p := 116) rfl rfl
theorem zcw_175 : Cond.code (zy 175) (zb 175) 1 (zr 175) ∈ zt := zgr_mem (s := 5) (p := 124) rfl rfl
theorem zcw_176 : Cond.code (zy 176) (zb 176) 4 (zr 176) ∈ zt := zgr_mem (s := 5) (p := 128) rfl rfl
theorem zcw_177 : Cond.code (zy 177) (zb 177) 2 (zr 177) ∈ zt := zgr_mem (s := 5) (p := 120) rfl rfl
theorem zcw_178 : Cond.code (zy 178) (zb 178) 4 (zr 178) ∈ zt := zgr_mem (s := 5) (p := 132) rfl rfl
theorem zcw_179 : Cond.code (zy 179) (zb 179) 6 (zr 179) ∈ zt := zgr_mem (s := 5) (p := 137) rfl rfl
theorem zcw_180 : Cond.code (zy 180) (zb 180) 4 (zr 180) ∈ zt := zgr_mem (s := 5) (p := 146) rfl rfl
theorem zcw_181 : Cond.code (zy 181) (zb 181) 5 (zr 181) ∈ zt := zgr_mem (s := 5) (p := 142) rfl rfl
theorem zcw_182 : Cond.code (zy 182) (zb 182) 5 (zr 182) ∈ zt := zgr_mem (s := 5) (p := 157) rfl rfl
theorem zcw_183 : Cond.code (zy 183) (zb 183) 6 (zr 183) ∈ zt := zgr_mem (s := 5) (p := 150) rfl rfl
theorem zcw_184 : Cond.code (zy 184) (zb 184) 6 (zr 184) ∈ zt := zgr_mem (s := 5) (p := 164) rfl rfl
theorem zcw_185 : Cond.code (zy 185) (zb 185) 3 (zr 185) ∈ zt := zgr_mem (s := 5) (p := 168) rfl rfl
theorem zcw_186 : Cond.code (zy 186) (zb 186) 2 (zr 186) ∈ zt := zgr_mem (s := 5) (p := 173) rfl rfl
theorem zcw_187 : Cond.code (zy 187) (zb 187) 5 (zr 187) ∈ zt := zgr_mem (s := 5) (p := 181) rfl rfl
theorem zcw_188 : Cond.code (zy 188) (zb 188) 3 (zr 188) ∈ zt := zgr_mem (s := 5) (p := 177) rfl rfl
theorem zcw_189 : Cond.code (zy 189) (zb 189) 4 (zr 189) ∈ zt := zgr_mem (s := 5) (p := 185) rfl rfl
theorem zcw_190 : Cond.code (zy 190) (zb 190) 17 (zr 190) ∈ zt := zgr_mem (s := 5) (p := 189) rfl rfl
theorem zcw_191 : Cond.code (zy 191) (zb 191) 1 (zr 191) ∈ zt := zgr_mem (s := 5) (p := 198) rfl rfl
theorem zcw_192 : Cond.code (zy 192) (zb 192) 4 (zr 192) ∈ zt := zgr_mem (s := 5) (p := 195) rfl rfl
theorem zcw_193 : Cond.code (zy 193) (zb 193) 3 (zr 193) ∈ zt := zgr_mem (s := 5) (p := 206) rfl rfl
theorem zcw_194 : Cond.code (zy 194) (zb 194) 7 (zr 194) ∈ zt := zgr_mem (s := 5) (p := 202) rfl rfl
theorem zcw_195 : Cond.code (zy 195) (zb 195) 5 (zr 195) ∈ zt := zgr_mem (s := 5) (p := 210) rfl rfl
theorem zcw_196 : Cond.code (zy 196) (zb 196) 4 (zr 196) ∈ zt := zgr_mem (s := 5) (p := 218) rfl rfl
theorem zcw_197 : Cond.code (zy 197) (zb 197) 5 (zr 197) ∈ zt := zgr_mem (s := 5) (p := 214) rfl rfl
theorem zcw_198 : Cond.code (zy 198) (zb 198) 8 (zr 198) ∈ zt := zgr_mem (s := 5) (p := 222) rfl rfl
theorem zcw_199 : Cond.code (zy 199) (zb 199) 4 (zr 199) ∈ zt := zgr_mem (s := 5) (p := 232) rfl rfl
theorem zcw_200 : Cond.code (zy 200) (zb 200) 7 (zr 200) ∈ zt := zgr_mem (s := 5) (p := 228) rfl rfl
theorem zcw_201 : Cond.code (zy 201) (zb 201) 4 (zr 201) ∈ zt := zgr_mem (s := 5) (p := 236) rfl rfl
theorem zcw_202 : Cond.code (zy 202) (zb 202) 4 (zr 202) ∈ zt := zgr_mem (s := 6) (p := 4) rfl rfl
theorem zcw_203 : Cond.code (zy 203) (zb 203) 3 (zr 203) ∈ zt := zgr_mem (s := 6) (p := 8) rfl rfl
theorem zcw_204 : Cond.code (zy 204) (zb 204) 2 (zr 204) ∈ zt := zgr_mem (s := 6) (p := 0) rfl rfl
theorem zcw_205 : Cond.code (zy 205) (zb 205) 1 (zr 205) ∈ zt := zgr_mem (s := 3) (p := 157) rfl rfl
def zcode (mi : Nat) : Prop := match zq mi with
  | some q => Cond.code (zy mi) (zb mi) q.2.1 (zr mi) ∈ zt
  | none => False
theorem zcode_0 : ∀ m, m < 0 → zcode m := zball0
theorem zcode_1 : ∀ m, m < 1 → zcode m := zball zcode_0 zcw_0
theorem zcode_2 : ∀ m, m < 2 → zcode m := zball zcode_1 zcw_1
theorem zcode_3 : ∀ m, m < 3 → zcode m := zball zcode_2 zcw_2
theorem zcode_4 : ∀ m, m < 4 → zcode m := zball zcode_3 zcw_3
theorem zcode_5 : ∀ m, m < 5 → zcode m := zball zcode_4 zcw_4
theorem zcode_6 : ∀ m, m < 6 → zcode m := zball zcode_5 zcw_5
theorem zcode_7 : ∀ m, m < 7 → zcode m := zball zcode_6 zcw_6
theorem zcode_8 : ∀ m, m < 8 → zcode m := zball zcode_7 zcw_7
theorem zcode_9 : ∀ m, m < 9 → zcode m := zball zcode_8 zcw_8
theorem zcode_10 : ∀ m, m < 10 → zcode m := zball zcode_9 zcw_9
theorem zcode_11 : ∀ m, m < 11 → zcode m := zball zcode_10 zcw_10
theorem zcode_12 : ∀ m, m < 12 → zcode m := zball zcode_11 zcw_11
theorem zcode_13 : ∀ m, m < 13 → zcode m := zball zcode_12 zcw_12
theorem zcode_14 : ∀ m, m < 14 → zcode m := zball zcode_13 zcw_13
theorem zcode_15 : ∀ m, m < 15 → zcode m := zball zcode_14 zcw_14
theorem zcode_16 : ∀ m, m < 16 → zcode m := zball zcode_15 zcw_15
theorem zcode_17 : ∀ m, m < 17 → zcode m := zball zcode_16 zcw_16
theorem zcode_18 : ∀ m, m < 18 → zcode m := zball zcode_17 zcw_17
theorem zcode_19 : ∀ m, m < 19 → zcode m := zball zcode_18 zcw_18
theorem zcode_20 : ∀ m, m < 20 → zcode m := zball zcode_19 zcw_19
theorem zcode_21 : ∀ m, m < 21 → zcode m := zball zcode_20 zcw_20
theorem zcode_22 : ∀ m, m < 22 → zcode m := zball zcode_21 zcw_21
theorem zcode_23 : ∀ m, m < 23 → zcode m := zball zcode_22 zcw_22
theorem zcode_24 : ∀ m, m < 24 → zcode m := zball zcode_23 zcw_23
theorem zcode_25 : ∀ m, m < 25 → zcode m := zball zcode_24 zcw_24
theorem zcode_26 : ∀ m, m < 26 → zcode m := zball zcode_25 zcw_25
theorem zcode_27 : ∀ m, m < 27 → zcode m := zball zcode_26 zcw_26
theorem zcode_28 : ∀ m, m < 28 → zcode m := zball zcode_27 zcw_27
theorem zcode_29 : ∀ m, m < 29 → zcode m := zball zcode_28 zcw_28
theorem zcode_30 : ∀ m, m < 30 → zcode m := zball zcode_29 zcw_29
theorem zcode_31 : ∀ m, m < 31 → zcode m := zball zcode_30 zcw_30
theorem zcode_32 : ∀ m, m < 32 → zcode m := zball zcode_31 zcw_31
theorem zcode_33 : ∀ m, m < 33 → zcode m := zball zcode_32 zcw_32
theorem zcode_34 : ∀ m, m < 34 → zcode m := zball zcode_33 zcw_33
theorem zcode_35 : ∀ m, m < 35 → zcode m := zball zcode_34 zcw_34
theorem zcode_36 : ∀ m, m < 36 → zcode m := zball zcode_35 zcw_35
theorem zcode_37 : ∀ m, m < 37 → zcode m := zball zcode_36 zcw_36
theorem zcode_38 : ∀ m, m < 38 → zcode m := zball zcode_37 zcw_37
theorem zcode_39 : ∀ m, m < 39 → zcode m := zball zcode_38 zcw_38
theorem zcode_40 : ∀ m, m < 40 → zcode m := zball zcode_39 zcw_39
theorem zcode_41 : ∀ m, m < 41 → zcode m := zball zcode_40 zcw_40
theorem zcode_42 : ∀ m, m < 42 → zcode m := zball zcode_41 zcw_41
theorem zcode_43 : ∀ m, m < 43 → zcode m := zball zcode_42 zcw_42
theorem zcode_44 : ∀ m, m < 44 → zcode m := zball zcode_43 zcw_43
theorem zcode_45 : ∀ m, m < 45 → zcode m := zball zcode_44 zcw_44
theorem zcode_46 : ∀ m, m < 46 → zcode m := zball zcode_45 zcw_45
theorem zcode_47 : ∀ m, m < 47 → zcode m := zball zcode_46 zcw_46
theorem zcode_48 : ∀ m, m < 48 → zcode m := zball zcode_47 zcw_47
theorem zcode_49 : ∀ m, m < 49 → zcode m := zball zcode_48 zcw_48
theorem zcode_50 : ∀ m, m < 50 → zcode m := zball zcode_49 zcw_49
theorem zcode_51 : ∀ m, m < 51 → zcode m := zball zcode_50 zcw_50
theorem zcode_52 : ∀ m, m < 52 → zcode m := zball zcode_51 zcw_51
theorem zcode_53 : ∀ m, m < 53 → zcode m := zball zcode_52 zcw_52
theorem zcode_54 : ∀ m, m < 54 → zcode m := zball zcode_53 zcw_53
theorem zcode_55 : ∀ m, m < 55 → zcode m := zball zcode_54 zcw_54
theorem zcode_56 : ∀ m, m < 56 → zcode m := zball zcode_55 zcw_55
theorem zcode_57 : ∀ m, m < 57 → zcode m := zball zcode_56 zcw_56
theorem zcode_58 : ∀ m, m < 58 → zcode m := zball zcode_57 zcw_57
theorem zcode_59 : ∀ m, m < 59 → zcode m := zball zcode_58 zcw_58
theorem zcode_60 : ∀ m, m < 60 → zcode m := zball zcode_59 zcw_59
theorem zcode_61 : ∀ m, m < 61 → zcode m := zball zcode_60 zcw_60
theorem zcode_62 : ∀ m, m < 62 → zcode m := zball zcode_61 zcw_61
theorem zcode_63 : ∀ m, m < 63 → zcode m := zball zcode_62 zcw_62
theorem zcode_64 : ∀ m, m < 64 → zcode m := zball zcode_63 zcw_63
theorem zcode_65 : ∀ m, m < 65 → zcode m := zball zcode_64 zcw_64
theorem zcode_66 : ∀ m, m < 66 → zcode m := zball zcode_65 zcw_65
theorem zcode_67 : ∀ m, m < 67 → zcode m := zball zcode_66 zcw_66
theorem zcode_68 : ∀ m, m < 68 → zcode m := zball zcode_67 zcw_67
theorem zcode_69 : ∀ m, m < 69 → zcode m := zball zcode_68 zcw_68
theorem zcode_70 : ∀ m, m < 70 → zcode m := zball zcode_69 zcw_69
theorem zcode_71 : ∀ m, m < 71 → zcode m := zball zcode_70 zcw_70
theorem zcode_72 : ∀ m, m < 72 → zcode m := zball zcode_71 zcw_71
theorem zcode_73 : ∀ m, m < 73 → zcode m := zball zcode_72 zcw_72
theorem zcode_74 : ∀ m, m < 74 → zcode m := zball zcode_73 zcw_73
theorem zcode_75 : ∀ m, m < 75 → zcode m := zball zcode_74 zcw_74
theorem zcode_76 : ∀ m, m < 76 → zcode m := zball zcode_75 zcw_75
theorem zcode_77 : ∀ m, m < 77 → zcode m := zball zcode_76 zcw_76
theorem zcode_78 : ∀ m, m < 78 → zcode m := zball zcode_77 zcw_77
theorem zcode_79 : ∀ m, m < 79 → zcode m := zball zcode_78 zcw_78
theorem zcode_80 : ∀ m, m < 80 → zcode m := zball zcode_79 zcw_79
theorem zcode_81 : ∀ m, m < 81 → zcode m := zball zcode_80 zcw_80
theorem zcode_82 : ∀ m, m < 82 → zcode m := zball zcode_81 zcw_81
theorem zcode_83 : ∀ m, m < 83 → zcode m := zball zcode_82 zcw_82
theorem zcode_84 : ∀ m, m < 84 → zcode m := zball zcode_83 zcw_83
theorem zcode_85 : ∀ m, m < 85 → zcode m := zball zcode_84 zcw_84
theorem zcode_86 : ∀ m, m < 86 → zcode m := zball zcode_85 zcw_85
theorem zcode_87 : ∀ m, m < 87 → zcode m := zball zcode_86 zcw_86
theorem zcode_88 : ∀ m, m < 88 → zcode m := zball zcode_87 zcw_87
theorem zcode_89 : ∀ m, m < 89 → zcode m := zball zcode_88 zcw_88
theorem zcode_90 : ∀ m, m < 90 → zcode m := zball zcode_89 zcw_89
theorem zcode_91 : ∀ m, m < 91 → zcode m := zball zcode_90 zcw_90
theorem zcode_92 : ∀ m, m < 92 → zcode m := zball zcode_91 zcw_91
theorem zcode_93 : ∀ m, m < 93 → zcode m := zball zcode_92 zcw_92
theorem zcode_94 : ∀ m, m < 94 → zcode m := zball zcode_93 zcw_93
theorem zcode_95 : ∀ m, m < 95 → zcode m := zball zcode_94 zcw_94
theorem zcode_96 : ∀ m, m < 96 → zcode m := zball zcode_95 zcw_95
theorem zcode_97 : ∀ m, m < 97 → zcode m := zball zcode_96 zcw_96
theorem zcode_98 : ∀ m, m < 98 → zcode m := zball zcode_97 zcw_97
theorem zcode_99 : ∀ m, m < 99 → zcode m := zball zcode_98 zcw_98
theorem zcode_100 : ∀ m, m < 100 → zcode m := zball zcode_99 zcw_99
theorem zcode_101 : ∀ m, m < 101 → zcode m := zball zcode_100 zcw_100
theorem zcode_102 : ∀ m, m < 102 → zcode m := zball zcode_101 zcw_101
theorem zcode_103 : ∀ m, m < 103 → zcode m := zball zcode_102 zcw_102
theorem zcode_104 : ∀ m, m < 104 → zcode m := zball zcode_103 zcw_103
theorem zcode_105 : ∀ m, m < 105 → zcode m := zball zcode_104 zcw_104
theorem zcode_106 : ∀ m, m < 106 → zcode m := zball zcode_105 zcw_105
theorem zcode_107 : ∀ m, m < 107 → zcode m := zball zcode_106 zcw_106
theorem zcode_108 : ∀ m, m < 108 → zcode m := zball zcode_107 zcw_107
theorem zcode_109 : ∀ m, m < 109 → zcode m := zball zcode_108 zcw_108
theorem zcode_110 : ∀ m, m < 110 → zcode m := zball zcode_109 zcw_109
theorem zcode_111 : ∀ m, m < 111 → zcode m := zball zcode_110 zcw_110
theorem zcode_112 : ∀ m, m < 112 → zcode m := zball zcode_111 zcw_111
theorem zcode_113 : ∀ m, m < 113 → zcode m := zball zcode_112 zcw_112
theorem zcode_114 : ∀ m, m < 114 → zcode m := zball zcode_113 zcw_113
theorem zcode_115 : ∀ m, m < 115 → zcode m := zball zcode_114 zcw_114
theorem zcode_116 : ∀ m, m < 116 → zcode m := zball zcode_115 zcw_115
theorem zcode_117 : ∀ m, m < 117 → zcode m := zball zcode_116 zcw_116
theorem zcode_118 : ∀ m, m < 118 → zcode m := zball zcode_117 zcw_117
theorem zcode_119 : ∀ m, m < 119 → zcode m := zball zcode_118 zcw_118
theorem zcode_120 : ∀ m, m < 120 → zcode m := zball zcode_119 zcw_119
theorem zcode_121 : ∀ m, m < 121 → zcode m := zball zcode_120 zcw_120
theorem zcode_122 : ∀ m, m < 122 → zcode m := zball zcode_121 zcw_121
theorem zcode_123 : ∀ m, m < 123 → zcode m := zball zcode_122 zcw_122
theorem zcode_124 : ∀ m, m < 124 → zcode m := zball zcode_123 zcw_123
theorem zcode_125 : ∀ m, m < 125 → zcode m := zball zcode_124 zcw_124
theorem zcode_126 : ∀ m, m < 126 → zcode m := zball zcode_125 zcw_125
theorem zcode_127 : ∀ m, m < 127 → zcode m := zball zcode_126 zcw_126
theorem zcode_128 : ∀ m, m < 128 → zcode m := zball zcode_127 zcw_127
theorem zcode_129 : ∀ m, m < 129 → zcode m := zball zcode_128 zcw_128
theorem zcode_130 : ∀ m, m < 130 → zcode m := zball zcode_129 zcw_129
theorem zcode_131 : ∀ m, m < 131 → zcode m := zball zcode_130 zcw_130
theorem zcode_132 : ∀ m, m < 132 → zcode m := zball zcode_131 zcw_131
theorem zcode_133 : ∀ m, m < 133 → zcode m := zball zcode_132 zcw_132
theorem zcode_134 : ∀ m, m < 134 → zcode m := zball zcode_133 zcw_133
theorem zcode_135 : ∀ m, m < 135 → zcode m := zball zcode_134 zcw_134
theorem zcode_136 : ∀ m, m < 136 → zcode m := zball zcode_135 zcw_135
theorem zcode_137 : ∀ m, m < 137 → zcode m := zball zcode_136 zcw_136
theorem zcode_138 : ∀ m, m < 138 → zcode m := zball zcode_137 zcw_137
theorem zcode_139 : ∀ m, m < 139 → zcode m := zball zcode_138 zcw_138
theorem zcode_140 : ∀ m, m < 140 → zcode m := zball zcode_139 zcw_139
theorem zcode_141 : ∀ m, m < 141 → zcode m := zball zcode_140 zcw_140
theorem zcode_142 : ∀ m, m < 142 → zcode m := zball zcode_141 zcw_141
theorem zcode_143 : ∀ m, m < 143 → zcode m := zball zcode_142 zcw_142
theorem zcode_144 : ∀ m, m < 144 → zcode m := zball zcode_143 zcw_143
theorem zcode_145 : ∀ m, m < 145 → zcode m := zball zcode_144 zcw_144
theorem zcode_146 : ∀ m, m < 146 → zcode m := zball zcode_145 zcw_145
theorem zcode_147 : ∀ m, m < 147 → zcode m := zball zcode_146 zcw_146
theorem zcode_148 : ∀ m, m < 148 → zcode m := zball zcode_147 zcw_147
theorem zcode_149 : ∀ m, m < 149 → zcode m := zball zcode_148 zcw_148
theorem zcode_150 : ∀ m, m < 150 → zcode m := zball zcode_149 zcw_149
theorem zcode_151 : ∀ m, m < 151 → zcode m := zball zcode_150 zcw_150
theorem zcode_152 : ∀ m, m < 152 → zcode m := zball zcode_151 zcw_151
theorem zcode_153 : ∀ m, m < 153 → zcode m := zball zcode_152 zcw_152
theorem zcode_154 : ∀ m, m < 154 → zcode m := zball zcode_153 zcw_153
theorem zcode_155 : ∀ m, m < 155 → zcode m := zball zcode_154 zcw_154
theorem zcode_156 : ∀ m, m < 156 → zcode m := zball zcode_155 zcw_155
theorem zcode_157 : ∀ m, m < 157 → zcode m := zball zcode_156 zcw_156
theorem zcode_158 : ∀ m, m < 158 → zcode m := zball zcode_157 zcw_157
theorem zcode_159 : ∀ m, m < 159 → zcode m := zball zcode_158 zcw_158
theorem zcode_160 : ∀ m, m < 160 → zcode m := zball zcode_159 zcw_159
theorem zcode_161 : ∀ m, m < 161 → zcode m := zball zcode_160 zcw_160
theorem zcode_162 : ∀ m, m < 162 → zcode m := zball zcode_161 zcw_161
theorem zcode_163 : ∀ m, m < 163 → zcode m := zball zcode_162 zcw_162
theorem zcode_164 : ∀ m, m < 164 → zcode m := zball zcode_163 zcw_163
theorem zcode_165 : ∀ m, m < 165 → zcode m := zball zcode_164 zcw_164
theorem zcode_166 : ∀ m, m < 166 → zcode m := zball zcode_165 zcw_165
theorem zcode_167 : ∀ m, m < 167 → zcode m := zball zcode_166 zcw_166
theorem zcode_168 : ∀ m, m < 168 → zcode m := zball zcode_167 zcw_167
theorem zcode_169 : ∀ m, m < 169 → zcode m := zball zcode_168 zcw_168
theorem zcode_170 : ∀ m, m < 170 → zcode m := zball zcode_169 zcw_169
theorem zcode_171 : ∀ m, m < 171 → zcode m := zball zcode_170 zcw_170
theorem zcode_172 : ∀ m, m < 172 → zcode m := zball zcode_171 zcw_171
theorem zcode_173 : ∀ m, m < 173 → zcode m := zball zcode_172 zcw_172
theorem zcode_174 : ∀ m, m < 174 → zcode m := zball zcode_173 zcw_173
theorem zcode_175 : ∀ m, m < 175 → zcode m := zball zcode_174 zcw_174
theorem zcode_176 : ∀ m, m < 176 → zcode m := zball zcode_175 zcw_175
theorem zcode_177 : ∀ m, m < 177 → zcode m := zball zcode_176 zcw_176
theorem zcode_178 : ∀ m, m < 178 → zcode m := zball zcode_177 zcw_177
theorem zcode_179 : ∀ m, m < 179 → zcode m := zball zcode_178 zcw_178
theorem zcode_180 : ∀ m, m < 180 → zcode m := zball zcode_179 zcw_179
theorem zcode_181 : ∀ m, m < 181 → zcode m := zball zcode_180 zcw_180
theorem zcode_182 : ∀ m, m < 182 → zcode m := zball zcode_181 zcw_181
theorem zcode_183 : ∀ m, m < 183 → zcode m := zball zcode_182 zcw_182
theorem zcode_184 : ∀ m, m < 184 → zcode m := zball zcode_183 zcw_183
theorem zcode_185 : ∀ m, m < 185 → zcode m := zball zcode_184 zcw_184
theorem zcode_186 : ∀ m, m < 186 → zcode m := zball zcode_185 zcw_185
theorem zcode_187 : ∀ m, m < 187 → zcode m := zball zcode_186 zcw_186
theorem zcode_188 : ∀ m, m < 188 → zcode m := zball zcode_187 zcw_187
theorem zcode_189 : ∀ m, m < 189 → zcode m := zball zcode_188 zcw_188
theorem zcode_190 : ∀ m, m < 190 → zcode m := zball zcode_189 zcw_189
theorem zcode_191 : ∀ m, m < 191 → zcode m := zball zcode_190 zcw_190
theorem zcode_192 : ∀ m, m < 192 → zcode m := zball zcode_191 zcw_191
theorem zcode_193 : ∀ m, m < 193 → zcode m := zball zcode_192 zcw_192
theorem zcode_194 : ∀ m, m < 194 → zcode m := zball zcode_193 zcw_193
theorem zcode_195 : ∀ m, m < 195 → zcode m := zball zcode_194 zcw_194
theorem zcode_196 : ∀ m, m < 196 → zcode m := zball zcode_195 zcw_195
theorem zcode_197 : ∀ m, m < 197 → zcode m := zball zcode_196 zcw_196
theorem zcode_198 : ∀ m, m < 198 → zcode m := zball zcode_197 zcw_197
theorem zcode_199 : ∀ m, m < 199 → zcode m := zball zcode_198 zcw_198
theorem zcode_200 : ∀ m, m < 200 → zcode m := zball zcode_199 zcw_199
theorem zcode_201 : ∀ m, m < 201 → zcode m := zball zcode_200 zcw_200
theorem zcode_202 : ∀ m, m < 202 → zcode m := zball zcode_201 zcw_201
theorem zcode_203 : ∀ m, m < 203 → zcode m := zball zcode_202 zcw_202
theorem zcode_204 : ∀ m, m < 204 → zcode m := zball zcode_203 zcw_203
theorem zcode_205 : ∀ m, m < 205 → zcode m := zball zcode_204 zcw_204
theorem zcode_206 : ∀ m, m < 206 → zcode m := zball zcode_205 zcw_205
theorem zokI_0_0 : ((List.range 19).all fun k => zokI 0 (k + 0)) = true := by decide +kernel
theorem zokI_0 (pc : Nat) (h : pc < zlen 0) : zokI 0 pc = true := by
  have h : pc < 19 := h
  rcases Nat.lt_or_ge pc 19 with g | g
  · have := List.all_eq_true.mp zokI_0_0 (pc - 0) (List.mem_range.mpr (by omega)); rwa [show pc - 0 + 0 = pc by omega] at this
  omega
theorem zokI_1_0 : ((List.range 14).all fun k => zokI 1 (k + 0)) = true := by decide +kernel
theorem zokI_1 (pc : Nat) (h : pc < zlen 1) : zokI 1 pc = true := by
  have h : pc < 14 := h
  rcases Nat.lt_or_ge pc 14 with g | g
  · have := List.all_eq_true.mp zokI_1_0 (pc - 0) (List.mem_range.mpr (by omega)); rwa [show pc - 0 + 0 = pc by omega] at this
  omega
theorem zokI_2_0 : ((List.range 6).all fun k => zokI 2 (k + 0)) = true := by decide +kernel
theorem zokI_2 (pc : Nat) (h : pc < zlen 2) : zokI 2 pc = true := by
  have h : pc < 6 := h
  rcases Nat.lt_or_ge pc 6 with g | g
  · have := List.all_eq_true.mp zokI_2_0 (pc - 0) (List.mem_range.mpr (by omega)); rwa [show pc - 0 + 0 = pc by omega] at this
  omega
theorem zokI_3_0 : ((List.range 27).all fun k => zokI 3 (k + 0)) = true := by decide +kernel
theorem zokI_3 (pc : Nat) (h : pc < zlen 3) : zokI 3 pc = true := by
  have h : pc < 27 := h
  rcases Nat.lt_or_ge pc 27 with g | g
  · have := List.all_eq_true.mp zokI_3_0 (pc - 0) (List.mem_range.mpr (by omega)); rwa [show pc - 0 + 0 = pc by omega] at this
  omega
theorem zokI_4_0 : ((List.range 29).all fun k => zokI 4 (k + 0)) = true := by decide +kernel
theorem zokI_4 (pc : Nat) (h : pc < zlen 4) : zokI 4 pc = true := by
  have h : pc < 29 := h
  rcases Nat.lt_or_ge pc 29 with g | g
  · have := List.all_eq_true.mp zokI_4_0 (pc - 0) (List.mem_range.mpr (by omega)); rwa [show pc - 0 + 0 = pc by omega] at this
  omega
theorem zokI_5_0 : ((List.range 19).all fun k => zokI 5 (k + 0)) = true := by decide +kernel
theorem zokI_5 (pc : Nat) (h : pc < zlen 5) : zokI 5 pc = true := by
  have h : pc < 19 := h
  rcases Nat.lt_or_ge pc 19 with g | g
  · have := List.all_eq_true.mp zokI_5_0 (pc - 0) (List.mem_range.mpr (by omega)); rwa [show pc - 0 + 0 = pc by omega] at this
  omega
theorem zokI_6_0 : ((List.range 17).all fun k => zokI 6 (k + 0)) = true := by decide +kernel
theorem zokI_6 (pc : Nat) (h : pc < zlen 6) : zokI 6 pc = true := by
  have h : pc < 17 := h
  rcases Nat.lt_or_ge pc 17 with g | g
  · have := List.all_eq_true.mp zokI_6_0 (pc - 0) (List.mem_range.mpr (by omega)); rwa [show pc - 0 + 0 = pc by omega] at this
  omega
theorem zokI_7_0 : ((List.range 32).all fun k => zokI 7 (k + 0)) = true := by decide +kernel
theorem zokI_7 (pc : Nat) (h : pc < zlen 7) : zokI 7 pc = true := by
  have h : pc < 32 := h
  rcases Nat.lt_or_ge pc 32 with g | g
  · have := List.all_eq_true.mp zokI_7_0 (pc - 0) (List.mem_range.mpr (by omega)); rwa [show pc - 0 + 0 = pc by omega] at this
  omega
theorem zokI_8_0 : ((List.range 99).all fun k => zokI 8 (k + 0)) = true := by decide +kernel
theorem zokI_8 (pc : Nat) (h : pc < zlen 8) : zokI 8 pc = true := by
  have h : pc < 99 := h
  rcases Nat.lt_or_ge pc 99 with g | g
  · have := List.all_eq_true.mp zokI_8_0 (pc - 0) (List.mem_range.mpr (by omega)); rwa [show pc - 0 + 0 = pc by omega] at this
  omega
theorem zokI_9_0 : ((List.range 32).all fun k => zokI 9 (k + 0)) = true := by decide +kernel
theorem zokI_9 (pc : Nat) (h : pc < zlen 9) : zokI 9 pc = true := by
  have h : pc < 32 := h
  rcases Nat.lt_or_ge pc 32 with g | g
  · have := List.all_eq_true.mp zokI_9_0 (pc - 0) (List.mem_range.mpr (by omega)); rwa [show pc - 0 + 0 = pc by omega] at this
  omega
theorem zokI_10_0 : ((List.range 106).all fun k => zokI 10 (k + 0)) = true := by decide +kernel
theorem zokI_10 (pc : Nat) (h : pc < zlen 10) : zokI 10 pc = true := by
  have h : pc < 106 := h
  rcases Nat.lt_or_ge pc 106 with g | g
  · have := List.all_eq_true.mp zokI_10_0 (pc - 0) (List.mem_range.mpr (by omega)); rwa [show pc - 0 + 0 = pc by omega] at this
  omega
theorem zokI_11_0 : ((List.range 6).all fun k => zokI 11 (k + 0)) = true := by decide +kernel
theorem zokI_11 (pc : Nat) (h : pc < zlen 11) : zokI 11 pc = true := by
  have h : pc < 6 := h
  rcases Nat.lt_or_ge pc 6 with g | g
  · have := List.all_eq_true.mp zokI_11_0 (pc - 0) (List.mem_range.mpr (by omega)); rwa [show pc - 0 + 0 = pc by omega] at this
  omega
theorem zokI_12_0 : ((List.range 58).all fun k => zokI 12 (k + 0)) = true := by decide +kernel
theorem zokI_12 (pc : Nat) (h : pc < zlen 12) : zokI 12 pc = true := by
  have h : pc < 58 := h
  rcases Nat.lt_or_ge pc 58 with g | g
  · have := List.all_eq_true.mp zokI_12_0 (pc - 0) (List.mem_range.mpr (by omega)); rwa [show pc - 0 + 0 = pc by omega] at this
  omega
theorem zokI_13_0 : ((List.range 56).all fun k => zokI 13 (k + 0)) = true := by decide +kernel
theorem zokI_13 (pc : Nat) (h : pc < zlen 13) : zokI 13 pc = true := by
  have h : pc < 56 := h
  rcases Nat.lt_or_ge pc 56 with g | g
  · have := List.all_eq_true.mp zokI_13_0 (pc - 0) (List.mem_range.mpr (by omega)); rwa [show pc - 0 + 0 = pc by omega] at this
  omega
theorem zokI_14_0 : ((List.range 41).all fun k => zokI 14 (k + 0)) = true := by decide +kernel
theorem zokI_14 (pc : Nat) (h : pc < zlen 14) : zokI 14 pc = true := by
  have h : pc < 41 := h
  rcases Nat.lt_or_ge pc 41 with g | g
  · have := List.all_eq_true.mp zokI_14_0 (pc - 0) (List.mem_range.mpr (by omega)); rwa [show pc - 0 + 0 = pc by omega] at this
  omega
theorem zokI_15_0 : ((List.range 46).all fun k => zokI 15 (k + 0)) = true := by decide +kernel
theorem zokI_15 (pc : Nat) (h : pc < zlen 15) : zokI 15 pc = true := by
  have h : pc < 46 := h
  rcases Nat.lt_or_ge pc 46 with g | g
  · have := List.all_eq_true.mp zokI_15_0 (pc - 0) (List.mem_range.mpr (by omega)); rwa [show pc - 0 + 0 = pc by omega] at this
  omega
theorem zokI_16_0 : ((List.range 38).all fun k => zokI 16 (k + 0)) = true := by decide +kernel
theorem zokI_16 (pc : Nat) (h : pc < zlen 16) : zokI 16 pc = true := by
  have h : pc < 38 := h
  rcases Nat.lt_or_ge pc 38 with g | g
  · have := List.all_eq_true.mp zokI_16_0 (pc - 0) (List.mem_range.mpr (by omega)); rwa [show pc - 0 + 0 = pc by omega] at this
  omega
theorem zokI_17_0 : ((List.range 44).all fun k => zokI 17 (k + 0)) = true := by decide +kernel
theorem zokI_17 (pc : Nat) (h : pc < zlen 17) : zokI 17 pc = true := by
  have h : pc < 44 := h
  rcases Nat.lt_or_ge pc 44 with g | g
  · have := List.all_eq_true.mp zokI_17_0 (pc - 0) (List.mem_range.mpr (by omega)); rwa [show pc - 0 + 0 = pc by omega] at this
  omega
theorem zokI_18_0 : ((List.range 11).all fun k => zokI 18 (k + 0)) = true := by decide +kernel
theorem zokI_18 (pc : Nat) (h : pc < zlen 18) : zokI 18 pc = true := by
  have h : pc < 11 := h
  rcases Nat.lt_or_ge pc 11 with g | g
  · have := List.all_eq_true.mp zokI_18_0 (pc - 0) (List.mem_range.mpr (by omega)); rwa [show pc - 0 + 0 = pc by omega] at this
  omega
theorem zokI_19_0 : ((List.range 20).all fun k => zokI 19 (k + 0)) = true := by decide +kernel
theorem zokI_19 (pc : Nat) (h : pc < zlen 19) : zokI 19 pc = true := by
  have h : pc < 20 := h
  rcases Nat.lt_or_ge pc 20 with g | g
  · have := List.all_eq_true.mp zokI_19_0 (pc - 0) (List.mem_range.mpr (by omega)); rwa [show pc - 0 + 0 = pc by omega] at this
  omega
theorem zokI_20_0 : ((List.range 87).all fun k => zokI 20 (k + 0)) = true := by decide +kernel
theorem zokI_20 (pc : Nat) (h : pc < zlen 20) : zokI 20 pc = true := by
  have h : pc < 87 := h
  rcases Nat.lt_or_ge pc 87 with g | g
  · have := List.all_eq_true.mp zokI_20_0 (pc - 0) (List.mem_range.mpr (by omega)); rwa [show pc - 0 + 0 = pc by omega] at this
  omega
theorem zokI_21_0 : ((List.range 18).all fun k => zokI 21 (k + 0)) = true := by decide +kernel
theorem zokI_21 (pc : Nat) (h : pc < zlen 21) : zokI 21 pc = true := by
  have h : pc < 18 := h
  rcases Nat.lt_or_ge pc 18 with g | g
  · have := List.all_eq_true.mp zokI_21_0 (pc - 0) (List.mem_range.mpr (by omega)); rwa [show pc - 0 + 0 = pc by omega] at this
  omega
theorem zokI_22_0 : ((List.range 5).all fun k => zokI 22 (k + 0)) = true := by decide +kernel
theorem zokI_22 (pc : Nat) (h : pc < zlen 22) : zokI 22 pc = true := by
  have h : pc < 5 := h
  rcases Nat.lt_or_ge pc 5 with g | g
  · have := List.all_eq_true.mp zokI_22_0 (pc - 0) (List.mem_range.mpr (by omega)); rwa [show pc - 0 + 0 = pc by omega] at this
  omega
theorem zokI_23_0 : ((List.range 12).all fun k => zokI 23 (k + 0)) = true := by decide +kernel
theorem zokI_23 (pc : Nat) (h : pc < zlen 23) : zokI 23 pc = true := by
  have h : pc < 12 := h
  rcases Nat.lt_or_ge pc 12 with g | g
  · have := List.all_eq_true.mp zokI_23_0 (pc - 0) (List.mem_range.mpr (by omega)); rwa [show pc - 0 + 0 = pc by omega] at this
  omega
theorem zokI_24_0 : ((List.range 18).all fun k => zokI 24 (k + 0)) = true := by decide +kernel
theorem zokI_24 (pc : Nat) (h : pc < zlen 24) : zokI 24 pc = true := by
  have h : pc < 18 := h
  rcases Nat.lt_or_ge pc 18 with g | g
  · have := List.all_eq_true.mp zokI_24_0 (pc - 0) (List.mem_range.mpr (by omega)); rwa [show pc - 0 + 0 = pc by omega] at this
  omega
theorem zokI_25_0 : ((List.range 15).all fun k => zokI 25 (k + 0)) = true := by decide +kernel
theorem zokI_25 (pc : Nat) (h : pc < zlen 25) : zokI 25 pc = true := by
  have h : pc < 15 := h
  rcases Nat.lt_or_ge pc 15 with g | g
  · have := List.all_eq_true.mp zokI_25_0 (pc - 0) (List.mem_range.mpr (by omega)); rwa [show pc - 0 + 0 = pc by omega] at this
  omega
theorem zokI_26_0 : ((List.range 6).all fun k => zokI 26 (k + 0)) = true := by decide +kernel
theorem zokI_26 (pc : Nat) (h : pc < zlen 26) : zokI 26 pc = true := by
  have h : pc < 6 := h
  rcases Nat.lt_or_ge pc 6 with g | g
  · have := List.all_eq_true.mp zokI_26_0 (pc - 0) (List.mem_range.mpr (by omega)); rwa [show pc - 0 + 0 = pc by omega] at this
  omega
theorem zokI_27_0 : ((List.range 24).all fun k => zokI 27 (k + 0)) = true := by decide +kernel
theorem zokI_27 (pc : Nat) (h : pc < zlen 27) : zokI 27 pc = true := by
  have h : pc < 24 := h
  rcases Nat.lt_or_ge pc 24 with g | g
  · have := List.all_eq_true.mp zokI_27_0 (pc - 0) (List.mem_range.mpr (by omega)); rwa [show pc - 0 + 0 = pc by omega] at this
  omega
theorem zokI_28_0 : ((List.range 28).all fun k => zokI 28 (k + 0)) = true := by decide +kernel
theorem zokI_28 (pc : Nat) (h : pc < zlen 28) : zokI 28 pc = true := by
  have h : pc < 28 := h
  rcases Nat.lt_or_ge pc 28 with g | g
  · have := List.all_eq_true.mp zokI_28_0 (pc - 0) (List.mem_range.mpr (by omega)); rwa [show pc - 0 + 0 = pc by omega] at this
  omega
theorem zokI_29_0 : ((List.range 16).all fun k => zokI 29 (k + 0)) = true := by decide +kernel
theorem zokI_29 (pc : Nat) (h : pc < zlen 29) : zokI 29 pc = true := by
  have h : pc < 16 := h
  rcases Nat.lt_or_ge pc 16 with g | g
  · have := List.all_eq_true.mp zokI_29_0 (pc - 0) (List.mem_range.mpr (by omega)); rwa [show pc - 0 + 0 = pc by omega] at this
  omega
theorem zokI_30_0 : ((List.range 52).all fun k => zokI 30 (k + 0)) = true := by decide +kernel
theorem zokI_30 (pc : Nat) (h : pc < zlen 30) : zokI 30 pc = true := by
  have h : pc < 52 := h
  rcases Nat.lt_or_ge pc 52 with g | g
  · have := List.all_eq_true.mp zokI_30_0 (pc - 0) (List.mem_range.mpr (by omega)); rwa [show pc - 0 + 0 = pc by omega] at this
  omega
theorem zokI_31_0 : ((List.range 30).all fun k => zokI 31 (k + 0)) = true := by decide +kernel
theorem zokI_31 (pc : Nat) (h : pc < zlen 31) : zokI 31 pc = true := by
  have h : pc < 30 := h
  rcases Nat.lt_or_ge pc 30 with g | g
  · have := List.all_eq_true.mp zokI_31_0 (pc - 0) (List.mem_range.mpr (by omega)); rwa [show pc - 0 + 0 = pc by omega] at this
  omega
theorem zokI_32_0 : ((List.range 50).all fun k => zokI 32 (k + 0)) = true := by decide +kernel
theorem zokI_32 (pc : Nat) (h : pc < zlen 32) : zokI 32 pc = true := by
  have h : pc < 50 := h
  rcases Nat.lt_or_ge pc 50 with g | g
  · have := List.all_eq_true.mp zokI_32_0 (pc - 0) (List.mem_range.mpr (by omega)); rwa [show pc - 0 + 0 = pc by omega] at this
  omega
theorem zokI_33_0 : ((List.range 23).all fun k => zokI 33 (k + 0)) = true := by decide +kernel
theorem zokI_33 (pc : Nat) (h : pc < zlen 33) : zokI 33 pc = true := by
  have h : pc < 23 := h
  rcases Nat.lt_or_ge pc 23 with g | g
  · have := List.all_eq_true.mp zokI_33_0 (pc - 0) (List.mem_range.mpr (by omega)); rwa [show pc - 0 + 0 = pc by omega] at this
  omega
theorem zokI_34_0 : ((List.range 47).all fun k => zokI 34 (k + 0)) = true := by decide +kernel
theorem zokI_34 (pc : Nat) (h : pc < zlen 34) : zokI 34 pc = true := by
  have h : pc < 47 := h
  rcases Nat.lt_or_ge pc 47 with g | g
  · have := List.all_eq_true.mp zokI_34_0 (pc - 0) (List.mem_range.mpr (by omega)); rwa [show pc - 0 + 0 = pc by omega] at this
  omega
theorem zokI_35_0 : ((List.range 33).all fun k => zokI 35 (k + 0)) = true := by decide +kernel
theorem zokI_35 (pc : Nat) (h : pc < zlen 35) : zokI 35 pc = true := by
  have h : pc < 33 := h
  rcases Nat.lt_or_ge pc 33 with g | g
  · have := List.all_eq_true.mp zokI_35_0 (pc - 0) (List.mem_range.mpr (by omega)); rwa [show pc - 0 + 0 = pc by omega] at this
  omega
theorem zokI_36_0 : ((List.range 87).all fun k => zokI 36 (k + 0)) = true := by decide +kernel
theorem zokI_36 (pc : Nat) (h : pc < zlen 36) : zokI 36 pc = true := by
  have h : pc < 87 := h
  rcases Nat.lt_or_ge pc 87 with g | g
  · have := List.all_eq_true.mp zokI_36_0 (pc - 0) (List.mem_range.mpr (by omega)); rwa [show pc - 0 + 0 = pc by omega] at this
  omega
theorem zokI_37_0 : ((List.range 35).all fun k => zokI 37 (k + 0)) = true := by decide +kernel
theorem zokI_37 (pc : Nat) (h : pc < zlen 37) : zokI 37 pc = true := by
  have h : pc < 35 := h
  rcases Nat.lt_or_ge pc 35 with g | g
  · have := List.all_eq_true.mp zokI_37_0 (pc - 0) (List.mem_range.mpr (by omega)); rwa [show pc - 0 + 0 = pc by omega] at this
  omega
theorem zokI_38_0 : ((List.range 130).all fun k => zokI 38 (k + 0)) = true := by decide +kernel
theorem zokI_38 (pc : Nat) (h : pc < zlen 38) : zokI 38 pc = true := by
  have h : pc < 130 := h
  rcases Nat.lt_or_ge pc 130 with g | g
  · have := List.all_eq_true.mp zokI_38_0 (pc - 0) (List.mem_range.mpr (by omega)); rwa [show pc - 0 + 0 = pc by omega] at this
  omega
theorem zokI_39_0 : ((List.range 18).all fun k => zokI 39 (k + 0)) = true := by decide +kernel
theorem zokI_39 (pc : Nat) (h : pc < zlen 39) : zokI 39 pc = true := by
  have h : pc < 18 := h
  rcases Nat.lt_or_ge pc 18 with g | g
  · have := List.all_eq_true.mp zokI_39_0 (pc - 0) (List.mem_range.mpr (by omega)); rwa [show pc - 0 + 0 = pc by omega] at this
  omega
theorem zokI_40_0 : ((List.range 23).all fun k => zokI 40 (k + 0)) = true := by decide +kernel
theorem zokI_40 (pc : Nat) (h : pc < zlen 40) : zokI 40 pc = true := by
  have h : pc < 23 := h
  rcases Nat.lt_or_ge pc 23 with g | g
  · have := List.all_eq_true.mp zokI_40_0 (pc - 0) (List.mem_range.mpr (by omega)); rwa [show pc - 0 + 0 = pc by omega] at this
  omega
theorem zokI_41_0 : ((List.range 16).all fun k => zokI 41 (k + 0)) = true := by decide +kernel
theorem zokI_41 (pc : Nat) (h : pc < zlen 41) : zokI 41 pc = true := by
  have h : pc < 16 := h
  rcases Nat.lt_or_ge pc 16 with g | g
  · have := List.all_eq_true.mp zokI_41_0 (pc - 0) (List.mem_range.mpr (by omega)); rwa [show pc - 0 + 0 = pc by omega] at this
  omega
theorem zokI_42_0 : ((List.range 26).all fun k => zokI 42 (k + 0)) = true := by decide +kernel
theorem zokI_42 (pc : Nat) (h : pc < zlen 42) : zokI 42 pc = true := by
  have h : pc < 26 := h
  rcases Nat.lt_or_ge pc 26 with g | g
  · have := List.all_eq_true.mp zokI_42_0 (pc - 0) (List.mem_range.mpr (by omega)); rwa [show pc - 0 + 0 = pc by omega] at this
  omega
theorem zokI_43_0 : ((List.range 27).all fun k => zokI 43 (k + 0)) = true := by decide +kernel
theorem zokI_43 (pc : Nat) (h : pc < zlen 43) : zokI 43 pc = true := by
  have h : pc < 27 := h
  rcases Nat.lt_or_ge pc 27 with g | g
  · have := List.all_eq_true.mp zokI_43_0 (pc - 0) (List.mem_range.mpr (by omega)); rwa [show pc - 0 + 0 = pc by omega] at this
  omega
theorem zokI_44_0 : ((List.range 36).all fun k => zokI 44 (k + 0)) = true := by decide +kernel
theorem zokI_44 (pc : Nat) (h : pc < zlen 44) : zokI 44 pc = true := by
  have h : pc < 36 := h
  rcases Nat.lt_or_ge pc 36 with g | g
  · have := List.all_eq_true.mp zokI_44_0 (pc - 0) (List.mem_range.mpr (by omega)); rwa [show pc - 0 + 0 = pc by omega] at this
  omega
theorem zokI_45_0 : ((List.range 26).all fun k => zokI 45 (k + 0)) = true := by decide +kernel
theorem zokI_45 (pc : Nat) (h : pc < zlen 45) : zokI 45 pc = true := by
  have h : pc < 26 := h
  rcases Nat.lt_or_ge pc 26 with g | g
  · have := List.all_eq_true.mp zokI_45_0 (pc - 0) (List.mem_range.mpr (by omega)); rwa [show pc - 0 + 0 = pc by omega] at this
  omega
theorem zokI_46_0 : ((List.range 79).all fun k => zokI 46 (k + 0)) = true := by decide +kernel
theorem zokI_46 (pc : Nat) (h : pc < zlen 46) : zokI 46 pc = true := by
  have h : pc < 79 := h
  rcases Nat.lt_or_ge pc 79 with g | g
  · have := List.all_eq_true.mp zokI_46_0 (pc - 0) (List.mem_range.mpr (by omega)); rwa [show pc - 0 + 0 = pc by omega] at this
  omega
theorem zokI_47_0 : ((List.range 40).all fun k => zokI 47 (k + 0)) = true := by decide +kernel
theorem zokI_47 (pc : Nat) (h : pc < zlen 47) : zokI 47 pc = true := by
  have h : pc < 40 := h
  rcases Nat.lt_or_ge pc 40 with g | g
  · have := List.all_eq_true.mp zokI_47_0 (pc - 0) (List.mem_range.mpr (by omega)); rwa [show pc - 0 + 0 = pc by omega] at this
  omega
theorem zokI_48_0 : ((List.range 39).all fun k => zokI 48 (k + 0)) = true := by decide +kernel
theorem zokI_48 (pc : Nat) (h : pc < zlen 48) : zokI 48 pc = true := by
  have h : pc < 39 := h
  rcases Nat.lt_or_ge pc 39 with g | g
  · have := List.all_eq_true.mp zokI_48_0 (pc - 0) (List.mem_range.mpr (by omega)); rwa [show pc - 0 + 0 = pc by omega] at this
  omega
theorem zokI_49_0 : ((List.range 73).all fun k => zokI 49 (k + 0)) = true := by decide +kernel
theorem zokI_49 (pc : Nat) (h : pc < zlen 49) : zokI 49 pc = true := by
  have h : pc < 73 := h
  rcases Nat.lt_or_ge pc 73 with g | g
  · have := List.all_eq_true.mp zokI_49_0 (pc - 0) (List.mem_range.mpr (by omega)); rwa [show pc - 0 + 0 = pc by omega] at this
  omega
theorem zokI_50_0 : ((List.range 18).all fun k => zokI 50 (k + 0)) = true := by decide +kernel
theorem zokI_50 (pc : Nat) (h : pc < zlen 50) : zokI 50 pc = true := by
  have h : pc < 18 := h
  rcases Nat.lt_or_ge pc 18 with g | g
  · have := List.all_eq_true.mp zokI_50_0 (pc - 0) (List.mem_range.mpr (by omega)); rwa [show pc - 0 + 0 = pc by omega] at this
  omega
theorem zokI_51_0 : ((List.range 70).all fun k => zokI 51 (k + 0)) = true := by decide +kernel
theorem zokI_51 (pc : Nat) (h : pc < zlen 51) : zokI 51 pc = true := by
  have h : pc < 70 := h
  rcases Nat.lt_or_ge pc 70 with g | g
  · have := List.all_eq_true.mp zokI_51_0 (pc - 0) (List.mem_range.mpr (by omega)); rwa [show pc - 0 + 0 = pc by omega] at this
  omega
theorem zokI_52_0 : ((List.range 59).all fun k => zokI 52 (k + 0)) = true := by decide +kernel
theorem zokI_52 (pc : Nat) (h : pc < zlen 52) : zokI 52 pc = true := by
  have h : pc < 59 := h
  rcases Nat.lt_or_ge pc 59 with g | g
  · have := List.all_eq_true.mp zokI_52_0 (pc - 0) (List.mem_range.mpr (by omega)); rwa [show pc - 0 + 0 = pc by omega] at this
  omega
theorem zokI_53_0 : ((List.range 61).all fun k => zokI 53 (k + 0)) = true := by decide +kernel
theorem zokI_53 (pc : Nat) (h : pc < zlen 53) : zokI 53 pc = true := by
  have h : pc < 61 := h
  rcases Nat.lt_or_ge pc 61 with g | g
  · have := List.all_eq_true.mp zokI_53_0 (pc - 0) (List.mem_range.mpr (by omega)); rwa [show pc - 0 + 0 = pc by omega] at this
  omega
theorem zokI_54_0 : ((List.range 100).all fun k => zokI 54 (k + 0)) = true := by decide +kernel
theorem zokI_54 (pc : Nat) (h : pc < zlen 54) : zokI 54 pc = true := by
  have h : pc < 100 := h
  rcases Nat.lt_or_ge pc 100 with g | g
  · have := List.all_eq_true.mp zokI_54_0 (pc - 0) (List.mem_range.mpr (by omega)); rwa [show pc - 0 + 0 = pc by omega] at this
  omega
theorem zokI_55_0 : ((List.range 35).all fun k => zokI 55 (k + 0)) = true := by decide +kernel
theorem zokI_55 (pc : Nat) (h : pc < zlen 55) : zokI 55 pc = true := by
  have h : pc < 35 := h
  rcases Nat.lt_or_ge pc 35 with g | g
  · have := List.all_eq_true.mp zokI_55_0 (pc - 0) (List.mem_range.mpr (by omega)); rwa [show pc - 0 + 0 = pc by omega] at this
  omega
theorem zokI_56_0 : ((List.range 93).all fun k => zokI 56 (k + 0)) = true := by decide +kernel
theorem zokI_56 (pc : Nat) (h : pc < zlen 56) : zokI 56 pc = true := by
  have h : pc < 93 := h
  rcases Nat.lt_or_ge pc 93 with g | g
  · have := List.all_eq_true.mp zokI_56_0 (pc - 0) (List.mem_range.mpr (by omega)); rwa [show pc - 0 + 0 = pc by omega] at this
  omega
theorem zokI_57_0 : ((List.range 49).all fun k => zokI 57 (k + 0)) = true := by decide +kernel
theorem zokI_57 (pc : Nat) (h : pc < zlen 57) : zokI 57 pc = true := by
  have h : pc < 49 := h
  rcases Nat.lt_or_ge pc 49 with g | g
  · have := List.all_eq_true.mp zokI_57_0 (pc - 0) (List.mem_range.mpr (by omega)); rwa [show pc - 0 + 0 = pc by omega] at this
  omega
theorem zokI_58_0 : ((List.range 63).all fun k => zokI 58 (k + 0)) = true := by decide +kernel
theorem zokI_58 (pc : Nat) (h : pc < zlen 58) : zokI 58 pc = true := by
  have h : pc < 63 := h
  rcases Nat.lt_or_ge pc 63 with g | g
  · have := List.all_eq_true.mp zokI_58_0 (pc - 0) (List.mem_range.mpr (by omega)); rwa [show pc - 0 + 0 = pc by omega] at this
  omega
theorem zokI_59_0 : ((List.range 104).all fun k => zokI 59 (k + 0)) = true := by decide +kernel
theorem zokI_59 (pc : Nat) (h : pc < zlen 59) : zokI 59 pc = true := by
  have h : pc < 104 := h
  rcases Nat.lt_or_ge pc 104 with g | g
  · have := List.all_eq_true.mp zokI_59_0 (pc - 0) (List.mem_range.mpr (by omega)); rwa [show pc - 0 + 0 = pc by omega] at this
  omega
theorem zokI_60_0 : ((List.range 19).all fun k => zokI 60 (k + 0)) = true := by decide +kernel
theorem zokI_60 (pc : Nat) (h : pc < zlen 60) : zokI 60 pc = true := by
  have h : pc < 19 := h
  rcases Nat.lt_or_ge pc 19 with g | g
  · have := List.all_eq_true.mp zokI_60_0 (pc - 0) (List.mem_range.mpr (by omega)); rwa [show pc - 0 + 0 = pc by omega] at this
  omega
theorem zokI_61_0 : ((List.range 92).all fun k => zokI 61 (k + 0)) = true := by decide +kernel
theorem zokI_61 (pc : Nat) (h : pc < zlen 61) : zokI 61 pc = true := by
  have h : pc < 92 := h
  rcases Nat.lt_or_ge pc 92 with g | g
  · have := List.all_eq_true.mp zokI_61_0 (pc - 0) (List.mem_range.mpr (by omega)); rwa [show pc - 0 + 0 = pc by omega] at this
  omega
theorem zokI_62_0 : ((List.range 27).all fun k => zokI 62 (k + 0)) = true := by decide +kernel
theorem zokI_62 (pc : Nat) (h : pc < zlen 62) : zokI 62 pc = true := by
  have h : pc < 27 := h
  rcases Nat.lt_or_ge pc 27 with g | g
  · have := List.all_eq_true.mp zokI_62_0 (pc - 0) (List.mem_range.mpr (by omega)); rwa [show pc - 0 + 0 = pc by omega] at this
  omega
theorem zokI_63_0 : ((List.range 31).all fun k => zokI 63 (k + 0)) = true := by decide +kernel
theorem zokI_63 (pc : Nat) (h : pc < zlen 63) : zokI 63 pc = true := by
  have h : pc < 31 := h
  rcases Nat.lt_or_ge pc 31 with g | g
  · have := List.all_eq_true.mp zokI_63_0 (pc - 0) (List.mem_range.mpr (by omega)); rwa [show pc - 0 + 0 = pc by omega] at this
  omega
theorem zokI_64_0 : ((List.range 49).all fun k => zokI 64 (k + 0)) = true := by decide +kernel
theorem zokI_64 (pc : Nat) (h : pc < zlen 64) : zokI 64 pc = true := by
  have h : pc < 49 := h
  rcases Nat.lt_or_ge pc 49 with g | g
  · have := List.all_eq_true.mp zokI_64_0 (pc - 0) (List.mem_range.mpr (by omega)); rwa [show pc - 0 + 0 = pc by omega] at this
  omega
theorem zokI_65_0 : ((List.range 31).all fun k => zokI 65 (k + 0)) = true := by decide +kernel
theorem zokI_65 (pc : Nat) (h : pc < zlen 65) : zokI 65 pc = true := by
  have h : pc < 31 := h
  rcases Nat.lt_or_ge pc 31 with g | g
  · have := List.all_eq_true.mp zokI_65_0 (pc - 0) (List.mem_range.mpr (by omega)); rwa [show pc - 0 + 0 = pc by omega] at this
  omega
theorem zokI_66_0 : ((List.range 48).all fun k => zokI 66 (k + 0)) = true := by decide +kernel
theorem zokI_66 (pc : Nat) (h : pc < zlen 66) : zokI 66 pc = true := by
  have h : pc < 48 := h
  rcases Nat.lt_or_ge pc 48 with g | g
  · have := List.all_eq_true.mp zokI_66_0 (pc - 0) (List.mem_range.mpr (by omega)); rwa [show pc - 0 + 0 = pc by omega] at this
  omega
theorem zokI_67_0 : ((List.range 67).all fun k => zokI 67 (k + 0)) = true := by decide +kernel
theorem zokI_67 (pc : Nat) (h : pc < zlen 67) : zokI 67 pc = true := by
  have h : pc < 67 := h
  rcases Nat.lt_or_ge pc 67 with g | g
  · have := List.all_eq_true.mp zokI_67_0 (pc - 0) (List.mem_range.mpr (by omega)); rwa [show pc - 0 + 0 = pc by omega] at this
  omega
theorem zokI_68_0 : ((List.range 22).all fun k => zokI 68 (k + 0)) = true := by decide +kernel
theorem zokI_68 (pc : Nat) (h : pc < zlen 68) : zokI 68 pc = true := by
  have h : pc < 22 := h
  rcases Nat.lt_or_ge pc 22 with g | g
  · have := List.all_eq_true.mp zokI_68_0 (pc - 0) (List.mem_range.mpr (by omega)); rwa [show pc - 0 + 0 = pc by omega] at this
  omega
theorem zokI_69_0 : ((List.range 150).all fun k => zokI 69 (k + 0)) = true := by decide +kernel
theorem zokI_69_150 : ((List.range 21).all fun k => zokI 69 (k + 150)) = true := by decide +kernel
theorem zokI_69 (pc : Nat) (h : pc < zlen 69) : zokI 69 pc = true := by
  have h : pc < 171 := h
  rcases Nat.lt_or_ge pc 150 with g | g
  · have := List.all_eq_true.mp zokI_69_0 (pc - 0) (List.mem_range.mpr (by omega)); rwa [show pc - 0 + 0 = pc by omega] at this
  rcases Nat.lt_or_ge pc 171 with g | g
  · have := List.all_eq_true.mp zokI_69_150 (pc - 150) (List.mem_range.mpr (by omega)); rwa [show pc - 150 + 150 = pc by omega] at this
  omega
theorem zokI_70_0 : ((List.range 40).all fun k => zokI 70 (k + 0)) = true := by decide +kernel
theorem zokI_70 (pc : Nat) (h : pc < zlen 70) : zokI 70 pc = true := by
  have h : pc < 40 := h
  rcases Nat.lt_or_ge pc 40 with g | g
  · have := List.all_eq_true.mp zokI_70_0 (pc - 0) (List.mem_range.mpr (by omega)); rwa [show pc - 0 + 0 = pc by omega] at this
  omega
theorem zokI_71_0 : ((List.range 48).all fun k => zokI 71 (k + 0)) = true := by decide +kernel
theorem zokI_71 (pc : Nat) (h : pc < zlen 71) : zokI 71 pc = true := by
  have h : pc < 48 := h
  rcases Nat.lt_or_ge pc 48 with g | g
  · have := List.all_eq_true.mp zokI_71_0 (pc - 0) (List.mem_range.mpr (by omega)); rwa [show pc - 0 + 0 = pc by omega] at this
  omega
theorem zokI_72_0 : ((List.range 26).all fun k => zokI 72 (k + 0)) = true := by decide +kernel
theorem zokI_72 (pc : Nat) (h : pc < zlen 72) : zokI 72 pc = true := by
  have h : pc < 26 := h
  rcases Nat.lt_or_ge pc 26 with g | g
  · have := List.all_eq_true.mp zokI_72_0 (pc - 0) (List.mem_range.mpr (by omega)); rwa [show pc - 0 + 0 = pc by omega] at this
  omega
theorem zokI_73_0 : ((List.range 6).all fun k => zokI 73 (k + 0)) = true := by decide +kernel
theorem zokI_73 (pc : Nat) (h : pc < zlen 73) : zokI 73 pc = true := by
  have h : pc < 6 := h
  rcases Nat.lt_or_ge pc 6 with g | g
  · have := List.all_eq_true.mp zokI_73_0 (pc - 0) (List.mem_range.mpr (by omega)); rwa [show pc - 0 + 0 = pc by omega] at this
  omega
theorem zokI_74_0 : ((List.range 43).all fun k => zokI 74 (k + 0)) = true := by decide +kernel
theorem zokI_74 (pc : Nat) (h : pc < zlen 74) : zokI 74 pc = true := by
  have h : pc < 43 := h
  rcases Nat.lt_or_ge pc 43 with g | g
  · have := List.all_eq_true.mp zokI_74_0 (pc - 0) (List.mem_range.mpr (by omega)); rwa [show pc - 0 + 0 = pc by omega] at this
  omega
theorem zokI_75_0 : ((List.range 40).all fun k => zokI 75 (k + 0)) = true := by decide +kernel
theorem zokI_75 (pc : Nat) (h : pc < zlen 75) : zokI 75 pc = true := by
  have h : pc < 40 := h
  rcases Nat.lt_or_ge pc 40 with g | g
  · have := List.all_eq_true.mp zokI_75_0 (pc - 0) (List.mem_range.mpr (by omega)); rwa [show pc - 0 + 0 = pc by omega] at this
  omega
theorem zokI_76_0 : ((List.range 19).all fun k => zokI 76 (k + 0)) = true := by decide +kernel
theorem zokI_76 (pc : Nat) (h : pc < zlen 76) : zokI 76 pc = true := by
  have h : pc < 19 := h
  rcases Nat.lt_or_ge pc 19 with g | g
  · have := List.all_eq_true.mp zokI_76_0 (pc - 0) (List.mem_range.mpr (by omega)); rwa [show pc - 0 + 0 = pc by omega] at this
  omega
theorem zokI_77_0 : ((List.range 6).all fun k => zokI 77 (k + 0)) = true := by decide +kernel
theorem zokI_77 (pc : Nat) (h : pc < zlen 77) : zokI 77 pc = true := by
  have h : pc < 6 := h
  rcases Nat.lt_or_ge pc 6 with g | g
  · have := List.all_eq_true.mp zokI_77_0 (pc - 0) (List.mem_range.mpr (by omega)); rwa [show pc - 0 + 0 = pc by omega] at this
  omega
theorem zokI_78_0 : ((List.range 34).all fun k => zokI 78 (k + 0)) = true := by decide +kernel
theorem zokI_78 (pc : Nat) (h : pc < zlen 78) : zokI 78 pc = true := by
  have h : pc < 34 := h
  rcases Nat.lt_or_ge pc 34 with g | g
  · have := List.all_eq_true.mp zokI_78_0 (pc - 0) (List.mem_range.mpr (by omega)); rwa [show pc - 0 + 0 = pc by omega] at this
  omega
theorem zokI_79_0 : ((List.range 23).all fun k => zokI 79 (k + 0)) = true := by decide +kernel
theorem zokI_79 (pc : Nat) (h : pc < zlen 79) : zokI 79 pc = true := by
  have h : pc < 23 := h
  rcases Nat.lt_or_ge pc 23 with g | g
  · have := List.all_eq_true.mp zokI_79_0 (pc - 0) (List.mem_range.mpr (by omega)); rwa [show pc - 0 + 0 = pc by omega] at this
  omega
theorem zokI_80_0 : ((List.range 133).all fun k => zokI 80 (k + 0)) = true := by decide +kernel
theorem zokI_80 (pc : Nat) (h : pc < zlen 80) : zokI 80 pc = true := by
  have h : pc < 133 := h
  rcases Nat.lt_or_ge pc 133 with g | g
  · have := List.all_eq_true.mp zokI_80_0 (pc - 0) (List.mem_range.mpr (by omega)); rwa [show pc - 0 + 0 = pc by omega] at this
  omega
theorem zokI_81_0 : ((List.range 44).all fun k => zokI 81 (k + 0)) = true := by decide +kernel
theorem zokI_81 (pc : Nat) (h : pc < zlen 81) : zokI 81 pc = true := by
  have h : pc < 44 := h
  rcases Nat.lt_or_ge pc 44 with g | g
  · have := List.all_eq_true.mp zokI_81_0 (pc - 0) (List.mem_range.mpr (by omega)); rwa [show pc - 0 + 0 = pc by omega] at this
  omega
theorem zokI_82_0 : ((List.range 23).all fun k => zokI 82 (k + 0)) = true := by decide +kernel
theorem zokI_82 (pc : Nat) (h : pc < zlen 82) : zokI 82 pc = true := by
  have h : pc < 23 := h
  rcases Nat.lt_or_ge pc 23 with g | g
  · have := List.all_eq_true.mp zokI_82_0 (pc - 0) (List.mem_range.mpr (by omega)); rwa [show pc - 0 + 0 = pc by omega] at this
  omega
theorem zokI_83_0 : ((List.range 8).all fun k => zokI 83 (k + 0)) = true := by decide +kernel
theorem zokI_83 (pc : Nat) (h : pc < zlen 83) : zokI 83 pc = true := by
  have h : pc < 8 := h
  rcases Nat.lt_or_ge pc 8 with g | g
  · have := List.all_eq_true.mp zokI_83_0 (pc - 0) (List.mem_range.mpr (by omega)); rwa [show pc - 0 + 0 = pc by omega] at this
  omega
theorem zokI_84_0 : ((List.range 99).all fun k => zokI 84 (k + 0)) = true := by decide +kernel
theorem zokI_84 (pc : Nat) (h : pc < zlen 84) : zokI 84 pc = true := by
  have h : pc < 99 := h
  rcases Nat.lt_or_ge pc 99 with g | g
  · have := List.all_eq_true.mp zokI_84_0 (pc - 0) (List.mem_range.mpr (by omega)); rwa [show pc - 0 + 0 = pc by omega] at this
  omega
theorem zokI_85_0 : ((List.range 129).all fun k => zokI 85 (k + 0)) = true := by decide +kernel
theorem zokI_85 (pc : Nat) (h : pc < zlen 85) : zokI 85 pc = true := by
  have h : pc < 129 := h
  rcases Nat.lt_or_ge pc 129 with g | g
  · have := List.all_eq_true.mp zokI_85_0 (pc - 0) (List.mem_range.mpr (by omega)); rwa [show pc - 0 + 0 = pc by omega] at this
  omega
theorem zokI_86_0 : ((List.range 39).all fun k => zokI 86 (k + 0)) = true := by decide +kernel
theorem zokI_86 (pc : Nat) (h : pc < zlen 86) : zokI 86 pc = true := by
  have h : pc < 39 := h
  rcases Nat.lt_or_ge pc 39 with g | g
  · have := List.all_eq_true.mp zokI_86_0 (pc - 0) (List.mem_range.mpr (by omega)); rwa [show pc - 0 + 0 = pc by omega] at this
  omega
theorem zokI_87_0 : ((List.range 54).all fun k => zokI 87 (k + 0)) = true := by decide +kernel
theorem zokI_87 (pc : Nat) (h : pc < zlen 87) : zokI 87 pc = true := by
  have h : pc < 54 := h
  rcases Nat.lt_or_ge pc 54 with g | g
  · have := List.all_eq_true.mp zokI_87_0 (pc - 0) (List.mem_range.mpr (by omega)); rwa [show pc - 0 + 0 = pc by omega] at this
  omega
theorem zokI_88_0 : ((List.range 48).all fun k => zokI 88 (k + 0)) = true := by decide +kernel
theorem zokI_88 (pc : Nat) (h : pc < zlen 88) : zokI 88 pc = true := by
  have h : pc < 48 := h
  rcases Nat.lt_or_ge pc 48 with g | g
  · have := List.all_eq_true.mp zokI_88_0 (pc - 0) (List.mem_range.mpr (by omega)); rwa [show pc - 0 + 0 = pc by omega] at this
  omega
theorem zokI_89_0 : ((List.range 57).all fun k => zokI 89 (k + 0)) = true := by decide +kernel
theorem zokI_89 (pc : Nat) (h : pc < zlen 89) : zokI 89 pc = true := by
  have h : pc < 57 := h
  rcases Nat.lt_or_ge pc 57 with g | g
  · have := List.all_eq_true.mp zokI_89_0 (pc - 0) (List.mem_range.mpr (by omega)); rwa [show pc - 0 + 0 = pc by omega] at this
  omega
theorem zokI_90_0 : ((List.range 48).all fun k => zokI 90 (k + 0)) = true := by decide +kernel
theorem zokI_90 (pc : Nat) (h : pc < zlen 90) : zokI 90 pc = true := by
  have h : pc < 48 := h
  rcases Nat.lt_or_ge pc 48 with g | g
  · have := List.all_eq_true.mp zokI_90_0 (pc - 0) (List.mem_range.mpr (by omega)); rwa [show pc - 0 + 0 = pc by omega] at this
  omega
theorem zokI_91_0 : ((List.range 64).all fun k => zokI 91 (k + 0)) = true := by decide +kernel
theorem zokI_91 (pc : Nat) (h : pc < zlen 91) : zokI 91 pc = true := by
  have h : pc < 64 := h
  rcases Nat.lt_or_ge pc 64 with g | g
  · have := List.all_eq_true.mp zokI_91_0 (pc - 0) (List.mem_range.mpr (by omega)); rwa [show pc - 0 + 0 = pc by omega] at this
  omega
theorem zokI_92_0 : ((List.range 76).all fun k => zokI 92 (k + 0)) = true := by decide +kernel
theorem zokI_92 (pc : Nat) (h : pc < zlen 92) : zokI 92 pc = true := by
  have h : pc < 76 := h
  rcases Nat.lt_or_ge pc 76 with g | g
  · have := List.all_eq_true.mp zokI_92_0 (pc - 0) (List.mem_range.mpr (by omega)); rwa [show pc - 0 + 0 = pc by omega] at this
  omega
theorem zokI_93_0 : ((List.range 49).all fun k => zokI 93 (k + 0)) = true := by decide +kernel
theorem zokI_93 (pc : Nat) (h : pc < zlen 93) : zokI 93 pc = true := by
  have h : pc < 49 := h
  rcases Nat.lt_or_ge pc 49 with g | g
  · have := List.all_eq_true.mp zokI_93_0 (pc - 0) (List.mem_range.mpr (by omega)); rwa [show pc - 0 + 0 = pc by omega] at this
  omega
theorem zokI_94_0 : ((List.range 27).all fun k => zokI 94 (k + 0)) = true := by decide +kernel
theorem zokI_94 (pc : Nat) (h : pc < zlen 94) : zokI 94 pc = true := by
  have h : pc < 27 := h
  rcases Nat.lt_or_ge pc 27 with g | g
  · have := List.all_eq_true.mp zokI_94_0 (pc - 0) (List.mem_range.mpr (by omega)); rwa [show pc - 0 + 0 = pc by omega] at this
  omega
theorem zokI_95_0 : ((List.range 38).all fun k => zokI 95 (k + 0)) = true := by decide +kernel
theorem zokI_95 (pc : Nat) (h : pc < zlen 95) : zokI 95 pc = true := by
  have h : pc < 38 := h
  rcases Nat.lt_or_ge pc 38 with g | g
  · have := List.all_eq_true.mp zokI_95_0 (pc - 0) (List.mem_range.mpr (by omega)); rwa [show pc - 0 + 0 = pc by omega] at this
  omega
theorem zokI_96_0 : ((List.range 50).all fun k => zokI 96 (k + 0)) = true := by decide +kernel
theorem zokI_96 (pc : Nat) (h : pc < zlen 96) : zokI 96 pc = true := by
  have h : pc < 50 := h
  rcases Nat.lt_or_ge pc 50 with g | g
  · have := List.all_eq_true.mp zokI_96_0 (pc - 0) (List.mem_range.mpr (by omega)); rwa [show pc - 0 + 0 = pc by omega] at this
  omega
theorem zokI_97_0 : ((List.range 47).all fun k => zokI 97 (k + 0)) = true := by decide +kernel
theorem zokI_97 (pc : Nat) (h : pc < zlen 97) : zokI 97 pc = true := by
  have h : pc < 47 := h
  rcases Nat.lt_or_ge pc 47 with g | g
  · have := List.all_eq_true.mp zokI_97_0 (pc - 0) (List.mem_range.mpr (by omega)); rwa [show pc - 0 + 0 = pc by omega] at this
  omega
theorem zokI_98_0 : ((List.range 96).all fun k => zokI 98 (k + 0)) = true := by decide +kernel
theorem zokI_98 (pc : Nat) (h : pc < zlen 98) : zokI 98 pc = true := by
  have h : pc < 96 := h
  rcases Nat.lt_or_ge pc 96 with g | g
  · have := List.all_eq_true.mp zokI_98_0 (pc - 0) (List.mem_range.mpr (by omega)); rwa [show pc - 0 + 0 = pc by omega] at this
  omega
theorem zokI_99_0 : ((List.range 75).all fun k => zokI 99 (k + 0)) = true := by decide +kernel
theorem zokI_99 (pc : Nat) (h : pc < zlen 99) : zokI 99 pc = true := by
  have h : pc < 75 := h
  rcases Nat.lt_or_ge pc 75 with g | g
  · have := List.all_eq_true.mp zokI_99_0 (pc - 0) (List.mem_range.mpr (by omega)); rwa [show pc - 0 + 0 = pc by omega] at this
  omega
theorem zokI_100_0 : ((List.range 79).all fun k => zokI 100 (k + 0)) = true := by decide +kernel
theorem zokI_100 (pc : Nat) (h : pc < zlen 100) : zokI 100 pc = true := by
  have h : pc < 79 := h
  rcases Nat.lt_or_ge pc 79 with g | g
  · have := List.all_eq_true.mp zokI_100_0 (pc - 0) (List.mem_range.mpr (by omega)); rwa [show pc - 0 + 0 = pc by omega] at this
  omega
theorem zokI_101_0 : ((List.range 49).all fun k => zokI 101 (k + 0)) = true := by decide +kernel
theorem zokI_101 (pc : Nat) (h : pc < zlen 101) : zokI 101 pc = true := by
  have h : pc < 49 := h
  rcases Nat.lt_or_ge pc 49 with g | g
  · have := List.all_eq_true.mp zokI_101_0 (pc - 0) (List.mem_range.mpr (by omega)); rwa [show pc - 0 + 0 = pc by omega] at this
  omega
theorem zokI_102_0 : ((List.range 80).all fun k => zokI 102 (k + 0)) = true := by decide +kernel
theorem zokI_102 (pc : Nat) (h : pc < zlen 102) : zokI 102 pc = true := by
  have h : pc < 80 := h
  rcases Nat.lt_or_ge pc 80 with g | g
  · have := List.all_eq_true.mp zokI_102_0 (pc - 0) (List.mem_range.mpr (by omega)); rwa [show pc - 0 + 0 = pc by omega] at this
  omega
theorem zokI_103_0 : ((List.range 49).all fun k => zokI 103 (k + 0)) = true := by decide +kernel
theorem zokI_103 (pc : Nat) (h : pc < zlen 103) : zokI 103 pc = true := by
  have h : pc < 49 := h
  rcases Nat.lt_or_ge pc 49 with g | g
  · have := List.all_eq_true.mp zokI_103_0 (pc - 0) (List.mem_range.mpr (by omega)); rwa [show pc - 0 + 0 = pc by omega] at this
  omega
theorem zokI_104_0 : ((List.range 17).all fun k => zokI 104 (k + 0)) = true := by decide +kernel
theorem zokI_104 (pc : Nat) (h : pc < zlen 104) : zokI 104 pc = true := by
  have h : pc < 17 := h
  rcases Nat.lt_or_ge pc 17 with g | g
  · have := List.all_eq_true.mp zokI_104_0 (pc - 0) (List.mem_range.mpr (by omega)); rwa [show pc - 0 + 0 = pc by omega] at this
  omega
theorem zokI_105_0 : ((List.range 49).all fun k => zokI 105 (k + 0)) = true := by decide +kernel
theorem zokI_105 (pc : Nat) (h : pc < zlen 105) : zokI 105 pc = true := by
  have h : pc < 49 := h
  rcases Nat.lt_or_ge pc 49 with g | g
  · have := List.all_eq_true.mp zokI_105_0 (pc - 0) (List.mem_range.mpr (by omega)); rwa [show pc - 0 + 0 = pc by omega] at this
  omega
theorem zokI_106_0 : ((List.range 79).all fun k => zokI 106 (k + 0)) = true := by decide +kernel
theorem zokI_106 (pc : Nat) (h : pc < zlen 106) : zokI 106 pc = true := by
  have h : pc < 79 := h
  rcases Nat.lt_or_ge pc 79 with g | g
  · have := List.all_eq_true.mp zokI_106_0 (pc - 0) (List.mem_range.mpr (by omega)); rwa [show pc - 0 + 0 = pc by omega] at this
  omega
theorem zokI_107_0 : ((List.range 103).all fun k => zokI 107 (k + 0)) = true := by decide +kernel
theorem zokI_107 (pc : Nat) (h : pc < zlen 107) : zokI 107 pc = true := by
  have h : pc < 103 := h
  rcases Nat.lt_or_ge pc 103 with g | g
  · have := List.all_eq_true.mp zokI_107_0 (pc - 0) (List.mem_range.mpr (by omega)); rwa [show pc - 0 + 0 = pc by omega] at this
  omega
theorem zokI_108_0 : ((List.range 38).all fun k => zokI 108 (k + 0)) = true := by decide +kernel
theorem zokI_108 (pc : Nat) (h : pc < zlen 108) : zokI 108 pc = true := by
  have h : pc < 38 := h
  rcases Nat.lt_or_ge pc 38 with g | g
  · have := List.all_eq_true.mp zokI_108_0 (pc - 0) (List.mem_range.mpr (by omega)); rwa [show pc - 0 + 0 = pc by omega] at this
  omega
theorem zokI_109_0 : ((List.range 101).all fun k => zokI 109 (k + 0)) = true := by decide +kernel
theorem zokI_109 (pc : Nat) (h : pc < zlen 109) : zokI 109 pc = true := by
  have h : pc < 101 := h
  rcases Nat.lt_or_ge pc 101 with g | g
  · have := List.all_eq_true.mp zokI_109_0 (pc - 0) (List.mem_range.mpr (by omega)); rwa [show pc - 0 + 0 = pc by omega] at this
  omega
theorem zokI_110_0 : ((List.range 78).all fun k => zokI 110 (k + 0)) = true := by decide +kernel
theorem zokI_110 (pc : Nat) (h : pc < zlen 110) : zokI 110 pc = true := by
  have h : pc < 78 := h
  rcases Nat.lt_or_ge pc 78 with g | g
  · have := List.all_eq_true.mp zokI_110_0 (pc - 0) (List.mem_range.mpr (by omega)); rwa [show pc - 0 + 0 = pc by omega] at this
  omega
theorem zokI_111_0 : ((List.range 69).all fun k => zokI 111 (k + 0)) = true := by decide +kernel
theorem zokI_111 (pc : Nat) (h : pc < zlen 111) : zokI 111 pc = true := by
  have h : pc < 69 := h
  rcases Nat.lt_or_ge pc 69 with g | g
  · have := List.all_eq_true.mp zokI_111_0 (pc - 0) (List.mem_range.mpr (by omega)); rwa [show pc - 0 + 0 = pc by omega] at this
  omega
theorem zokI_112_0 : ((List.range 59).all fun k => zokI 112 (k + 0)) = true := by decide +kernel
theorem zokI_112 (pc : Nat) (h : pc < zlen 112) : zokI 112 pc = true := by
  have h : pc < 59 := h
  rcases Nat.lt_or_ge pc 59 with g | g
  · have := List.all_eq_true.mp zokI_112_0 (pc - 0) (List.mem_range.mpr (by omega)); rwa [show pc - 0 + 0 = pc by omega] at this
  omega
theorem zokI_113_0 : ((List.range 101).all fun k => zokI 113 (k + 0)) = true := by decide +kernel
theorem zokI_113 (pc : Nat) (h : pc < zlen 113) : zokI 113 pc = true := by
  have h : pc < 101 := h
  rcases Nat.lt_or_ge pc 101 with g | g
  · have := List.all_eq_true.mp zokI_113_0 (pc - 0) (List.mem_range.mpr (by omega)); rwa [show pc - 0 + 0 = pc by omega] at this
  omega
theorem zokI_114_0 : ((List.range 46).all fun k => zokI 114 (k + 0)) = true := by decide +kernel
theorem zokI_114 (pc : Nat) (h : pc < zlen 114) : zokI 114 pc = true := by
  have h : pc < 46 := h
  rcases Nat.lt_or_ge pc 46 with g | g
  · have := List.all_eq_true.mp zokI_114_0 (pc - 0) (List.mem_range.mpr (by omega)); rwa [show pc - 0 + 0 = pc by omega] at this
  omega
theorem zokI_115_0 : ((List.range 150).all fun k => zokI 115 (k + 0)) = true := by decide +kernel
theorem zokI_115_150 : ((List.range 23).all fun k => zokI 115 (k + 150)) = true := by decide +kernel
theorem zokI_115 (pc : Nat) (h : pc < zlen 115) : zokI 115 pc = true := by
  have h : pc < 173 := h
  rcases Nat.lt_or_ge pc 150 with g | g
  · have := List.all_eq_true.mp zokI_115_0 (pc - 0) (List.mem_range.mpr (by omega)); rwa [show pc - 0 + 0 = pc by omega] at this
  rcases Nat.lt_or_ge pc 173 with g | g
  · have := List.all_eq_true.mp zokI_115_150 (pc - 150) (List.mem_range.mpr (by omega)); rwa [show pc - 150 + 150 = pc by omega] at this
  omega
theorem zokI_116_0 : ((List.range 15).all fun k => zokI 116 (k + 0)) = true := by decide +kernel
theorem zokI_116 (pc : Nat) (h : pc < zlen 116) : zokI 116 pc = true := by
  have h : pc < 15 := h
  rcases Nat.lt_or_ge pc 15 with g | g
  · have := List.all_eq_true.mp zokI_116_0 (pc - 0) (List.mem_range.mpr (by omega)); rwa [show pc - 0 + 0 = pc by omega] at this
  omega
theorem zokI_117_0 : ((List.range 15).all fun k => zokI 117 (k + 0)) = true := by decide +kernel
theorem zokI_117 (pc : Nat) (h : pc < zlen 117) : zokI 117 pc = true := by
  have h : pc < 15 := h
  rcases Nat.lt_or_ge pc 15 with g | g
  · have := List.all_eq_true.mp zokI_117_0 (pc - 0) (List.mem_range.mpr (by omega)); rwa [show pc - 0 + 0 = pc by omega] at this
  omega
theorem zokI_118_0 : ((List.range 15).all fun k => zokI 118 (k + 0)) = true := by decide +kernel
theorem zokI_118 (pc : Nat) (h : pc < zlen 118) : zokI 118 pc = true := by
  have h : pc < 15 := h
  rcases Nat.lt_or_ge pc 15 with g | g
  · have := List.all_eq_true.mp zokI_118_0 (pc - 0) (List.mem_range.mpr (by omega)); rwa [show pc - 0 + 0 = pc by omega] at this
  omega
theorem zokI_119_0 : ((List.range 25).all fun k => zokI 119 (k + 0)) = true := by decide +kernel
theorem zokI_119 (pc : Nat) (h : pc < zlen 119) : zokI 119 pc = true := by
  have h : pc < 25 := h
  rcases Nat.lt_or_ge pc 25 with g | g
  · have := List.all_eq_true.mp zokI_119_0 (pc - 0) (List.mem_range.mpr (by omega)); rwa [show pc - 0 + 0 = pc by omega] at this
  omega
theorem zokI_120_0 : ((List.range 28).all fun k => zokI 120 (k + 0)) = true := by decide +kernel
theorem zokI_120 (pc : Nat) (h : pc < zlen 120) : zokI 120 pc = true := by
  have h : pc < 28 := h
  rcases Nat.lt_or_ge pc 28 with g | g
  · have := List.all_eq_true.mp zokI_120_0 (pc - 0) (List.mem_range.mpr (by omega)); rwa [show pc - 0 + 0 = pc by omega] at this
  omega
theorem zokI_121_0 : ((List.range 41).all fun k => zokI 121 (k + 0)) = true := by decide +kernel
theorem zokI_121 (pc : Nat) (h : pc < zlen 121) : zokI 121 pc = true := by
  have h : pc < 41 := h
  rcases Nat.lt_or_ge pc 41 with g | g
  · have := List.all_eq_true.mp zokI_121_0 (pc - 0) (List.mem_range.mpr (by omega)); rwa [show pc - 0 + 0 = pc by omega] at this
  omega
theorem zokI_122_0 : ((List.range 107).all fun k => zokI 122 (k + 0)) = true := by decide +kernel
theorem zokI_122 (pc : Nat) (h : pc < zlen 122) : zokI 122 pc = true := by
  have h : pc < 107 := h
  rcases Nat.lt_or_ge pc 107 with g | g
  · have := List.all_eq_true.mp zokI_122_0 (pc - 0) (List.mem_range.mpr (by omega)); rwa [show pc - 0 + 0 = pc by omega] at this
  omega
theorem zokI_123_0 : ((List.range 95).all fun k => zokI 123 (k + 0)) = true := by decide +kernel
theorem zokI_123 (pc : Nat) (h : pc < zlen 123) : zokI 123 pc = true := by
  have h : pc < 95 := h
  rcases Nat.lt_or_ge pc 95 with g | g
  · have := List.all_eq_true.mp zokI_123_0 (pc - 0) (List.mem_range.mpr (by omega)); rwa [show pc - 0 + 0 = pc by omega] at this
  omega
theorem zokI_124_0 : ((List.range 47).all fun k => zokI 124 (k + 0)) = true := by decide +kernel
theorem zokI_124 (pc : Nat) (h : pc < zlen 124) : zokI 124 pc = true := by
  have h : pc < 47 := h
  rcases Nat.lt_or_ge pc 47 with g | g
  · have := List.all_eq_true.mp zokI_124_0 (pc - 0) (List.mem_range.mpr (by omega)); rwa [show pc - 0 + 0 = pc by omega] at this
  omega
theorem zokI_125_0 : ((List.range 32).all fun k => zokI 125 (k + 0)) = true := by decide +kernel
theorem zokI_125 (pc : Nat) (h : pc < zlen 125) : zokI 125 pc = true := by
  have h : pc < 32 := h
  rcases Nat.lt_or_ge pc 32 with g | g
  · have := List.all_eq_true.mp zokI_125_0 (pc - 0) (List.mem_range.mpr (by omega)); rwa [show pc - 0 + 0 = pc by omega] at this
  omega
theorem zokI_126_0 : ((List.range 150).all fun k => zokI 126 (k + 0)) = true := by decide +kernel
theorem zokI_126_150 : ((List.range 150).all fun k => zokI 126 (k + 150)) = true := by decide +kernel
theorem zokI_126_300 : ((List.range 33).all fun k => zokI 126 (k + 300)) = true := by decide +kernel
theorem zokI_126 (pc : Nat) (h : pc < zlen 126) : zokI 126 pc = true := by
  have h : pc < 333 := h
  rcases Nat.lt_or_ge pc 150 with g | g
  · have := List.all_eq_true.mp zokI_126_0 (pc - 0) (List.mem_range.mpr (by omega)); rwa [show pc - 0 + 0 = pc by omega] at this
  rcases Nat.lt_or_ge pc 300 with g | g
  · have := List.all_eq_true.mp zokI_126_150 (pc - 150) (List.mem_range.mpr (by omega)); rwa [show pc - 150 + 150 = pc by omega] at this
  rcases Nat.lt_or_ge pc 333 with g | g
  · have := List.all_eq_true.mp zokI_126_300 (pc - 300) (List.mem_range.mpr (by omega)); rwa [show pc - 300 + 300 = pc by omega] at this
  omega
theorem zokI_127_0 : ((List.range 19).all fun k => zokI 127 (k + 0)) = true := by decide +kernel
theorem zokI_127 (pc : Nat) (h : pc < zlen 127) : zokI 127 pc = true := by
  have h : pc < 19 := h
  rcases Nat.lt_or_ge pc 19 with g | g
  · have := List.all_eq_true.mp zokI_127_0 (pc - 0) (List.mem_range.mpr (by omega)); rwa [show pc - 0 + 0 = pc by omega] at this
  omega
theorem zokI_128_0 : ((List.range 15).all fun k => zokI 128 (k + 0)) = true := by decide +kernel
theorem zokI_128 (pc : Nat) (h : pc < zlen 128) : zokI 128 pc = true := by
  have h : pc < 15 := h
  rcases Nat.lt_or_ge pc 15 with g | g
  · have := List.all_eq_true.mp zokI_128_0 (pc - 0) (List.mem_range.mpr (by omega)); rwa [show pc - 0 + 0 = pc by omega] at this
  omega
theorem zokI_129_0 : ((List.range 26).all fun k => zokI 129 (k + 0)) = true := by decide +kernel
theorem zokI_129 (pc : Nat) (h : pc < zlen 129) : zokI 129 pc = true := by
  have h : pc < 26 := h
  rcases Nat.lt_or_ge pc 26 with g | g
  · have := List.all_eq_true.mp zokI_129_0 (pc - 0) (List.mem_range.mpr (by omega)); rwa [show pc - 0 + 0 = pc by omega] at this
  omega
theorem zokI_130_0 : ((List.range 53).all fun k => zokI 130 (k + 0)) = true := by decide +kernel
theorem zokI_130 (pc : Nat) (h : pc < zlen 130) : zokI 130 pc = true := by
  have h : pc < 53 := h
  rcases Nat.lt_or_ge pc 53 with g | g
  · have := List.all_eq_true.mp zokI_130_0 (pc - 0) (List.mem_range.mpr (by omega)); rwa [show pc - 0 + 0 = pc by omega] at this
  omega
theorem zokI_131_0 : ((List.range 12).all fun k => zokI 131 (k + 0)) = true := by decide +kernel
theorem zokI_131 (pc : Nat) (h : pc < zlen 131) : zokI 131 pc = true := by
  have h : pc < 12 := h
  rcases Nat.lt_or_ge pc 12 with g | g
  · have := List.all_eq_true.mp zokI_131_0 (pc - 0) (List.mem_range.mpr (by omega)); rwa [show pc - 0 + 0 = pc by omega] at this
  omega
theorem zokI_132_0 : ((List.range 12).all fun k => zokI 132 (k + 0)) = true := by decide +kernel
theorem zokI_132 (pc : Nat) (h : pc < zlen 132) : zokI 132 pc = true := by
  have h : pc < 12 := h
  rcases Nat.lt_or_ge pc 12 with g | g
  · have := List.all_eq_true.mp zokI_132_0 (pc - 0) (List.mem_range.mpr (by omega)); rwa [show pc - 0 + 0 = pc by omega] at this
  omega
theorem zokI_133_0 : ((List.range 12).all fun k => zokI 133 (k + 0)) = true := by decide +kernel
theorem zokI_133 (pc : Nat) (h : pc < zlen 133) : zokI 133 pc = true := by
  have h : pc < 12 := h
  rcases Nat.lt_or_ge pc 12 with g | g
  · have := List.all_eq_true.mp zokI_133_0 (pc - 0) (List.mem_range.mpr (by omega)); rwa [show pc - 0 + 0 = pc by omega] at this
  omega
theorem zokI_134_0 : ((List.range 150).all fun k => zokI 134 (k + 0)) = true := by decide +kernel
theorem zokI_134_150 : ((List.range 55).all fun k => zokI 134 (k + 150)) = true := by decide +kernel
theorem zokI_134 (pc : Nat) (h : pc < zlen 134) : zokI 134 pc = true := by
  have h : pc < 205 := h
  rcases Nat.lt_or_ge pc 150 with g | g
  · have := List.all_eq_true.mp zokI_134_0 (pc - 0) (List.mem_range.mpr (by omega)); rwa [show pc - 0 + 0 = pc by omega] at this
  rcases Nat.lt_or_ge pc 205 with g | g
  · have := List.all_eq_true.mp zokI_134_150 (pc - 150) (List.mem_range.mpr (by omega)); rwa [show pc - 150 + 150 = pc by omega] at this
  omega
theorem zokI_135_0 : ((List.range 63).all fun k => zokI 135 (k + 0)) = true := by decide +kernel
theorem zokI_135 (pc : Nat) (h : pc < zlen 135) : zokI 135 pc = true := by
  have h : pc < 63 := h
  rcases Nat.lt_or_ge pc 63 with g | g
  · have := List.all_eq_true.mp zokI_135_0 (pc - 0) (List.mem_range.mpr (by omega)); rwa [show pc - 0 + 0 = pc by omega] at this
  omega
theorem zokI_136_0 : ((List.range 88).all fun k => zokI 136 (k + 0)) = true := by decide +kernel
theorem zokI_136 (pc : Nat) (h : pc < zlen 136) : zokI 136 pc = true := by
  have h : pc < 88 := h
  rcases Nat.lt_or_ge pc 88 with g | g
  · have := List.all_eq_true.mp zokI_136_0 (pc - 0) (List.mem_range.mpr (by omega)); rwa [show pc - 0 + 0 = pc by omega] at this
  omega
theorem zokI_137_0 : ((List.range 26).all fun k => zokI 137 (k + 0)) = true := by decide +kernel
theorem zokI_137 (pc : Nat) (h : pc < zlen 137) : zokI 137 pc = true := by
  have h : pc < 26 := h
  rcases Nat.lt_or_ge pc 26 with g | g
  · have := List.all_eq_true.mp zokI_137_0 (pc - 0) (List.mem_range.mpr (by omega)); rwa [show pc - 0 + 0 = pc by omega] at this
  omega
theorem zokI_138_0 : ((List.range 37).all fun k => zokI 138 (k + 0)) = true := by decide +kernel
theorem zokI_138 (pc : Nat) (h : pc < zlen 138) : zokI 138 pc = true := by
  have h : pc < 37 := h
  rcases Nat.lt_or_ge pc 37 with g | g
  · have := List.all_eq_true.mp zokI_138_0 (pc - 0) (List.mem_range.mpr (by omega)); rwa [show pc - 0 + 0 = pc by omega] at this
  omega
theorem zokI_139_0 : ((List.range 62).all fun k => zokI 139 (k + 0)) = true := by decide +kernel
theorem zokI_139 (pc : Nat) (h : pc < zlen 139) : zokI 139 pc = true := by
  have h : pc < 62 := h
  rcases Nat.lt_or_ge pc 62 with g | g
  · have := List.all_eq_true.mp zokI_139_0 (pc - 0) (List.mem_range.mpr (by omega)); rwa [show pc - 0 + 0 = pc by omega] at this
  omega
theorem zokI_140_0 : ((List.range 41).all fun k => zokI 140 (k + 0)) = true := by decide +kernel
theorem zokI_140 (pc : Nat) (h : pc < zlen 140) : zokI 140 pc = true := by
  have h : pc < 41 := h
  rcases Nat.lt_or_ge pc 41 with g | g
  · have := List.all_eq_true.mp zokI_140_0 (pc - 0) (List.mem_range.mpr (by omega)); rwa [show pc - 0 + 0 = pc by omega] at this
  omega
theorem zokI_141_0 : ((List.range 97).all fun k => zokI 141 (k + 0)) = true := by decide +kernel
theorem zokI_141 (pc : Nat) (h : pc < zlen 141) : zokI 141 pc = true := by
  have h : pc < 97 := h
  rcases Nat.lt_or_ge pc 97 with g | g
  · have := List.all_eq_true.mp zokI_141_0 (pc - 0) (List.mem_range.mpr (by omega)); rwa [show pc - 0 + 0 = pc by omega] at this
  omega
theorem zokI_142_0 : ((List.range 87).all fun k => zokI 142 (k + 0)) = true := by decide +kernel
theorem zokI_142 (pc : Nat) (h : pc < zlen 142) : zokI 142 pc = true := by
  have h : pc < 87 := h
  rcases Nat.lt_or_ge pc 87 with g | g
  · have := List.all_eq_true.mp zokI_142_0 (pc - 0) (List.mem_range.mpr (by omega)); rwa [show pc - 0 + 0 = pc by omega] at this
  omega
theorem zokI_143_0 : ((List.range 51).all fun k => zokI 143 (k + 0)) = true := by decide +kernel
theorem zokI_143 (pc : Nat) (h : pc < zlen 143) : zokI 143 pc = true := by
  have h : pc < 51 := h
  rcases Nat.lt_or_ge pc 51 with g | g
  · have := List.all_eq_true.mp zokI_143_0 (pc - 0) (List.mem_range.mpr (by omega)); rwa [show pc - 0 + 0 = pc by omega] at this
  omega
theorem zokI_144_0 : ((List.range 47).all fun k => zokI 144 (k + 0)) = true := by decide +kernel
theorem zokI_144 (pc : Nat) (h : pc < zlen 144) : zokI 144 pc = true := by
  have h : pc < 47 := h
  rcases Nat.lt_or_ge pc 47 with g | g
  · have := List.all_eq_true.mp zokI_144_0 (pc - 0) (List.mem_range.mpr (by omega)); rwa [show pc - 0 + 0 = pc by omega] at this
  omega
theorem zokI_145_0 : ((List.range 56).all fun k => zokI 145 (k + 0)) = true := by decide +kernel
theorem zokI_145 (pc : Nat) (h : pc < zlen 145) : zokI 145 pc = true := by
  have h : pc < 56 := h
  rcases Nat.lt_or_ge pc 56 with g | g
  · have := List.all_eq_true.mp zokI_145_0 (pc - 0) (List.mem_range.mpr (by omega)); rwa [show pc - 0 + 0 = pc by omega] at this
  omega
theorem zokI_146_0 : ((List.range 77).all fun k => zokI 146 (k + 0)) = true := by decide +kernel
theorem zokI_146 (pc : Nat) (h : pc < zlen 146) : zokI 146 pc = true := by
  have h : pc < 77 := h
  rcases Nat.lt_or_ge pc 77 with g | g
  · have := List.all_eq_true.mp zokI_146_0 (pc - 0) (List.mem_range.mpr (by omega)); rwa [show pc - 0 + 0 = pc by omega] at this
  omega
theorem zokI_147_0 : ((List.range 133).all fun k => zokI 147 (k + 0)) = true := by decide +kernel
theorem zokI_147 (pc : Nat) (h : pc < zlen 147) : zokI 147 pc = true := by
  have h : pc < 133 := h
  rcases Nat.lt_or_ge pc 133 with g | g
  · have := List.all_eq_true.mp zokI_147_0 (pc - 0) (List.mem_range.mpr (by omega)); rwa [show pc - 0 + 0 = pc by omega] at this
  omega
theorem zokI_148_0 : ((List.range 17).all fun k => zokI 148 (k + 0)) = true := by decide +kernel
theorem zokI_148 (pc : Nat) (h : pc < zlen 148) : zokI 148 pc = true := by
  have h : pc < 17 := h
  rcases Nat.lt_or_ge pc 17 with g | g
  · have := List.all_eq_true.mp zokI_148_0 (pc - 0) (List.mem_range.mpr (by omega)); rwa [show pc - 0 + 0 = pc by omega] at this
  omega
theorem zokI_149_0 : ((List.range 31).all fun k => zokI 149 (k + 0)) = true := by decide +kernel
theorem zokI_149 (pc : Nat) (h : pc < zlen 149) : zokI 149 pc = true := by
  have h : pc < 31 := h
  rcases Nat.lt_or_ge pc 31 with g | g
  · have := List.all_eq_true.mp zokI_149_0 (pc - 0) (List.mem_range.mpr (by omega)); rwa [show pc - 0 + 0 = pc by omega] at this
  omega
theorem zokI_150_0 : ((List.range 78).all fun k => zokI 150 (k + 0)) = true := by decide +kernel
theorem zokI_150 (pc : Nat) (h : pc < zlen 150) : zokI 150 pc = true := by
  have h : pc < 78 := h
  rcases Nat.lt_or_ge pc 78 with g | g
  · have := List.all_eq_true.mp zokI_150_0 (pc - 0) (List.mem_range.mpr (by omega)); rwa [show pc - 0 + 0 = pc by omega] at this
  omega
theorem zokI_151_0 : ((List.range 15).all fun k => zokI 151 (k + 0)) = true := by decide +kernel
theorem zokI_151 (pc : Nat) (h : pc < zlen 151) : zokI 151 pc = true := by
  have h : pc < 15 := h
  rcases Nat.lt_or_ge pc 15 with g | g
  · have := List.all_eq_true.mp zokI_151_0 (pc - 0) (List.mem_range.mpr (by omega)); rwa [show pc - 0 + 0 = pc by omega] at this
  omega
theorem zokI_152_0 : ((List.range 17).all fun k => zokI 152 (k + 0)) = true := by decide +kernel
theorem zokI_152 (pc : Nat) (h : pc < zlen 152) : zokI 152 pc = true := by
  have h : pc < 17 := h
  rcases Nat.lt_or_ge pc 17 with g | g
  · have := List.all_eq_true.mp zokI_152_0 (pc - 0) (List.mem_range.mpr (by omega)); rwa [show pc - 0 + 0 = pc by omega] at this
  omega
theorem zokI_153_0 : ((List.range 59).all fun k => zokI 153 (k + 0)) = true := by decide +kernel
theorem zokI_153 (pc : Nat) (h : pc < zlen 153) : zokI 153 pc = true := by
  have h : pc < 59 := h
  rcases Nat.lt_or_ge pc 59 with g | g
  · have := List.all_eq_true.mp zokI_153_0 (pc - 0) (List.mem_range.mpr (by omega)); rwa [show pc - 0 + 0 = pc by omega] at this
  omega
theorem zokI_154_0 : ((List.range 29).all fun k => zokI 154 (k + 0)) = true := by decide +kernel
theorem zokI_154 (pc : Nat) (h : pc < zlen 154) : zokI 154 pc = true := by
  have h : pc < 29 := h
  rcases Nat.lt_or_ge pc 29 with g | g
  · have := List.all_eq_true.mp zokI_154_0 (pc - 0) (List.mem_range.mpr (by omega)); rwa [show pc - 0 + 0 = pc by omega] at this
  omega
theorem zokI_155_0 : ((List.range 131).all fun k => zokI 155 (k + 0)) = true := by decide +kernel
theorem zokI_155 (pc : Nat) (h : pc < zlen 155) : zokI 155 pc = true := by
  have h : pc < 131 := h
  rcases Nat.lt_or_ge pc 131 with g | g
  · have := List.all_eq_true.mp zokI_155_0 (pc - 0) (List.mem_range.mpr (by omega)); rwa [show pc - 0 + 0 = pc by omega] at this
  omega
theorem zokI_156_0 : ((List.range 43).all fun k => zokI 156 (k + 0)) = true := by decide +kernel
theorem zokI_156 (pc : Nat) (h : pc < zlen 156) : zokI 156 pc = true := by
  have h : pc < 43 := h
  rcases Nat.lt_or_ge pc 43 with g | g
  · have := List.all_eq_true.mp zokI_156_0 (pc - 0) (List.mem_range.mpr (by omega)); rwa [show pc - 0 + 0 = pc by omega] at this
  omega
theorem zokI_157_0 : ((List.range 90).all fun k => zokI 157 (k + 0)) = true := by decide +kernel
theorem zokI_157 (pc : Nat) (h : pc < zlen 157) : zokI 157 pc = true := by
  have h : pc < 90 := h
  rcases Nat.lt_or_ge pc 90 with g | g
  · have := List.all_eq_true.mp zokI_157_0 (pc - 0) (List.mem_range.mpr (by omega)); rwa [show pc - 0 + 0 = pc by omega] at this
  omega
theorem zokI_158_0 : ((List.range 150).all fun k => zokI 158 (k + 0)) = true := by decide +kernel
theorem zokI_158_150 : ((List.range 6).all fun k => zokI 158 (k + 150)) = true := by decide +kernel
theorem zokI_158 (pc : Nat) (h : pc < zlen 158) : zokI 158 pc = true := by
  have h : pc < 156 := h
  rcases Nat.lt_or_ge pc 150 with g | g
  · have := List.all_eq_true.mp zokI_158_0 (pc - 0) (List.mem_range.mpr (by omega)); rwa [show pc - 0 + 0 = pc by omega] at this
  rcases Nat.lt_or_ge pc 156 with g | g
  · have := List.all_eq_true.mp zokI_158_150 (pc - 150) (List.mem_range.mpr (by omega)); rwa [show pc - 150 + 150 = pc by omega] at this
  omega
theorem zokI_159_0 : ((List.range 47).all fun k => zokI 159 (k + 0)) = true := by decide +kernel
theorem zokI_159 (pc : Nat) (h : pc < zlen 159) : zokI 159 pc = true := by
  have h : pc < 47 := h
  rcases Nat.lt_or_ge pc 47 with g | g
  · have := List.all_eq_true.mp zokI_159_0 (pc - 0) (List.mem_range.mpr (by omega)); rwa [show pc - 0 + 0 = pc by omega] at this
  omega
theorem zokI_160_0 : ((List.range 131).all fun k => zokI 160 (k + 0)) = true := by decide +kernel
theorem zokI_160 (pc : Nat) (h : pc < zlen 160) : zokI 160 pc = true := by
  have h : pc < 131 := h
  rcases Nat.lt_or_ge pc 131 with g | g
  · have := List.all_eq_true.mp zokI_160_0 (pc - 0) (List.mem_range.mpr (by omega)); rwa [show pc - 0 + 0 = pc by omega] at this
  omega
theorem zokI_161_0 : ((List.range 75).all fun k => zokI 161 (k + 0)) = true := by decide +kernel
theorem zokI_161 (pc : Nat) (h : pc < zlen 161) : zokI 161 pc = true := by
  have h : pc < 75 := h
  rcases Nat.lt_or_ge pc 75 with g | g
  · have := List.all_eq_true.mp zokI_161_0 (pc - 0) (List.mem_range.mpr (by omega)); rwa [show pc - 0 + 0 = pc by omega] at this
  omega
theorem zokI_162_0 : ((List.range 150).all fun k => zokI 162 (k + 0)) = true := by decide +kernel
theorem zokI_162_150 : ((List.range 45).all fun k => zokI 162 (k + 150)) = true := by decide +kernel
theorem zokI_162 (pc : Nat) (h : pc < zlen 162) : zokI 162 pc = true := by
  have h : pc < 195 := h
  rcases Nat.lt_or_ge pc 150 with g | g
  · have := List.all_eq_true.mp zokI_162_0 (pc - 0) (List.mem_range.mpr (by omega)); rwa [show pc - 0 + 0 = pc by omega] at this
  rcases Nat.lt_or_ge pc 195 with g | g
  · have := List.all_eq_true.mp zokI_162_150 (pc - 150) (List.mem_range.mpr (by omega)); rwa [show pc - 150 + 150 = pc by omega] at this
  omega
theorem zokI_163_0 : ((List.range 76).all fun k => zokI 163 (k + 0)) = true := by decide +kernel
theorem zokI_163 (pc : Nat) (h : pc < zlen 163) : zokI 163 pc = true := by
  have h : pc < 76 := h
  rcases Nat.lt_or_ge pc 76 with g | g
  · have := List.all_eq_true.mp zokI_163_0 (pc - 0) (List.mem_range.mpr (by omega)); rwa [show pc - 0 + 0 = pc by omega] at this
  omega
theorem zokI_164_0 : ((List.range 81).all fun k => zokI 164 (k + 0)) = true := by decide +kernel
theorem zokI_164 (pc : Nat) (h : pc < zlen 164) : zokI 164 pc = true := by
  have h : pc < 81 := h
  rcases Nat.lt_or_ge pc 81 with g | g
  · have := List.all_eq_true.mp zokI_164_0 (pc - 0) (List.mem_range.mpr (by omega)); rwa [show pc - 0 + 0 = pc by omega] at this
  omega
theorem zokI_165_0 : ((List.range 44).all fun k => zokI 165 (k + 0)) = true := by decide +kernel
theorem zokI_165 (pc : Nat) (h : pc < zlen 165) : zokI 165 pc = true := by
  have h : pc < 44 := h
  rcases Nat.lt_or_ge pc 44 with g | g
  · have := List.all_eq_true.mp zokI_165_0 (pc - 0) (List.mem_range.mpr (by omega)); rwa [show pc - 0 + 0 = pc by omega] at this
  omega
theorem zokI_166_0 : ((List.range 88).all fun k => zokI 166 (k + 0)) = true := by decide +kernel
theorem zokI_166 (pc : Nat) (h : pc < zlen 166) : zokI 166 pc = true := by
  have h : pc < 88 := h
  rcases Nat.lt_or_ge pc 88 with g | g
  · have := List.all_eq_true.mp zokI_166_0 (pc - 0) (List.mem_range.mpr (by omega)); rwa [show pc - 0 + 0 = pc by omega] at this
  omega
theorem zokI_167_0 : ((List.range 61).all fun k => zokI 167 (k + 0)) = true := by decide +kernel
theorem zokI_167 (pc : Nat) (h : pc < zlen 167) : zokI 167 pc = true := by
  have h : pc < 61 := h
  rcases Nat.lt_or_ge pc 61 with g | g
  · have := List.all_eq_true.mp zokI_167_0 (pc - 0) (List.mem_range.mpr (by omega)); rwa [show pc - 0 + 0 = pc by omega] at this
  omega
theorem zokI_168_0 : ((List.range 42).all fun k => zokI 168 (k + 0)) = true := by decide +kernel
theorem zokI_168 (pc : Nat) (h : pc < zlen 168) : zokI 168 pc = true := by
  have h : pc < 42 := h
  rcases Nat.lt_or_ge pc 42 with g | g
  · have := List.all_eq_true.mp zokI_168_0 (pc - 0) (List.mem_range.mpr (by omega)); rwa [show pc - 0 + 0 = pc by omega] at this
  omega
theorem zokI_169_0 : ((List.range 142).all fun k => zokI 169 (k + 0)) = true := by decide +kernel
theorem zokI_169 (pc : Nat) (h : pc < zlen 169) : zokI 169 pc = true := by
  have h : pc < 142 := h
  rcases Nat.lt_or_ge pc 142 with g | g
  · have := List.all_eq_true.mp zokI_169_0 (pc - 0) (List.mem_range.mpr (by omega)); rwa [show pc - 0 + 0 = pc by omega] at this
  omega
theorem zokI_170_0 : ((List.range 74).all fun k => zokI 170 (k + 0)) = true := by decide +kernel
theorem zokI_170 (pc : Nat) (h : pc < zlen 170) : zokI 170 pc = true := by
  have h : pc < 74 := h
  rcases Nat.lt_or_ge pc 74 with g | g
  · have := List.all_eq_true.mp zokI_170_0 (pc - 0) (List.mem_range.mpr (by omega)); rwa [show pc - 0 + 0 = pc by omega] at this
  omega
theorem zokI_171_0 : ((List.range 43).all fun k => zokI 171 (k + 0)) = true := by decide +kernel
theorem zokI_171 (pc : Nat) (h : pc < zlen 171) : zokI 171 pc = true := by
  have h : pc < 43 := h
  rcases Nat.lt_or_ge pc 43 with g | g
  · have := List.all_eq_true.mp zokI_171_0 (pc - 0) (List.mem_range.mpr (by omega)); rwa [show pc - 0 + 0 = pc by omega] at this
  omega
theorem zokI_172_0 : ((List.range 41).all fun k => zokI 172 (k + 0)) = true := by decide +kernel
theorem zokI_172 (pc : Nat) (h : pc < zlen 172) : zokI 172 pc = true := by
  have h : pc < 41 := h
  rcases Nat.lt_or_ge pc 41 with g | g
  · have := List.all_eq_true.mp zokI_172_0 (pc - 0) (List.mem_range.mpr (by omega)); rwa [show pc - 0 + 0 = pc by omega] at this
  omega
theorem zokI_173_0 : ((List.range 40).all fun k => zokI 173 (k + 0)) = true := by decide +kernel
theorem zokI_173 (pc : Nat) (h : pc < zlen 173) : zokI 173 pc = true := by
  have h : pc < 40 := h
  rcases Nat.lt_or_ge pc 40 with g | g
  · have := List.all_eq_true.mp zokI_173_0 (pc - 0) (List.mem_range.mpr (by omega)); rwa [show pc - 0 + 0 = pc by omega] at this
  omega
theorem zokI_174_0 : ((List.range 50).all fun k => zokI 174 (k + 0)) = true := by decide +kernel
theorem zokI_174 (pc : Nat) (h : pc < zlen 174) : zokI 174 pc = true := by
  have h : pc < 50 := h
  rcases Nat.lt_or_ge pc 50 with g | g
  · have := List.all_eq_true.mp zokI_174_0 (pc - 0) (List.mem_range.mpr (by omega)); rwa [show pc - 0 + 0 = pc by omega] at this
  omega
theorem zokI_175_0 : ((List.range 9).all fun k => zokI 175 (k + 0)) = true := by decide +kernel
theorem zokI_175 (pc : Nat) (h : pc < zlen 175) : zokI 175 pc = true := by
  have h : pc < 9 := h
  rcases Nat.lt_or_ge pc 9 with g | g
  · have := List.all_eq_true.mp zokI_175_0 (pc - 0) (List.mem_range.mpr (by omega)); rwa [show pc - 0 + 0 = pc by omega] at this
  omega
theorem zokI_176_0 : ((List.range 28).all fun k => zokI 176 (k + 0)) = true := by decide +kernel
theorem zokI_176 (pc : Nat) (h : pc < zlen 176) : zokI 176 pc = true := by
  have h : pc < 28 := h
  rcases Nat.lt_or_ge pc 28 with g | g
  · have := List.all_eq_true.mp zokI_176_0 (pc - 0) (List.mem_range.mpr (by omega)); rwa [show pc - 0 + 0 = pc by omega] at this
  omega
theorem zokI_177_0 : ((List.range 37).all fun k => zokI 177 (k + 0)) = true := by decide +kernel
theorem zokI_177 (pc : Nat) (h : pc < zlen 177) : zokI 177 pc = true := by
  have h : pc < 37 := h
  rcases Nat.lt_or_ge pc 37 with g | g
  · have := List.all_eq_true.mp zokI_177_0 (pc - 0) (List.mem_range.mpr (by omega)); rwa [show pc - 0 + 0 = pc by omega] at this
  omega
theorem zokI_178_0 : ((List.range 61).all fun k => zokI 178 (k + 0)) = true := by decide +kernel
theorem zokI_178 (pc : Nat) (h : pc < zlen 178) : zokI 178 pc = true := by
  have h : pc < 61 := h
  rcases Nat.lt_or_ge pc 61 with g | g
  · have := List.all_eq_true.mp zokI_178_0 (pc - 0) (List.mem_range.mpr (by omega)); rwa [show pc - 0 + 0 = pc by omega] at this
  omega
theorem zokI_179_0 : ((List.range 84).all fun k => zokI 179 (k + 0)) = true := by decide +kernel
theorem zokI_179 (pc : Nat) (h : pc < zlen 179) : zokI 179 pc = true := by
  have h : pc < 84 := h
  rcases Nat.lt_or_ge pc 84 with g | g
  · have := List.all_eq_true.mp zokI_179_0 (pc - 0) (List.mem_range.mpr (by omega)); rwa [show pc - 0 + 0 = pc by omega] at this
  omega
theorem zokI_180_0 : ((List.range 42).all fun k => zokI 180 (k + 0)) = true := by decide +kernel
theorem zokI_180 (pc : Nat) (h : pc < zlen 180) : zokI 180 pc = true := by
  have h : pc < 42 := h
  rcases Nat.lt_or_ge pc 42 with g | g
  · have := List.all_eq_true.mp zokI_180_0 (pc - 0) (List.mem_range.mpr (by omega)); rwa [show pc - 0 + 0 = pc by omega] at this
  omega
theorem zokI_181_0 : ((List.range 93).all fun k => zokI 181 (k + 0)) = true := by decide +kernel
theorem zokI_181 (pc : Nat) (h : pc < zlen 181) : zokI 181 pc = true := by
  have h : pc < 93 := h
  rcases Nat.lt_or_ge pc 93 with g | g
  · have := List.all_eq_true.mp zokI_181_0 (pc - 0) (List.mem_range.mpr (by omega)); rwa [show pc - 0 + 0 = pc by omega] at this
  omega
theorem zokI_182_0 : ((List.range 58).all fun k => zokI 182 (k + 0)) = true := by decide +kernel
theorem zokI_182 (pc : Nat) (h : pc < zlen 182) : zokI 182 pc = true := by
  have h : pc < 58 := h
  rcases Nat.lt_or_ge pc 58 with g | g
  · have := List.all_eq_true.mp zokI_182_0 (pc - 0) (List.mem_range.mpr (by omega)); rwa [show pc - 0 + 0 = pc by omega] at this
  omega
theorem zokI_183_0 : ((List.range 150).all fun k => zokI 183 (k + 0)) = true := by decide +kernel
theorem zokI_183_150 : ((List.range 5).all fun k => zokI 183 (k + 150)) = true := by decide +kernel
theorem zokI_183 (pc : Nat) (h : pc < zlen 183) : zokI 183 pc = true := by
  have h : pc < 155 := h
  rcases Nat.lt_or_ge pc 150 with g | g
  · have := List.all_eq_true.mp zokI_183_0 (pc - 0) (List.mem_range.mpr (by omega)); rwa [show pc - 0 + 0 = pc by omega] at this
  rcases Nat.lt_or_ge pc 155 with g | g
  · have := List.all_eq_true.mp zokI_183_150 (pc - 150) (List.mem_range.mpr (by omega)); rwa [show pc - 150 + 150 = pc by omega] at this
  omega
theorem zokI_184_0 : ((List.range 137).all fun k => zokI 184 (k + 0)) = true := by decide +kernel
theorem zokI_184 (pc : Nat) (h : pc < zlen 184) : zokI 184 pc = true := by
  have h : pc < 137 := h
  rcases Nat.lt_or_ge pc 137 with g | g
  · have := List.all_eq_true.mp zokI_184_0 (pc - 0) (List.mem_range.mpr (by omega)); rwa [show pc - 0 + 0 = pc by omega] at this
  omega
theorem zokI_185_0 : ((List.range 74).all fun k => zokI 185 (k + 0)) = true := by decide +kernel
theorem zokI_185 (pc : Nat) (h : pc < zlen 185) : zokI 185 pc = true := by
  have h : pc < 74 := h
  rcases Nat.lt_or_ge pc 74 with g | g
  · have := List.all_eq_true.mp zokI_185_0 (pc - 0) (List.mem_range.mpr (by omega)); rwa [show pc - 0 + 0 = pc by omega] at this
  omega
theorem zokI_186_0 : ((List.range 12).all fun k => zokI 186 (k + 0)) = true := by decide +kernel
theorem zokI_186 (pc : Nat) (h : pc < zlen 186) : zokI 186 pc = true := by
  have h : pc < 12 := h
  rcases Nat.lt_or_ge pc 12 with g | g
  · have := List.all_eq_true.mp zokI_186_0 (pc - 0) (List.mem_range.mpr (by omega)); rwa [show pc - 0 + 0 = pc by omega] at this
  omega
theorem zokI_187_0 : ((List.range 90).all fun k => zokI 187 (k + 0)) = true := by decide +kernel
theorem zokI_187 (pc : Nat) (h : pc < zlen 187) : zokI 187 pc = true := by
  have h : pc < 90 := h
  rcases Nat.lt_or_ge pc 90 with g | g
  · have := List.all_eq_true.mp zokI_187_0 (pc - 0) (List.mem_range.mpr (by omega)); rwa [show pc - 0 + 0 = pc by omega] at this
  omega
theorem zokI_188_0 : ((List.range 47).all fun k => zokI 188 (k + 0)) = true := by decide +kernel
theorem zokI_188 (pc : Nat) (h : pc < zlen 188) : zokI 188 pc = true := by
  have h : pc < 47 := h
  rcases Nat.lt_or_ge pc 47 with g | g
  · have := List.all_eq_true.mp zokI_188_0 (pc - 0) (List.mem_range.mpr (by omega)); rwa [show pc - 0 + 0 = pc by omega] at this
  omega
theorem zokI_189_0 : ((List.range 74).all fun k => zokI 189 (k + 0)) = true := by decide +kernel
theorem zokI_189 (pc : Nat) (h : pc < zlen 189) : zokI 189 pc = true := by
  have h : pc < 74 := h
  rcases Nat.lt_or_ge pc 74 with g | g
  · have := List.all_eq_true.mp zokI_189_0 (pc - 0) (List.mem_range.mpr (by omega)); rwa [show pc - 0 + 0 = pc by omega] at this
  omega
theorem zokI_190_0 : ((List.range 150).all fun k => zokI 190 (k + 0)) = true := by decide +kernel
theorem zokI_190_150 : ((List.range 58).all fun k => zokI 190 (k + 150)) = true := by decide +kernel
theorem zokI_190 (pc : Nat) (h : pc < zlen 190) : zokI 190 pc = true := by
  have h : pc < 208 := h
  rcases Nat.lt_or_ge pc 150 with g | g
  · have := List.all_eq_true.mp zokI_190_0 (pc - 0) (List.mem_range.mpr (by omega)); rwa [show pc - 0 + 0 = pc by omega] at this
  rcases Nat.lt_or_ge pc 208 with g | g
  · have := List.all_eq_true.mp zokI_190_150 (pc - 150) (List.mem_range.mpr (by omega)); rwa [show pc - 150 + 150 = pc by omega] at this
  omega
theorem zokI_191_0 : ((List.range 10).all fun k => zokI 191 (k + 0)) = true := by decide +kernel
theorem zokI_191 (pc : Nat) (h : pc < zlen 191) : zokI 191 pc = true := by
  have h : pc < 10 := h
  rcases Nat.lt_or_ge pc 10 with g | g
  · have := List.all_eq_true.mp zokI_191_0 (pc - 0) (List.mem_range.mpr (by omega)); rwa [show pc - 0 + 0 = pc by omega] at this
  omega
theorem zokI_192_0 : ((List.range 61).all fun k => zokI 192 (k + 0)) = true := by decide +kernel
theorem zokI_192 (pc : Nat) (h : pc < zlen 192) : zokI 192 pc = true := by
  have h : pc < 61 := h
  rcases Nat.lt_or_ge pc 61 with g | g
  · have := List.all_eq_true.mp zokI_192_0 (pc - 0) (List.mem_range.mpr (by omega)); rwa [show pc - 0 + 0 = pc by omega] at this
  omega
theorem zokI_193_0 : ((List.range 39).all fun k => zokI 193 (k + 0)) = true := by decide +kernel
theorem zokI_193 (pc : Nat) (h : pc < zlen 193) : zokI 193 pc = true := by
  have h : pc < 39 := h
  rcases Nat.lt_or_ge pc 39 with g | g
  · have := List.all_eq_true.mp zokI_193_0 (pc - 0) (List.mem_range.mpr (by omega)); rwa [show pc - 0 + 0 = pc by omega] at this
  omega
theorem zokI_194_0 : ((List.range 103).all fun k => zokI 194 (k + 0)) = true := by decide +kernel
theorem zokI_194 (pc : Nat) (h : pc < zlen 194) : zokI 194 pc = true := by
  have h : pc < 103 := h
  rcases Nat.lt_or_ge pc 103 with g | g
  · have := List.all_eq_true.mp zokI_194_0 (pc - 0) (List.mem_range.mpr (by omega)); rwa [show pc - 0 + 0 = pc by omega] at this
  omega
theorem zokI_195_0 : ((List.range 89).all fun k => zokI 195 (k + 0)) = true := by decide +kernel
theorem zokI_195 (pc : Nat) (h : pc < zlen 195) : zokI 195 pc = true := by
  have h : pc < 89 := h
  rcases Nat.lt_or_ge pc 89 with g | g
  · have := List.all_eq_true.mp zokI_195_0 (pc - 0) (List.mem_range.mpr (by omega)); rwa [show pc - 0 + 0 = pc by omega] at this
  omega
theorem zokI_196_0 : ((List.range 34).all fun k => zokI 196 (k + 0)) = true := by decide +kernel
theorem zokI_196 (pc : Nat) (h : pc < zlen 196) : zokI 196 pc = true := by
  have h : pc < 34 := h
  rcases Nat.lt_or_ge pc 34 with g | g
  · have := List.all_eq_true.mp zokI_196_0 (pc - 0) (List.mem_range.mpr (by omega)); rwa [show pc - 0 + 0 = pc by omega] at this
  omega
theorem zokI_197_0 : ((List.range 64).all fun k => zokI 197 (k + 0)) = true := by decide +kernel
theorem zokI_197 (pc : Nat) (h : pc < zlen 197) : zokI 197 pc = true := by
  have h : pc < 64 := h
  rcases Nat.lt_or_ge pc 64 with g | g
  · have := List.all_eq_true.mp zokI_197_0 (pc - 0) (List.mem_range.mpr (by omega)); rwa [show pc - 0 + 0 = pc by omega] at this
  omega
theorem zokI_198_0 : ((List.range 146).all fun k => zokI 198 (k + 0)) = true := by decide +kernel
theorem zokI_198 (pc : Nat) (h : pc < zlen 198) : zokI 198 pc = true := by
  have h : pc < 146 := h
  rcases Nat.lt_or_ge pc 146 with g | g
  · have := List.all_eq_true.mp zokI_198_0 (pc - 0) (List.mem_range.mpr (by omega)); rwa [show pc - 0 + 0 = pc by omega] at this
  omega
theorem zokI_199_0 : ((List.range 30).all fun k => zokI 199 (k + 0)) = true := by decide +kernel
theorem zokI_199 (pc : Nat) (h : pc < zlen 199) : zokI 199 pc = true := by
  have h : pc < 30 := h
  rcases Nat.lt_or_ge pc 30 with g | g
  · have := List.all_eq_true.mp zokI_199_0 (pc - 0) (List.mem_range.mpr (by omega)); rwa [show pc - 0 + 0 = pc by omega] at this
  omega
theorem zokI_200_0 : ((List.range 150).all fun k => zokI 200 (k + 0)) = true := by decide +kernel
theorem zokI_200_150 : ((List.range 78).all fun k => zokI 200 (k + 150)) = true := by decide +kernel
theorem zokI_200 (pc : Nat) (h : pc < zlen 200) : zokI 200 pc = true := by
  have h : pc < 228 := h
  rcases Nat.lt_or_ge pc 150 with g | g
  · have := List.all_eq_true.mp zokI_200_0 (pc - 0) (List.mem_range.mpr (by omega)); rwa [show pc - 0 + 0 = pc by omega] at this
  rcases Nat.lt_or_ge pc 228 with g | g
  · have := List.all_eq_true.mp zokI_200_150 (pc - 150) (List.mem_range.mpr (by omega)); rwa [show pc - 150 + 150 = pc by omega] at this
  omega
theorem zokI_201_0 : ((List.range 73).all fun k => zokI 201 (k + 0)) = true := by decide +kernel
theorem zokI_201 (pc : Nat) (h : pc < zlen 201) : zokI 201 pc = true := by
  have h : pc < 73 := h
  rcases Nat.lt_or_ge pc 73 with g | g
  · have := List.all_eq_true.mp zokI_201_0 (pc - 0) (List.mem_range.mpr (by omega)); rwa [show pc - 0 + 0 = pc by omega] at this
  omega
theorem zokI_202_0 : ((List.range 45).all fun k => zokI 202 (k + 0)) = true := by decide +kernel
theorem zokI_202 (pc : Nat) (h : pc < zlen 202) : zokI 202 pc = true := by
  have h : pc < 45 := h
  rcases Nat.lt_or_ge pc 45 with g | g
  · have := List.all_eq_true.mp zokI_202_0 (pc - 0) (List.mem_range.mpr (by omega)); rwa [show pc - 0 + 0 = pc by omega] at this
  omega
theorem zokI_203_0 : ((List.range 34).all fun k => zokI 203 (k + 0)) = true := by decide +kernel
theorem zokI_203 (pc : Nat) (h : pc < zlen 203) : zokI 203 pc = true := by
  have h : pc < 34 := h
  rcases Nat.lt_or_ge pc 34 with g | g
  · have := List.all_eq_true.mp zokI_203_0 (pc - 0) (List.mem_range.mpr (by omega)); rwa [show pc - 0 + 0 = pc by omega] at this
  omega
theorem zokI_204_0 : ((List.range 141).all fun k => zokI 204 (k + 0)) = true := by decide +kernel
theorem zokI_204 (pc : Nat) (h : pc < zlen 204) : zokI 204 pc = true := by
  have h : pc < 141 := h
  rcases Nat.lt_or_ge pc 141 with g | g
  · have := List.all_eq_true.mp zokI_204_0 (pc - 0) (List.mem_range.mpr (by omega)); rwa [show pc - 0 + 0 = pc by omega] at this
  omega
theorem zokI_205_0 : ((List.range 53).all fun k => zokI 205 (k + 0)) = true := by decide +kernel
theorem zokI_205 (pc : Nat) (h : pc < zlen 205) : zokI 205 pc = true := by
  have h : pc < 53 := h
  rcases Nat.lt_or_ge pc 53 with g | g
  · have := List.all_eq_true.mp zokI_205_0 (pc - 0) (List.mem_range.mpr (by omega)); rwa [show pc - 0 + 0 = pc by omega] at this
  omega
theorem zokI_206_0 : ((List.range 150).all fun k => zokI 206 (k + 0)) = true := by decide +kernel
theorem zokI_206_150 : ((List.range 150).all fun k => zokI 206 (k + 150)) = true := by decide +kernel
theorem zokI_206_300 : ((List.range 150).all fun k => zokI 206 (k + 300)) = true := by decide +kernel
theorem zokI_206_450 : ((List.range 150).all fun k => zokI 206 (k + 450)) = true := by decide +kernel
theorem zokI_206_600 : ((List.range 150).all fun k => zokI 206 (k + 600)) = true := by decide +kernel
theorem zokI_206_750 : ((List.range 150).all fun k => zokI 206 (k + 750)) = true := by decide +kernel
theorem zokI_206_900 : ((List.range 150).all fun k => zokI 206 (k + 900)) = true := by decide +kernel
theorem zokI_206_1050 : ((List.range 150).all fun k => zokI 206 (k + 1050)) = true := by decide +kernel
theorem zokI_206_1200 : ((List.range 1).all fun k => zokI 206 (k + 1200)) = true := by decide +kernel
theorem zokI_206 (pc : Nat) (h : pc < zlen 206) : zokI 206 pc = true := by
  have h : pc < 1201 := h
  rcases Nat.lt_or_ge pc 150 with g | g
  · have := List.all_eq_true.mp zokI_206_0 (pc - 0) (List.mem_range.mpr (by omega)); rwa [show pc - 0 + 0 = pc by omega] at this
  rcases Nat.lt_or_ge pc 300 with g | g
  · have := List.all_eq_true.mp zokI_206_150 (pc - 150) (List.mem_range.mpr (by omega)); rwa [show pc - 150 + 150 = pc by omega] at this
  rcases Nat.lt_or_ge pc 450 with g | g
  · have := List.all_eq_true.mp zokI_206_300 (pc - 300) (List.mem_range.mpr (by omega)); rwa [show pc - 300 + 300 = pc by omega] at this
  rcases Nat.lt_or_ge pc 600 with g | g
  · have := List.all_eq_true.mp zokI_206_450 (pc - 450) (List.mem_range.mpr (by omega)); rwa [show pc - 450 + 450 = pc by omega] at this
  rcases Nat.lt_or_ge pc 750 with g | g
  · have := List.all_eq_true.mp zokI_206_600 (pc - 600) (List.mem_range.mpr (by omega)); rwa [show pc - 600 + 600 = pc by omega] at this
  rcases Nat.lt_or_ge pc 900 with g | g
  · have := List.all_eq_true.mp zokI_206_750 (pc - 750) (List.mem_range.mpr (by omega)); rwa [show pc - 750 + 750 = pc by omega] at this
  rcases Nat.lt_or_ge pc 1050 with g | g
  · have := List.all_eq_true.mp zokI_206_900 (pc - 900) (List.mem_range.mpr (by omega)); rwa [show pc - 900 + 900 = pc by omega] at this
  rcases Nat.lt_or_ge pc 1200 with g | g
  · have := List.all_eq_true.mp zokI_206_1050 (pc - 1050) (List.mem_range.mpr (by omega)); rwa [show pc - 1050 + 1050 = pc by omega] at this
  rcases Nat.lt_or_ge pc 1201 with g | g
  · have := List.all_eq_true.mp zokI_206_1200 (pc - 1200) (List.mem_range.mpr (by omega)); rwa [show pc - 1200 + 1200 = pc by omega] at this
  omega
theorem zokA_0 : ∀ m, m < 0 → ∀ pc, pc < zlen m → zokI m pc = true := zball0
theorem zokA_1 : ∀ m, m < 1 → ∀ pc, pc < zlen m → zokI m pc = true := zball zokA_0 zokI_0
theorem zokA_2 : ∀ m, m < 2 → ∀ pc, pc < zlen m → zokI m pc = true := zball zokA_1 zokI_1
theorem zokA_3 : ∀ m, m < 3 → ∀ pc, pc < zlen m → zokI m pc = true := zball zokA_2 zokI_2
theorem zokA_4 : ∀ m, m < 4 → ∀ pc, pc < zlen m → zokI m pc = true := zball zokA_3 zokI_3
theorem zokA_5 : ∀ m, m < 5 → ∀ pc, pc < zlen m → zokI m pc = true := zball zokA_4 zokI_4
theorem zokA_6 : ∀ m, m < 6 → ∀ pc, pc < zlen m → zokI m pc = true := zball zokA_5 zokI_5
theorem zokA_7 : ∀ m, m < 7 → ∀ pc, pc < zlen m → zokI m pc = true := zball zokA_6 zokI_6
theorem zokA_8 : ∀ m, m < 8 → ∀ pc, pc < zlen m → zokI m pc = true := zball zokA_7 zokI_7
theorem zokA_9 : ∀ m, m < 9 → ∀ pc, pc < zlen m → zokI m pc = true := zball zokA_8 zokI_8
theorem zokA_10 : ∀ m, m < 10 → ∀ pc, pc < zlen m → zokI m pc = true := zball zokA_9 zokI_9
theorem zokA_11 : ∀ m, m < 11 → ∀ pc, pc < zlen m → zokI m pc = true := zball zokA_10 zokI_10
theorem zokA_12 : ∀ m, m < 12 → ∀ pc, pc < zlen m → zokI m pc = true := zball zokA_11 zokI_11
theorem zokA_13 : ∀ m, m < 13 → ∀ pc, pc < zlen m → zokI m pc = true := zball zokA_12 zokI_12
theorem zokA_14 : ∀ m, m < 14 → ∀ pc, pc < zlen m → zokI m pc = true := zball zokA_13 zokI_13
theorem zokA_15 : ∀ m, m < 15 → ∀ pc, pc < zlen m → zokI m pc = true := zball zokA_14 zokI_14
theorem zokA_16 : ∀ m, m < 16 → ∀ pc, pc < zlen m → zokI m pc = true := zball zokA_15 zokI_15
theorem zokA_17 : ∀ m, m < 17 → ∀ pc, pc < zlen m → zokI m pc = true := zball zokA_16 zokI_16
theorem zokA_18 : ∀ m, m < 18 → ∀ pc, pc < zlen m → zokI m pc = true := zball zokA_17 zokI_17
theorem zokA_19 : ∀ m, m < 19 → ∀ pc, pc < zlen m → zokI m pc = true := zball zokA_18 zokI_18
theorem zokA_20 : ∀ m, m < 20 → ∀ pc, pc < zlen m → zokI m pc = true := zball zokA_19 zokI_19
theorem zokA_21 : ∀ m, m < 21 → ∀ pc, pc < zlen m → zokI m pc = true := zball zokA_20 zokI_20
theorem zokA_22 : ∀ m, m < 22 → ∀ pc, pc < zlen m → zokI m pc = true := zball zokA_21 zokI_21
theorem zokA_23 : ∀ m, m < 23 → ∀ pc, pc < zlen m → zokI m pc = true := zball zokA_22 zokI_22
theorem zokA_24 : ∀ m, m < 24 → ∀ pc, pc < zlen m → zokI m pc = true := zball zokA_23 zokI_23
theorem zokA_25 : ∀ m, m < 25 → ∀ pc, pc < zlen m → zokI m pc = true := zball zokA_24 zokI_24
theorem zokA_26 : ∀ m, m < 26 → ∀ pc, pc < zlen m → zokI m pc = true := zball zokA_25 zokI_25
theorem zokA_27 : ∀ m, m < 27 → ∀ pc, pc < zlen m → zokI m pc = true := zball zokA_26 zokI_26
theorem zokA_28 : ∀ m, m < 28 → ∀ pc, pc < zlen m → zokI m pc = true := zball zokA_27 zokI_27
theorem zokA_29 : ∀ m, m < 29 → ∀ pc, pc < zlen m → zokI m pc = true := zball zokA_28 zokI_28
theorem zokA_30 : ∀ m, m < 30 → ∀ pc, pc < zlen m → zokI m pc = true := zball zokA_29 zokI_29
theorem zokA_31 : ∀ m, m < 31 → ∀ pc, pc < zlen m → zokI m pc = true := zball zokA_30 zokI_30
theorem zokA_32 : ∀ m, m < 32 → ∀ pc, pc < zlen m → zokI m pc = true := zball zokA_31 zokI_31
theorem zokA_33 : ∀ m, m < 33 → ∀ pc, pc < zlen m → zokI m pc = true := zball zokA_32 zokI_32
theorem zokA_34 : ∀ m, m < 34 → ∀ pc, pc < zlen m → zokI m pc = true := zball zokA_33 zokI_33
theorem zokA_35 : ∀ m, m < 35 → ∀ pc, pc < zlen m → zokI m pc = true := zball zokA_34 zokI_34
theorem zokA_36 : ∀ m, m < 36 → ∀ pc, pc < zlen m → zokI m pc = true := zball zokA_35 zokI_35
theorem zokA_37 : ∀ m, m < 37 → ∀ pc, pc < zlen m → zokI m pc = true := zball zokA_36 zokI_36
theorem zokA_38 : ∀ m, m < 38 → ∀ pc, pc < zlen m → zokI m pc = true := zball zokA_37 zokI_37
theorem zokA_39 : ∀ m, m < 39 → ∀ pc, pc < zlen m → zokI m pc = true := zball zokA_38 zokI_38
theorem zokA_40 : ∀ m, m < 40 → ∀ pc, pc < zlen m → zokI m pc = true := zball zokA_39 zokI_39
theorem zokA_41 : ∀ m, m < 41 → ∀ pc, pc < zlen m → zokI m pc = true := zball zokA_40 zokI_40
theorem zokA_42 : ∀ m, m < 42 → ∀ pc, pc < zlen m → zokI m pc = true := zball zokA_41 zokI_41
theorem zokA_43 : ∀ m, m < 43 → ∀ pc, pc < zlen m → zokI m pc = true := zball zokA_42 zokI_42
theorem zokA_44 : ∀ m, m < 44 → ∀ pc, pc < zlen m → zokI m pc = true := zball zokA_43 zokI_43
theorem zokA_45 : ∀ m, m < 45 → ∀ pc, pc < zlen m → zokI m pc = true := zball zokA_44 zokI_44
theorem zokA_46 : ∀ m, m < 46 → ∀ pc, pc < zlen m → zokI m pc = true := zball zokA_45 zokI_45
theorem zokA_47 : ∀ m, m < 47 → ∀ pc, pc < zlen m → zokI m pc = true := zball zokA_46 zokI_46
theorem zokA_48 : ∀ m, m < 48 → ∀ pc, pc < zlen m → zokI m pc = true := zball zokA_47 zokI_47
theorem zokA_49 : ∀ m, m < 49 → ∀ pc, pc < zlen m → zokI m pc = true := zball zokA_48 zokI_48
theorem zokA_50 : ∀ m, m < 50 → ∀ pc, pc < zlen m → zokI m pc = true := zball zokA_49 zokI_49
theorem zokA_51 : ∀ m, m < 51 → ∀ pc, pc < zlen m → zokI m pc = true := zball zokA_50 zokI_50
theorem zokA_52 : ∀ m, m < 52 → ∀ pc, pc < zlen m → zokI m pc = true := zball zokA_51 zokI_51
theorem zokA_53 : ∀ m, m < 53 → ∀ pc, pc < zlen m → zokI m pc = true := zball zokA_52 zokI_52
theorem zokA_54 : ∀ m, m < 54 → ∀ pc, pc < zlen m → zokI m pc = true := zball zokA_53 zokI_53
theorem zokA_55 : ∀ m, m < 55 → ∀ pc, pc < zlen m → zokI m pc = true := zball zokA_54 zokI_54
theorem zokA_56 : ∀ m, m < 56 → ∀ pc, pc < zlen m → zokI m pc = true := zball zokA_55 zokI_55
theorem zokA_57 : ∀ m, m < 57 → ∀ pc, pc < zlen m → zokI m pc = true := zball zokA_56 zokI_56
theorem zokA_58 : ∀ m, m < 58 → ∀ pc, pc < zlen m → zokI m pc = true := zball zokA_57 zokI_57
theorem zokA_59 : ∀ m, m < 59 → ∀ pc, pc < zlen m → zokI m pc = true := zball zokA_58 zokI_58
theorem zokA_60 : ∀ m, m < 60 → ∀ pc, pc < zlen m → zokI m pc = true := zball zokA_59 zokI_59
theorem zokA_61 : ∀ m, m < 61 → ∀ pc, pc < zlen m → zokI m pc = true := zball zokA_60 zokI_60
theorem zokA_62 : ∀ m, m < 62 → ∀ pc, pc < zlen m → zokI m pc = true := zball zokA_61 zokI_61
theorem zokA_63 : ∀ m, m < 63 → ∀ pc, pc < zlen m → zokI m pc = true := zball zokA_62 zokI_62
theorem zokA_64 : ∀ m, m < 64 → ∀ pc, pc < zlen m → zokI m pc = true := zball zokA_63 zokI_63
theorem zokA_65 : ∀ m, m < 65 → ∀ pc, pc < zlen m → zokI m pc = true := zball zokA_64 zokI_64
theorem zokA_66 : ∀ m, m < 66 → ∀ pc, pc < zlen m → zokI m pc = true := zball zokA_65 zokI_65
theorem zokA_67 : ∀ m, m < 67 → ∀ pc, pc < zlen m → zokI m pc = true := zball zokA_66 zokI_66
theorem zokA_68 : ∀ m, m < 68 → ∀ pc, pc < zlen m → zokI m pc = true := zball zokA_67 zokI_67
theorem zokA_69 : ∀ m, m < 69 → ∀ pc, pc < zlen m → zokI m pc = true := zball zokA_68 zokI_68
theorem zokA_70 : ∀ m, m < 70 → ∀ pc, pc < zlen m → zokI m pc = true := zball zokA_69 zokI_69
theorem zokA_71 : ∀ m, m < 71 → ∀ pc, pc < zlen m → zokI m pc = true := zball zokA_70 zokI_70
theorem zokA_72 : ∀ m, m < 72 → ∀ pc, pc < zlen m → zokI m pc = true := zball zokA_71 zokI_71
theorem zokA_73 : ∀ m, m < 73 → ∀ pc, pc < zlen m → zokI m pc = true := zball zokA_72 zokI_72
theorem zokA_74 : ∀ m, m < 74 → ∀ pc, pc < zlen m → zokI m pc = true := zball zokA_73 zokI_73
theorem zokA_75 : ∀ m, m < 75 → ∀ pc, pc < zlen m → zokI m pc = true := zball zokA_74 zokI_74
theorem zokA_76 : ∀ m, m < 76 → ∀ pc, pc < zlen m → zokI m pc = true := zball zokA_75 zokI_75
theorem zokA_77 : ∀ m, m < 77 → ∀ pc, pc < zlen m → zokI m pc = true := zball zokA_76 zokI_76
theorem zokA_78 : ∀ m, m < 78 → ∀ pc, pc < zlen m → zokI m pc = true := zball zokA_77 zokI_77
theorem zokA_79 : ∀ m, m < 79 → ∀ pc, pc < zlen m → zokI m pc = true := zball zokA_78 zokI_78
theorem zokA_80 : ∀ m, m < 80 → ∀ pc, pc < zlen m → zokI m pc = true := zball zokA_79 zokI_79
theorem zokA_81 : ∀ m, m < 81 → ∀ pc, pc < zlen m → zokI m pc = true := zball zokA_80 zokI_80
theorem zokA_82 : ∀ m, m < 82 → ∀ pc, pc < zlen m → zokI m pc = true := zball zokA_81 zokI_81
theorem zokA_83 : ∀ m, m < 83 → ∀ pc, pc < zlen m → zokI m pc = true := zball zokA_82 zokI_82
theorem zokA_84 : ∀ m, m < 84 → ∀ pc, pc < zlen m → zokI m pc = true := zball zokA_83 zokI_83
theorem zokA_85 : ∀ m, m < 85 → ∀ pc, pc < zlen m → zokI m pc = true := zball zokA_84 zokI_84
theorem zokA_86 : ∀ m, m < 86 → ∀ pc, pc < zlen m → zokI m pc = true := zball zokA_85 zokI_85
theorem zokA_87 : ∀ m, m < 87 → ∀ pc, pc < zlen m → zokI m pc = true := zball zokA_86 zokI_86
theorem zokA_88 : ∀ m, m < 88 → ∀ pc, pc < zlen m → zokI m pc = true := zball zokA_87 zokI_87
theorem zokA_89 : ∀ m, m < 89 → ∀ pc, pc < zlen m → zokI m pc = true := zball zokA_88 zokI_88
theorem zokA_90 : ∀ m, m < 90 → ∀ pc, pc < zlen m → zokI m pc = true := zball zokA_89 zokI_89
theorem zokA_91 : ∀ m, m < 91 → ∀ pc, pc < zlen m → zokI m pc = true := zball zokA_90 zokI_90
theorem zokA_92 : ∀ m, m < 92 → ∀ pc, pc < zlen m → zokI m pc = true := zball zokA_91 zokI_91
theorem zokA_93 : ∀ m, m < 93 → ∀ pc, pc < zlen m → zokI m pc = true := zball zokA_92 zokI_92
theorem zokA_94 : ∀ m, m < 94 → ∀ pc, pc < zlen m → zokI m pc = true := zball zokA_93 zokI_93
theorem zokA_95 : ∀ m, m < 95 → ∀ pc, pc < zlen m → zokI m pc = true := zball zokA_94 zokI_94
theorem zokA_96 : ∀ m, m < 96 → ∀ pc, pc < zlen m → zokI m pc = true := zball zokA_95 zokI_95
theorem zokA_97 : ∀ m, m < 97 → ∀ pc, pc < zlen m → zokI m pc = true := zball zokA_96 zokI_96
theorem zokA_98 : ∀ m, m < 98 → ∀ pc, pc < zlen m → zokI m pc = true := zball zokA_97 zokI_97
theorem zokA_99 : ∀ m, m < 99 → ∀ pc, pc < zlen m → zokI m pc = true := zball zokA_98 zokI_98
theorem zokA_100 : ∀ m, m < 100 → ∀ pc, pc < zlen m → zokI m pc = true := zball zokA_99 zokI_99
theorem zokA_101 : ∀ m, m < 101 → ∀ pc, pc < zlen m → zokI m pc = true := zball zokA_100 zokI_100
theorem zokA_102 : ∀ m, m < 102 → ∀ pc, pc < zlen m → zokI m pc = true := zball zokA_101 zokI_101
theorem zokA_103 : ∀ m, m < 103 → ∀ pc, pc < zlen m → zokI m pc = true := zball zokA_102 zokI_102
theorem zokA_104 : ∀ m, m < 104 → ∀ pc, pc < zlen m → zokI m pc = true := zball zokA_103 zokI_103
theorem zokA_105 : ∀ m, m < 105 → ∀ pc, pc < zlen m → zokI m pc = true := zball zokA_104 zokI_104
theorem zokA_106 : ∀ m, m < 106 → ∀ pc, pc < zlen m → zokI m pc = true := zball zokA_105 zokI_105
theorem zokA_107 : ∀ m, m < 107 → ∀ pc, pc < zlen m → zokI m pc = true := zball zokA_106 zokI_106
theorem zokA_108 : ∀ m, m < 108 → ∀ pc, pc < zlen m → zokI m pc = true := zball zokA_107 zokI_107
theorem zokA_109 : ∀ m, m < 109 → ∀ pc, pc < zlen m → zokI m pc = true := zball zokA_108 zokI_108
theorem zokA_110 : ∀ m, m < 110 → ∀ pc, pc < zlen m → zokI m pc = true := zball zokA_109 zokI_109
theorem zokA_111 : ∀ m, m < 111 → ∀ pc, pc < zlen m → zokI m pc = true := zball zokA_110 zokI_110
theorem zokA_112 : ∀ m, m < 112 → ∀ pc, pc < zlen m → zokI m pc = true := zball zokA_111 zokI_111
theorem zokA_113 : ∀ m, m < 113 → ∀ pc, pc < zlen m → zokI m pc = true := zball zokA_112 zokI_112
theorem zokA_114 : ∀ m, m < 114 → ∀ pc, pc < zlen m → zokI m pc = true := zball zokA_113 zokI_113
theorem zokA_115 : ∀ m, m < 115 → ∀ pc, pc < zlen m → zokI m pc = true := zball zokA_114 zokI_114
theorem zokA_116 : ∀ m, m < 116 → ∀ pc, pc < zlen m → zokI m pc = true := zball zokA_115 zokI_115
theorem zokA_117 : ∀ m, m < 117 → ∀ pc, pc < zlen m → zokI m pc = true := zball zokA_116 zokI_116
theorem zokA_118 : ∀ m, m < 118 → ∀ pc, pc < zlen m → zokI m pc = true := zball zokA_117 zokI_117
theorem zokA_119 : ∀ m, m < 119 → ∀ pc, pc < zlen m → zokI m pc = true := zball zokA_118 zokI_118
theorem zokA_120 : ∀ m, m < 120 → ∀ pc, pc < zlen m → zokI m pc = true := zball zokA_119 zokI_119
theorem zokA_121 : ∀ m, m < 121 → ∀ pc, pc < zlen m → zokI m pc = true := zball zokA_120 zokI_120
theorem zokA_122 : ∀ m, m < 122 → ∀ pc, pc < zlen m → zokI m pc = true := zball zokA_121 zokI_121
theorem zokA_123 : ∀ m, m < 123 → ∀ pc, pc < zlen m → zokI m pc = true := zball zokA_122 zokI_122
theorem zokA_124 : ∀ m, m < 124 → ∀ pc, pc < zlen m → zokI m pc = true := zball zokA_123 zokI_123
theorem zokA_125 : ∀ m, m < 125 → ∀ pc, pc < zlen m → zokI m pc = true := zball zokA_124 zokI_124
theorem zokA_126 : ∀ m, m < 126 → ∀ pc, pc < zlen m → zokI m pc = true := zball zokA_125 zokI_125
theorem zokA_127 : ∀ m, m < 127 → ∀ pc, pc < zlen m → zokI m pc = true := zball zokA_126 zokI_126
theorem zokA_128 : ∀ m, m < 128 → ∀ pc, pc < zlen m → zokI m pc = true := zball zokA_127 zokI_127
theorem zokA_129 : ∀ m, m < 129 → ∀ pc, pc < zlen m → zokI m pc = true := zball zokA_128 zokI_128
theorem zokA_130 : ∀ m, m < 130 → ∀ pc, pc < zlen m → zokI m pc = true := zball zokA_129 zokI_129
theorem zokA_131 : ∀ m, m < 131 → ∀ pc, pc < zlen m → zokI m pc = true := zball zokA_130 zokI_130
theorem zokA_132 : ∀ m, m < 132 → ∀ pc, pc < zlen m → zokI m pc = true := zball zokA_131 zokI_131
theorem zokA_133 : ∀ m, m < 133 → ∀ pc, pc < zlen m → zokI m pc = true := zball zokA_132 zokI_132
theorem zokA_134 : ∀ m, m < 134 → ∀ pc, pc < zlen m → zokI m pc = true := zball zokA_133 zokI_133
theorem zokA_135 : ∀ m, m < 135 → ∀ pc, pc < zlen m → zokI m pc = true := zball zokA_134 zokI_134
theorem zokA_136 : ∀ m, m < 136 → ∀ pc, pc < zlen m → zokI m pc = true := zball zokA_135 zokI_135
theorem zokA_137 : ∀ m, m < 137 → ∀ pc, pc < zlen m → zokI m pc = true := zball zokA_136 zokI_136
theorem zokA_138 : ∀ m, m < 138 → ∀ pc, pc < zlen m → zokI m pc = true := zball zokA_137 zokI_137
theorem zokA_139 : ∀ m, m < 139 → ∀ pc, pc < zlen m → zokI m pc = true := zball zokA_138 zokI_138
theorem zokA_140 : ∀ m, m < 140 → ∀ pc, pc < zlen m → zokI m pc = true := zball zokA_139 zokI_139
theorem zokA_141 : ∀ m, m < 141 → ∀ pc, pc < zlen m → zokI m pc = true := zball zokA_140 zokI_140
theorem zokA_142 : ∀ m, m < 142 → ∀ pc, pc < zlen m → zokI m pc = true := zball zokA_141 zokI_141
theorem zokA_143 : ∀ m, m < 143 → ∀ pc, pc < zlen m → zokI m pc = true := zball zokA_142 zokI_142
theorem zokA_144 : ∀ m, m < 144 → ∀ pc, pc < zlen m → zokI m pc = true := zball zokA_143 zokI_143
theorem zokA_145 : ∀ m, m < 145 → ∀ pc, pc < zlen m → zokI m pc = true := zball zokA_144 zokI_144
theorem zokA_146 : ∀ m, m < 146 → ∀ pc, pc < zlen m → zokI m pc = true := zball zokA_145 zokI_145
theorem zokA_147 : ∀ m, m < 147 → ∀ pc, pc < zlen m → zokI m pc = true := zball zokA_146 zokI_146
theorem zokA_148 : ∀ m, m < 148 → ∀ pc, pc < zlen m → zokI m pc = true := zball zokA_147 zokI_147
theorem zokA_149 : ∀ m, m < 149 → ∀ pc, pc < zlen m → zokI m pc = true := zball zokA_148 zokI_148
theorem zokA_150 : ∀ m, m < 150 → ∀ pc, pc < zlen m → zokI m pc = true := zball zokA_149 zokI_149
theorem zokA_151 : ∀ m, m < 151 → ∀ pc, pc < zlen m → zokI m pc = true := zball zokA_150 zokI_150
theorem zokA_152 : ∀ m, m < 152 → ∀ pc, pc < zlen m → zokI m pc = true := zball zokA_151 zokI_151
theorem zokA_153 : ∀ m, m < 153 → ∀ pc, pc < zlen m → zokI m pc = true := zball zokA_152 zokI_152
theorem zokA_154 : ∀ m, m < 154 → ∀ pc, pc < zlen m → zokI m pc = true := zball zokA_153 zokI_153
theorem zokA_155 : ∀ m, m < 155 → ∀ pc, pc < zlen m → zokI m pc = true := zball zokA_154 zokI_154
theorem zokA_156 : ∀ m, m < 156 → ∀ pc, pc < zlen m → zokI m pc = true := zball zokA_155 zokI_155
theorem zokA_157 : ∀ m, m < 157 → ∀ pc, pc < zlen m → zokI m pc = true := zball zokA_156 zokI_156
theorem zokA_158 : ∀ m, m < 158 → ∀ pc, pc < zlen m → zokI m pc = true := zball zokA_157 zokI_157
theorem zokA_159 : ∀ m, m < 159 → ∀ pc, pc < zlen m → zokI m pc = true := zball zokA_158 zokI_158
theorem zokA_160 : ∀ m, m < 160 → ∀ pc, pc < zlen m → zokI m pc = true := zball zokA_159 zokI_159
theorem zokA_161 : ∀ m, m < 161 → ∀ pc, pc < zlen m → zokI m pc = true := zball zokA_160 zokI_160
theorem zokA_162 : ∀ m, m < 162 → ∀ pc, pc < zlen m → zokI m pc = true := zball zokA_161 zokI_161
theorem zokA_163 : ∀ m, m < 163 → ∀ pc, pc < zlen m → zokI m pc = true := zball zokA_162 zokI_162
theorem zokA_164 : ∀ m, m < 164 → ∀ pc, pc < zlen m → zokI m pc = true := zball zokA_163 zokI_163
theorem zokA_165 : ∀ m, m < 165 → ∀ pc, pc < zlen m → zokI m pc = true := zball zokA_164 zokI_164
theorem zokA_166 : ∀ m, m < 166 → ∀ pc, pc < zlen m → zokI m pc = true := zball zokA_165 zokI_165
theorem zokA_167 : ∀ m, m < 167 → ∀ pc, pc < zlen m → zokI m pc = true := zball zokA_166 zokI_166
theorem zokA_168 : ∀ m, m < 168 → ∀ pc, pc < zlen m → zokI m pc = true := zball zokA_167 zokI_167
theorem zokA_169 : ∀ m, m < 169 → ∀ pc, pc < zlen m → zokI m pc = true := zball zokA_168 zokI_168
theorem zokA_170 : ∀ m, m < 170 → ∀ pc, pc < zlen m → zokI m pc = true := zball zokA_169 zokI_169
theorem zokA_171 : ∀ m, m < 171 → ∀ pc, pc < zlen m → zokI m pc = true := zball zokA_170 zokI_170
theorem zokA_172 : ∀ m, m < 172 → ∀ pc, pc < zlen m → zokI m pc = true := zball zokA_171 zokI_171
theorem zokA_173 : ∀ m, m < 173 → ∀ pc, pc < zlen m → zokI m pc = true := zball zokA_172 zokI_172
theorem zokA_174 : ∀ m, m < 174 → ∀ pc, pc < zlen m → zokI m pc = true := zball zokA_173 zokI_173
theorem zokA_175 : ∀ m, m < 175 → ∀ pc, pc < zlen m → zokI m pc = true := zball zokA_174 zokI_174
theorem zokA_176 : ∀ m, m < 176 → ∀ pc, pc < zlen m → zokI m pc = true := zball zokA_175 zokI_175
theorem zokA_177 : ∀ m, m < 177 → ∀ pc, pc < zlen m → zokI m pc = true := zball zokA_176 zokI_176
theorem zokA_178 : ∀ m, m < 178 → ∀ pc, pc < zlen m → zokI m pc = true := zball zokA_177 zokI_177
theorem zokA_179 : ∀ m, m < 179 → ∀ pc, pc < zlen m → zokI m pc = true := zball zokA_178 zokI_178
theorem zokA_180 : ∀ m, m < 180 → ∀ pc, pc < zlen m → zokI m pc = true := zball zokA_179 zokI_179
theorem zokA_181 : ∀ m, m < 181 → ∀ pc, pc < zlen m → zokI m pc = true := zball zokA_180 zokI_180
theorem zokA_182 : ∀ m, m < 182 → ∀ pc, pc < zlen m → zokI m pc = true := zball zokA_181 zokI_181
theorem zokA_183 : ∀ m, m < 183 → ∀ pc, pc < zlen m → zokI m pc = true := zball zokA_182 zokI_182
theorem zokA_184 : ∀ m, m < 184 → ∀ pc, pc < zlen m → zokI m pc = true := zball zokA_183 zokI_183
theorem zokA_185 : ∀ m, m < 185 → ∀ pc, pc < zlen m → zokI m pc = true := zball zokA_184 zokI_184
theorem zokA_186 : ∀ m, m < 186 → ∀ pc, pc < zlen m → zokI m pc = true := zball zokA_185 zokI_185
theorem zokA_187 : ∀ m, m < 187 → ∀ pc, pc < zlen m → zokI m pc = true := zball zokA_186 zokI_186
theorem zokA_188 : ∀ m, m < 188 → ∀ pc, pc < zlen m → zokI m pc = true := zball zokA_187 zokI_187
theorem zokA_189 : ∀ m, m < 189 → ∀ pc, pc < zlen m → zokI m pc = true := zball zokA_188 zokI_188
theorem zokA_190 : ∀ m, m < 190 → ∀ pc, pc < zlen m → zokI m pc = true := zball zokA_189 zokI_189
theorem zokA_191 : ∀ m, m < 191 → ∀ pc, pc < zlen m → zokI m pc = true := zball zokA_190 zokI_190
theorem zokA_192 : ∀ m, m < 192 → ∀ pc, pc < zlen m → zokI m pc = true := zball zokA_191 zokI_191
theorem zokA_193 : ∀ m, m < 193 → ∀ pc, pc < zlen m → zokI m pc = true := zball zokA_192 zokI_192
theorem zokA_194 : ∀ m, m < 194 → ∀ pc, pc < zlen m → zokI m pc = true := zball zokA_193 zokI_193
theorem zokA_195 : ∀ m, m < 195 → ∀ pc, pc < zlen m → zokI m pc = true := zball zokA_194 zokI_194
theorem zokA_196 : ∀ m, m < 196 → ∀ pc, pc < zlen m → zokI m pc = true := zball zokA_195 zokI_195
theorem zokA_197 : ∀ m, m < 197 → ∀ pc, pc < zlen m → zokI m pc = true := zball zokA_196 zokI_196
theorem zokA_198 : ∀ m, m < 198 → ∀ pc, pc < zlen m → zokI m pc = true := zball zokA_197 zokI_197
theorem zokA_199 : ∀ m, m < 199 → ∀ pc, pc < zlen m → zokI m pc = true := zball zokA_198 zokI_198
theorem zokA_200 : ∀ m, m < 200 → ∀ pc, pc < zlen m → zokI m pc = true := zball zokA_199 zokI_199
theorem zokA_201 : ∀ m, m < 201 → ∀ pc, pc < zlen m → zokI m pc = true := zball zokA_200 zokI_200
theorem zokA_202 : ∀ m, m < 202 → ∀ pc, pc < zlen m → zokI m pc = true := zball zokA_201 zokI_201
theorem zokA_203 : ∀ m, m < 203 → ∀ pc, pc < zlen m → zokI m pc = true := zball zokA_202 zokI_202
theorem zokA_204 : ∀ m, m < 204 → ∀ pc, pc < zlen m → zokI m pc = true := zball zokA_203 zokI_203
theorem zokA_205 : ∀ m, m < 205 → ∀ pc, pc < zlen m → zokI m pc = true := zball zokA_204 zokI_204
theorem zokA_206 : ∀ m, m < 206 → ∀ pc, pc < zlen m → zokI m pc = true := zball zokA_205 zokI_205
theorem zokA_207 : ∀ m, m < 207 → ∀ pc, pc < zlen m → zokI m pc = true := zball zokA_206 zokI_206
