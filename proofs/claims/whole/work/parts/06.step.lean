/-! A STEP OF THE SMALL MACHINE IS A STEP OF THE MACHINE -/
/-- what a method's state knows beside the small heap: classes, the script, the texts, the links of nest mates, arrays of objects -/
def zEnv (D : va_G) (ar : Nat → ClassId) (B b L : Nat) (xs : Nat → Int32) (adK adV : Nat → Nat) (U : State) (Hp : Heap) : Prop :=
  va_K D zcl (ztys ar) U ∧ va_X b L xs U Hp ∧ (∀ i t, zstr[i]? = some t → vk_R "PoplarQueue$Reader" t.1 t.2 (adK i) U) ∧ (∀ o i mj p, zml o i = some (2, mj, p) → va_Nw (.methodLinkNest (zo o) i (zy mj) "PoplarQueue") U) ∧ (va_AO "PoplarQueue$Plain" U ∧ va_AO "PoplarQueue$Bag" U ∧ va_AO "PoplarQueue$Holder" U) ∧ (vk_S 7 ((List.range 7).map zslen) ((List.range 7).map fun i => (List.range (zslen i)).map (zsch i)) adK adV (fun q => B ≤ q) U Hp ∧ va_Z "java/lang/String" "COMPACT_STRINGS" "Z" (.int 1) (fun q => B ≤ q) U Hp ∧ va_Zq "jdk/internal/util/Preconditions" "SIOOBE_FORMATTER" "Ljava/util/function/BiFunction;" (fun q => B ≤ q) U Hp)
def zCx (p : Program) (R : Room) (s : State) (m : MethodId) (args : Array Value) (meth : Method) (c : Code) (D : va_G) (ar : Nat → ClassId) (B b L : Nat) (xs : Nat → Int32) (adK adV : Nat → Nat) (mi : Nat) : Prop :=
  p.tables.exec = Jvm.exec ∧ c.code = zb mi ∧ (∃ q, zq mi = some q ∧ c.maxLocals = q.2.1 ∧ q.2.2.2.2.1 ≤ R.frames ∧ q.2.2.2.2.2 ≤ R.locals) ∧ s.vm.findClass (zo (zown mi)) = some m.cls ∧ (∀ w ∈ zt, w.before args s = true) ∧ meth.name = (zy mi).name ∧ zEnv D ar B b L xs adK adV s s.heap ∧ b < B ∧ B ≤ s.heap.size
def zPt (D : va_G) (ar : Nat → ClassId) (up : Nat → Nat) (B L : Nat) (xs : Nat → Int32) (s : State) (h : ZH) (H : Heap) (locs : List Loc) (cells : Nat) : Prop :=
  zHR D ar up B h H ∧ va_S (fun q => B ≤ q) s.heap H locs ∧ H.size = s.heap.size + cells ∧ zwf L xs h
section ZSTEP
variable {p : Program} {l : Launch} {e : Env} {R : Room} {s : State} {m : MethodId} {args : Array Value} {below : List Frame} {meth : Method} {c : Code} {H : Heap} {locs : List Loc} {cells slots : Nat} {Q : State → Prop}
variable {D : va_G} {ar : Nat → ClassId} {B b L : Nat} {xs : Nat → Int32} {adK adV : Nat → Nat}
theorem zW_size {g : JFrame} (k : H.size ≤ s.heap.size + cells → W p l e R s m args below meth c H locs cells slots Q g) : W p l e R s m args below meth c H locs cells slots Q g := fun T hT X => k (by
  have h1 := X.same.2.2.1
  have h2 : (T.setVm s.vm).heap = H := hT
  rw [h2] at h1
  exact h1) T hT X
theorem zS0 (hS : va_S (fun q => B ≤ q) s.heap H locs) : va_S (fun q => B ≤ q) H H locs := ⟨Nat.le_refl _, fun _ _ _ => rfl, hS.2.2⟩
theorem zS1 {H1 : Heap} {locs1 : List Loc} (hS : va_S (fun q => B ≤ q) s.heap H locs) (h1 : va_S (fun q => B ≤ q) H H1 locs1) : va_S (fun q => B ≤ q) s.heap H1 locs1 := ⟨Nat.le_trans hS.1 h1.1, fun q a b => (h1.2.1 q (Nat.lt_of_lt_of_le a hS.1) b).trans (hS.2.1 q a b), h1.2.2⟩
/-- a cell by its place -/
theorem zP_at {h : ZH} {a t : Nat} (P : zPt D ar (zup b B adK) B L xs s h H locs cells) (ht : h.2.1 a = t) (h1 : 1 ≤ t) (h2 : t ≤ 25) : 8 ≤ a ∧ a < h.1 ∧ zup b B adK a = B + (a - 8) ∧ va_at D zcl (zup b B adK a, zcell ar (zup b B adK) h a) H := by
  obtain ⟨hH, -, -, hw⟩ := P
  obtain ⟨g1, g2⟩ := hw.2.1 a (by omega) (by omega)
  have e : zup b B adK a = B + (a - 8) := zup_hi g1
  exact ⟨g1, g2, e, by rw [e]; exact hH.2.2 a g1 g2⟩
/-- behind a store: the small heap's store -/
theorem zP_set {h h' : ZH} {a : Nat} {ec : va_E} {H1 : Heap} {locs1 : List Loc} (P : zPt D ar (zup b B adK) B L xs s h H locs cells) (ha : 8 ≤ a) (hal : a < h.1) (hn : h'.1 = h.1) (hw : zwf L xs h') (hP : va_P D zcl ((zWd ar (zup b B adK) B h).set (a - 8) (B + (a - 8), ec)) H1) (hS : va_S (fun q => B ≤ q) H H1 locs1) (hsz : H1.size ≤ s.heap.size + cells) (hoth : ∀ k, 8 ≤ k → k < h.1 → k ≠ a → zcell ar (zup b B adK) h' k = zcell ar (zup b B adK) h k) (he : va_at D zcl (B + (a - 8), ec) H1 → va_at D zcl (B + (a - 8), zcell ar (zup b B adK) h' a) H1) : zPt D ar (zup b B adK) B L xs s h' H1 locs1 cells := by
  obtain ⟨hH, hS0, hc, hw0⟩ := P
  have hz : H1.size = H.size := by have := hS.1; omega
  exact ⟨zHR.one hH.1 hn ha hal hP (by rw [hz]; exact hH.2.1) hoth he, zS1 hS0 hS, by rw [hz]; exact hc, hw⟩
theorem zcell_ne {ar : Nat → ClassId} {up : Nat → Nat} {h h' : ZH} {k : Nat} (h1 : h'.2.1 k = h.2.1 k) (h2 : h'.2.2.1 k = h.2.2.1 k) (h3 : h'.2.2.2.1 k = h.2.2.2.1 k) (h4 : h'.2.2.2.2.1 k = h.2.2.2.2.1 k) (h5 : h'.2.2.2.2.2 k = h.2.2.2.2.2 k) : zcell ar up h' k = zcell ar up h k := by
  unfold zcell zfs
  have : ∀ ci, zfv up h' ci k = zfv up h ci k := fun ci => by
    funext j
    unfold zfv
    rw [h3, h4, h5]
  simp only [h1, h2, h3, h4, h5, this]
theorem zu_ne {α : Type} {f : Nat → Int32 → α} {a k : Nat} {i : Int32} {v : α} (h : k ≠ a) : zu f a i v k = f k := by
  funext j
  unfold zu
  rw [if_neg (fun q => h q.1)]
end ZSTEP
