/-! the two members of String, over the seven texts -/
section ZSIMS
variable {p : Program} {l : Launch} {e : Env} {R : Room} {s : State} {m : MethodId} {args : Array Value} {below : List Frame} {meth : Method} {c : Code} {H : Heap} {locs : List Loc} {cells slots : Nat} {Q : State → Prop}
variable {D : va_G} {ar : Nat → ClassId} {B b L : Nat} {xs : Nat → Int32} {adK adV : Nat → Nat}
theorem zstep_str {mi pc pc' len i : Nat} {ls ls' : List (Option Value)} {st st' : List Value} {h h' : ZH} {lsJ : Array Slot} (C : zCx p R s m args meth c D ar B b L xs adK adV mi) (hz : zC mi pc = some (.invokevirtual i, len)) (ha : zact mi pc (.invokevirtual i) ls st h = some (pc', ls', st', h')) (P : zPt D ar (zup b B adK) B L xs s h H locs cells) (hl : zLR (zup b B adK) ls lsJ c.maxLocals) (kk : ∀ H' locs' lsJ', zPt D ar (zup b B adK) B L xs s h' H' locs' (cells + (h'.1 - h.1)) → zLR (zup b B adK) ls' lsJ' c.maxLocals → W p l e R s m args below meth c H' locs' (cells + (h'.1 - h.1)) (slots + 4096 * (h'.1 - h.1)) Q (F0 m pc' lsJ' (st'.map (zV (zup b B adK))))) : W p l e R s m args below meth c H locs cells slots Q (F0 m pc lsJ (st.map (zV (zup b B adK)))) := by
  sorry
end ZSIMS
