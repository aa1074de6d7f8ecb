/-! CONSTRUCTORS: the reference; the start -/
def tmL : List (Nat × Nat) := [(156, 10), (157, 20), (158, 22), (159, 20), (160, 20), (161, 20), (162, 20), (163, 20), (164, 20), (165, 21), (166, 20), (167, 20), (168, 20), (169, 20), (170, 20), (171, 20), (172, 20), (173, 20), (174, 20), (175, 20), (176, 20), (177, 21)]
def lmL : List (Nat × Nat) := [(156, 0), (157, 1170), (158, 2), (159, 200), (160, 6), (161, 6), (162, 3), (163, 36), (164, 36), (165, 36), (166, 2), (167, 2), (168, 5), (169, 6), (170, 6), (171, 3), (172, 5), (173, 3), (174, 3), (175, 12), (176, 12), (177, 12)]
def rmL : List (Nat × Int32 × Nat) := [(156, 0, 157), (156, 2, 158), (156, 3, 159), (156, 6, 160), (156, 7, 161), (156, 8, 162), (156, 9, 163), (156, 10, 164), (156, 11, 165), (156, 15, 166), (156, 18, 167), (156, 19, 168), (156, 20, 169), (156, 21, 170), (156, 22, 171), (156, 23, 172), (156, 24, 173), (156, 25, 174), (156, 26, 175), (156, 27, 176), (156, 28, 177)]
def wmL : List (Nat × Int32 × Int32) := [(168, 0, 112), (168, 1, 108), (168, 2, 97), (168, 3, 105), (168, 4, 110), (169, 0, 112), (169, 1, 111), (169, 2, 112), (169, 3, 108), (169, 4, 97), (169, 5, 114), (170, 0, 112), (170, 1, 117), (170, 2, 115), (170, 3, 104), (170, 4, 101), (170, 5, 114), (171, 0, 111), (171, 1, 108), (171, 2, 100), (172, 0, 115), (172, 1, 116), (172, 2, 117), (172, 3, 109), (172, 4, 112), (173, 0, 103), (173, 1, 97), (173, 2, 112), (174, 0, 108), (174, 1, 97), (174, 2, 119)]
def MF (F : H5) : Prop := (∀ q ∈ tmL, F.1 q.1 = q.2) ∧ (∀ q ∈ lmL, F.2.1 q.1 = q.2) ∧ (∀ q ∈ rmL, F.2.2.2.2 q.1 q.2.1 = some q.2.2) ∧ (∀ q ∈ wmL, F.2.2.1 q.1 q.2.1 = q.2.2) ∧ (F.2.2.1 156 1 = 0 ∧ F.2.2.1 156 4 = 0 ∧ F.2.2.1 156 5 = 0) ∧ ((∀ k, F.2.2.1 157 k = 0) ∧ (∀ k, F.2.2.1 158 k = 0) ∧ ∀ k, F.2.2.1 163 k = 0) ∧ (F.2.2.1 162 0 = -1 ∧ F.2.2.1 162 1 = -1 ∧ F.2.2.1 162 2 = -1)
section MODEL
variable {Q : Option Value → ZH → Prop} {n a p : Nat} {tg ln : Nat → Nat} {I : Nat → Int32 → Int32} {J : Nat → Int32 → Int64} {O : Nat → Int32 → Option Nat}
set_option maxHeartbeats 4000000 in
set_option maxRecDepth 20000 in
theorem i_Model (hq : ∀ tg' ln' I' J' O', FRc 156 (tg, ln, I, J, O) (tg', ln', I', J', O') → MF (tg', ln', I', J', O') → Q none (178, tg', ln', I', J', O')) : Runs 125 0 [some (.ref 156)] [] (157, zp tg 156 10, zp ln 156 0, zp I 156 (fun _ => 0), zp J 156 (fun _ => 0), zp O 156 (fun _ => none)) Q := by
  simp (decide := true) only [s125_0, s125_0q, s125_1, s125_4, s125_4q, s125_5, s125_8, s125_10, s125_10q, s125_13, s125_13q, s125_14, s125_15, s125_17, s125_17q, s125_20, s125_20q, s125_21, s125_24, s125_26, s125_26q, s125_29, s125_29q, s125_30, s125_32, s125_34, s125_34q, s125_37, s125_37q, s125_38, s125_40, s125_42, s125_42q, s125_45, s125_45q, s125_46, s125_47, s125_49, s125_49q, s125_50, s125_51, s125_52, s125_53, s125_53q, s125_54, s125_55, s125_56, s125_57, s125_57q, s125_58, s125_59, s125_60, s125_61, s125_61q, s125_64, s125_64q, s125_65, s125_67, s125_69, s125_69q, s125_72, s125_72q, s125_73, s125_75, s125_77, s125_77q, s125_80, s125_80q, s125_81, s125_83, s125_85, s125_85q, s125_88, s125_88q, s125_89, s125_90, s125_92, s125_92q, s125_95, s125_95q, s125_96, s125_97, s125_99, s125_99q, s125_102, s125_102q, s125_103, s125_104, s125_106, s125_106q, s125_107, s125_108, s125_110, s125_111, s125_111q, s125_112, s125_113, s125_115, s125_116, s125_116q, s125_117, s125_118, s125_120, s125_121, s125_121q, s125_122, s125_123, s125_125, s125_126, s125_126q, s125_127, s125_128, s125_130, s125_131, s125_131q, s125_134, s125_134q, s125_135, s125_137, s125_139, s125_139q, s125_140, s125_141, s125_143, s125_144, s125_144q, s125_145, s125_146, s125_148, s125_149, s125_149q, s125_150, s125_151, s125_153, s125_154, s125_154q, s125_155, s125_156, s125_158, s125_159, s125_159q, s125_160, s125_161, s125_163, s125_164, s125_164q, s125_165, s125_166, s125_168, s125_169, s125_169q, s125_172, s125_172q, s125_173, s125_175, s125_177, s125_177q, s125_178, s125_179, s125_181, s125_182, s125_182q, s125_183, s125_184, s125_186, s125_187, s125_187q, s125_188, s125_189, s125_191, s125_192, s125_192q, s125_193, s125_194, s125_196, s125_197, s125_197q, s125_198, s125_199, s125_201, s125_202, s125_202q, s125_203, s125_204, s125_206, s125_207, s125_207q, s125_210, s125_210q, s125_211, s125_212, s125_214, s125_214q, s125_215, s125_216, s125_218, s125_219, s125_219q, s125_220, s125_221, s125_223, s125_224, s125_224q, s125_225, s125_226, s125_228, s125_229, s125_229q, s125_232, s125_232q, s125_233, s125_234, s125_236, s125_236q, s125_237, s125_238, s125_240, s125_241, s125_241q, s125_242, s125_243, s125_245, s125_246, s125_246q, s125_247, s125_248, s125_250, s125_251, s125_251q, s125_252, s125_253, s125_255, s125_256, s125_256q, s125_257, s125_258, s125_260, s125_261, s125_261q, s125_264, s125_264q, s125_265, s125_266, s125_268, s125_268q, s125_269, s125_270, s125_272, s125_273, s125_273q, s125_274, s125_275, s125_277, s125_278, s125_278q, s125_279, s125_280, s125_282, s125_283, s125_283q, s125_286, s125_286q, s125_287, s125_288, s125_290, s125_290q, s125_291, s125_292, s125_294, s125_295, s125_295q, s125_296, s125_297, s125_299, s125_300, s125_300q, s125_301, s125_302, s125_304, s125_305, s125_305q, s125_308, s125_308q, s125_309, s125_311, s125_313, s125_313q, s125_316, s125_316q, s125_317, s125_319, s125_321, s125_321q, s125_324, s125_324q, s125_325, s125_327, s125_329, s125_329q, s125_332, znew_eq, Nat.reduceAdd, zpN, zpA, zs_of, List.length_cons, List.length_nil, tl_some, tl_none, zrf_some, zdrop_i, zdrop_r, zdrop_q, zdrop_n, zdrop_l, i32_12, i32_1170, i32_2, i32_3, i32_5, i32_6, i32_8, i32_36, i32_200, Int32.reduceLE, Int32.reduceLT, Int32.reduceAdd, Int32.reduceSub, Int32.reduceMul, true_and, and_true, eq_self, true_or, or_true, not_true, not_false_iff, ↓reduceIte, zuo, zuA, zu_nk, zrow_at, zrow_ne]
  refine hq _ _ _ _ _ (fun c hc => ?_) ⟨?_, ?_, ?_, ?_, ⟨?_, ?_, ?_⟩, ⟨fun k => ?_, fun k => ?_, fun k => ?_⟩, ?_, ?_, ?_⟩
  · dsimp only
    refine ⟨?_, ?_, ?_, ?_, ?_⟩
    · simp (disch := omega) only [zpN]
    · simp (disch := omega) only [zpN]
    · simp (disch := omega) only [zpN, zo_ne]
    · simp (disch := omega) only [zpN]
    · simp (disch := omega) only [zpN, zo_ne]
  · dsimp only [tmL]
    simp (disch := decide) only [List.forall_mem_cons, List.not_mem_nil, false_implies, implies_true, forall_const, zpN, zpA, zo_ne, zo_at, zo_nk, and_self]
  · dsimp only [lmL]
    simp (disch := decide) only [List.forall_mem_cons, List.not_mem_nil, false_implies, implies_true, forall_const, zpN, zpA, zo_ne, zo_at, zo_nk, and_self]
  · dsimp only [rmL]
    simp (disch := decide) only [List.forall_mem_cons, List.not_mem_nil, false_implies, implies_true, forall_const, zpN, zpA, zo_ne, zo_at, zo_nk, and_self]
  · dsimp only [wmL]
    simp (disch := decide) only [List.forall_mem_cons, List.not_mem_nil, false_implies, implies_true, forall_const, zpN, zpA, zo_ne, zo_at, zo_nk, and_self]
  · dsimp only
    simp (disch := decide) only [zpN, zpA, zo_ne, zo_at, zo_nk]
  · dsimp only
    simp (disch := decide) only [zpN, zpA, zo_ne, zo_at, zo_nk]
  · dsimp only
    simp (disch := decide) only [zpN, zpA, zo_ne, zo_at, zo_nk]
  · dsimp only
    simp (disch := decide) only [zpN, zpA, zo_ne, zo_at, zo_nk]
  · dsimp only
    simp (disch := decide) only [zpN, zpA, zo_ne, zo_at, zo_nk]
  · dsimp only
    simp (disch := decide) only [zpN, zpA, zo_ne, zo_at, zo_nk]
  · dsimp only
    simp (disch := decide) only [zpN, zpA, zo_ne, zo_at, zo_nk]
  · dsimp only
    simp (disch := decide) only [zpN, zpA, zo_ne, zo_at, zo_nk]
  · dsimp only
    simp (disch := decide) only [zpN, zpA, zo_ne, zo_at, zo_nk]
/-- the start: before the law has made its two objects -/
def Z0 (L : Nat) (A : H5) : Prop := (A.1 0 = 30 ∧ A.2.1 0 = L) ∧ ∀ i, i < 7 → A.1 (i + 1) = 31 ∧ A.2.1 (i + 1) = zslen i ∧ ∀ j, j < zslen i → A.2.2.1 (i + 1) (nI j) = zsch i j
theorem tg_in : ∀ i : Fin 170, (i.val + 8, tgL.getD i.val 0) ∈ tqL ++ tmL := by decide +kernel
theorem ln_in : ∀ i : Fin 170, (i.val + 8, lnL.getD i.val 0) ∈ lqL ++ lmL := by decide +kernel
theorem rf_in : ∀ q ∈ rfL, q ∈ rqL ++ rmL := by decide +kernel
theorem rq_lt : ∀ q ∈ rqL, q.1 < 156 := by decide +kernel
theorem tq_lt : ∀ q ∈ tqL, q.1 < 156 := by decide +kernel
theorem lq_lt : ∀ q ∈ lqL, q.1 < 156 := by decide +kernel
theorem INV.new {L : Nat} {A B C : H5} (h0 : Z0 L A) (f1 : FRc 8 A B) (hQ : QF B) (f2 : FRc 156 B C) (hM : MF C) : INV 178 C.1 C.2.1 C.2.2.1 C.2.2.2.1 C.2.2.2.2 ∧ C.1 0 = 30 ∧ C.2.1 0 = L ∧ C.2.2.1 0 = A.2.2.1 0 := by
  obtain ⟨q1, q2, q3, ⟨q4, q5⟩, ⟨i39, i421, i422, i146⟩, i145, ⟨b0, b1, b2⟩, o0, o1, o2⟩ := hQ
  obtain ⟨m1, m2, m3, m4, ⟨u1, u4, u5⟩, ⟨r157, r158, r163⟩, c0, c1, c2⟩ := hM
  have S : SH C.1 C.2.1 C.2.2.2.2 := by
    refine ⟨fun i hi => ?_, fun i hi => ?_, fun i q hq => ?_⟩
    · rcases List.mem_append.mp (tg_in ⟨i, hi⟩) with h | h
      · exact (f2 _ (tq_lt _ h)).1.trans (q1 _ h)
      · exact m1 _ h
    · rcases List.mem_append.mp (ln_in ⟨i, hi⟩) with h | h
      · exact (f2 _ (lq_lt _ h)).2.1.trans (q2 _ h)
      · exact m2 _ h
    · rcases List.mem_append.mp (rf_in q (List.mem_of_getElem? hq)) with h | h
      · exact (congrFun (f2 _ (rq_lt _ h)).2.2.2.2 _).trans (q3 _ h)
      · exact m3 _ h
  have p9 := q4.fr f2 (by omega)
  have p19 := q5.fr f2 (by omega)
  have lz : ∀ p : Nat, C.2.2.1 (p + 6) 1 = 0 ∧ C.2.2.1 (p + 8) 1 = 0 → ∀ l, C.2.2.1 (lnA p l) 1 = 0 := fun p h l => by
    rcases @lnA_cases p l with e | e
    · rw [e]; exact h.1
    · rw [e]; exact h.2
  have iC : ∀ c, c < 156 → ∀ k, C.2.2.1 c k = B.2.2.1 c k := fun c hc k => congrFun (f2 c hc).2.2.1 k
  have oC : ∀ c, c < 156 → ∀ k, C.2.2.2.2 c k = B.2.2.2.2 c k := fun c hc k => congrFun (f2 c hc).2.2.2.2 k
  have ww : ∀ q ∈ wmL, C.2.2.1 q.1 q.2.1 = q.2.2 := m4
  have pp : ∀ p b, PlZ C p → PP C.2.2.1 p b := fun p b h => by
    have hz : (C.2.2.1 p 5 = 0 ∧ C.2.2.1 p 6 = 0 ∧ C.2.2.1 p 7 = 0 ∧ C.2.2.1 p 8 = 0) ∧ ∀ l, C.2.2.1 (lnA p l) 1 = 0 := ⟨h.2.1, lz p h.2.2.1⟩
    exact ⟨⟨PInv.zero hz, by rw [h.2.1.2.2.2]; decide⟩, PR.zero hz (fun j _ _ => r157 _)⟩
  have fA := fun c (hc : c < 8) => f1.trans f2 (by omega) c hc
  refine ⟨⟨⟨S, Nat.le_refl _⟩, pp 9 0 p9, pp 19 90 p19, ⟨?_, ?_, fun i i0 i1 => ?_⟩, fun k hk => ?_, ⟨?_, fun k k0 k1 => ?_⟩, ⟨?_, fun k k0 k1 => ?_⟩, fun b hb => ⟨?_, fun i i0 i1 => Or.inl ⟨?_, r163 _⟩⟩, ?_⟩, (fA 0 (by omega)).1.trans h0.1.1, (fA 0 (by omega)).2.1.trans h0.1.2, (fA 0 (by omega)).2.2.1⟩
  · rw [u1, iC 42 (by omega), i422]; decide
  · rw [iC 42 (by omega), i421]; decide
  · rw [u1] at i1
    exact (no_lt0 i0 i1).elim
  · rw [iC 145 (by omega), i145, r158]
    exact ⟨rfl, Or.inl rfl, fun z => absurd z (by decide)⟩
  · rw [u4, iC 39 (by omega), i39]; decide
  · rw [u4] at k1
    exact (no_lt0 k0 k1).elim
  · rw [u5, iC 146 (by omega), i146]; decide
  · rw [u5] at k1
    exact (no_lt0 k0 k1).elim
  · rcases r3 hb with rfl | rfl | rfl
    · rw [show bgA 0 = 150 from rfl, iC 150 (by omega), b0, c0]; decide
    · rw [show bgA 1 = 152 from rfl, iC 152 (by omega), b1, c1]; decide
    · rw [show bgA 2 = 154 from rfl, iC 154 (by omega), b2, c2]; decide
  · rcases r3 hb with rfl | rfl | rfl
    · rw [show bgA 0 + 1 = 151 from rfl, oC 151 (by omega)]; exact o0 i
    · rw [show bgA 1 + 1 = 153 from rfl, oC 153 (by omega)]; exact o1 i
    · rw [show bgA 2 + 1 = 155 from rfl, oC 155 (by omega)]; exact o2 i
  · refine ⟨fun i hi => ?_, ⟨ww (168, 0, 112) (by decide), ww (168, 1, 108) (by decide), ww (168, 2, 97) (by decide), ww (168, 3, 105) (by decide), ww (168, 4, 110) (by decide)⟩, ⟨ww (169, 0, 112) (by decide), ww (169, 1, 111) (by decide), ww (169, 2, 112) (by decide), ww (169, 3, 108) (by decide), ww (169, 4, 97) (by decide), ww (169, 5, 114) (by decide)⟩, ⟨ww (170, 0, 112) (by decide), ww (170, 1, 117) (by decide), ww (170, 2, 115) (by decide), ww (170, 3, 104) (by decide), ww (170, 4, 101) (by decide), ww (170, 5, 114) (by decide)⟩, ⟨ww (171, 0, 111) (by decide), ww (171, 1, 108) (by decide), ww (171, 2, 100) (by decide)⟩, ⟨ww (172, 0, 115) (by decide), ww (172, 1, 116) (by decide), ww (172, 2, 117) (by decide), ww (172, 3, 109) (by decide), ww (172, 4, 112) (by decide)⟩, ⟨ww (173, 0, 103) (by decide), ww (173, 1, 97) (by decide), ww (173, 2, 112) (by decide)⟩, ⟨ww (174, 0, 108) (by decide), ww (174, 1, 97) (by decide), ww (174, 2, 119) (by decide)⟩⟩
    obtain ⟨a1, a2, a3⟩ := h0.2 i hi
    exact ⟨(fA (i + 1) (by omega)).1.trans a1, (fA (i + 1) (by omega)).2.1.trans a2, fun j hj => (congrFun (fA (i + 1) (by omega)).2.2.1 _).trans (a3 j hj)⟩
end MODEL
