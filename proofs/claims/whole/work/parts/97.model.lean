/-! CONSTRUCTORS: the reference; the start -/
def tmL : List (Nat × Nat) := [(166, 10), (167, 20), (168, 22), (169, 20), (170, 20), (171, 20), (172, 20), (173, 20), (174, 20), (175, 21), (176, 20), (177, 20), (178, 20), (179, 20), (180, 20), (181, 20), (182, 20), (183, 20), (184, 20), (185, 20), (186, 20), (187, 21)]
def lmL : List (Nat × Nat) := [(166, 0), (167, 1170), (168, 2), (169, 200), (170, 6), (171, 6), (172, 3), (173, 36), (174, 36), (175, 36), (176, 2), (177, 2), (178, 5), (179, 6), (180, 6), (181, 3), (182, 5), (183, 3), (184, 3), (185, 12), (186, 12), (187, 12)]
def rmL : List (Nat × Int32 × Nat) := [(166, 0, 167), (166, 2, 168), (166, 3, 169), (166, 6, 170), (166, 7, 171), (166, 8, 172), (166, 9, 173), (166, 10, 174), (166, 11, 175), (166, 15, 176), (166, 18, 177), (166, 19, 178), (166, 20, 179), (166, 21, 180), (166, 22, 181), (166, 23, 182), (166, 24, 183), (166, 25, 184), (166, 26, 185), (166, 27, 186), (166, 28, 187)]
def wmL : List (Nat × Int32 × Int32) := [(178, 0, 112), (178, 1, 108), (178, 2, 97), (178, 3, 105), (178, 4, 110), (179, 0, 112), (179, 1, 111), (179, 2, 112), (179, 3, 108), (179, 4, 97), (179, 5, 114), (180, 0, 112), (180, 1, 117), (180, 2, 115), (180, 3, 104), (180, 4, 101), (180, 5, 114), (181, 0, 111), (181, 1, 108), (181, 2, 100), (182, 0, 115), (182, 1, 116), (182, 2, 117), (182, 3, 109), (182, 4, 112), (183, 0, 103), (183, 1, 97), (183, 2, 112), (184, 0, 108), (184, 1, 97), (184, 2, 119)]
def MF (F : H5) : Prop := (∀ q ∈ tmL, F.1 q.1 = q.2) ∧ (∀ q ∈ lmL, F.2.1 q.1 = q.2) ∧ (∀ q ∈ rmL, F.2.2.2.2 q.1 q.2.1 = some q.2.2) ∧ (∀ q ∈ wmL, F.2.2.1 q.1 q.2.1 = q.2.2) ∧ (F.2.2.1 166 1 = 0 ∧ F.2.2.1 166 4 = 0 ∧ F.2.2.1 166 5 = 0) ∧ ((∀ k, F.2.2.1 167 k = 0) ∧ (∀ k, F.2.2.1 168 k = 0) ∧ ∀ k, F.2.2.1 173 k = 0) ∧ (F.2.2.1 172 0 = -1 ∧ F.2.2.1 172 1 = -1 ∧ F.2.2.1 172 2 = -1)
section MODEL
variable {Q : Option Value → ZH → Prop} {n a p : Nat} {tg ln : Nat → Nat} {I : Nat → Int32 → Int32} {J : Nat → Int32 → Int64} {O : Nat → Int32 → Option Nat}
set_option maxHeartbeats 4000000 in
set_option maxRecDepth 20000 in
theorem i_Model (hq : ∀ tg' ln' I' J' O', FRc 166 (tg, ln, I, J, O) (tg', ln', I', J', O') → MF (tg', ln', I', J', O') → Q none (188, tg', ln', I', J', O')) : Runs 126 0 [some (.ref 166)] [] (167, zp tg 166 10, zp ln 166 0, zp I 166 (fun _ => 0), zp J 166 (fun _ => 0), zp O 166 (fun _ => none)) Q := by
  simp (decide := true) only [s126_0, s126_0q, s126_1, s126_4, s126_4q, s126_5, s126_8, s126_10, s126_10q, s126_13, s126_13q, s126_14, s126_15, s126_17, s126_17q, s126_20, s126_20q, s126_21, s126_24, s126_26, s126_26q, s126_29, s126_29q, s126_30, s126_32, s126_34, s126_34q, s126_37, s126_37q, s126_38, s126_40, s126_42, s126_42q, s126_45, s126_45q, s126_46, s126_47, s126_49, s126_49q, s126_50, s126_51, s126_52, s126_53, s126_53q, s126_54, s126_55, s126_56, s126_57, s126_57q, s126_58, s126_59, s126_60, s126_61, s126_61q, s126_64, s126_64q, s126_65, s126_67, s126_69, s126_69q, s126_72, s126_72q, s126_73, s126_75, s126_77, s126_77q, s126_80, s126_80q, s126_81, s126_83, s126_85, s126_85q, s126_88, s126_88q, s126_89, s126_90, s126_92, s126_92q, s126_95, s126_95q, s126_96, s126_97, s126_99, s126_99q, s126_102, s126_102q, s126_103, s126_104, s126_106, s126_106q, s126_107, s126_108, s126_110, s126_111, s126_111q, s126_112, s126_113, s126_115, s126_116, s126_116q, s126_117, s126_118, s126_120, s126_121, s126_121q, s126_122, s126_123, s126_125, s126_126, s126_126q, s126_127, s126_128, s126_130, s126_131, s126_131q, s126_134, s126_134q, s126_135, s126_137, s126_139, s126_139q, s126_140, s126_141, s126_143, s126_144, s126_144q, s126_145, s126_146, s126_148, s126_149, s126_149q, s126_150, s126_151, s126_153, s126_154, s126_154q, s126_155, s126_156, s126_158, s126_159, s126_159q, s126_160, s126_161, s126_163, s126_164, s126_164q, s126_165, s126_166, s126_168, s126_169, s126_169q, s126_172, s126_172q, s126_173, s126_175, s126_177, s126_177q, s126_178, s126_179, s126_181, s126_182, s126_182q, s126_183, s126_184, s126_186, s126_187, s126_187q, s126_188, s126_189, s126_191, s126_192, s126_192q, s126_193, s126_194, s126_196, s126_197, s126_197q, s126_198, s126_199, s126_201, s126_202, s126_202q, s126_203, s126_204, s126_206, s126_207, s126_207q, s126_210, s126_210q, s126_211, s126_212, s126_214, s126_214q, s126_215, s126_216, s126_218, s126_219, s126_219q, s126_220, s126_221, s126_223, s126_224, s126_224q, s126_225, s126_226, s126_228, s126_229, s126_229q, s126_232, s126_232q, s126_233, s126_234, s126_236, s126_236q, s126_237, s126_238, s126_240, s126_241, s126_241q, s126_242, s126_243, s126_245, s126_246, s126_246q, s126_247, s126_248, s126_250, s126_251, s126_251q, s126_252, s126_253, s126_255, s126_256, s126_256q, s126_257, s126_258, s126_260, s126_261, s126_261q, s126_264, s126_264q, s126_265, s126_266, s126_268, s126_268q, s126_269, s126_270, s126_272, s126_273, s126_273q, s126_274, s126_275, s126_277, s126_278, s126_278q, s126_279, s126_280, s126_282, s126_283, s126_283q, s126_286, s126_286q, s126_287, s126_288, s126_290, s126_290q, s126_291, s126_292, s126_294, s126_295, s126_295q, s126_296, s126_297, s126_299, s126_300, s126_300q, s126_301, s126_302, s126_304, s126_305, s126_305q, s126_308, s126_308q, s126_309, s126_311, s126_313, s126_313q, s126_316, s126_316q, s126_317, s126_319, s126_321, s126_321q, s126_324, s126_324q, s126_325, s126_327, s126_329, s126_329q, s126_332, znew_eq, Nat.reduceAdd, zpN, zpA, zs_of, List.length_cons, List.length_nil, tl_some, tl_none, zrf_some, zdrop_i, zdrop_r, zdrop_q, zdrop_n, zdrop_l, i32_12, i32_1170, i32_2, i32_3, i32_5, i32_6, i32_8, i32_36, i32_200, Int32.reduceLE, Int32.reduceLT, Int32.reduceAdd, Int32.reduceSub, Int32.reduceMul, true_and, and_true, eq_self, true_or, or_true, not_true, not_false_iff, ↓reduceIte, zuo, zuA, zu_nk, zrow_at, zrow_ne]
  refine hq _ _ _ _ _ (fun c hc => ?_) ⟨?_, ?_, ?_, ?_, ⟨?_, ?_, ?_⟩, ⟨fun k => ?_, fun k => ?_, fun k => ?_⟩, ?_, ?_, ?_⟩
  · dsimp only
    refine ⟨?_, ?_, ?_, ?_, ?_⟩
    · simp (disch := omega) only [zpN]
    · simp (disch := omega) only [zpN]
    · simp (disch := omega) only [zpN, zo_ne]
    · simp (disch := omega) only [zpN]
    · simp (disch := omega) only [zpN, zo_ne]
  · dsimp only [tmL]
    simp (disch := decide) only [List.forall_mem_cons, List.not_mem_nil, false_implies, implies_true, forall_const, zpN, zpA, zo_ne, zo_at, zo_nk, and_self]
  · dsimp only [lmL]
    simp (disch := decide) only [List.forall_mem_cons, List.not_mem_nil, false_implies, implies_true, forall_const, zpN, zpA, zo_ne, zo_at, zo_nk, and_self]
  · dsimp only [rmL]
    simp (disch := decide) only [List.forall_mem_cons, List.not_mem_nil, false_implies, implies_true, forall_const, zpN, zpA, zo_ne, zo_at, zo_nk, and_self]
  · dsimp only [wmL]
    simp (disch := decide) only [List.forall_mem_cons, List.not_mem_nil, false_implies, implies_true, forall_const, zpN, zpA, zo_ne, zo_at, zo_nk, and_self]
  · dsimp only
    simp (disch := decide) only [zpN, zpA, zo_ne, zo_at, zo_nk]
  · dsimp only
    simp (disch := decide) only [zpN, zpA, zo_ne, zo_at, zo_nk]
  · dsimp only
    simp (disch := decide) only [zpN, zpA, zo_ne, zo_at, zo_nk]
  · dsimp only
    simp (disch := decide) only [zpN, zpA, zo_ne, zo_at, zo_nk]
  · dsimp only
    simp (disch := decide) only [zpN, zpA, zo_ne, zo_at, zo_nk]
  · dsimp only
    simp (disch := decide) only [zpN, zpA, zo_ne, zo_at, zo_nk]
  · dsimp only
    simp (disch := decide) only [zpN, zpA, zo_ne, zo_at, zo_nk]
  · dsimp only
    simp (disch := decide) only [zpN, zpA, zo_ne, zo_at, zo_nk]
  · dsimp only
    simp (disch := decide) only [zpN, zpA, zo_ne, zo_at, zo_nk]
/-- the start: before the law has made its two objects -/
def Z0 (L : Nat) (A : H5) : Prop := (A.1 0 = 30 ∧ A.2.1 0 = L) ∧ ∀ i, i < 7 → A.1 (i + 1) = 31 ∧ A.2.1 (i + 1) = zslen i ∧ ∀ j, j < zslen i → A.2.2.1 (i + 1) (nI j) = zsch i j
theorem tg_in : ∀ i : Fin 180, (i.val + 8, tgL.getD i.val 0) ∈ tqL ++ tmL := by decide +kernel
theorem ln_in : ∀ i : Fin 180, (i.val + 8, lnL.getD i.val 0) ∈ lqL ++ lmL := by decide +kernel
theorem rf_in : ∀ q ∈ rfL, q ∈ rqL ++ rmL := by decide +kernel
theorem rq_lt : ∀ q ∈ rqL, q.1 < 166 := by decide +kernel
theorem tq_lt : ∀ q ∈ tqL, q.1 < 166 := by decide +kernel
theorem lq_lt : ∀ q ∈ lqL, q.1 < 166 := by decide +kernel
theorem INV.new {L : Nat} {A B C : H5} (h0 : Z0 L A) (f1 : FRc 8 A B) (hQ : QF B) (f2 : FRc 166 B C) (hM : MF C) : INV 188 C.1 C.2.1 C.2.2.1 C.2.2.2.1 C.2.2.2.2 ∧ C.1 0 = 30 ∧ C.2.1 0 = L ∧ C.2.2.1 0 = A.2.2.1 0 := by
  obtain ⟨q1, q2, q3, ⟨q4, q5⟩, ⟨i39, i421, i422, i146⟩, i145, ⟨b0, b1, b2⟩, o0, o1, o2⟩ := hQ
  obtain ⟨m1, m2, m3, m4, ⟨u1, u4, u5⟩, ⟨r157, r158, r163⟩, c0, c1, c2⟩ := hM
  have S : SH C.1 C.2.1 C.2.2.2.2 := by
    refine ⟨fun i hi => ?_, fun i hi => ?_, fun i q hq => ?_⟩
    · rcases List.mem_append.mp (tg_in ⟨i, hi⟩) with h | h
      · exact (f2 _ (tq_lt _ h)).1.trans (q1 _ h)
      · exact m1 _ h
    · rcases List.mem_append.mp (ln_in ⟨i, hi⟩) with h | h
      · exact (f2 _ (lq_lt _ h)).2.1.trans (q2 _ h)
      · exact m2 _ h
    · rcases List.mem_append.mp (rf_in q (List.mem_of_getElem? hq)) with h | h
      · exact (congrFun (f2 _ (rq_lt _ h)).2.2.2.2 _).trans (q3 _ h)
      · exact m3 _ h
  have p9 := q4.fr f2 (by omega)
  have p19 := q5.fr f2 (by omega)
  have lz : ∀ p : Nat, C.2.2.1 (p + 6) 1 = 0 ∧ C.2.2.1 (p + 8) 1 = 0 → ∀ l, C.2.2.1 (lnA p l) 1 = 0 := fun p h l => by
    rcases @lnA_cases p l with e | e
    · rw [e]; exact h.1
    · rw [e]; exact h.2
  have iC : ∀ c, c < 166 → ∀ k, C.2.2.1 c k = B.2.2.1 c k := fun c hc k => congrFun (f2 c hc).2.2.1 k
  have oC : ∀ c, c < 166 → ∀ k, C.2.2.2.2 c k = B.2.2.2.2 c k := fun c hc k => congrFun (f2 c hc).2.2.2.2 k
  have ww : ∀ q ∈ wmL, C.2.2.1 q.1 q.2.1 = q.2.2 := m4
  have pp : ∀ p b, PlZ C p → PP C.2.2.1 p b := fun p b h => by
    have hz : (C.2.2.1 p 5 = 0 ∧ C.2.2.1 p 6 = 0 ∧ C.2.2.1 p 7 = 0 ∧ C.2.2.1 p 8 = 0) ∧ ∀ l, C.2.2.1 (lnA p l) 1 = 0 := ⟨h.2.1, lz p h.2.2.1⟩
    exact ⟨⟨PInv.zero hz, by rw [h.2.1.2.2.2]; decide⟩, PR.zero hz (fun j _ _ => r157 _)⟩
  have fA := fun c (hc : c < 8) => f1.trans f2 (by omega) c hc
  refine ⟨⟨⟨S, Nat.le_refl _⟩, pp 9 0 p9, pp 32 90 p19, ⟨?_, ?_, fun i i0 i1 => ?_⟩, fun k hk => ?_, ⟨?_, fun k k0 k1 => ?_⟩, ⟨?_, fun k k0 k1 => ?_⟩, fun b hb => ⟨?_, fun i i0 i1 => Or.inl ⟨?_, r163 _⟩⟩, ?_⟩, (fA 0 (by omega)).1.trans h0.1.1, (fA 0 (by omega)).2.1.trans h0.1.2, (fA 0 (by omega)).2.2.1⟩
  · rw [u1, iC 52 (by omega), i422]; decide
  · rw [iC 52 (by omega), i421]; decide
  · rw [u1] at i1
    exact (no_lt0 i0 i1).elim
  · rw [iC 155 (by omega), i145, r158]
    exact ⟨rfl, Or.inl rfl, fun z => absurd z (by decide)⟩
  · rw [u4, iC 30 (by omega), i39]; decide
  · rw [u4] at k1
    exact (no_lt0 k0 k1).elim
  · rw [u5, iC 156 (by omega), i146]; decide
  · rw [u5] at k1
    exact (no_lt0 k0 k1).elim
  · rcases r3 hb with rfl | rfl | rfl
    · rw [show bgA 0 = 160 from rfl, iC 160 (by omega), b0, c0]; decide
    · rw [show bgA 1 = 162 from rfl, iC 162 (by omega), b1, c1]; decide
    · rw [show bgA 2 = 164 from rfl, iC 164 (by omega), b2, c2]; decide
  · rcases r3 hb with rfl | rfl | rfl
    · rw [show bgA 0 + 1 = 161 from rfl, oC 161 (by omega)]; exact o0 i
    · rw [show bgA 1 + 1 = 163 from rfl, oC 163 (by omega)]; exact o1 i
    · rw [show bgA 2 + 1 = 165 from rfl, oC 165 (by omega)]; exact o2 i
  · refine ⟨fun i hi => ?_, ⟨ww (178, 0, 112) (by decide), ww (178, 1, 108) (by decide), ww (178, 2, 97) (by decide), ww (178, 3, 105) (by decide), ww (178, 4, 110) (by decide)⟩, ⟨ww (179, 0, 112) (by decide), ww (179, 1, 111) (by decide), ww (179, 2, 112) (by decide), ww (179, 3, 108) (by decide), ww (179, 4, 97) (by decide), ww (179, 5, 114) (by decide)⟩, ⟨ww (180, 0, 112) (by decide), ww (180, 1, 117) (by decide), ww (180, 2, 115) (by decide), ww (180, 3, 104) (by decide), ww (180, 4, 101) (by decide), ww (180, 5, 114) (by decide)⟩, ⟨ww (181, 0, 111) (by decide), ww (181, 1, 108) (by decide), ww (181, 2, 100) (by decide)⟩, ⟨ww (182, 0, 115) (by decide), ww (182, 1, 116) (by decide), ww (182, 2, 117) (by decide), ww (182, 3, 109) (by decide), ww (182, 4, 112) (by decide)⟩, ⟨ww (183, 0, 103) (by decide), ww (183, 1, 97) (by decide), ww (183, 2, 112) (by decide)⟩, ⟨ww (184, 0, 108) (by decide), ww (184, 1, 97) (by decide), ww (184, 2, 119) (by decide)⟩⟩
    obtain ⟨a1, a2, a3⟩ := h0.2 i hi
    exact ⟨(fA (i + 1) (by omega)).1.trans a1, (fA (i + 1) (by omega)).2.1.trans a2, fun j hj => (congrFun (fA (i + 1) (by omega)).2.2.1 _).trans (a3 j hj)⟩
end MODEL
