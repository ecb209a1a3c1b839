section
variable {nt : Nat} {e : Nat → Nat} {TK TO K O b W M K2 O2 ab as pt W2 M2 : Nat → Int32}
theorem cc_cong (h : tr_T (gs_o nt TK) e) (he : e 0 = nt) (hX : ∀ j, j < nt → K j = TK j ∧ O j = TO j ∧ b j = nI (e j) ∧ W j = gs_ow K e j ∧ M j = cm_m K O e j)
    (hY : ∀ j, j < nt → K2 j = TK j ∧ O2 j = TO j ∧ W2 j = gs_ow K2 e j ∧ M2 j = cm_m K2 O2 e j) :
    tr_T (gs_o nt K) e ∧ ∀ j, j < nt → K2 j = K j ∧ O2 j = O j ∧ W2 j = W j ∧ M2 j = M j ∧ gs_il K2 e j = gs_il K e j ∧ gs_ow K2 e j = gs_ow K e j := by
  have h' : tr_T (gs_o nt K) e := by rw [cc_o (fun j hj => (hX j hj).1)]; exact h
  have hK : ∀ j, j < nt → K2 j = K j := fun j hj => by rw [(hX j hj).1, (hY j hj).1]
  have hO : ∀ j, j < nt → O2 j = O j := fun j hj => by rw [(hX j hj).2.1, (hY j hj).2.1]
  refine ⟨h', fun j hj => ⟨hK j hj, hO j hj, ?_, ?_, (cc_all hK h' he j hj).2.1, (cc_all hK h' he j hj).2.2⟩⟩
  · rw [(hY j hj).2.2.1, (hX j hj).2.2.2.1, (cc_all hK h' he j hj).2.2]
  · rw [(hY j hj).2.2.2, (hX j hj).2.2.2.2, cc_m hK hO h' he j hj]
theorem cc_U {j : Nat} (h1 : K2 j = K j) (h2 : M2 j = M j) : cm_U K2 M2 j ↔ cm_U K M j := by
  unfold cm_U
  rw [h1, h2]
theorem cc_O {j : Nat} {il il2 : Nat → Bool} (h1 : K2 j = K j) (h2 : W2 j = W j) (h3 : il2 j = il j) : cm_O K2 W2 il2 j ↔ cm_O K W il j := by
  unfold cm_O
  rw [h1, h2, h3]
theorem cc_first {P Q : Nat → Prop} (hPQ : ∀ j, j < nt → (P j ↔ Q j)) {i i2 : Nat} (hi : i < nt) (hi2 : i2 < nt) (h1 : Q i) (h2 : ∀ j, j < i → ¬ Q j) (h3 : P i2) (h4 : ∀ j, j < i2 → ¬ P j) : i2 = i := by
  by_cases a : i2 < i
  · exact absurd ((hPQ i2 hi2).mp h3) (h2 i2 a)
  · by_cases c : i < i2
    · exact absurd ((hPQ i hi).mpr h1) (h4 i c)
    · omega
theorem cc_T {g0 g1 : Nat → Int32} (hnt : nt ≤ 48) (hkd : ∀ i, i < nt → ∃ k, k < 27 ∧ TK i = nI k) (h : tr_T (gs_o nt TK) e) (he : e 0 = nt) (hX : ∀ j, j < nt → K j = TK j ∧ O j = TO j ∧ b j = nI (e j) ∧ W j = gs_ow K e j ∧ M j = cm_m K O e j)
    (hY : ∀ j, j < nt → K2 j = TK j ∧ O2 j = TO j ∧ W2 j = gs_ow K2 e j ∧ M2 j = cm_m K2 O2 e j) (hI : cy_I nt K2 e nt ab as pt) (nU : ∀ j, j < nt → ¬ cm_U K M j) (nO : ∀ j, j < nt → ¬ cm_O K W (gs_il K e) j) :
    il_T nt K O b W M (cm_g K (gs_ow K e) g0 nt) K2 O2 ab pt M2 W2 (cm_g K2 (gs_ow K2 e) g1 nt) := by
  obtain ⟨h', cg⟩ := cc_cong h he hX hY
  have hn0 : 0 < nt := by have := h.2 0; omega
  have hOW := cm_ow h' he
  have hmn : ∀ i, i < nt → M i = -1 ∨ ∃ b, b ∈ gs_sc K e i ∧ M i = nI b := by
    intro i hi
    rw [(hX i hi).2.2.2.2]
    unfold cm_m
    split
    · exact cm_fb1 O (O i) (gs_sc K e i)
    · exact Or.inl rfl
  refine ⟨(nt, K, gs_o nt K, e, gs_sc K e, gs_il K e, gs_ow K e, M, cm_g K (gs_ow K e) g0 nt, O), gs_make h' he hnt ?_ ?_ ?_ ?_ ?_, ⟨gs_o3 nt K, ?_, hmn, ?_⟩, rfl, rfl, rfl, rfl, rfl, fun i hi => (hX i hi).2.2.1, fun i hi => (hX i hi).2.2.2.1, ?_, ?_, ?_, hI.1 hn0, fun i h1 h2 => (hI.2.1 i h1 h2).1⟩
  · intro i hi
    rw [(hX i hi).1]
    exact hkd i hi
  · intro i hi c
    rcases hmn i hi with q | q
    · exact absurd ⟨c, q⟩ (nU i hi)
    · exact q
  · intro i hi c
    cases q : gs_il K e i
    · exact absurd (Or.inr ⟨c, q⟩) (nO i hi)
    · rfl
  · intro i hi c
    rcases hOW i hi with q | ⟨f, hf, q, _⟩
    · exact absurd (Or.inl ⟨c, by rw [(hX i hi).2.2.2.1]; exact q⟩) (nO i hi)
    · exact ⟨f, by omega, q, cm_gy hnt hOW hi c q hf⟩
  · intro i hi
    exact (cm_g01 hnt hOW nt (Nat.le_refl _) i hi).1
  · intro i hi
    exact (cm_g01 hnt hOW nt (Nat.le_refl _) i hi).2
  · intro i hi b hb
    exact gs_scm h' (gs_o3 nt K) i (by rw [he]; exact hi) b hb
  · intro i hi
    have c := cg i hi
    refine ⟨c.1, c.2.1, c.2.2.2.1, ?_⟩
    show cm_g K2 (gs_ow K2 e) g1 nt i = cm_g K (gs_ow K e) g0 nt i
    rw [cm_gc (K := K2) (K' := K) (w := gs_ow K2 e) (w' := gs_ow K e) nt (fun j hj => ⟨(cg j hj).1, (cg j hj).2.2.2.2.2⟩)]
    exact cm_ge nt i hi
  · intro i j hi hj
    have hj2 : j < gs_o nt K i := hj
    have hin := tr_cin h' hj2
    have hne := tr_nest h' _ 0 i (Nat.le_refl _) (by omega) (by rw [he]; exact hi)
    have hj3 : j < gs_o nt K2 i := by
      rw [gs_oi nt K2 i hi, (cg i hi).1, ← gs_oi nt K i hi]
      exact hj2
    exact (hI.2.2 i j hi hj3).1 (by omega)
  · intro i hi
    show W2 i = gs_ow K e i
    rw [(cg i hi).2.2.1]
    exact (hX i hi).2.2.2.1
end
theorem i_vc_compile {k : Nat} {u : SX} {v : SY} (I : i_Rel k u v) (hk : k + 3 ≤ 1536) : wpX_compile (fun r u' => wpY_compile (fun r' v' => r' = r ∧ i_Rel (k + 3) u' v') v) u := by
  obtain ⟨f_tokenCount, f_scriptSize, f_saidPlace, f_activationCount, f_variableCount, f_functionCount, f_generatorCount, f_ending, f_valueSort, f_valueNumber, f_noteCount, f_stepCount, f_latestRun, a_tokenKinds, a_tokenOperands, a_kinds, a_operands, a_parents, a_behind, a_ownFns, a_meanings, a_generatorFns, a_frameTokens, a_frameStages, a_frameScopes, a_keptEndings, a_keptSorts, a_keptNumbers, a_frameCounts, a_activeSlots, a_variableBinders, a_variableOuters, a_variableSorts, a_variableNumbers, a_functionTokens, a_functionScopes, a_generatorStates, a_noteSorts, a_noteNumbers⟩ := u
  obtain ⟨f_drafted, f_length, f_place, f_there, f_chains, f_functions, f_generators, f_active, f_begins, f_token, f_chain, f_how, f_sort, f_value, f_steps, f_endSort, f_status, f_endNumber, f_over, f_noted, a_draftKind, a_draftWith, a_kind, a_with, a_above, a_as, a_part, a_open, a_means, a_own, a_yields, a_binder, a_outer, a_holdsSort, a_holds, a_fnToken, a_fnChain, a_state, a_gBody, a_gChain, a_gYield, a_closing, a_rowOf, a_many, a_wToken, a_wOperand, a_wChain, a_wSort, a_wHow, a_wValue, a_noteSort, a_noteNumber⟩ := v
  have I0 : il_R (f_tokenCount, f_scriptSize, f_saidPlace, f_activationCount, f_variableCount, f_functionCount, f_generatorCount, f_ending, f_valueSort, f_valueNumber, f_noteCount, f_stepCount, f_latestRun, a_tokenKinds, a_tokenOperands, a_kinds, a_operands, a_parents, a_behind, a_ownFns, a_meanings, a_generatorFns, a_frameTokens, a_frameStages, a_frameScopes, a_keptEndings, a_keptSorts, a_keptNumbers, a_frameCounts, a_activeSlots, a_variableBinders, a_variableOuters, a_variableSorts, a_variableNumbers, a_functionTokens, a_functionScopes, a_generatorStates, a_noteSorts, a_noteNumbers) (f_drafted, f_length, f_place, f_there, f_chains, f_functions, f_generators, f_active, f_begins, f_token, f_chain, f_how, f_sort, f_value, f_steps, f_endSort, f_status, f_endNumber, f_over, f_noted, a_draftKind, a_draftWith, a_kind, a_with, a_above, a_as, a_part, a_open, a_means, a_own, a_yields, a_binder, a_outer, a_holdsSort, a_holds, a_fnToken, a_fnChain, a_state, a_gBody, a_gChain, a_gYield, a_closing, a_rowOf, a_many, a_wToken, a_wOperand, a_wChain, a_wSort, a_wHow, a_wValue, a_noteSort, a_noteNumber) := I
  obtain ⟨⟨nt, hnt, rfl, rfl, hkd⟩, rfl, rfl, rfl, hT, ⟨rfl, rfl, rfl, rfl, rfl, rfl⟩, ⟨rfl, rfl, rfl, rfl⟩, ⟨gc, hgc, rfl, rfl, hG⟩, hE⟩ := I
  obtain ⟨e, h⟩ := tr_ex (gs_o nt a_draftKind) nt (gs_o0 nt a_draftKind)
  have hE0 : il_E (-1) f_valueSort f_valueNumber a_fnToken (-1) 0 := Or.inl ⟨⟨by decide, by decide⟩, rfl, rfl⟩
  have hG0 : ∃ gc, gc ≤ 8 ∧ (0 : Int32) = nI gc ∧ (0 : Int32) = nI gc ∧ il_G gc a_generatorStates a_frameTokens a_frameCounts a_state a_closing a_gYield := ⟨0, by decide, rfl, rfl, fun g hg => absurd hg (Nat.not_lt_zero _)⟩
  refine cc_X hnt rfl hkd h (fun ne => ?_) (fun he K O P b W M hX => ⟨fun i hi hU hmin => ?_, fun nU => ⟨fun i hi hO hmin => ?_, fun nO => ?_⟩⟩)
  · refine cc_Y hnt rfl hkd h (fun _ K O ab as pt op => ⟨rfl, ?_⟩) (fun z => absurd z ne)
    exact ⟨⟨nt, hnt, rfl, rfl, hkd⟩, rfl, rfl, rfl, Or.inl ⟨rfl, rfl⟩, ⟨rfl, rfl, rfl, rfl, rfl, rfl⟩, ⟨rfl, rfl, rfl, rfl⟩, hG0, hE0⟩
  · refine cc_Y hnt rfl hkd h (fun z => absurd he z) (fun _ K2 O2 ab as pt op W2 M2 hY hI => ?_)
    obtain ⟨h', cg⟩ := cc_cong h he hX hY
    have iff := fun j (hj : j < nt) => cc_U (cg j hj).1 (cg j hj).2.2.2.1
    refine ⟨fun i2 hi2 hU2 hmin2 => ?_, fun nU2 => absurd ((iff i hi).mpr hU) (nU2 i hi)⟩
    have e2 := cc_first (nt := nt) iff hi hi2 hU hmin hU2 hmin2
    subst e2
    exact ⟨rfl, ⟨nt, hnt, rfl, rfl, hkd⟩, rfl, rfl, rfl, Or.inl ⟨rfl, rfl⟩, ⟨rfl, rfl, rfl, rfl, rfl, rfl⟩, ⟨rfl, rfl, rfl, rfl⟩, hG0, hE0⟩
  · refine cc_Y hnt rfl hkd h (fun z => absurd he z) (fun _ K2 O2 ab as pt op W2 M2 hY hI => ?_)
    obtain ⟨h', cg⟩ := cc_cong h he hX hY
    have iffU := fun j (hj : j < nt) => cc_U (cg j hj).1 (cg j hj).2.2.2.1
    have iff := fun j (hj : j < nt) => cc_O (il := gs_il K e) (il2 := gs_il K2 e) (cg j hj).1 (cg j hj).2.2.1 (cg j hj).2.2.2.2.1
    refine ⟨fun i2 hi2 hU2 hmin2 => absurd ((iffU i2 hi2).mp hU2) (nU i2 hi2), fun nU2 => ⟨fun i2 hi2 hO2 hmin2 => ?_, fun nO2 => absurd ((iff i hi).mpr hO) (nO2 i hi)⟩⟩
    have e2 := cc_first (nt := nt) iff hi hi2 hO hmin hO2 hmin2
    subst e2
    exact ⟨rfl, ⟨nt, hnt, rfl, rfl, hkd⟩, rfl, rfl, rfl, Or.inl ⟨rfl, rfl⟩, ⟨rfl, rfl, rfl, rfl, rfl, rfl⟩, ⟨rfl, rfl, rfl, rfl⟩, hG0, hE0⟩
  · refine cc_Y hnt rfl hkd h (fun z => absurd he z) (fun _ K2 O2 ab as pt op W2 M2 hY hI => ?_)
    obtain ⟨h', cg⟩ := cc_cong h he hX hY
    have iffU := fun j (hj : j < nt) => cc_U (cg j hj).1 (cg j hj).2.2.2.1
    have iff := fun j (hj : j < nt) => cc_O (il := gs_il K e) (il2 := gs_il K2 e) (cg j hj).1 (cg j hj).2.2.1 (cg j hj).2.2.2.2.1
    refine ⟨fun i2 hi2 hU2 hmin2 => absurd ((iffU i2 hi2).mp hU2) (nU i2 hi2), fun nU2 => ⟨fun i2 hi2 hO2 hmin2 => absurd ((iff i2 hi2).mp hO2) (nO i2 hi2), fun nO2 => ?_⟩⟩
    have hn0 : 0 < nt := by have := h.2 0; omega
    exact ⟨rfl, ⟨nt, hnt, rfl, rfl, hkd⟩, rfl, rfl, rfl, Or.inr ⟨nt, hn0, hnt, rfl, rfl, rfl, cc_T hnt hkd h he hX hY hI nU nO⟩, ⟨rfl, rfl, rfl, rfl, rfl, rfl⟩, ⟨rfl, rfl, rfl, rfl⟩, hG0, hE0⟩
