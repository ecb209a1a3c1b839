section
variable {f_tokenCount f_scriptSize f_saidPlace f_activationCount f_variableCount f_functionCount f_generatorCount f_ending f_valueSort : Int32} {f_valueNumber : Int64} {f_noteCount f_stepCount f_latestRun : Int32} {a_tokenKinds a_tokenOperands a_kinds a_operands a_parents a_behind a_ownFns a_meanings a_generatorFns a_frameTokens a_frameStages a_frameScopes a_keptEndings a_keptSorts : Nat → Int32} {a_keptNumbers : Nat → Int64} {a_frameCounts a_activeSlots a_variableBinders a_variableOuters a_variableSorts : Nat → Int32} {a_variableNumbers : Nat → Int64} {a_functionTokens a_functionScopes a_generatorStates a_noteSorts : Nat → Int32} {a_noteNumbers : Nat → Int64}
theorem il_num {post : Int64 → Prop} {en : Int64} (e3 : f_valueSort = 3 → ∃ i, i < 600 ∧ f_valueNumber = lN i ∧ (a_functionTokens i).toInt64 = en) (e4 : ¬ f_valueSort = 3 → f_valueNumber = en) (h : post en) : wpX_shownNumber post (f_tokenCount, f_scriptSize, f_saidPlace, f_activationCount, f_variableCount, f_functionCount, f_generatorCount, f_ending, f_valueSort, f_valueNumber, f_noteCount, f_stepCount, f_latestRun, a_tokenKinds, a_tokenOperands, a_kinds, a_operands, a_parents, a_behind, a_ownFns, a_meanings, a_generatorFns, a_frameTokens, a_frameStages, a_frameScopes, a_keptEndings, a_keptSorts, a_keptNumbers, a_frameCounts, a_activeSlots, a_variableBinders, a_variableOuters, a_variableSorts, a_variableNumbers, a_functionTokens, a_functionScopes, a_generatorStates, a_noteSorts, a_noteNumbers) := by
  refine br_c (fun y => ?_) (fun y => ?_)
  · obtain ⟨i, hi, ei, ee⟩ := e3 y
    have ev : f_valueNumber.toInt32 = nI i := by rw [ei, lN_i]
    refine ⟨by rw [ev]; exact vp_in_nI hi (by decide), ?_⟩
    rw [ev, nI_clamp (by omega), ee]
    exact h
  · rw [e4 y]
    exact h
end
theorem i_vc_place {k : Nat} {u : SX} {v : SY} (I : i_Rel k u v) (hk : k + 3 ≤ 1536) : wpX_place (fun r => wpY_place (fun r' => r' = r ∧ i_Rel (k + 3) u v) v) u := by
  obtain ⟨f_tokenCount, f_scriptSize, f_saidPlace, f_activationCount, f_variableCount, f_functionCount, f_generatorCount, f_ending, f_valueSort, f_valueNumber, f_noteCount, f_stepCount, f_latestRun, a_tokenKinds, a_tokenOperands, a_kinds, a_operands, a_parents, a_behind, a_ownFns, a_meanings, a_generatorFns, a_frameTokens, a_frameStages, a_frameScopes, a_keptEndings, a_keptSorts, a_keptNumbers, a_frameCounts, a_activeSlots, a_variableBinders, a_variableOuters, a_variableSorts, a_variableNumbers, a_functionTokens, a_functionScopes, a_generatorStates, a_noteSorts, a_noteNumbers⟩ := u
  obtain ⟨f_drafted, f_length, f_place, f_there, f_chains, f_functions, f_generators, f_active, f_begins, f_token, f_chain, f_how, f_sort, f_value, f_steps, f_endSort, f_status, f_endNumber, f_over, f_noted, a_draftKind, a_draftWith, a_kind, a_with, a_above, a_as, a_part, a_open, a_means, a_own, a_yields, a_binder, a_outer, a_holdsSort, a_holds, a_fnToken, a_fnChain, a_state, a_gBody, a_gChain, a_gYield, a_closing, a_rowOf, a_many, a_wToken, a_wOperand, a_wChain, a_wSort, a_wHow, a_wValue, a_noteSort, a_noteNumber⟩ := v
  have I0 : il_R (f_tokenCount, f_scriptSize, f_saidPlace, f_activationCount, f_variableCount, f_functionCount, f_generatorCount, f_ending, f_valueSort, f_valueNumber, f_noteCount, f_stepCount, f_latestRun, a_tokenKinds, a_tokenOperands, a_kinds, a_operands, a_parents, a_behind, a_ownFns, a_meanings, a_generatorFns, a_frameTokens, a_frameStages, a_frameScopes, a_keptEndings, a_keptSorts, a_keptNumbers, a_frameCounts, a_activeSlots, a_variableBinders, a_variableOuters, a_variableSorts, a_variableNumbers, a_functionTokens, a_functionScopes, a_generatorStates, a_noteSorts, a_noteNumbers) (f_drafted, f_length, f_place, f_there, f_chains, f_functions, f_generators, f_active, f_begins, f_token, f_chain, f_how, f_sort, f_value, f_steps, f_endSort, f_status, f_endNumber, f_over, f_noted, a_draftKind, a_draftWith, a_kind, a_with, a_above, a_as, a_part, a_open, a_means, a_own, a_yields, a_binder, a_outer, a_holdsSort, a_holds, a_fnToken, a_fnChain, a_state, a_gBody, a_gChain, a_gYield, a_closing, a_rowOf, a_many, a_wToken, a_wOperand, a_wChain, a_wSort, a_wHow, a_wValue, a_noteSort, a_noteNumber) := I
  obtain ⟨⟨nt, hnt, rfl, rfl, hkd⟩, rfl, rfl, rfl, hT, ⟨rfl, rfl, rfl, rfl, rfl, rfl⟩, ⟨rfl, rfl, rfl, rfl⟩, ⟨gc, hgc, rfl, rfl, hG⟩, hE⟩ := I
  exact ⟨rfl, I0⟩
theorem i_vc_steps {k : Nat} {u : SX} {v : SY} (I : i_Rel k u v) (hk : k + 3 ≤ 1536) : wpX_steps (fun r => wpY_steps (fun r' => r' = r ∧ i_Rel (k + 3) u v) v) u := by
  obtain ⟨f_tokenCount, f_scriptSize, f_saidPlace, f_activationCount, f_variableCount, f_functionCount, f_generatorCount, f_ending, f_valueSort, f_valueNumber, f_noteCount, f_stepCount, f_latestRun, a_tokenKinds, a_tokenOperands, a_kinds, a_operands, a_parents, a_behind, a_ownFns, a_meanings, a_generatorFns, a_frameTokens, a_frameStages, a_frameScopes, a_keptEndings, a_keptSorts, a_keptNumbers, a_frameCounts, a_activeSlots, a_variableBinders, a_variableOuters, a_variableSorts, a_variableNumbers, a_functionTokens, a_functionScopes, a_generatorStates, a_noteSorts, a_noteNumbers⟩ := u
  obtain ⟨f_drafted, f_length, f_place, f_there, f_chains, f_functions, f_generators, f_active, f_begins, f_token, f_chain, f_how, f_sort, f_value, f_steps, f_endSort, f_status, f_endNumber, f_over, f_noted, a_draftKind, a_draftWith, a_kind, a_with, a_above, a_as, a_part, a_open, a_means, a_own, a_yields, a_binder, a_outer, a_holdsSort, a_holds, a_fnToken, a_fnChain, a_state, a_gBody, a_gChain, a_gYield, a_closing, a_rowOf, a_many, a_wToken, a_wOperand, a_wChain, a_wSort, a_wHow, a_wValue, a_noteSort, a_noteNumber⟩ := v
  have I0 : il_R (f_tokenCount, f_scriptSize, f_saidPlace, f_activationCount, f_variableCount, f_functionCount, f_generatorCount, f_ending, f_valueSort, f_valueNumber, f_noteCount, f_stepCount, f_latestRun, a_tokenKinds, a_tokenOperands, a_kinds, a_operands, a_parents, a_behind, a_ownFns, a_meanings, a_generatorFns, a_frameTokens, a_frameStages, a_frameScopes, a_keptEndings, a_keptSorts, a_keptNumbers, a_frameCounts, a_activeSlots, a_variableBinders, a_variableOuters, a_variableSorts, a_variableNumbers, a_functionTokens, a_functionScopes, a_generatorStates, a_noteSorts, a_noteNumbers) (f_drafted, f_length, f_place, f_there, f_chains, f_functions, f_generators, f_active, f_begins, f_token, f_chain, f_how, f_sort, f_value, f_steps, f_endSort, f_status, f_endNumber, f_over, f_noted, a_draftKind, a_draftWith, a_kind, a_with, a_above, a_as, a_part, a_open, a_means, a_own, a_yields, a_binder, a_outer, a_holdsSort, a_holds, a_fnToken, a_fnChain, a_state, a_gBody, a_gChain, a_gYield, a_closing, a_rowOf, a_many, a_wToken, a_wOperand, a_wChain, a_wSort, a_wHow, a_wValue, a_noteSort, a_noteNumber) := I
  obtain ⟨⟨nt, hnt, rfl, rfl, hkd⟩, rfl, rfl, rfl, hT, ⟨rfl, rfl, rfl, rfl, rfl, rfl⟩, ⟨rfl, rfl, rfl, rfl⟩, ⟨gc, hgc, rfl, rfl, hG⟩, hE⟩ := I
  exact ⟨rfl, I0⟩
theorem i_vc_wipe {k : Nat} {u : SX} {v : SY} (I : i_Rel k u v) (hk : k + 3 ≤ 1536) : wpX_wipe (fun r u' => wpY_wipe (fun r' v' => r' = r ∧ i_Rel (k + 3) u' v') v) u := by
  obtain ⟨f_tokenCount, f_scriptSize, f_saidPlace, f_activationCount, f_variableCount, f_functionCount, f_generatorCount, f_ending, f_valueSort, f_valueNumber, f_noteCount, f_stepCount, f_latestRun, a_tokenKinds, a_tokenOperands, a_kinds, a_operands, a_parents, a_behind, a_ownFns, a_meanings, a_generatorFns, a_frameTokens, a_frameStages, a_frameScopes, a_keptEndings, a_keptSorts, a_keptNumbers, a_frameCounts, a_activeSlots, a_variableBinders, a_variableOuters, a_variableSorts, a_variableNumbers, a_functionTokens, a_functionScopes, a_generatorStates, a_noteSorts, a_noteNumbers⟩ := u
  obtain ⟨f_drafted, f_length, f_place, f_there, f_chains, f_functions, f_generators, f_active, f_begins, f_token, f_chain, f_how, f_sort, f_value, f_steps, f_endSort, f_status, f_endNumber, f_over, f_noted, a_draftKind, a_draftWith, a_kind, a_with, a_above, a_as, a_part, a_open, a_means, a_own, a_yields, a_binder, a_outer, a_holdsSort, a_holds, a_fnToken, a_fnChain, a_state, a_gBody, a_gChain, a_gYield, a_closing, a_rowOf, a_many, a_wToken, a_wOperand, a_wChain, a_wSort, a_wHow, a_wValue, a_noteSort, a_noteNumber⟩ := v
  have I0 : il_R (f_tokenCount, f_scriptSize, f_saidPlace, f_activationCount, f_variableCount, f_functionCount, f_generatorCount, f_ending, f_valueSort, f_valueNumber, f_noteCount, f_stepCount, f_latestRun, a_tokenKinds, a_tokenOperands, a_kinds, a_operands, a_parents, a_behind, a_ownFns, a_meanings, a_generatorFns, a_frameTokens, a_frameStages, a_frameScopes, a_keptEndings, a_keptSorts, a_keptNumbers, a_frameCounts, a_activeSlots, a_variableBinders, a_variableOuters, a_variableSorts, a_variableNumbers, a_functionTokens, a_functionScopes, a_generatorStates, a_noteSorts, a_noteNumbers) (f_drafted, f_length, f_place, f_there, f_chains, f_functions, f_generators, f_active, f_begins, f_token, f_chain, f_how, f_sort, f_value, f_steps, f_endSort, f_status, f_endNumber, f_over, f_noted, a_draftKind, a_draftWith, a_kind, a_with, a_above, a_as, a_part, a_open, a_means, a_own, a_yields, a_binder, a_outer, a_holdsSort, a_holds, a_fnToken, a_fnChain, a_state, a_gBody, a_gChain, a_gYield, a_closing, a_rowOf, a_many, a_wToken, a_wOperand, a_wChain, a_wSort, a_wHow, a_wValue, a_noteSort, a_noteNumber) := I
  obtain ⟨⟨nt, hnt, rfl, rfl, hkd⟩, rfl, rfl, rfl, hT, ⟨rfl, rfl, rfl, rfl, rfl, rfl⟩, ⟨rfl, rfl, rfl, rfl⟩, ⟨gc, hgc, rfl, rfl, hG⟩, hE⟩ := I
  exact ⟨rfl, ⟨0, by omega, rfl, rfl, fun i hi => absurd hi (Nat.not_lt_zero _)⟩, rfl, rfl, rfl, hT, ⟨rfl, rfl, rfl, rfl, rfl, rfl⟩, ⟨rfl, rfl, rfl, rfl⟩, ⟨gc, hgc, rfl, rfl, hG⟩, hE⟩
theorem i_vc_sort {k : Nat} {u : SX} {v : SY} (I : i_Rel k u v) (hk : k + 3 ≤ 1536) : wpX_sort (fun r => wpY_sort (fun r' => r' = r ∧ i_Rel (k + 3) u v) v) u := by
  obtain ⟨f_tokenCount, f_scriptSize, f_saidPlace, f_activationCount, f_variableCount, f_functionCount, f_generatorCount, f_ending, f_valueSort, f_valueNumber, f_noteCount, f_stepCount, f_latestRun, a_tokenKinds, a_tokenOperands, a_kinds, a_operands, a_parents, a_behind, a_ownFns, a_meanings, a_generatorFns, a_frameTokens, a_frameStages, a_frameScopes, a_keptEndings, a_keptSorts, a_keptNumbers, a_frameCounts, a_activeSlots, a_variableBinders, a_variableOuters, a_variableSorts, a_variableNumbers, a_functionTokens, a_functionScopes, a_generatorStates, a_noteSorts, a_noteNumbers⟩ := u
  obtain ⟨f_drafted, f_length, f_place, f_there, f_chains, f_functions, f_generators, f_active, f_begins, f_token, f_chain, f_how, f_sort, f_value, f_steps, f_endSort, f_status, f_endNumber, f_over, f_noted, a_draftKind, a_draftWith, a_kind, a_with, a_above, a_as, a_part, a_open, a_means, a_own, a_yields, a_binder, a_outer, a_holdsSort, a_holds, a_fnToken, a_fnChain, a_state, a_gBody, a_gChain, a_gYield, a_closing, a_rowOf, a_many, a_wToken, a_wOperand, a_wChain, a_wSort, a_wHow, a_wValue, a_noteSort, a_noteNumber⟩ := v
  have I0 : il_R (f_tokenCount, f_scriptSize, f_saidPlace, f_activationCount, f_variableCount, f_functionCount, f_generatorCount, f_ending, f_valueSort, f_valueNumber, f_noteCount, f_stepCount, f_latestRun, a_tokenKinds, a_tokenOperands, a_kinds, a_operands, a_parents, a_behind, a_ownFns, a_meanings, a_generatorFns, a_frameTokens, a_frameStages, a_frameScopes, a_keptEndings, a_keptSorts, a_keptNumbers, a_frameCounts, a_activeSlots, a_variableBinders, a_variableOuters, a_variableSorts, a_variableNumbers, a_functionTokens, a_functionScopes, a_generatorStates, a_noteSorts, a_noteNumbers) (f_drafted, f_length, f_place, f_there, f_chains, f_functions, f_generators, f_active, f_begins, f_token, f_chain, f_how, f_sort, f_value, f_steps, f_endSort, f_status, f_endNumber, f_over, f_noted, a_draftKind, a_draftWith, a_kind, a_with, a_above, a_as, a_part, a_open, a_means, a_own, a_yields, a_binder, a_outer, a_holdsSort, a_holds, a_fnToken, a_fnChain, a_state, a_gBody, a_gChain, a_gYield, a_closing, a_rowOf, a_many, a_wToken, a_wOperand, a_wChain, a_wSort, a_wHow, a_wValue, a_noteSort, a_noteNumber) := I
  obtain ⟨⟨nt, hnt, rfl, rfl, hkd⟩, rfl, rfl, rfl, hT, ⟨rfl, rfl, rfl, rfl, rfl, rfl⟩, ⟨rfl, rfl, rfl, rfl⟩, ⟨gc, hgc, rfl, rfl, hG⟩, hE⟩ := I
  rcases hE with ⟨⟨n0, n1⟩, e1, e2⟩ | ⟨c, e1, _⟩
  · exact br_f n0 (br_f n1 ⟨e1, I0⟩)
  · refine br_c (fun _ => ⟨e1.symm, I0⟩) (fun z => br_t ?_ ⟨e1.symm, I0⟩)
    rcases c with c | c
    · exact absurd c z
    · exact c
theorem i_vc_number {k : Nat} {u : SX} {v : SY} (I : i_Rel k u v) (hk : k + 3 ≤ 1536) : wpX_number (fun r => wpY_number (fun r' => r' = r ∧ i_Rel (k + 3) u v) v) u := by
  obtain ⟨f_tokenCount, f_scriptSize, f_saidPlace, f_activationCount, f_variableCount, f_functionCount, f_generatorCount, f_ending, f_valueSort, f_valueNumber, f_noteCount, f_stepCount, f_latestRun, a_tokenKinds, a_tokenOperands, a_kinds, a_operands, a_parents, a_behind, a_ownFns, a_meanings, a_generatorFns, a_frameTokens, a_frameStages, a_frameScopes, a_keptEndings, a_keptSorts, a_keptNumbers, a_frameCounts, a_activeSlots, a_variableBinders, a_variableOuters, a_variableSorts, a_variableNumbers, a_functionTokens, a_functionScopes, a_generatorStates, a_noteSorts, a_noteNumbers⟩ := u
  obtain ⟨f_drafted, f_length, f_place, f_there, f_chains, f_functions, f_generators, f_active, f_begins, f_token, f_chain, f_how, f_sort, f_value, f_steps, f_endSort, f_status, f_endNumber, f_over, f_noted, a_draftKind, a_draftWith, a_kind, a_with, a_above, a_as, a_part, a_open, a_means, a_own, a_yields, a_binder, a_outer, a_holdsSort, a_holds, a_fnToken, a_fnChain, a_state, a_gBody, a_gChain, a_gYield, a_closing, a_rowOf, a_many, a_wToken, a_wOperand, a_wChain, a_wSort, a_wHow, a_wValue, a_noteSort, a_noteNumber⟩ := v
  have I0 : il_R (f_tokenCount, f_scriptSize, f_saidPlace, f_activationCount, f_variableCount, f_functionCount, f_generatorCount, f_ending, f_valueSort, f_valueNumber, f_noteCount, f_stepCount, f_latestRun, a_tokenKinds, a_tokenOperands, a_kinds, a_operands, a_parents, a_behind, a_ownFns, a_meanings, a_generatorFns, a_frameTokens, a_frameStages, a_frameScopes, a_keptEndings, a_keptSorts, a_keptNumbers, a_frameCounts, a_activeSlots, a_variableBinders, a_variableOuters, a_variableSorts, a_variableNumbers, a_functionTokens, a_functionScopes, a_generatorStates, a_noteSorts, a_noteNumbers) (f_drafted, f_length, f_place, f_there, f_chains, f_functions, f_generators, f_active, f_begins, f_token, f_chain, f_how, f_sort, f_value, f_steps, f_endSort, f_status, f_endNumber, f_over, f_noted, a_draftKind, a_draftWith, a_kind, a_with, a_above, a_as, a_part, a_open, a_means, a_own, a_yields, a_binder, a_outer, a_holdsSort, a_holds, a_fnToken, a_fnChain, a_state, a_gBody, a_gChain, a_gYield, a_closing, a_rowOf, a_many, a_wToken, a_wOperand, a_wChain, a_wSort, a_wHow, a_wValue, a_noteSort, a_noteNumber) := I
  obtain ⟨⟨nt, hnt, rfl, rfl, hkd⟩, rfl, rfl, rfl, hT, ⟨rfl, rfl, rfl, rfl, rfl, rfl⟩, ⟨rfl, rfl, rfl, rfl⟩, ⟨gc, hgc, rfl, rfl, hG⟩, hE⟩ := I
  rcases hE with ⟨⟨n0, n1⟩, e1, e2⟩ | ⟨c, e1, e3, e4⟩
  · exact br_f n0 (br_f n1 ⟨e2, I0⟩)
  · refine br_c (fun _ => ?_) (fun z => br_t ?_ ?_)
    · exact il_num e3 e4 ⟨rfl, I0⟩
    · rcases c with c | c
      · exact absurd c z
      · exact c
    · exact il_num e3 e4 ⟨rfl, I0⟩
theorem i_vc_host {k : Nat} {u : SX} {v : SY} (I : i_Rel k u v) (hk : k + 3 ≤ 1536) (v1 : Int32) (v2 : Int32) : wpX_host (fun r => wpY_host (fun r' => r' = r ∧ i_Rel (k + 3) u v) v v1 v2) u v1 v2 := by
  obtain ⟨f_tokenCount, f_scriptSize, f_saidPlace, f_activationCount, f_variableCount, f_functionCount, f_generatorCount, f_ending, f_valueSort, f_valueNumber, f_noteCount, f_stepCount, f_latestRun, a_tokenKinds, a_tokenOperands, a_kinds, a_operands, a_parents, a_behind, a_ownFns, a_meanings, a_generatorFns, a_frameTokens, a_frameStages, a_frameScopes, a_keptEndings, a_keptSorts, a_keptNumbers, a_frameCounts, a_activeSlots, a_variableBinders, a_variableOuters, a_variableSorts, a_variableNumbers, a_functionTokens, a_functionScopes, a_generatorStates, a_noteSorts, a_noteNumbers⟩ := u
  obtain ⟨f_drafted, f_length, f_place, f_there, f_chains, f_functions, f_generators, f_active, f_begins, f_token, f_chain, f_how, f_sort, f_value, f_steps, f_endSort, f_status, f_endNumber, f_over, f_noted, a_draftKind, a_draftWith, a_kind, a_with, a_above, a_as, a_part, a_open, a_means, a_own, a_yields, a_binder, a_outer, a_holdsSort, a_holds, a_fnToken, a_fnChain, a_state, a_gBody, a_gChain, a_gYield, a_closing, a_rowOf, a_many, a_wToken, a_wOperand, a_wChain, a_wSort, a_wHow, a_wValue, a_noteSort, a_noteNumber⟩ := v
  have I0 : il_R (f_tokenCount, f_scriptSize, f_saidPlace, f_activationCount, f_variableCount, f_functionCount, f_generatorCount, f_ending, f_valueSort, f_valueNumber, f_noteCount, f_stepCount, f_latestRun, a_tokenKinds, a_tokenOperands, a_kinds, a_operands, a_parents, a_behind, a_ownFns, a_meanings, a_generatorFns, a_frameTokens, a_frameStages, a_frameScopes, a_keptEndings, a_keptSorts, a_keptNumbers, a_frameCounts, a_activeSlots, a_variableBinders, a_variableOuters, a_variableSorts, a_variableNumbers, a_functionTokens, a_functionScopes, a_generatorStates, a_noteSorts, a_noteNumbers) (f_drafted, f_length, f_place, f_there, f_chains, f_functions, f_generators, f_active, f_begins, f_token, f_chain, f_how, f_sort, f_value, f_steps, f_endSort, f_status, f_endNumber, f_over, f_noted, a_draftKind, a_draftWith, a_kind, a_with, a_above, a_as, a_part, a_open, a_means, a_own, a_yields, a_binder, a_outer, a_holdsSort, a_holds, a_fnToken, a_fnChain, a_state, a_gBody, a_gChain, a_gYield, a_closing, a_rowOf, a_many, a_wToken, a_wOperand, a_wChain, a_wSort, a_wHow, a_wValue, a_noteSort, a_noteNumber) := I
  obtain ⟨⟨nt, hnt, rfl, rfl, hkd⟩, rfl, rfl, rfl, hT, ⟨rfl, rfl, rfl, rfl, rfl, rfl⟩, ⟨rfl, rfl, rfl, rfl⟩, ⟨gc, hgc, rfl, rfl, hG⟩, hE⟩ := I
  by_cases c1 : v1 = -1
  · exact br_t c1 (br_t c1 ⟨rfl, I0⟩)
  · by_cases c2 : v1 < 0
    · exact br_f c1 (br_t c2 (br_f c1 (br_t c2 ⟨rfl, I0⟩)))
    · obtain ⟨j, hj, rfl⟩ := nI_of c2
      refine br_f c1 (br_f c2 (br_c (fun c3 => br_f c1 (br_f c2 (br_t c3 ⟨rfl, I0⟩))) (fun c3 => ?_)))
      by_cases c4 : j < 40
      · have d4 : nI j < 40 := nI_lt (b := 40) c4 (by decide)
        have d5 : ¬ (39 : Int32) < nI j := nI_nlt (a := 39) (by omega) (by decide)
        have i4 : vp_in (nI j) 40 := vp_in_nI c4 (by decide)
        refine br_t d4 (br_c (fun c5 => ⟨i4, ?_⟩) (fun c5 => br_c (fun c6 => ⟨i4, ?_⟩) (fun c6 => ?_)))
        · subst c5
          exact br_f c1 (br_f c2 (br_f c3 (br_f d5 (br_f (by decide) (br_t (by decide) (br_t rfl ⟨i4, rfl, I0⟩))))))
        · subst c6
          exact br_f c1 (br_f c2 (br_f c3 (br_f d5 (br_f (by decide) (br_t (by decide) (br_f (by decide) ⟨i4, rfl, I0⟩))))))
        · refine br_f c1 (br_f c2 (br_f c3 (br_f d5 (br_c (fun _ => ⟨rfl, I0⟩) (fun c7 => br_f ?_ ⟨rfl, I0⟩)))))
          intro z
          obtain ⟨i, hi, rfl⟩ := nI_of2 (M := 1) (n := 1) (by decide) c7 z
          have : i = 0 ∨ i = 1 := by omega
          rcases this with rfl | rfl
          · exact c5 rfl
          · exact c6 rfl
      · exact br_f (nI_nlt (b := 40) (by omega) hj) (br_f c1 (br_f c2 (br_f c3 (br_t (nI_lt (a := 39) (by omega) hj) ⟨rfl, I0⟩))))
theorem il_in {post : Int32 → Prop} {p : Int32} {n : Nat} (hn : n < 2 ^ 31) (h0 : (∀ j, j < n → p ≠ nI j) → post 0) (h1 : ∀ j, j < n → p = nI j → post 1) : wpY_in post p (nI n) := by
  refine br_c (fun c => ?_) (fun c => ?_)
  · refine h0 (fun j hj e => ?_)
    rw [e] at c
    exact nI_pos (by omega) c
  · obtain ⟨j, hj, rfl⟩ := nI_of c
    refine br_c (fun d => ?_) (fun d => ?_)
    · refine h0 (fun i hi e => ?_)
      rw [nI_eq hj (by omega)] at e
      rw [nI_leI (by omega) hj] at d
      omega
    · rw [nI_leI (by omega) hj] at d
      exact h1 j (by omega) rfl
section
variable {f_drafted f_length f_place f_there f_chains f_functions f_generators f_active f_begins f_token f_chain f_how f_sort : Int32} {f_value : Int64} {f_steps f_endSort f_status : Int32} {f_endNumber : Int64} {f_over f_noted : Int32} {a_draftKind a_draftWith a_kind a_with a_above a_as a_part a_open a_means a_own a_yields a_binder a_outer a_holdsSort : Nat → Int32} {a_holds : Nat → Int64} {a_fnToken a_fnChain a_state a_gBody a_gChain a_gYield a_closing a_rowOf a_many a_wToken a_wOperand a_wChain a_wSort a_wHow : Nat → Int32} {a_wValue : Nat → Int64} {a_noteSort : Nat → Int32} {a_noteNumber : Nat → Int64}
theorem il_genY {post : Int32 → Prop} {gc : Nat} (hgc : gc ≤ 8) (e : f_generators = nI gc) {p : Int32} (h1 : ∀ j, j < gc → p = nI j → post (a_state j)) (h0 : (∀ j, j < gc → p ≠ nI j) → post (-1)) : wpY_generator post (f_drafted, f_length, f_place, f_there, f_chains, f_functions, f_generators, f_active, f_begins, f_token, f_chain, f_how, f_sort, f_value, f_steps, f_endSort, f_status, f_endNumber, f_over, f_noted, a_draftKind, a_draftWith, a_kind, a_with, a_above, a_as, a_part, a_open, a_means, a_own, a_yields, a_binder, a_outer, a_holdsSort, a_holds, a_fnToken, a_fnChain, a_state, a_gBody, a_gChain, a_gYield, a_closing, a_rowOf, a_many, a_wToken, a_wOperand, a_wChain, a_wSort, a_wHow, a_wValue, a_noteSort, a_noteNumber) p := by
  subst e
  unfold wpY_generator
  refine il_in (by omega) (fun z => br_t rfl (h0 z)) (fun j hj e2 => br_f (by decide) ?_)
  have h := h1 j hj e2
  subst e2
  refine ⟨vp_in_nI (by omega) (by decide), ?_⟩
  rw [nI_clamp (by omega)]
  exact h
theorem il_waitsY {post : Int32 → Prop} {gc : Nat} (hgc : gc ≤ 8) (e : f_generators = nI gc) {p : Int32} (h1 : ∀ j, j < gc → p = nI j → a_state j = 1 → post (a_gYield j)) (h2 : ∀ j, j < gc → p = nI j → ¬ a_state j = 1 → post (-1)) (h0 : (∀ j, j < gc → p ≠ nI j) → post (-1)) : wpY_waits post (f_drafted, f_length, f_place, f_there, f_chains, f_functions, f_generators, f_active, f_begins, f_token, f_chain, f_how, f_sort, f_value, f_steps, f_endSort, f_status, f_endNumber, f_over, f_noted, a_draftKind, a_draftWith, a_kind, a_with, a_above, a_as, a_part, a_open, a_means, a_own, a_yields, a_binder, a_outer, a_holdsSort, a_holds, a_fnToken, a_fnChain, a_state, a_gBody, a_gChain, a_gYield, a_closing, a_rowOf, a_many, a_wToken, a_wOperand, a_wChain, a_wSort, a_wHow, a_wValue, a_noteSort, a_noteNumber) p := by
  subst e
  unfold wpY_waits
  refine il_in (by omega) (fun z => br_t rfl (h0 z)) (fun j hj e2 => br_f (by decide) ?_)
  have h := h1 j hj e2
  have h' := h2 j hj e2
  subst e2
  have i8 : vp_in (nI j) 8 := vp_in_nI (by omega) (by decide)
  refine ⟨i8, ?_⟩
  rw [nI_clamp (by omega)]
  exact br_c (fun z => ⟨i8, h z⟩) (fun z => h' z)
end
theorem i_vc_generator {k : Nat} {u : SX} {v : SY} (I : i_Rel k u v) (hk : k + 3 ≤ 1536) (v1 : Int32) : wpX_generator (fun r => wpY_generator (fun r' => r' = r ∧ i_Rel (k + 3) u v) v v1) u v1 := by
  obtain ⟨f_tokenCount, f_scriptSize, f_saidPlace, f_activationCount, f_variableCount, f_functionCount, f_generatorCount, f_ending, f_valueSort, f_valueNumber, f_noteCount, f_stepCount, f_latestRun, a_tokenKinds, a_tokenOperands, a_kinds, a_operands, a_parents, a_behind, a_ownFns, a_meanings, a_generatorFns, a_frameTokens, a_frameStages, a_frameScopes, a_keptEndings, a_keptSorts, a_keptNumbers, a_frameCounts, a_activeSlots, a_variableBinders, a_variableOuters, a_variableSorts, a_variableNumbers, a_functionTokens, a_functionScopes, a_generatorStates, a_noteSorts, a_noteNumbers⟩ := u
  obtain ⟨f_drafted, f_length, f_place, f_there, f_chains, f_functions, f_generators, f_active, f_begins, f_token, f_chain, f_how, f_sort, f_value, f_steps, f_endSort, f_status, f_endNumber, f_over, f_noted, a_draftKind, a_draftWith, a_kind, a_with, a_above, a_as, a_part, a_open, a_means, a_own, a_yields, a_binder, a_outer, a_holdsSort, a_holds, a_fnToken, a_fnChain, a_state, a_gBody, a_gChain, a_gYield, a_closing, a_rowOf, a_many, a_wToken, a_wOperand, a_wChain, a_wSort, a_wHow, a_wValue, a_noteSort, a_noteNumber⟩ := v
  have I0 : il_R (f_tokenCount, f_scriptSize, f_saidPlace, f_activationCount, f_variableCount, f_functionCount, f_generatorCount, f_ending, f_valueSort, f_valueNumber, f_noteCount, f_stepCount, f_latestRun, a_tokenKinds, a_tokenOperands, a_kinds, a_operands, a_parents, a_behind, a_ownFns, a_meanings, a_generatorFns, a_frameTokens, a_frameStages, a_frameScopes, a_keptEndings, a_keptSorts, a_keptNumbers, a_frameCounts, a_activeSlots, a_variableBinders, a_variableOuters, a_variableSorts, a_variableNumbers, a_functionTokens, a_functionScopes, a_generatorStates, a_noteSorts, a_noteNumbers) (f_drafted, f_length, f_place, f_there, f_chains, f_functions, f_generators, f_active, f_begins, f_token, f_chain, f_how, f_sort, f_value, f_steps, f_endSort, f_status, f_endNumber, f_over, f_noted, a_draftKind, a_draftWith, a_kind, a_with, a_above, a_as, a_part, a_open, a_means, a_own, a_yields, a_binder, a_outer, a_holdsSort, a_holds, a_fnToken, a_fnChain, a_state, a_gBody, a_gChain, a_gYield, a_closing, a_rowOf, a_many, a_wToken, a_wOperand, a_wChain, a_wSort, a_wHow, a_wValue, a_noteSort, a_noteNumber) := I
  obtain ⟨⟨nt, hnt, rfl, rfl, hkd⟩, rfl, rfl, rfl, hT, ⟨rfl, rfl, rfl, rfl, rfl, rfl⟩, ⟨rfl, rfl, rfl, rfl⟩, ⟨gc, hgc, rfl, rfl, hG⟩, hE⟩ := I
  by_cases c : ∃ j, j < gc ∧ v1 = nI j
  · obtain ⟨j, hj, rfl⟩ := c
    have ej : (nI j).toNatClampNeg = j := nI_clamp (by omega)
    have i8 : vp_in (nI j) 8 := vp_in_nI (by omega) (by decide)
    obtain ⟨h1, h2, _⟩ := hG j hj
    have key : ∀ i, i < gc → nI j = nI i → a_state i = a_state j := by
      intro i hi e
      rw [nI_eq (by omega) (by omega)] at e
      rw [e]
    refine br_f (nI_pos (by omega)) (br_t (nI_lt hj (by omega)) ⟨i8, ?_⟩)
    rw [ej, h2]
    unfold xr_g
    by_cases z : a_state j = 2 ∧ a_closing j = 1
    · rw [if_pos z]
      refine br_t rfl ?_
      exact il_genY hgc rfl (fun i hi e => ⟨(key i hi e).trans z.1, I0⟩) (fun y => absurd rfl (y j hj))
    · rw [if_neg z]
      refine br_f ?_ ⟨i8, ?_⟩
      · rcases h1 with e | e | e | e <;> (rw [e]; decide)
      · exact il_genY hgc rfl (fun i hi e => ⟨key i hi e, I0⟩) (fun y => absurd rfl (y j hj))
  · refine br_c (fun _ => ?_) (fun d => br_f ?_ ?_)
    · exact il_genY hgc rfl (fun i hi e => absurd ⟨i, hi, e⟩ c) (fun _ => ⟨rfl, I0⟩)
    · intro z
      obtain ⟨j, hj, rfl⟩ := nI_of d
      rw [nI_ltI hj (by omega)] at z
      exact c ⟨j, z, rfl⟩
    · exact il_genY hgc rfl (fun i hi e => absurd ⟨i, hi, e⟩ c) (fun _ => ⟨rfl, I0⟩)
theorem i_vc_waits {k : Nat} {u : SX} {v : SY} (I : i_Rel k u v) (hk : k + 3 ≤ 1536) (v1 : Int32) : wpX_waits (fun r => wpY_waits (fun r' => r' = r ∧ i_Rel (k + 3) u v) v v1) u v1 := by
  obtain ⟨f_tokenCount, f_scriptSize, f_saidPlace, f_activationCount, f_variableCount, f_functionCount, f_generatorCount, f_ending, f_valueSort, f_valueNumber, f_noteCount, f_stepCount, f_latestRun, a_tokenKinds, a_tokenOperands, a_kinds, a_operands, a_parents, a_behind, a_ownFns, a_meanings, a_generatorFns, a_frameTokens, a_frameStages, a_frameScopes, a_keptEndings, a_keptSorts, a_keptNumbers, a_frameCounts, a_activeSlots, a_variableBinders, a_variableOuters, a_variableSorts, a_variableNumbers, a_functionTokens, a_functionScopes, a_generatorStates, a_noteSorts, a_noteNumbers⟩ := u
  obtain ⟨f_drafted, f_length, f_place, f_there, f_chains, f_functions, f_generators, f_active, f_begins, f_token, f_chain, f_how, f_sort, f_value, f_steps, f_endSort, f_status, f_endNumber, f_over, f_noted, a_draftKind, a_draftWith, a_kind, a_with, a_above, a_as, a_part, a_open, a_means, a_own, a_yields, a_binder, a_outer, a_holdsSort, a_holds, a_fnToken, a_fnChain, a_state, a_gBody, a_gChain, a_gYield, a_closing, a_rowOf, a_many, a_wToken, a_wOperand, a_wChain, a_wSort, a_wHow, a_wValue, a_noteSort, a_noteNumber⟩ := v
  have I0 : il_R (f_tokenCount, f_scriptSize, f_saidPlace, f_activationCount, f_variableCount, f_functionCount, f_generatorCount, f_ending, f_valueSort, f_valueNumber, f_noteCount, f_stepCount, f_latestRun, a_tokenKinds, a_tokenOperands, a_kinds, a_operands, a_parents, a_behind, a_ownFns, a_meanings, a_generatorFns, a_frameTokens, a_frameStages, a_frameScopes, a_keptEndings, a_keptSorts, a_keptNumbers, a_frameCounts, a_activeSlots, a_variableBinders, a_variableOuters, a_variableSorts, a_variableNumbers, a_functionTokens, a_functionScopes, a_generatorStates, a_noteSorts, a_noteNumbers) (f_drafted, f_length, f_place, f_there, f_chains, f_functions, f_generators, f_active, f_begins, f_token, f_chain, f_how, f_sort, f_value, f_steps, f_endSort, f_status, f_endNumber, f_over, f_noted, a_draftKind, a_draftWith, a_kind, a_with, a_above, a_as, a_part, a_open, a_means, a_own, a_yields, a_binder, a_outer, a_holdsSort, a_holds, a_fnToken, a_fnChain, a_state, a_gBody, a_gChain, a_gYield, a_closing, a_rowOf, a_many, a_wToken, a_wOperand, a_wChain, a_wSort, a_wHow, a_wValue, a_noteSort, a_noteNumber) := I
  obtain ⟨⟨nt, hnt, rfl, rfl, hkd⟩, rfl, rfl, rfl, hT, ⟨rfl, rfl, rfl, rfl, rfl, rfl⟩, ⟨rfl, rfl, rfl, rfl⟩, ⟨gc, hgc, rfl, rfl, hG⟩, hE⟩ := I
  by_cases c : ∃ j, j < gc ∧ v1 = nI j
  · obtain ⟨j, hj, rfl⟩ := c
    have ej : (nI j).toNatClampNeg = j := nI_clamp (by omega)
    have i8 : vp_in (nI j) 8 := vp_in_nI (by omega) (by decide)
    obtain ⟨h1, h2, h3⟩ := hG j hj
    have key : ∀ i, i < gc → nI j = nI i → i = j := by
      intro i hi e
      rw [nI_eq (by omega) (by omega)] at e
      exact e.symm
    refine br_f (nI_pos (by omega)) (br_f (nI_ge hj (by omega)) ⟨i8, ?_⟩)
    rw [ej, h2]
    by_cases z : a_state j = 1
    · have e1 : xr_g (a_state j) (a_closing j) = 1 := by rw [xr_g, if_neg (fun y => absurd (z.symm.trans y.1) (by decide)), z]
      obtain ⟨l, hl, q1, q2⟩ := h3 z
      have e8 : (8 : Int32) + nI j = nI (8 + j) := nI_add 8 j
      have ec : (nI (8 + j)).toNatClampNeg = 8 + j := nI_clamp (by omega)
      have ek : nI (8 + j) * 48 + a_frameCounts (nI (8 + j)).toNatClampNeg - 1 = nI (48 * (8 + j) + l) := by
        rw [ec, q1, show nI (8 + j) * 48 = nI (48 * (8 + j)) from (by rw [Nat.mul_comm]; exact pk_mul (8 + j) 48), nI_add, show 48 * (8 + j) + (l + 1) = (48 * (8 + j) + l) + 1 from rfl, nI_pred]
      refine br_t e1 (nm_r e8 ⟨vp_in_nI (by omega) (by decide), ?_⟩)
      rw [ek]
      refine ⟨vp_in_nI (by omega) (by decide), ?_⟩
      rw [nI_clamp (by omega), q2]
      exact il_waitsY hgc rfl (fun i hi e _ => ⟨by rw [key i hi e], I0⟩) (fun i hi e y => absurd (by rw [key i hi e]; exact z) y) (fun y => absurd rfl (y j hj))
    · have e1 : ¬ xr_g (a_state j) (a_closing j) = 1 := by
        unfold xr_g
        split
        · decide
        · exact z
      refine br_f e1 ?_
      exact il_waitsY hgc rfl (fun i hi e y => absurd (by rw [← key i hi e]; exact y) z) (fun i hi e y => ⟨rfl, I0⟩) (fun y => absurd rfl (y j hj))
  · refine br_c (fun _ => ?_) (fun d => br_t ?_ ?_)
    · exact il_waitsY hgc rfl (fun i hi e => absurd ⟨i, hi, e⟩ c) (fun i hi e => absurd ⟨i, hi, e⟩ c) (fun _ => ⟨rfl, I0⟩)
    · obtain ⟨j, hj, rfl⟩ := nI_of d
      rw [nI_leI (by omega) hj]
      by_cases z : j < gc
      · exact absurd ⟨j, z, rfl⟩ c
      · omega
    · exact il_waitsY hgc rfl (fun i hi e => absurd ⟨i, hi, e⟩ c) (fun i hi e => absurd ⟨i, hi, e⟩ c) (fun _ => ⟨rfl, I0⟩)
