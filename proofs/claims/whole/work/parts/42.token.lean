def to_nm (k : Nat) : Prop := (2 ≤ k ∧ k ≤ 5) ∨ k = 20
def to_ok (nt : Nat) (v1 v2 : Int32) : Prop := nt < 48 ∧ ∃ k, k < 27 ∧ v1 = nI k ∧ (to_nm k → ∃ j, j < 6 ∧ v2 = nI j)
theorem to_no {k nt : Nat} {v2 : Int32} (hk : k < 2 ^ 31) (h : ¬ k < 27) : ¬ to_ok nt (nI k) v2 := by
  rintro ⟨_, i, hi, e, _⟩
  rw [nI_eq hk (by omega)] at e
  omega
theorem to_no2 {k nt : Nat} {v2 : Int32} (hk : k < 27) (hn : to_nm k) (h : ∀ j, j < 6 → v2 ≠ nI j) : ¬ to_ok nt (nI k) v2 := by
  rintro ⟨_, i, hi, e, r⟩
  rw [nI_eq (by omega) (by omega)] at e
  subst e
  obtain ⟨j, hj, e⟩ := r hn
  exact h j hj e
section
variable {f_tokenCount f_scriptSize f_saidPlace f_activationCount f_variableCount f_functionCount f_generatorCount f_ending f_valueSort : Int32} {f_valueNumber : Int64} {f_noteCount f_stepCount f_latestRun : Int32} {a_tokenKinds a_tokenOperands a_kinds a_operands a_parents a_behind a_ownFns a_meanings a_generatorFns a_frameTokens a_frameStages a_frameScopes a_keptEndings a_keptSorts : Nat → Int32} {a_keptNumbers : Nat → Int64} {a_frameCounts a_activeSlots a_variableBinders a_variableOuters a_variableSorts : Nat → Int32} {a_variableNumbers : Nat → Int64} {a_functionTokens a_functionScopes a_generatorStates a_noteSorts : Nat → Int32} {a_noteNumbers : Nat → Int64}
theorem to_X {post : Int32 → SX → Prop} {nt : Nat} (hnt : nt ≤ 48) (e : f_tokenCount = nI nt) {v1 v2 : Int32}
    (h1 : to_ok nt v1 v2 → post 1 (nI (nt + 1), f_scriptSize, f_saidPlace, f_activationCount, f_variableCount, f_functionCount, f_generatorCount, f_ending, f_valueSort, f_valueNumber, f_noteCount, f_stepCount, f_latestRun, upd a_tokenKinds nt v1, upd a_tokenOperands nt v2, a_kinds, a_operands, a_parents, a_behind, a_ownFns, a_meanings, a_generatorFns, a_frameTokens, a_frameStages, a_frameScopes, a_keptEndings, a_keptSorts, a_keptNumbers, a_frameCounts, a_activeSlots, a_variableBinders, a_variableOuters, a_variableSorts, a_variableNumbers, a_functionTokens, a_functionScopes, a_generatorStates, a_noteSorts, a_noteNumbers)) (h0 : ¬ to_ok nt v1 v2 → post 0 (nI nt, f_scriptSize, f_saidPlace, f_activationCount, f_variableCount, f_functionCount, f_generatorCount, f_ending, f_valueSort, f_valueNumber, f_noteCount, f_stepCount, f_latestRun, a_tokenKinds, a_tokenOperands, a_kinds, a_operands, a_parents, a_behind, a_ownFns, a_meanings, a_generatorFns, a_frameTokens, a_frameStages, a_frameScopes, a_keptEndings, a_keptSorts, a_keptNumbers, a_frameCounts, a_activeSlots, a_variableBinders, a_variableOuters, a_variableSorts, a_variableNumbers, a_functionTokens, a_functionScopes, a_generatorStates, a_noteSorts, a_noteNumbers)) : wpX_token post (f_tokenCount, f_scriptSize, f_saidPlace, f_activationCount, f_variableCount, f_functionCount, f_generatorCount, f_ending, f_valueSort, f_valueNumber, f_noteCount, f_stepCount, f_latestRun, a_tokenKinds, a_tokenOperands, a_kinds, a_operands, a_parents, a_behind, a_ownFns, a_meanings, a_generatorFns, a_frameTokens, a_frameStages, a_frameScopes, a_keptEndings, a_keptSorts, a_keptNumbers, a_frameCounts, a_activeSlots, a_variableBinders, a_variableOuters, a_variableSorts, a_variableNumbers, a_functionTokens, a_functionScopes, a_generatorStates, a_noteSorts, a_noteNumbers) v1 v2 := by
  subst e
  by_cases c48 : 48 ≤ nt
  · exact br_t (nI_le (a := 48) c48 (by omega)) (h0 (fun z => by have := z.1; omega))
  · refine br_f (nI_ge (b := 48) (by omega) (by decide)) (br_c (fun c => h0 ?_) (fun c => ?_))
    · rintro ⟨_, i, hi, e, _⟩
      rw [e] at c
      exact nI_pos (by omega) c
    · obtain ⟨j, hj, rfl⟩ := nI_of c
      by_cases c27 : j < 27
      · refine br_t (nI_le (b := 26) (by omega) (by decide)) ?_
        have et : (nI nt).toNatClampNeg = nt := nI_clamp (by omega)
        have it : vp_in (nI nt) 48 := vp_in_nI (by omega) (by decide)
        have f59 : to_ok nt (nI j) v2 → wX_token_59 post (nI j) v2 (nI nt) f_scriptSize f_saidPlace f_activationCount f_variableCount f_functionCount f_generatorCount f_ending f_valueSort f_valueNumber f_noteCount f_stepCount f_latestRun a_tokenKinds a_tokenOperands a_kinds a_operands a_parents a_behind a_ownFns a_meanings a_generatorFns a_frameTokens a_frameStages a_frameScopes a_keptEndings a_keptSorts a_keptNumbers a_frameCounts a_activeSlots a_variableBinders a_variableOuters a_variableSorts a_variableNumbers a_functionTokens a_functionScopes a_generatorStates a_noteSorts a_noteNumbers := by
          intro ok
          exact ⟨it, nm_r (by rw [et]) ⟨it, nm_r (by rw [et]) (nm_r (nI_1 nt) (h1 ok))⟩⟩
        have f42n : to_nm j → wX_token_42 post (nI j) v2 1 (nI nt) f_scriptSize f_saidPlace f_activationCount f_variableCount f_functionCount f_generatorCount f_ending f_valueSort f_valueNumber f_noteCount f_stepCount f_latestRun a_tokenKinds a_tokenOperands a_kinds a_operands a_parents a_behind a_ownFns a_meanings a_generatorFns a_frameTokens a_frameStages a_frameScopes a_keptEndings a_keptSorts a_keptNumbers a_frameCounts a_activeSlots a_variableBinders a_variableOuters a_variableSorts a_variableNumbers a_functionTokens a_functionScopes a_generatorStates a_noteSorts a_noteNumbers := by
          intro hn
          refine br_f (by decide) (br_c (fun d => h0 ?_) (fun d => ?_))
          · refine to_no2 c27 hn (fun i hi e => ?_)
            rw [e] at d
            exact nI_pos (by omega) d
          · obtain ⟨i, hi, rfl⟩ := nI_of d
            by_cases c6 : i < 6
            · exact br_t (nI_lt (b := 6) c6 (by decide)) (f59 ⟨by omega, j, c27, rfl, fun _ => ⟨i, c6, rfl⟩⟩)
            · refine br_f (nI_nlt (b := 6) (by omega) hi) (h0 ?_)
              refine to_no2 c27 hn (fun i' hi' e => ?_)
              rw [nI_eq hi (by omega)] at e
              omega
        have f31 : (j = 20 ∨ ¬ to_nm j) → wX_token_31 post (nI j) v2 (nI nt) f_scriptSize f_saidPlace f_activationCount f_variableCount f_functionCount f_generatorCount f_ending f_valueSort f_valueNumber f_noteCount f_stepCount f_latestRun a_tokenKinds a_tokenOperands a_kinds a_operands a_parents a_behind a_ownFns a_meanings a_generatorFns a_frameTokens a_frameStages a_frameScopes a_keptEndings a_keptSorts a_keptNumbers a_frameCounts a_activeSlots a_variableBinders a_variableOuters a_variableSorts a_variableNumbers a_functionTokens a_functionScopes a_generatorStates a_noteSorts a_noteNumbers := by
          intro hn
          by_cases c20 : j = 20
          · subst c20
            exact br_t rfl (f42n (Or.inr rfl))
          · refine br_f ?_ (br_t rfl (f59 ⟨by omega, j, c27, rfl, fun z => ?_⟩))
            · show ¬ nI j = nI 20
              rw [nI_eq hj (by decide)]
              exact c20
            · rcases hn with hn | hn
              · exact absurd hn c20
              · exact absurd z hn
        by_cases c2 : j < 2
        · refine br_t (nI_lt (b := 2) c2 (by decide)) (f31 (Or.inr ?_))
          rintro (z | z) <;> omega
        · refine br_f (nI_nlt (b := 2) (by omega) hj) ?_
          by_cases c5 : j ≤ 5
          · exact br_t (nI_le (b := 5) c5 (by decide)) (f42n (Or.inl ⟨by omega, c5⟩))
          · refine br_f (nI_ge (a := 5) (by omega) hj) (f31 ?_)
            by_cases c20 : j = 20
            · exact Or.inl c20
            · refine Or.inr ?_
              rintro (z | z) <;> omega
      · exact br_f (nI_ge (a := 26) (by omega) hj) (h0 (to_no hj c27))
end
section
variable {f_drafted f_length f_place f_there f_chains f_functions f_generators f_active f_begins f_token f_chain f_how f_sort : Int32} {f_value : Int64} {f_steps f_endSort f_status : Int32} {f_endNumber : Int64} {f_over f_noted : Int32} {a_draftKind a_draftWith a_kind a_with a_above a_as a_part a_open a_means a_own a_yields a_binder a_outer a_holdsSort : Nat → Int32} {a_holds : Nat → Int64} {a_fnToken a_fnChain a_state a_gBody a_gChain a_gYield a_closing a_rowOf a_many a_wToken a_wOperand a_wChain a_wSort a_wHow : Nat → Int32} {a_wValue : Nat → Int64} {a_noteSort : Nat → Int32} {a_noteNumber : Nat → Int64}
theorem to_Y {post : Int32 → SY → Prop} {nt : Nat} (hnt : nt ≤ 48) (e : f_drafted = nI nt) {v1 v2 : Int32}
    (h1 : to_ok nt v1 v2 → post 1 (nI (nt + 1), f_length, f_place, f_there, f_chains, f_functions, f_generators, f_active, f_begins, f_token, f_chain, f_how, f_sort, f_value, f_steps, f_endSort, f_status, f_endNumber, f_over, f_noted, upd a_draftKind nt v1, upd a_draftWith nt v2, a_kind, a_with, a_above, a_as, a_part, a_open, a_means, a_own, a_yields, a_binder, a_outer, a_holdsSort, a_holds, a_fnToken, a_fnChain, a_state, a_gBody, a_gChain, a_gYield, a_closing, a_rowOf, a_many, a_wToken, a_wOperand, a_wChain, a_wSort, a_wHow, a_wValue, a_noteSort, a_noteNumber)) (h0 : ¬ to_ok nt v1 v2 → post 0 (nI nt, f_length, f_place, f_there, f_chains, f_functions, f_generators, f_active, f_begins, f_token, f_chain, f_how, f_sort, f_value, f_steps, f_endSort, f_status, f_endNumber, f_over, f_noted, a_draftKind, a_draftWith, a_kind, a_with, a_above, a_as, a_part, a_open, a_means, a_own, a_yields, a_binder, a_outer, a_holdsSort, a_holds, a_fnToken, a_fnChain, a_state, a_gBody, a_gChain, a_gYield, a_closing, a_rowOf, a_many, a_wToken, a_wOperand, a_wChain, a_wSort, a_wHow, a_wValue, a_noteSort, a_noteNumber)) : wpY_token post (f_drafted, f_length, f_place, f_there, f_chains, f_functions, f_generators, f_active, f_begins, f_token, f_chain, f_how, f_sort, f_value, f_steps, f_endSort, f_status, f_endNumber, f_over, f_noted, a_draftKind, a_draftWith, a_kind, a_with, a_above, a_as, a_part, a_open, a_means, a_own, a_yields, a_binder, a_outer, a_holdsSort, a_holds, a_fnToken, a_fnChain, a_state, a_gBody, a_gChain, a_gYield, a_closing, a_rowOf, a_many, a_wToken, a_wOperand, a_wChain, a_wSort, a_wHow, a_wValue, a_noteSort, a_noteNumber) v1 v2 := by
  subst e
  unfold wpY_token
  refine il_in (n := 27) (by decide) (fun z => br_t rfl (h0 ?_)) (fun j c27 e1 => br_f (by decide) ?_)
  · rintro ⟨_, i, hi, e, _⟩
    exact z i hi e
  · subst e1
    have f25 : (to_nm j → ∃ i, i < 6 ∧ v2 = nI i) → wY_token_25 post (nI j) v2 (nI nt) f_length f_place f_there f_chains f_functions f_generators f_active f_begins f_token f_chain f_how f_sort f_value f_steps f_endSort f_status f_endNumber f_over f_noted a_draftKind a_draftWith a_kind a_with a_above a_as a_part a_open a_means a_own a_yields a_binder a_outer a_holdsSort a_holds a_fnToken a_fnChain a_state a_gBody a_gChain a_gYield a_closing a_rowOf a_many a_wToken a_wOperand a_wChain a_wSort a_wHow a_wValue a_noteSort a_noteNumber := by
      intro hn
      by_cases c48 : nt = 48
      · subst c48
        exact br_t rfl (h0 (fun z => by have := z.1; omega))
      · have et : (nI nt).toNatClampNeg = nt := nI_clamp (by omega)
        have it : vp_in (nI nt) 48 := vp_in_nI (by omega) (by decide)
        refine br_f ?_ ⟨it, nm_r (by rw [et]) ⟨it, nm_r (by rw [et]) (nm_r (nI_1 nt) (h1 ⟨by omega, j, c27, rfl, hn⟩))⟩⟩
        show ¬ nI nt = nI 48
        rw [nI_eq (by omega) (by decide)]
        exact c48
    have nmd : to_nm j → ∀ post' : Int32 → Prop, post' 1 → wpY_isName post' (nI j) := by
      intro hn post' hp
      rcases hn with hn | hn
      · exact br_f (nI_nlt (b := 2) (by omega) (by omega)) (br_t (nI_le (b := 5) hn.2 (by decide)) hp)
      · subst hn
        exact br_f (by decide) (br_f (by decide) (br_t rfl hp))
    have nnm : ¬ to_nm j → ∀ post' : Int32 → Prop, post' 0 → wpY_isName post' (nI j) := by
      intro hn post' hp
      have n20 : ¬ nI j = 20 := by
        show ¬ nI j = nI 20
        rw [nI_eq (by omega) (by decide)]
        exact fun z => hn (Or.inr z)
      by_cases c2 : j < 2
      · exact br_t (nI_lt (b := 2) c2 (by decide)) (br_f n20 hp)
      · refine br_f (nI_nlt (b := 2) (by omega) (by omega)) (br_f (nI_ge (a := 5) ?_ (by omega)) (br_f n20 hp))
        by_cases c5 : j ≤ 5
        · exact absurd (Or.inl ⟨by omega, c5⟩) hn
        · omega
    by_cases hn : to_nm j
    · refine nmd hn _ (br_f (by decide) (il_in (n := 6) (by decide) (fun z => br_t rfl (h0 ?_)) (fun i hi e2 => br_f (by decide) (f25 (fun _ => ⟨i, hi, e2⟩)))))
      exact to_no2 c27 hn z
    · exact nnm hn _ (br_t rfl (f25 (fun z => absurd z hn)))
end
theorem i_vc_token {k : Nat} {u : SX} {v : SY} (I : i_Rel k u v) (hk : k + 3 ≤ 1536) (v1 : Int32) (v2 : Int32) : wpX_token (fun r u' => wpY_token (fun r' v' => r' = r ∧ i_Rel (k + 3) u' v') v v1 v2) u v1 v2 := by
  obtain ⟨f_tokenCount, f_scriptSize, f_saidPlace, f_activationCount, f_variableCount, f_functionCount, f_generatorCount, f_ending, f_valueSort, f_valueNumber, f_noteCount, f_stepCount, f_latestRun, a_tokenKinds, a_tokenOperands, a_kinds, a_operands, a_parents, a_behind, a_ownFns, a_meanings, a_generatorFns, a_frameTokens, a_frameStages, a_frameScopes, a_keptEndings, a_keptSorts, a_keptNumbers, a_frameCounts, a_activeSlots, a_variableBinders, a_variableOuters, a_variableSorts, a_variableNumbers, a_functionTokens, a_functionScopes, a_generatorStates, a_noteSorts, a_noteNumbers⟩ := u
  obtain ⟨f_drafted, f_length, f_place, f_there, f_chains, f_functions, f_generators, f_active, f_begins, f_token, f_chain, f_how, f_sort, f_value, f_steps, f_endSort, f_status, f_endNumber, f_over, f_noted, a_draftKind, a_draftWith, a_kind, a_with, a_above, a_as, a_part, a_open, a_means, a_own, a_yields, a_binder, a_outer, a_holdsSort, a_holds, a_fnToken, a_fnChain, a_state, a_gBody, a_gChain, a_gYield, a_closing, a_rowOf, a_many, a_wToken, a_wOperand, a_wChain, a_wSort, a_wHow, a_wValue, a_noteSort, a_noteNumber⟩ := v
  have I0 : il_R (f_tokenCount, f_scriptSize, f_saidPlace, f_activationCount, f_variableCount, f_functionCount, f_generatorCount, f_ending, f_valueSort, f_valueNumber, f_noteCount, f_stepCount, f_latestRun, a_tokenKinds, a_tokenOperands, a_kinds, a_operands, a_parents, a_behind, a_ownFns, a_meanings, a_generatorFns, a_frameTokens, a_frameStages, a_frameScopes, a_keptEndings, a_keptSorts, a_keptNumbers, a_frameCounts, a_activeSlots, a_variableBinders, a_variableOuters, a_variableSorts, a_variableNumbers, a_functionTokens, a_functionScopes, a_generatorStates, a_noteSorts, a_noteNumbers) (f_drafted, f_length, f_place, f_there, f_chains, f_functions, f_generators, f_active, f_begins, f_token, f_chain, f_how, f_sort, f_value, f_steps, f_endSort, f_status, f_endNumber, f_over, f_noted, a_draftKind, a_draftWith, a_kind, a_with, a_above, a_as, a_part, a_open, a_means, a_own, a_yields, a_binder, a_outer, a_holdsSort, a_holds, a_fnToken, a_fnChain, a_state, a_gBody, a_gChain, a_gYield, a_closing, a_rowOf, a_many, a_wToken, a_wOperand, a_wChain, a_wSort, a_wHow, a_wValue, a_noteSort, a_noteNumber) := I
  obtain ⟨⟨nt, hnt, rfl, rfl, hkd⟩, rfl, rfl, rfl, hT, ⟨rfl, rfl, rfl, rfl, rfl, rfl⟩, ⟨rfl, rfl, rfl, rfl⟩, ⟨gc, hgc, rfl, rfl, hG⟩, hE⟩ := I
  refine to_X hnt rfl (fun ok => ?_) (fun no => ?_)
  · refine to_Y hnt rfl (fun _ => ⟨rfl, ?_⟩) (fun z => absurd ok z)
    refine ⟨⟨nt + 1, by have := ok.1; omega, rfl, rfl, ?_⟩, rfl, rfl, rfl, hT, ⟨rfl, rfl, rfl, rfl, rfl, rfl⟩, ⟨rfl, rfl, rfl, rfl⟩, ⟨gc, hgc, rfl, rfl, hG⟩, hE⟩
    intro i hi
    by_cases z : i = nt
    · subst z
      obtain ⟨_, j, hj, e, _⟩ := ok
      exact ⟨j, hj, by rw [pk_us]; exact e⟩
    · obtain ⟨j, hj, e⟩ := hkd i (by omega)
      exact ⟨j, hj, by rw [pk_un z]; exact e⟩
  · exact to_Y hnt rfl (fun z => absurd z no) (fun _ => ⟨rfl, I0⟩)
