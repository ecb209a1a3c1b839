section
variable {w : gw_T} {f_tokenCount f_scriptSize f_saidPlace f_activationCount f_variableCount f_functionCount f_generatorCount f_ending f_valueSort : Int32} {f_valueNumber : Int64} {f_noteCount f_stepCount f_latestRun : Int32} {a_tokenKinds a_tokenOperands a_kinds a_operands a_parents a_behind a_ownFns a_meanings a_generatorFns a_frameTokens a_frameStages a_frameScopes a_keptEndings a_keptSorts : Nat → Int32} {a_keptNumbers : Nat → Int64} {a_frameCounts a_activeSlots a_variableBinders a_variableOuters a_variableSorts : Nat → Int32} {a_variableNumbers : Nat → Int64} {a_functionTokens a_functionScopes a_generatorStates a_noteSorts : Nat → Int32} {a_noteNumbers : Nat → Int64} {f_drafted f_length f_place f_there f_chains f_functions f_generators f_active f_begins f_token f_chain f_how f_sort : Int32} {f_value : Int64} {f_steps f_endSort f_status : Int32} {f_endNumber : Int64} {f_over f_noted : Int32} {a_draftKind a_draftWith a_kind a_with a_above a_as a_part a_open a_means a_own a_yields a_binder a_outer a_holdsSort : Nat → Int32} {a_holds : Nat → Int64} {a_fnToken a_fnChain a_state a_gBody a_gChain a_gYield a_closing a_rowOf a_many a_wToken a_wOperand a_wChain a_wSort a_wHow : Nat → Int32} {a_wValue : Nat → Int64} {a_noteSort : Nat → Int32} {a_noteNumber : Nat → Int64}
theorem if_124 {post : Int32 → Prop} {J : Int32 → Int32 → Prop} {x1 : Int32} {c i : Nat} (hc : c < 2 ^ 31) (hJ : J (nI c) (nI (i + 1))) : wY_info_124 post J x1 (nI c) (nI i) 0 f_drafted f_length f_place f_there f_chains f_functions f_generators f_active f_begins f_token f_chain f_how f_sort f_value f_steps f_endSort f_status f_endNumber f_over f_noted a_draftKind a_draftWith a_kind a_with a_above a_as a_part a_open a_means a_own a_yields a_binder a_outer a_holdsSort a_holds a_fnToken a_fnChain a_state a_gBody a_gChain a_gYield a_closing a_rowOf a_many a_wToken a_wOperand a_wChain a_wSort a_wHow a_wValue a_noteSort a_noteNumber :=
  br_t (nI_pos' hc) (nm_r (nI_1 i) hJ)
theorem if_0 {n : Nat} (hn : n ≤ 48) (ex : f_scriptSize = nI n) (ey : f_length = nI n) (hK : ∀ i, i < n → a_kind i = a_kinds i) :
    ∀ d i c, i + d = n → c ≤ i → ∃ r : Int32, (∀ post : Int32 → Prop, post r → wX_countFns_4 post f_tokenCount f_scriptSize f_saidPlace f_activationCount f_variableCount f_functionCount f_generatorCount f_ending f_valueSort f_valueNumber f_noteCount f_stepCount f_latestRun a_tokenKinds a_tokenOperands a_kinds a_operands a_parents a_behind a_ownFns a_meanings a_generatorFns a_frameTokens a_frameStages a_frameScopes a_keptEndings a_keptSorts a_keptNumbers a_frameCounts a_activeSlots a_variableBinders a_variableOuters a_variableSorts a_variableNumbers a_functionTokens a_functionScopes a_generatorStates a_noteSorts a_noteNumbers (d + 1) (nI c) (nI i)) ∧ (∀ post : Int32 → Prop, post r → wY_info_21 post 0 f_drafted f_length f_place f_there f_chains f_functions f_generators f_active f_begins f_token f_chain f_how f_sort f_value f_steps f_endSort f_status f_endNumber f_over f_noted a_draftKind a_draftWith a_kind a_with a_above a_as a_part a_open a_means a_own a_yields a_binder a_outer a_holdsSort a_holds a_fnToken a_fnChain a_state a_gBody a_gChain a_gYield a_closing a_rowOf a_many a_wToken a_wOperand a_wChain a_wSort a_wHow a_wValue a_noteSort a_noteNumber (d + 1) (nI c) (nI i)) := by
  subst ex ey
  intro d
  induction d with
  | zero =>
    intro i c hi hc
    have hi : i = n := by omega
    subst hi
    exact ⟨nI c, fun _ hp => br_t (nI_le (Nat.le_refl _) (by omega)) hp, fun _ hp => br_t (nI_le (Nat.le_refl _) (by omega)) hp⟩
  | succ d ih =>
    intro i c hi hc
    have iv : vp_in (nI i) 48 := vp_in_nI (by omega) (by decide)
    have ei : (nI i).toNatClampNeg = i := nI_clamp (by omega)
    have eK := hK i (by omega)
    have g : ¬ nI n ≤ nI i := nI_ge (by omega) (by omega)
    by_cases z : a_kinds i = 5
    · obtain ⟨r, hX, hY⟩ := ih (i + 1) (c + 1) (by omega) (by omega)
      refine ⟨r, fun post hp => br_f g ⟨iv, br_t (by rw [ei]; exact z) (nm_r (nI_1 c) (nm_r (nI_1 i) (hX post hp)))⟩, fun post hp => br_f g (br_f (by decide) ⟨iv, br_t (by rw [ei, eK]; exact z) (br_t rfl (nm_r (nI_1 c) (br_f (by decide) ?_)))⟩)⟩
      exact if_124 (by omega) (hY post hp)
    · obtain ⟨r, hX, hY⟩ := ih (i + 1) c (by omega) (by omega)
      exact ⟨r, fun post hp => br_f g ⟨iv, br_f (by rw [ei]; exact z) (nm_r (nI_1 i) (hX post hp))⟩, fun post hp => br_f g (br_f (by decide) ⟨iv, br_f (by rw [ei, eK]; exact z) (nm_r (nI_1 i) (hY post hp))⟩)⟩
theorem if_1 {n : Nat} (hn : n ≤ 48) (ex : f_scriptSize = nI n) (ey : f_length = nI n) (hK : ∀ i, i < n → a_kind i = a_kinds i) (hg : ∀ i, i < n → a_yields i = a_generatorFns i) (h5 : ∀ i, i < n → a_generatorFns i = 0 ∨ (a_generatorFns i = 1 ∧ a_kinds i = 5)) :
    ∀ d i c, i + d = n → c ≤ i → ∃ r : Int32, (∀ post : Int32 → Prop, post r → wX_countGeneratorFns_4 post f_tokenCount f_scriptSize f_saidPlace f_activationCount f_variableCount f_functionCount f_generatorCount f_ending f_valueSort f_valueNumber f_noteCount f_stepCount f_latestRun a_tokenKinds a_tokenOperands a_kinds a_operands a_parents a_behind a_ownFns a_meanings a_generatorFns a_frameTokens a_frameStages a_frameScopes a_keptEndings a_keptSorts a_keptNumbers a_frameCounts a_activeSlots a_variableBinders a_variableOuters a_variableSorts a_variableNumbers a_functionTokens a_functionScopes a_generatorStates a_noteSorts a_noteNumbers (d + 1) (nI c) (nI i)) ∧ (∀ post : Int32 → Prop, post r → wY_info_21 post 1 f_drafted f_length f_place f_there f_chains f_functions f_generators f_active f_begins f_token f_chain f_how f_sort f_value f_steps f_endSort f_status f_endNumber f_over f_noted a_draftKind a_draftWith a_kind a_with a_above a_as a_part a_open a_means a_own a_yields a_binder a_outer a_holdsSort a_holds a_fnToken a_fnChain a_state a_gBody a_gChain a_gYield a_closing a_rowOf a_many a_wToken a_wOperand a_wChain a_wSort a_wHow a_wValue a_noteSort a_noteNumber (d + 1) (nI c) (nI i)) := by
  subst ex ey
  intro d
  induction d with
  | zero =>
    intro i c hi hc
    have hi : i = n := by omega
    subst hi
    exact ⟨nI c, fun _ hp => br_t (nI_le (Nat.le_refl _) (by omega)) hp, fun _ hp => br_t (nI_le (Nat.le_refl _) (by omega)) hp⟩
  | succ d ih =>
    intro i c hi hc
    have iv : vp_in (nI i) 48 := vp_in_nI (by omega) (by decide)
    have ei : (nI i).toNatClampNeg = i := nI_clamp (by omega)
    have eK := hK i (by omega)
    have eg := hg i (by omega)
    have g : ¬ nI n ≤ nI i := nI_ge (by omega) (by omega)
    rcases h5 i (by omega) with z | ⟨z, z5⟩
    · obtain ⟨r, hX, hY⟩ := ih (i + 1) c (by omega) (by omega)
      refine ⟨r, fun post hp => br_f g ⟨iv, br_t (by rw [ei]; exact z) (nm_r (nI_1 i) (hX post hp))⟩, fun post hp => br_f g (br_f (by decide) ⟨iv, br_c (fun _ => br_f (by decide) (br_t rfl ⟨iv, br_t (by rw [ei, eg]; exact z) (br_f (by decide) ?_)⟩)) (fun _ => nm_r (nI_1 i) (hY post hp))⟩)⟩
      exact if_124 (by omega) (hY post hp)
    · obtain ⟨r, hX, hY⟩ := ih (i + 1) (c + 1) (by omega) (by omega)
      refine ⟨r, fun post hp => br_f g ⟨iv, br_f (by rw [ei, z]; decide) (nm_r (nI_1 c) (nm_r (nI_1 i) (hX post hp)))⟩, fun post hp => br_f g (br_f (by decide) ⟨iv, br_t (by rw [ei, eK]; exact z5) (br_f (by decide) (br_t rfl ⟨iv, br_f (by rw [ei, eg, z]; decide) (nm_r (nI_1 c) (br_f (by decide) ?_))⟩))⟩)⟩
      exact if_124 (by omega) (hY post hp)
end
def if_cap (n : Nat) (K W M : Nat → Int32) (b : Nat) : Prop := ∃ j, j < n ∧ M j = nI b ∧ W j ≠ (if K b = 5 then nI b else W b)
section
variable {f_tokenCount f_scriptSize f_saidPlace f_activationCount f_variableCount f_functionCount f_generatorCount f_ending f_valueSort : Int32} {f_valueNumber : Int64} {f_noteCount f_stepCount f_latestRun : Int32} {a_tokenKinds a_tokenOperands a_kinds a_operands a_parents a_behind a_ownFns a_meanings a_generatorFns a_frameTokens a_frameStages a_frameScopes a_keptEndings a_keptSorts : Nat → Int32} {a_keptNumbers : Nat → Int64} {a_frameCounts a_activeSlots a_variableBinders a_variableOuters a_variableSorts : Nat → Int32} {a_variableNumbers : Nat → Int64} {a_functionTokens a_functionScopes a_generatorStates a_noteSorts : Nat → Int32} {a_noteNumbers : Nat → Int64}
theorem if_cX2 {post : Int32 → Prop} {n b : Nat} {hm : Int32} (hn : n ≤ 48) (ex : f_scriptSize = nI n) (h1 : (∃ j, j < n ∧ a_meanings j = nI b ∧ a_ownFns j ≠ hm) → post 1) (h0 : (¬ ∃ j, j < n ∧ a_meanings j = nI b ∧ a_ownFns j ≠ hm) → post 0) :
    ∀ d i, i + d = n → (∀ j, j < i → ¬ (a_meanings j = nI b ∧ a_ownFns j ≠ hm)) → wX_isCaptured_25 post (nI b) hm f_tokenCount f_scriptSize f_saidPlace f_activationCount f_variableCount f_functionCount f_generatorCount f_ending f_valueSort f_valueNumber f_noteCount f_stepCount f_latestRun a_tokenKinds a_tokenOperands a_kinds a_operands a_parents a_behind a_ownFns a_meanings a_generatorFns a_frameTokens a_frameStages a_frameScopes a_keptEndings a_keptSorts a_keptNumbers a_frameCounts a_activeSlots a_variableBinders a_variableOuters a_variableSorts a_variableNumbers a_functionTokens a_functionScopes a_generatorStates a_noteSorts a_noteNumbers (d + 1) (nI i) := by
  subst ex
  intro d
  induction d with
  | zero =>
    intro i hi hj
    have hi : i = n := by omega
    subst hi
    exact br_t (nI_le (Nat.le_refl _) (by omega)) (h0 (fun ⟨j, q1, q2⟩ => hj j q1 q2))
  | succ d ih =>
    intro i hi hj
    have iv : vp_in (nI i) 48 := vp_in_nI (by omega) (by decide)
    have ei : (nI i).toNatClampNeg = i := nI_clamp (by omega)
    have nx : ¬ (a_meanings i = nI b ∧ a_ownFns i ≠ hm) → ∀ j, j < i + 1 → ¬ (a_meanings j = nI b ∧ a_ownFns j ≠ hm) := by
      intro q j hj2
      by_cases y : j = i
      · subst y; exact q
      · exact hj j (by omega)
    refine br_f (nI_ge (by omega) (by omega)) ⟨iv, ?_⟩
    rw [ei]
    refine br_c (fun c => ⟨iv, br_c (fun c2 => nm_r (nI_1 i) (ih (i + 1) (by omega) (nx (fun q => q.2 c2)))) (fun c2 => h1 ⟨i, by omega, c, c2⟩)⟩) (fun c => nm_r (nI_1 i) (ih (i + 1) (by omega) (nx (fun q => c q.1))))
theorem if_cX {post : Int32 → Prop} {n b : Nat} (hn : n ≤ 48) (ex : f_scriptSize = nI n) (hb : b < n) (hmj : ∀ j, j < n → a_meanings j = nI b → b < j) (h1 : if_cap n a_kinds a_ownFns a_meanings b → post 1) (h0 : ¬ if_cap n a_kinds a_ownFns a_meanings b → post 0) : wpX_isCaptured post (f_tokenCount, f_scriptSize, f_saidPlace, f_activationCount, f_variableCount, f_functionCount, f_generatorCount, f_ending, f_valueSort, f_valueNumber, f_noteCount, f_stepCount, f_latestRun, a_tokenKinds, a_tokenOperands, a_kinds, a_operands, a_parents, a_behind, a_ownFns, a_meanings, a_generatorFns, a_frameTokens, a_frameStages, a_frameScopes, a_keptEndings, a_keptSorts, a_keptNumbers, a_frameCounts, a_activeSlots, a_variableBinders, a_variableOuters, a_variableSorts, a_variableNumbers, a_functionTokens, a_functionScopes, a_generatorStates, a_noteSorts, a_noteNumbers) (nI b) := by
  have iv : vp_in (nI b) 48 := vp_in_nI (by omega) (by decide)
  have eb : (nI b).toNatClampNeg = b := nI_clamp (by omega)
  have st : ∀ hm : Int32, ∀ j, j < b + 1 → ¬ (a_meanings j = nI b ∧ a_ownFns j ≠ hm) := by
    intro hm j hj q
    have := hmj j (by omega) q.1
    omega
  refine ⟨iv, ?_⟩
  rw [eb]
  unfold if_cap at h1 h0
  refine br_c (fun c => nm_r (nI_1 b) ⟨n - (b + 1) + 1, ?_⟩) (fun c => ⟨iv, nm_e (nm_r (nI_1 b) ⟨n - (b + 1) + 1, ?_⟩)⟩)
  · rw [if_pos c] at h1 h0
    exact if_cX2 hn ex h1 h0 _ (b + 1) (by omega) (st _)
  · rw [if_neg c] at h1 h0
    exact if_cX2 hn ex h1 h0 _ (b + 1) (by omega) (st _)
end
section
variable {f_drafted f_length f_place f_there f_chains f_functions f_generators f_active f_begins f_token f_chain f_how f_sort : Int32} {f_value : Int64} {f_steps f_endSort f_status : Int32} {f_endNumber : Int64} {f_over f_noted : Int32} {a_draftKind a_draftWith a_kind a_with a_above a_as a_part a_open a_means a_own a_yields a_binder a_outer a_holdsSort : Nat → Int32} {a_holds : Nat → Int64} {a_fnToken a_fnChain a_state a_gBody a_gChain a_gYield a_closing a_rowOf a_many a_wToken a_wOperand a_wChain a_wSort a_wHow : Nat → Int32} {a_wValue : Nat → Int64} {a_noteSort : Nat → Int32} {a_noteNumber : Nat → Int64}
theorem if_cY2 {post : Int32 → Prop} {n b : Nat} (hn : n ≤ 48) (ey : f_length = nI n) (hb : b < n) (h1 : if_cap n a_kind a_own a_means b → post 1) (h0 : ¬ if_cap n a_kind a_own a_means b → post 0) :
    ∀ d i, i + d = n → (∀ j, j < i → ¬ (a_means j = nI b ∧ a_own j ≠ (if a_kind b = 5 then nI b else a_own b))) → wY_isCaptured_2 post (nI b) f_drafted f_length f_place f_there f_chains f_functions f_generators f_active f_begins f_token f_chain f_how f_sort f_value f_steps f_endSort f_status f_endNumber f_over f_noted a_draftKind a_draftWith a_kind a_with a_above a_as a_part a_open a_means a_own a_yields a_binder a_outer a_holdsSort a_holds a_fnToken a_fnChain a_state a_gBody a_gChain a_gYield a_closing a_rowOf a_many a_wToken a_wOperand a_wChain a_wSort a_wHow a_wValue a_noteSort a_noteNumber (d + 1) (nI i) := by
  subst ey
  intro d
  induction d with
  | zero =>
    intro i hi hj
    have hi : i = n := by omega
    subst hi
    exact br_t (nI_le (Nat.le_refl _) (by omega)) (h0 (fun ⟨j, q1, q2⟩ => hj j q1 q2))
  | succ d ih =>
    intro i hi hj
    have iv : vp_in (nI i) 48 := vp_in_nI (by omega) (by decide)
    have ei : (nI i).toNatClampNeg = i := nI_clamp (by omega)
    have ivb : vp_in (nI b) 48 := vp_in_nI (by omega) (by decide)
    have eb : (nI b).toNatClampNeg = b := nI_clamp (by omega)
    have nx : ¬ (a_means i = nI b ∧ a_own i ≠ (if a_kind b = 5 then nI b else a_own b)) → ∀ j, j < i + 1 → ¬ (a_means j = nI b ∧ a_own j ≠ (if a_kind b = 5 then nI b else a_own b)) := by
      intro q j hj2
      by_cases y : j = i
      · subst y; exact q
      · exact hj j (by omega)
    refine br_f (nI_ge (by omega) (by omega)) ⟨iv, ?_⟩
    rw [ei]
    refine br_c (fun c => ⟨iv, ivb, ?_⟩) (fun c => nm_r (nI_1 i) (ih (i + 1) (by omega) (nx (fun q => c q.1))))
    rw [eb]
    refine br_c (fun k5 => br_c (fun c2 => nm_r (nI_1 i) (ih (i + 1) (by omega) (nx (fun q => q.2 (by rw [if_pos k5]; exact c2))))) (fun c2 => h1 ⟨i, by omega, c, by rw [if_pos k5]; exact c2⟩)) (fun k5 => ⟨ivb, br_c (fun c2 => nm_r (nI_1 i) (ih (i + 1) (by omega) (nx (fun q => q.2 (by rw [if_neg k5]; exact c2))))) (fun c2 => h1 ⟨i, by omega, c, by rw [if_neg k5]; exact c2⟩)⟩)
theorem if_cY {post : Int32 → Prop} {n b : Nat} (hn : n ≤ 48) (ey : f_length = nI n) (hb : b < n) (h1 : if_cap n a_kind a_own a_means b → post 1) (h0 : ¬ if_cap n a_kind a_own a_means b → post 0) : wpY_isCaptured post (f_drafted, f_length, f_place, f_there, f_chains, f_functions, f_generators, f_active, f_begins, f_token, f_chain, f_how, f_sort, f_value, f_steps, f_endSort, f_status, f_endNumber, f_over, f_noted, a_draftKind, a_draftWith, a_kind, a_with, a_above, a_as, a_part, a_open, a_means, a_own, a_yields, a_binder, a_outer, a_holdsSort, a_holds, a_fnToken, a_fnChain, a_state, a_gBody, a_gChain, a_gYield, a_closing, a_rowOf, a_many, a_wToken, a_wOperand, a_wChain, a_wSort, a_wHow, a_wValue, a_noteSort, a_noteNumber) (nI b) :=
  ⟨n + 1, if_cY2 hn ey hb h1 h0 n 0 (by omega) (fun j hj => absurd hj (Nat.not_lt_zero _))⟩
end
section
variable {f_tokenCount f_scriptSize f_saidPlace f_activationCount f_variableCount f_functionCount f_generatorCount f_ending f_valueSort : Int32} {f_valueNumber : Int64} {f_noteCount f_stepCount f_latestRun : Int32} {a_tokenKinds a_tokenOperands a_kinds a_operands a_parents a_behind a_ownFns a_meanings a_generatorFns a_frameTokens a_frameStages a_frameScopes a_keptEndings a_keptSorts : Nat → Int32} {a_keptNumbers : Nat → Int64} {a_frameCounts a_activeSlots a_variableBinders a_variableOuters a_variableSorts : Nat → Int32} {a_variableNumbers : Nat → Int64} {a_functionTokens a_functionScopes a_generatorStates a_noteSorts : Nat → Int32} {a_noteNumbers : Nat → Int64} {f_drafted f_length f_place f_there f_chains f_functions f_generators f_active f_begins f_token f_chain f_how f_sort : Int32} {f_value : Int64} {f_steps f_endSort f_status : Int32} {f_endNumber : Int64} {f_over f_noted : Int32} {a_draftKind a_draftWith a_kind a_with a_above a_as a_part a_open a_means a_own a_yields a_binder a_outer a_holdsSort : Nat → Int32} {a_holds : Nat → Int64} {a_fnToken a_fnChain a_state a_gBody a_gChain a_gYield a_closing a_rowOf a_many a_wToken a_wOperand a_wChain a_wSort a_wHow : Nat → Int32} {a_wValue : Nat → Int64} {a_noteSort : Nat → Int32} {a_noteNumber : Nat → Int64}
theorem if_2 {n : Nat} (hn : n ≤ 48) (ex : f_scriptSize = nI n) (ey : f_length = nI n) (hK : ∀ i, i < n → a_kind i = a_kinds i) (hM : ∀ i, i < n → a_means i = a_meanings i) (hW : ∀ i, i < n → a_own i = a_ownFns i)
    (hmj : ∀ b j, b < n → j < n → a_meanings j = nI b → b < j ∧ (a_kinds b = 5 ∨ a_kinds b = 4 ∨ a_kinds b = 20)) :
    ∀ d i c, i + d = n → c ≤ i → ∃ r : Int32, (∀ post : Int32 → Prop, post r → wX_countCaptured_4 post f_tokenCount f_scriptSize f_saidPlace f_activationCount f_variableCount f_functionCount f_generatorCount f_ending f_valueSort f_valueNumber f_noteCount f_stepCount f_latestRun a_tokenKinds a_tokenOperands a_kinds a_operands a_parents a_behind a_ownFns a_meanings a_generatorFns a_frameTokens a_frameStages a_frameScopes a_keptEndings a_keptSorts a_keptNumbers a_frameCounts a_activeSlots a_variableBinders a_variableOuters a_variableSorts a_variableNumbers a_functionTokens a_functionScopes a_generatorStates a_noteSorts a_noteNumbers (d + 1) (nI c) (nI i)) ∧ (∀ post : Int32 → Prop, post r → wY_info_21 post 2 f_drafted f_length f_place f_there f_chains f_functions f_generators f_active f_begins f_token f_chain f_how f_sort f_value f_steps f_endSort f_status f_endNumber f_over f_noted a_draftKind a_draftWith a_kind a_with a_above a_as a_part a_open a_means a_own a_yields a_binder a_outer a_holdsSort a_holds a_fnToken a_fnChain a_state a_gBody a_gChain a_gYield a_closing a_rowOf a_many a_wToken a_wOperand a_wChain a_wSort a_wHow a_wValue a_noteSort a_noteNumber (d + 1) (nI c) (nI i)) := by
  have ex0 := ex
  have ey0 := ey
  intro d
  induction d with
  | zero =>
    intro i c hi hc
    have hi : i = n := by omega
    subst hi
    exact ⟨nI c, fun _ hp => br_t (by rw [ex]; exact nI_le (Nat.le_refl _) (by omega)) hp, fun _ hp => br_t (by rw [ey]; exact nI_le (Nat.le_refl _) (by omega)) hp⟩
  | succ d ih =>
    intro i c hi hc
    have iv : vp_in (nI i) 48 := vp_in_nI (by omega) (by decide)
    have ei : (nI i).toNatClampNeg = i := nI_clamp (by omega)
    have eK := hK i (by omega)
    have gx : ¬ f_scriptSize ≤ nI i := by rw [ex]; exact nI_ge (by omega) (by omega)
    have gy : ¬ f_length ≤ nI i := by rw [ey]; exact nI_ge (by omega) (by omega)
    have cap : if_cap n a_kind a_own a_means i ↔ if_cap n a_kinds a_ownFns a_meanings i := by
      unfold if_cap
      rw [eK, hW i (by omega)]
      constructor
      · rintro ⟨j, q1, q2, q3⟩
        exact ⟨j, q1, by rw [← hM j q1]; exact q2, by rw [← hW j q1]; exact q3⟩
      · rintro ⟨j, q1, q2, q3⟩
        exact ⟨j, q1, by rw [hM j q1]; exact q2, by rw [hW j q1]; exact q3⟩
    by_cases z : if_cap n a_kinds a_ownFns a_meanings i
    · obtain ⟨r, hX, hY⟩ := ih (i + 1) (c + 1) (by omega) (by omega)
      have kk : a_kinds i = 5 ∨ a_kinds i = 4 ∨ a_kinds i = 20 := by
        obtain ⟨j, q1, q2, _⟩ := z
        exact (hmj i j (by omega) q1 q2).2
      refine ⟨r, fun post hp => br_f gx ?_, fun post hp => br_f gy (br_t rfl ⟨iv, ?_⟩)⟩
      · exact if_cX hn ex (by omega) (fun j hj q => (hmj i j (by omega) hj q).1) (fun _ => br_f (by decide) (nm_r (nI_1 c) (nm_r (nI_1 i) (hX post hp)))) (fun y => absurd z y)
      · have f76 : wY_info_76 post (wY_info_21 post 2 f_drafted f_length f_place f_there f_chains f_functions f_generators f_active f_begins f_token f_chain f_how f_sort f_value f_steps f_endSort f_status f_endNumber f_over f_noted a_draftKind a_draftWith a_kind a_with a_above a_as a_part a_open a_means a_own a_yields a_binder a_outer a_holdsSort a_holds a_fnToken a_fnChain a_state a_gBody a_gChain a_gYield a_closing a_rowOf a_many a_wToken a_wOperand a_wChain a_wSort a_wHow a_wValue a_noteSort a_noteNumber (d + 1)) 2 (nI (c + 1)) (nI i) f_drafted f_length f_place f_there f_chains f_functions f_generators f_active f_begins f_token f_chain f_how f_sort f_value f_steps f_endSort f_status f_endNumber f_over f_noted a_draftKind a_draftWith a_kind a_with a_above a_as a_part a_open a_means a_own a_yields a_binder a_outer a_holdsSort a_holds a_fnToken a_fnChain a_state a_gBody a_gChain a_gYield a_closing a_rowOf a_many a_wToken a_wOperand a_wChain a_wSort a_wHow a_wValue a_noteSort a_noteNumber :=
          ⟨iv, br_c (fun _ => br_f (by decide) (br_f (by decide) (br_f (by decide) (if_124 (by omega) (hY post hp))))) (fun _ => nm_r (nI_1 i) (hY post hp))⟩
        have f65 : wY_info_65 post (wY_info_21 post 2 f_drafted f_length f_place f_there f_chains f_functions f_generators f_active f_begins f_token f_chain f_how f_sort f_value f_steps f_endSort f_status f_endNumber f_over f_noted a_draftKind a_draftWith a_kind a_with a_above a_as a_part a_open a_means a_own a_yields a_binder a_outer a_holdsSort a_holds a_fnToken a_fnChain a_state a_gBody a_gChain a_gYield a_closing a_rowOf a_many a_wToken a_wOperand a_wChain a_wSort a_wHow a_wValue a_noteSort a_noteNumber (d + 1)) 2 (nI c) (nI i) f_drafted f_length f_place f_there f_chains f_functions f_generators f_active f_begins f_token f_chain f_how f_sort f_value f_steps f_endSort f_status f_endNumber f_over f_noted a_draftKind a_draftWith a_kind a_with a_above a_as a_part a_open a_means a_own a_yields a_binder a_outer a_holdsSort a_holds a_fnToken a_fnChain a_state a_gBody a_gChain a_gYield a_closing a_rowOf a_many a_wToken a_wOperand a_wChain a_wSort a_wHow a_wValue a_noteSort a_noteNumber :=
          if_cY hn ey (by omega) (fun _ => br_f (by decide) (nm_r (nI_1 c) f76)) (fun y => absurd (cap.mpr z) y)
        rw [ei, eK]
        refine br_c (fun _ => f65) (fun n5 => ⟨iv, br_c (fun _ => f65) (fun n4 => ⟨iv, br_t ?_ f65⟩)⟩)
        rcases kk with q | q | q
        · exact absurd q n5
        · exact absurd q n4
        · exact q
    · obtain ⟨r, hX, hY⟩ := ih (i + 1) c (by omega) (by omega)
      refine ⟨r, fun post hp => br_f gx ?_, fun post hp => br_f gy (br_t rfl ⟨iv, ?_⟩)⟩
      · exact if_cX hn ex (by omega) (fun j hj q => (hmj i j (by omega) hj q).1) (fun y => absurd y z) (fun _ => br_t rfl (nm_r (nI_1 i) (hX post hp)))
      · have f76 : wY_info_76 post (wY_info_21 post 2 f_drafted f_length f_place f_there f_chains f_functions f_generators f_active f_begins f_token f_chain f_how f_sort f_value f_steps f_endSort f_status f_endNumber f_over f_noted a_draftKind a_draftWith a_kind a_with a_above a_as a_part a_open a_means a_own a_yields a_binder a_outer a_holdsSort a_holds a_fnToken a_fnChain a_state a_gBody a_gChain a_gYield a_closing a_rowOf a_many a_wToken a_wOperand a_wChain a_wSort a_wHow a_wValue a_noteSort a_noteNumber (d + 1)) 2 (nI c) (nI i) f_drafted f_length f_place f_there f_chains f_functions f_generators f_active f_begins f_token f_chain f_how f_sort f_value f_steps f_endSort f_status f_endNumber f_over f_noted a_draftKind a_draftWith a_kind a_with a_above a_as a_part a_open a_means a_own a_yields a_binder a_outer a_holdsSort a_holds a_fnToken a_fnChain a_state a_gBody a_gChain a_gYield a_closing a_rowOf a_many a_wToken a_wOperand a_wChain a_wSort a_wHow a_wValue a_noteSort a_noteNumber :=
          ⟨iv, br_c (fun _ => br_f (by decide) (br_f (by decide) (br_f (by decide) (if_124 (by omega) (hY post hp))))) (fun _ => nm_r (nI_1 i) (hY post hp))⟩
        have f65 : wY_info_65 post (wY_info_21 post 2 f_drafted f_length f_place f_there f_chains f_functions f_generators f_active f_begins f_token f_chain f_how f_sort f_value f_steps f_endSort f_status f_endNumber f_over f_noted a_draftKind a_draftWith a_kind a_with a_above a_as a_part a_open a_means a_own a_yields a_binder a_outer a_holdsSort a_holds a_fnToken a_fnChain a_state a_gBody a_gChain a_gYield a_closing a_rowOf a_many a_wToken a_wOperand a_wChain a_wSort a_wHow a_wValue a_noteSort a_noteNumber (d + 1)) 2 (nI c) (nI i) f_drafted f_length f_place f_there f_chains f_functions f_generators f_active f_begins f_token f_chain f_how f_sort f_value f_steps f_endSort f_status f_endNumber f_over f_noted a_draftKind a_draftWith a_kind a_with a_above a_as a_part a_open a_means a_own a_yields a_binder a_outer a_holdsSort a_holds a_fnToken a_fnChain a_state a_gBody a_gChain a_gYield a_closing a_rowOf a_many a_wToken a_wOperand a_wChain a_wSort a_wHow a_wValue a_noteSort a_noteNumber :=
          if_cY hn ey (by omega) (fun y => absurd (cap.mp y) z) (fun _ => br_t rfl f76)
        exact br_c (fun _ => f65) (fun _ => ⟨iv, br_c (fun _ => f65) (fun _ => ⟨iv, br_c (fun _ => f65) (fun _ => f76)⟩)⟩)
end
