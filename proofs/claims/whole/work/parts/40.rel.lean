def gw_S2 (w : gw_T) : Prop :=
  (∀ i, gw_o w i ≤ 3) ∧ (∀ i, i < gw_n w → gw_gn w i = 1 → gw_K w i = 5) ∧ (∀ i, i < gw_n w → gw_mn w i = -1 ∨ ∃ b, b ∈ gw_sc w i ∧ gw_mn w i = nI b) ∧
  (∀ i, i < gw_n w → ∀ b, b ∈ gw_sc w i → b < i ∧ i < gw_e w b ∧ (gw_K w b = 5 ∨ gw_K w b = 4 ∨ gw_K w b = 20))
def il_T (n : Nat) (kx ox bx fx mx gx : Nat → Int32) (ky oy ay py my fy gy : Nat → Int32) : Prop :=
  ∃ w, gw_S w ∧ gw_S2 w ∧ gw_n w = n ∧ gw_K w = kx ∧ gw_v w = ox ∧ gw_mn w = mx ∧ gw_gn w = gx ∧ (∀ i, i < n → bx i = nI (gw_e w i)) ∧ (∀ i, i < n → fx i = gw_ow w i) ∧
    (∀ i, i < n → ky i = gw_K w i ∧ oy i = gw_v w i ∧ my i = gw_mn w i ∧ gy i = gw_gn w i) ∧ (∀ i j, i < n → j < gw_o w i → py (3 * i + j) = nI (gw_c w i j)) ∧
    (∀ i, i < n → fy i = gw_ow w i) ∧ ay 0 = -1 ∧ (∀ i, 0 < i → i < n → ay i = nI (tr_pa (gw_e w) i))
def il_G (gc : Nat) (gs ft cn st cl gy : Nat → Int32) : Prop :=
  ∀ g, g < gc → (st g = 0 ∨ st g = 1 ∨ st g = 2 ∨ st g = 3) ∧ gs g = xr_g (st g) (cl g) ∧ (st g = 1 → ∃ l, l < 48 ∧ cn (8 + g) = nI (l + 1) ∧ ft (48 * (8 + g) + l) = gy g)
def il_E (lr vs : Int32) (vn : Int64) (ft : Nat → Int32) (es : Int32) (en : Int64) : Prop :=
  ((¬ lr = 0 ∧ ¬ lr = 1) ∧ es = -1 ∧ en = 0) ∨ ((lr = 0 ∨ lr = 1) ∧ vs = es ∧ (vs = 3 → ∃ i, i < 600 ∧ vn = lN i ∧ (ft i).toInt64 = en) ∧ (¬ vs = 3 → vn = en))
def il_R (u : SX) (v : SY) : Prop := match u, v with
  | (f_tokenCount, f_scriptSize, f_saidPlace, f_activationCount, f_variableCount, f_functionCount, f_generatorCount, f_ending, f_valueSort, f_valueNumber, f_noteCount, f_stepCount, f_latestRun, a_tokenKinds, a_tokenOperands, a_kinds, a_operands, a_parents, a_behind, a_ownFns, a_meanings, a_generatorFns, a_frameTokens, a_frameStages, a_frameScopes, a_keptEndings, a_keptSorts, a_keptNumbers, a_frameCounts, a_activeSlots, a_variableBinders, a_variableOuters, a_variableSorts, a_variableNumbers, a_functionTokens, a_functionScopes, a_generatorStates, a_noteSorts, a_noteNumbers), (f_drafted, f_length, f_place, f_there, f_chains, f_functions, f_generators, f_active, f_begins, f_token, f_chain, f_how, f_sort, f_value, f_steps, f_endSort, f_status, f_endNumber, f_over, f_noted, a_draftKind, a_draftWith, a_kind, a_with, a_above, a_as, a_part, a_open, a_means, a_own, a_yields, a_binder, a_outer, a_holdsSort, a_holds, a_fnToken, a_fnChain, a_state, a_gBody, a_gChain, a_gYield, a_closing, a_rowOf, a_many, a_wToken, a_wOperand, a_wChain, a_wSort, a_wHow, a_wValue, a_noteSort, a_noteNumber) =>
    (∃ nt, nt ≤ 48 ∧ f_tokenCount = nI nt ∧ f_drafted = nI nt ∧ (∀ i, i < nt → ∃ k, k < 27 ∧ a_tokenKinds i = nI k)) ∧ a_draftKind = a_tokenKinds ∧ a_draftWith = a_tokenOperands ∧ f_place = f_saidPlace ∧
    ((f_scriptSize = 0 ∧ f_there = 0) ∨ (∃ n, 0 < n ∧ n ≤ 48 ∧ f_scriptSize = nI n ∧ f_there = 1 ∧ f_length = nI n ∧ il_T n a_kinds a_operands a_behind a_ownFns a_meanings a_generatorFns a_kind a_with a_above a_part a_means a_own a_yields)) ∧
    (a_binder = a_variableBinders ∧ a_outer = a_variableOuters ∧ a_holdsSort = a_variableSorts ∧ a_holds = a_variableNumbers ∧ a_fnToken = a_functionTokens ∧ a_fnChain = a_functionScopes) ∧
    (f_steps = f_stepCount ∧ f_noted = f_noteCount ∧ a_noteSort = a_noteSorts ∧ a_noteNumber = a_noteNumbers) ∧
    (∃ gc, gc ≤ 8 ∧ f_generatorCount = nI gc ∧ f_generators = nI gc ∧ il_G gc a_generatorStates a_frameTokens a_frameCounts a_state a_closing a_gYield) ∧
    il_E f_latestRun f_valueSort f_valueNumber a_functionTokens f_endSort f_endNumber
def i_Rel (_ : Nat) (u : SX) (v : SY) : Prop := il_R u v
theorem i_up {k : Nat} {u : SX} {v : SY} (h : i_Rel k u v) : i_Rel (k + 3) u v := h
theorem i_vc0 : wpX_init (fun u => wpY_init (fun v => i_Rel 0 u v)) := by
  refine ⟨⟨0, by omega, rfl, rfl, fun i hi => absurd hi (Nat.not_lt_zero _)⟩, rfl, rfl, rfl, Or.inl ⟨rfl, rfl⟩, ⟨rfl, rfl, rfl, rfl, rfl, rfl⟩, ⟨rfl, rfl, rfl, rfl⟩, ⟨0, by omega, rfl, rfl, fun g hg => absurd hg (Nat.not_lt_zero _)⟩, Or.inl ⟨⟨by decide, by decide⟩, rfl, rfl⟩⟩
