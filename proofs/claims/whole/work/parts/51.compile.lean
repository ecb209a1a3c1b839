theorem cc_o {nt : Nat} {K K' : Nat → Int32} (h : ∀ j, j < nt → K' j = K j) : gs_o nt K' = gs_o nt K := by
  funext i
  unfold gs_o
  split
  · rename_i c
    rw [h i c]
  · rfl
theorem cc_all {nt : Nat} {K K' : Nat → Int32} {e : Nat → Nat} (hK : ∀ j, j < nt → K' j = K j) (h : tr_T (gs_o nt K) e) (h0 : e 0 = nt) : ∀ k, k < nt → gs_sc K' e k = gs_sc K e k ∧ gs_il K' e k = gs_il K e k ∧ gs_ow K' e k = gs_ow K e k := by
  have h' : tr_T (gs_o nt K') e := by rw [cc_o hK]; exact h
  intro k
  induction k using Nat.strongRecOn with
  | ind k ih =>
    intro hk
    by_cases z : k = 0
    · subst z
      exact ⟨rfl, rfl, rfl⟩
    · have hp := tr_pk (k := k) h (gs_o3 nt K) (by omega) (by omega)
      have q := ih _ hp.1 (by omega)
      have ek := hK (tr_pa e k) (by omega)
      rw [gs_scp (K := K') (k := k) h' (gs_o3 nt K') (by omega) (by omega), gs_scp (K := K) (k := k) h (gs_o3 nt K) (by omega) (by omega),
        gs_ilp (K := K') (k := k) h' (gs_o3 nt K') (by omega) (by omega), gs_ilp (K := K) (k := k) h (gs_o3 nt K) (by omega) (by omega),
        gs_owp (K := K') (k := k) h' (gs_o3 nt K') (by omega) (by omega), gs_owp (K := K) (k := k) h (gs_o3 nt K) (by omega) (by omega), ek, q.1, q.2.1, q.2.2]
      exact ⟨rfl, rfl, rfl⟩
theorem cc_fb {O O' : Nat → Int32} {nm : Int32} : ∀ l, (∀ b, b ∈ l → O' b = O b) → cm_fb O' nm l = cm_fb O nm l := by
  intro l
  induction l with
  | nil => intro _; rfl
  | cons b l ih =>
    intro h
    show (if O' b = nm then nI b else cm_fb O' nm l) = (if O b = nm then nI b else cm_fb O nm l)
    rw [h b (List.mem_cons_self ..), ih (fun b' hb => h b' (List.mem_cons_of_mem _ hb))]
theorem cc_m {nt : Nat} {K K' O O' : Nat → Int32} {e : Nat → Nat} (hK : ∀ j, j < nt → K' j = K j) (hO : ∀ j, j < nt → O' j = O j) (h : tr_T (gs_o nt K) e) (h0 : e 0 = nt) : ∀ k, k < nt → cm_m K' O' e k = cm_m K O e k := by
  intro k hk
  unfold cm_m
  rw [hK k hk, hO k hk, (cc_all hK h h0 k hk).1, cc_fb]
  intro b hb
  exact hO b (by have := (gs_scm h (gs_o3 nt K) k (by omega) b hb).1; omega)
section
variable {f_tokenCount f_scriptSize f_saidPlace f_activationCount f_variableCount f_functionCount f_generatorCount f_ending f_valueSort : Int32} {f_valueNumber : Int64} {f_noteCount f_stepCount f_latestRun : Int32} {a_tokenKinds a_tokenOperands a_kinds a_operands a_parents a_behind a_ownFns a_meanings a_generatorFns a_frameTokens a_frameStages a_frameScopes a_keptEndings a_keptSorts : Nat → Int32} {a_keptNumbers : Nat → Int64} {a_frameCounts a_activeSlots a_variableBinders a_variableOuters a_variableSorts : Nat → Int32} {a_variableNumbers : Nat → Int64} {a_functionTokens a_functionScopes a_generatorStates a_noteSorts : Nat → Int32} {a_noteNumbers : Nat → Int64}
theorem cc_X {post : Int32 → SX → Prop} {nt : Nat} {e : Nat → Nat} (hnt : nt ≤ 48) (et : f_tokenCount = nI nt) (hkd : ∀ i, i < nt → ∃ k, k < 27 ∧ a_tokenKinds i = nI k) (h : tr_T (gs_o nt a_tokenKinds) e)
    (pB : e 0 ≠ nt → post 1 (nI nt, 0, cm_pl (e 0) nt, 0, 0, 0, 0, f_ending, f_valueSort, f_valueNumber, 0, 0, -1, a_tokenKinds, a_tokenOperands, a_kinds, a_operands, a_parents, a_behind, a_ownFns, a_meanings, a_generatorFns, a_frameTokens, a_frameStages, a_frameScopes, a_keptEndings, a_keptSorts, a_keptNumbers, a_frameCounts, a_activeSlots, a_variableBinders, a_variableOuters, a_variableSorts, a_variableNumbers, a_functionTokens, a_functionScopes, a_generatorStates, a_noteSorts, a_noteNumbers))
    (pG : e 0 = nt → ∀ K O P b W M : Nat → Int32, (∀ j, j < nt → K j = a_tokenKinds j ∧ O j = a_tokenOperands j ∧ b j = nI (e j) ∧ W j = gs_ow K e j ∧ M j = cm_m K O e j) →
      (∀ i, i < nt → cm_U K M i → (∀ j, j < i → ¬ cm_U K M j) → post 2 (nI nt, 0, nI i, 0, 0, 0, 0, f_ending, f_valueSort, f_valueNumber, 0, 0, -1, a_tokenKinds, a_tokenOperands, K, O, P, b, W, M, cm_g K (gs_ow K e) a_generatorFns nt, a_frameTokens, a_frameStages, a_frameScopes, a_keptEndings, a_keptSorts, a_keptNumbers, a_frameCounts, a_activeSlots, a_variableBinders, a_variableOuters, a_variableSorts, a_variableNumbers, a_functionTokens, a_functionScopes, a_generatorStates, a_noteSorts, a_noteNumbers)) ∧
      ((∀ j, j < nt → ¬ cm_U K M j) → (∀ i, i < nt → cm_O K W (gs_il K e) i → (∀ j, j < i → ¬ cm_O K W (gs_il K e) j) → post 3 (nI nt, 0, nI i, 0, 0, 0, 0, f_ending, f_valueSort, f_valueNumber, 0, 0, -1, a_tokenKinds, a_tokenOperands, K, O, P, b, W, M, cm_g K (gs_ow K e) a_generatorFns nt, a_frameTokens, a_frameStages, a_frameScopes, a_keptEndings, a_keptSorts, a_keptNumbers, a_frameCounts, a_activeSlots, a_variableBinders, a_variableOuters, a_variableSorts, a_variableNumbers, a_functionTokens, a_functionScopes, a_generatorStates, a_noteSorts, a_noteNumbers)) ∧
        ((∀ j, j < nt → ¬ cm_O K W (gs_il K e) j) → post 0 (nI nt, nI nt, -1, 0, 0, 0, 0, f_ending, f_valueSort, f_valueNumber, 0, 0, -1, a_tokenKinds, a_tokenOperands, K, O, P, b, W, M, cm_g K (gs_ow K e) a_generatorFns nt, a_frameTokens, a_frameStages, a_frameScopes, a_keptEndings, a_keptSorts, a_keptNumbers, a_frameCounts, a_activeSlots, a_variableBinders, a_variableOuters, a_variableSorts, a_variableNumbers, a_functionTokens, a_functionScopes, a_generatorStates, a_noteSorts, a_noteNumbers)))) : wpX_compile post (f_tokenCount, f_scriptSize, f_saidPlace, f_activationCount, f_variableCount, f_functionCount, f_generatorCount, f_ending, f_valueSort, f_valueNumber, f_noteCount, f_stepCount, f_latestRun, a_tokenKinds, a_tokenOperands, a_kinds, a_operands, a_parents, a_behind, a_ownFns, a_meanings, a_generatorFns, a_frameTokens, a_frameStages, a_frameScopes, a_keptEndings, a_keptSorts, a_keptNumbers, a_frameCounts, a_activeSlots, a_variableBinders, a_variableOuters, a_variableSorts, a_variableNumbers, a_functionTokens, a_functionScopes, a_generatorStates, a_noteSorts, a_noteNumbers) := by
  subst et
  unfold wpX_compile wpX_forgetRun
  refine cx_shape hnt rfl hkd h ?_
  by_cases he : e 0 = nt
  · rw [cm_pl0 he]
    refine br_t rfl ?_
    refine cx_copy hnt rfl (fun K O hKO => ?_)
    have hn0 : 0 < nt := by have := h.2 0; omega
    have hK : ∀ j, j < nt → K j = a_tokenKinds j := fun j hj => (hKO j hj).1
    have h' : tr_T (gs_o nt K) e := by rw [cc_o hK]; exact h
    refine cx_link hnt hn0 rfl h' (gs_o3 nt K) he ?_ (fun P b hP hb => ?_)
    · intro i hi
      obtain ⟨k, hk27, hk⟩ := hkd i hi
      exact ⟨k, hk27, by rw [hK i hi]; exact hk, by rw [gs_oi nt K i hi, hK i hi, hk]⟩
    · have hP2 : ∀ k, 0 < k → k < nt → P k = nI (tr_pa e k) := by
        intro k h1 h2
        have hp := tr_pk (k := k) h' (gs_o3 nt K) h1 (by omega)
        have := hP.2 (tr_pa e k) (tr_ix e k) (Nat.zero_le _) (by omega) hp.2.1
        rw [hp.2.2] at this
        exact this
      refine cx_own hnt rfl h' he hP.1 hP2 (fun W hW => ?_)
      refine cx_mean hnt rfl h' he hP.1 hP2 (fun M hM => ?_)
      have G := pG he K O P b W M (fun j hj => ⟨(hKO j hj).1, (hKO j hj).2, hb j hj, hW j hj, hM j hj⟩)
      refine cx_unb hnt rfl (fun nU => br_t rfl ?_) (fun i hi hU hmin => br_f (fun z => rt_m1 (by omega) z.symm) (G.1 i hi hU hmin))
      refine cx_out hnt rfl h' he hP.1 hP2 (fun nO => br_t rfl ((G.2 nU).2 nO)) (fun i hi hO hmin => br_f (fun z => rt_m1 (by omega) z.symm) ((G.2 nU).1 i hi hO hmin))
  · have pB := pB he
    refine br_f ?_ pB
    unfold cm_pl
    rw [if_neg he]
    split
    · exact fun z => rt_m1 (by omega) z.symm
    · exact fun z => rt_m1 (by omega) z.symm
end
section
variable {f_drafted f_length f_place f_there f_chains f_functions f_generators f_active f_begins f_token f_chain f_how f_sort : Int32} {f_value : Int64} {f_steps f_endSort f_status : Int32} {f_endNumber : Int64} {f_over f_noted : Int32} {a_draftKind a_draftWith a_kind a_with a_above a_as a_part a_open a_means a_own a_yields a_binder a_outer a_holdsSort : Nat → Int32} {a_holds : Nat → Int64} {a_fnToken a_fnChain a_state a_gBody a_gChain a_gYield a_closing a_rowOf a_many a_wToken a_wOperand a_wChain a_wSort a_wHow : Nat → Int32} {a_wValue : Nat → Int64} {a_noteSort : Nat → Int32} {a_noteNumber : Nat → Int64}
theorem cc_Y {post : Int32 → SY → Prop} {nt : Nat} {e : Nat → Nat} (hnt : nt ≤ 48) (et : f_drafted = nI nt) (hkd : ∀ i, i < nt → ∃ k, k < 27 ∧ a_draftKind i = nI k) (h : tr_T (gs_o nt a_draftKind) e)
    (pB : e 0 ≠ nt → ∀ K O ab as pt op : Nat → Int32, post 1 (nI nt, nI nt, cm_pl (e 0) nt, 0, 0, 0, 0, 0, f_begins, f_token, f_chain, f_how, f_sort, f_value, 0, -1, f_status, 0, f_over, 0, a_draftKind, a_draftWith, K, O, ab, as, pt, op, a_means, a_own, a_yields, a_binder, a_outer, a_holdsSort, a_holds, a_fnToken, a_fnChain, a_state, a_gBody, a_gChain, a_gYield, a_closing, a_rowOf, a_many, a_wToken, a_wOperand, a_wChain, a_wSort, a_wHow, a_wValue, a_noteSort, a_noteNumber))
    (pG : e 0 = nt → ∀ K O ab as pt op W M : Nat → Int32, (∀ j, j < nt → K j = a_draftKind j ∧ O j = a_draftWith j ∧ W j = gs_ow K e j ∧ M j = cm_m K O e j) → cy_I nt K e nt ab as pt →
      (∀ i, i < nt → cm_U K M i → (∀ j, j < i → ¬ cm_U K M j) → post 2 (nI nt, nI nt, nI i, 0, 0, 0, 0, 0, f_begins, f_token, f_chain, f_how, f_sort, f_value, 0, -1, f_status, 0, f_over, 0, a_draftKind, a_draftWith, K, O, ab, as, pt, op, M, W, cm_g K (gs_ow K e) a_yields nt, a_binder, a_outer, a_holdsSort, a_holds, a_fnToken, a_fnChain, a_state, a_gBody, a_gChain, a_gYield, a_closing, a_rowOf, a_many, a_wToken, a_wOperand, a_wChain, a_wSort, a_wHow, a_wValue, a_noteSort, a_noteNumber)) ∧
      ((∀ j, j < nt → ¬ cm_U K M j) → (∀ i, i < nt → cm_O K W (gs_il K e) i → (∀ j, j < i → ¬ cm_O K W (gs_il K e) j) → post 3 (nI nt, nI nt, nI i, 0, 0, 0, 0, 0, f_begins, f_token, f_chain, f_how, f_sort, f_value, 0, -1, f_status, 0, f_over, 0, a_draftKind, a_draftWith, K, O, ab, as, pt, op, M, W, cm_g K (gs_ow K e) a_yields nt, a_binder, a_outer, a_holdsSort, a_holds, a_fnToken, a_fnChain, a_state, a_gBody, a_gChain, a_gYield, a_closing, a_rowOf, a_many, a_wToken, a_wOperand, a_wChain, a_wSort, a_wHow, a_wValue, a_noteSort, a_noteNumber)) ∧
        ((∀ j, j < nt → ¬ cm_O K W (gs_il K e) j) → post 0 (nI nt, nI nt, -1, 1, 0, 0, 0, 0, f_begins, f_token, f_chain, f_how, f_sort, f_value, 0, -1, f_status, 0, f_over, 0, a_draftKind, a_draftWith, K, O, ab, as, pt, op, M, W, cm_g K (gs_ow K e) a_yields nt, a_binder, a_outer, a_holdsSort, a_holds, a_fnToken, a_fnChain, a_state, a_gBody, a_gChain, a_gYield, a_closing, a_rowOf, a_many, a_wToken, a_wOperand, a_wChain, a_wSort, a_wHow, a_wValue, a_noteSort, a_noteNumber)))) : wpY_compile post (f_drafted, f_length, f_place, f_there, f_chains, f_functions, f_generators, f_active, f_begins, f_token, f_chain, f_how, f_sort, f_value, f_steps, f_endSort, f_status, f_endNumber, f_over, f_noted, a_draftKind, a_draftWith, a_kind, a_with, a_above, a_as, a_part, a_open, a_means, a_own, a_yields, a_binder, a_outer, a_holdsSort, a_holds, a_fnToken, a_fnChain, a_state, a_gBody, a_gChain, a_gYield, a_closing, a_rowOf, a_many, a_wToken, a_wOperand, a_wChain, a_wSort, a_wHow, a_wValue, a_noteSort, a_noteNumber) := by
  subst et
  unfold wpY_compile wpY_forget
  refine ⟨nt + 1, ?_⟩
  refine cy_19 hnt rfl (fun K O hKO => ?_) nt 0 a_kind a_with (by omega) (fun j hj => absurd hj (Nat.not_lt_zero _))
  have hK : ∀ j, j < nt → K j = a_draftKind j := fun j hj => (hKO j hj).1
  have h' : tr_T (gs_o nt K) e := by rw [cc_o hK]; exact h
  refine cy_shape hnt rfl (fun i hi => by rw [hK i hi]; exact hkd i hi) h' (fun ab as pt op hI => ?_)
  by_cases he : e 0 = nt
  · have hI := hI he
    have hn0 : 0 < nt := by have := h.2 0; omega
    rw [cm_pl0 he]
    refine br_t (by decide) ⟨nt + 1, ?_⟩
    have hA : ∀ k, 0 < k → k < nt → ab k = nI (tr_pa e k) ∧ as k = nI (tr_ix e k) := hI.2.1
    refine cy_76 (g0 := a_yields) hnt rfl h' he (hI.1 hn0) hA (fun M W hMW => ?_) nt 0 a_means a_own a_yields (by omega) (fun j hj => absurd hj (Nat.not_lt_zero _)) rfl
    have G := pG he K O ab as pt op W M (fun j hj => ⟨(hKO j hj).1, (hKO j hj).2, (hMW j hj).2, (hMW j hj).1⟩) hI
    have hM : ∀ j, j < nt → M j = -1 ∨ 0 ≤ M j := by
      intro j hj
      rw [(hMW j hj).1]
      unfold cm_m
      split
      · rcases cm_fb1 O (O j) (gs_sc K e j) with q | ⟨b, hb, q⟩
        · exact Or.inl q
        · rw [q]
          exact Or.inr (nI_pos' (by have := (gs_scm h' (gs_o3 nt K) j (by omega) b hb).1; omega))
      · exact Or.inl rfl
    have hW : ∀ j, j < nt → W j = -1 ∨ 0 ≤ W j := by
      intro j hj
      rw [(hMW j hj).2]
      rcases cm_ow h' he j hj with q | ⟨f, hf, q, _⟩
      · exact Or.inl q
      · rw [q]
        exact Or.inr (nI_pos' (by omega))
    refine ⟨nt + 1, cy_97 hnt rfl hM (fun nU => ⟨nt + 1, ?_⟩) (fun i hi hU hmin => G.1 i hi hU hmin) nt 0 (by omega) (fun j hj => absurd hj (Nat.not_lt_zero _))⟩
    exact cy_149 hnt rfl h' he (hI.1 hn0) hA hW (fun nO => (G.2 nU).2 nO) (fun i hi hO hmin => (G.2 nU).1 i hi hO hmin) nt 0 (by omega) (fun j hj => absurd hj (Nat.not_lt_zero _))
  · refine br_f ?_ (pB he K O ab as pt op)
    unfold cm_pl
    rw [if_neg he]
    split
    · exact nI_pos (by have := hnt; omega)
    · exact nI_pos (by omega)
end
