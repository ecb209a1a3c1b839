section
variable {post : SX → Prop} {f_tokenCount f_scriptSize f_saidPlace f_activationCount f_variableCount f_functionCount f_generatorCount f_ending f_valueSort : Int32} {f_valueNumber : Int64} {f_noteCount f_stepCount f_latestRun : Int32} {a_tokenKinds a_tokenOperands a_kinds a_operands a_parents a_behind a_ownFns a_meanings a_generatorFns a_frameTokens a_frameStages a_frameScopes a_keptEndings a_keptSorts : Nat → Int32} {a_keptNumbers : Nat → Int64} {a_frameCounts a_activeSlots a_variableBinders a_variableOuters a_variableSorts : Nat → Int32} {a_variableNumbers : Nat → Int64} {a_functionTokens a_functionScopes a_generatorStates a_noteSorts : Nat → Int32} {a_noteNumbers : Nat → Int64}
theorem xm_ops {posti : Int32 → Prop} : ∀ k, k < 27 → posti (nI (gw_op (nI k))) → wpX_operandCount posti (f_tokenCount, f_scriptSize, f_saidPlace, f_activationCount, f_variableCount, f_functionCount, f_generatorCount, f_ending, f_valueSort, f_valueNumber, f_noteCount, f_stepCount, f_latestRun, a_tokenKinds, a_tokenOperands, a_kinds, a_operands, a_parents, a_behind, a_ownFns, a_meanings, a_generatorFns, a_frameTokens, a_frameStages, a_frameScopes, a_keptEndings, a_keptSorts, a_keptNumbers, a_frameCounts, a_activeSlots, a_variableBinders, a_variableOuters, a_variableSorts, a_variableNumbers, a_functionTokens, a_functionScopes, a_generatorStates, a_noteSorts, a_noteNumbers) (nI k) := by
  intro k hk h
  have c : k = 0 ∨ k = 1 ∨ k = 2 ∨ k = 3 ∨ k = 4 ∨ k = 5 ∨ k = 6 ∨ k = 7 ∨ k = 8 ∨ k = 9 ∨ k = 10 ∨ k = 11 ∨ k = 12 ∨ k = 13 ∨ k = 14 ∨ k = 15 ∨ k = 16 ∨ k = 17 ∨ k = 18 ∨ k = 19 ∨ k = 20 ∨ k = 21 ∨ k = 22 ∨ k = 23 ∨ k = 24 ∨ k = 25 ∨ k = 26 := by omega
  rcases c with rfl | rfl | rfl | rfl | rfl | rfl | rfl | rfl | rfl | rfl | rfl | rfl | rfl | rfl | rfl | rfl | rfl | rfl | rfl | rfl | rfl | rfl | rfl | rfl | rfl | rfl | rfl
  all_goals
    unfold wpX_operandCount
    repeat (refine br_f (by decide) ?_)
    exact br_t (by decide) h
theorem xm_tp {d a : Nat} (hA : f_activationCount = nI (d + 1)) (hd : d < 8) (hac : a_activeSlots d = nI a) : a_activeSlots (f_activationCount - 1).toNatClampNeg = nI a := by
  rw [hA, nI_pred, nI_clamp (by omega), hac]
theorem xm_ti {d : Nat} (hA : f_activationCount = nI (d + 1)) (hd : d < 8) : vp_in (f_activationCount - 1) 8 := by
  rw [hA, nI_pred]
  exact vp_in_nI hd (by decide)
theorem xm_finish {d a l : Nat} (hA : f_activationCount = nI (d + 1)) (hd : d < 8) (hac : a_activeSlots d = nI a) (ha : a < 16) (hcn : a_frameCounts a = nI (l + 1)) {s : Int32} {x : Int64}
    (h : post (f_tokenCount, f_scriptSize, f_saidPlace, f_activationCount, f_variableCount, f_functionCount, f_generatorCount, 0, s, x, f_noteCount, f_stepCount, f_latestRun, a_tokenKinds, a_tokenOperands, a_kinds, a_operands, a_parents, a_behind, a_ownFns, a_meanings, a_generatorFns, a_frameTokens, a_frameStages, a_frameScopes, a_keptEndings, a_keptSorts, a_keptNumbers, upd a_frameCounts a (nI l), a_activeSlots, a_variableBinders, a_variableOuters, a_variableSorts, a_variableNumbers, a_functionTokens, a_functionScopes, a_generatorStates, a_noteSorts, a_noteNumbers)) : wpX_finish post (f_tokenCount, f_scriptSize, f_saidPlace, f_activationCount, f_variableCount, f_functionCount, f_generatorCount, f_ending, f_valueSort, f_valueNumber, f_noteCount, f_stepCount, f_latestRun, a_tokenKinds, a_tokenOperands, a_kinds, a_operands, a_parents, a_behind, a_ownFns, a_meanings, a_generatorFns, a_frameTokens, a_frameStages, a_frameScopes, a_keptEndings, a_keptSorts, a_keptNumbers, a_frameCounts, a_activeSlots, a_variableBinders, a_variableOuters, a_variableSorts, a_variableNumbers, a_functionTokens, a_functionScopes, a_generatorStates, a_noteSorts, a_noteNumbers) s x := by
  have e5 := xm_tp hA hd hac
  have i2 : vp_in (a_activeSlots (f_activationCount - 1).toNatClampNeg) 16 := by rw [e5]; exact vp_in_nI ha (by decide)
  exact ⟨xm_ti hA hd, i2, i2, nm_r (by rw [e5, nI_clamp (by omega), hcn, nI_pred]) h⟩
theorem xm_finishThrowing {d a l : Nat} (hA : f_activationCount = nI (d + 1)) (hd : d < 8) (hac : a_activeSlots d = nI a) (ha : a < 16) (hcn : a_frameCounts a = nI (l + 1)) {s : Int32}
    (h : post (f_tokenCount, f_scriptSize, f_saidPlace, f_activationCount, f_variableCount, f_functionCount, f_generatorCount, 1, 1, s.toInt64, f_noteCount, f_stepCount, f_latestRun, a_tokenKinds, a_tokenOperands, a_kinds, a_operands, a_parents, a_behind, a_ownFns, a_meanings, a_generatorFns, a_frameTokens, a_frameStages, a_frameScopes, a_keptEndings, a_keptSorts, a_keptNumbers, upd a_frameCounts a (nI l), a_activeSlots, a_variableBinders, a_variableOuters, a_variableSorts, a_variableNumbers, a_functionTokens, a_functionScopes, a_generatorStates, a_noteSorts, a_noteNumbers)) : wpX_finishThrowing post (f_tokenCount, f_scriptSize, f_saidPlace, f_activationCount, f_variableCount, f_functionCount, f_generatorCount, f_ending, f_valueSort, f_valueNumber, f_noteCount, f_stepCount, f_latestRun, a_tokenKinds, a_tokenOperands, a_kinds, a_operands, a_parents, a_behind, a_ownFns, a_meanings, a_generatorFns, a_frameTokens, a_frameStages, a_frameScopes, a_keptEndings, a_keptSorts, a_keptNumbers, a_frameCounts, a_activeSlots, a_variableBinders, a_variableOuters, a_variableSorts, a_variableNumbers, a_functionTokens, a_functionScopes, a_generatorStates, a_noteSorts, a_noteNumbers) s := by
  have e5 := xm_tp hA hd hac
  have i2 : vp_in (a_activeSlots (f_activationCount - 1).toNatClampNeg) 16 := by rw [e5]; exact vp_in_nI ha (by decide)
  exact ⟨xm_ti hA hd, i2, i2, nm_r (by rw [e5, nI_clamp (by omega), hcn, nI_pred]) h⟩
theorem xm_finishAs {d a l : Nat} (hA : f_activationCount = nI (d + 1)) (hd : d < 8) (hac : a_activeSlots d = nI a) (ha : a < 16) (hcn : a_frameCounts a = nI (l + 1)) {s : Int32}
    (h : post (f_tokenCount, f_scriptSize, f_saidPlace, f_activationCount, f_variableCount, f_functionCount, f_generatorCount, s, f_valueSort, f_valueNumber, f_noteCount, f_stepCount, f_latestRun, a_tokenKinds, a_tokenOperands, a_kinds, a_operands, a_parents, a_behind, a_ownFns, a_meanings, a_generatorFns, a_frameTokens, a_frameStages, a_frameScopes, a_keptEndings, a_keptSorts, a_keptNumbers, upd a_frameCounts a (nI l), a_activeSlots, a_variableBinders, a_variableOuters, a_variableSorts, a_variableNumbers, a_functionTokens, a_functionScopes, a_generatorStates, a_noteSorts, a_noteNumbers)) : wpX_finishAs post (f_tokenCount, f_scriptSize, f_saidPlace, f_activationCount, f_variableCount, f_functionCount, f_generatorCount, f_ending, f_valueSort, f_valueNumber, f_noteCount, f_stepCount, f_latestRun, a_tokenKinds, a_tokenOperands, a_kinds, a_operands, a_parents, a_behind, a_ownFns, a_meanings, a_generatorFns, a_frameTokens, a_frameStages, a_frameScopes, a_keptEndings, a_keptSorts, a_keptNumbers, a_frameCounts, a_activeSlots, a_variableBinders, a_variableOuters, a_variableSorts, a_variableNumbers, a_functionTokens, a_functionScopes, a_generatorStates, a_noteSorts, a_noteNumbers) s := by
  have e5 := xm_tp hA hd hac
  have i2 : vp_in (a_activeSlots (f_activationCount - 1).toNatClampNeg) 16 := by rw [e5]; exact vp_in_nI ha (by decide)
  exact ⟨xm_ti hA hd, i2, i2, nm_r (by rw [e5, nI_clamp (by omega), hcn, nI_pred]) h⟩
theorem xm_wop {d a l k : Nat} (hA : f_activationCount = nI (d + 1)) (hd : d < 8) (hac : a_activeSlots d = nI a) (ha : a < 16) (hcn : a_frameCounts a = nI (l + 1)) (hk : k + 1 < 768) {st t c : Int32}
    (h : post (f_tokenCount, f_scriptSize, f_saidPlace, f_activationCount, f_variableCount, f_functionCount, f_generatorCount, f_ending, f_valueSort, f_valueNumber, f_noteCount, f_stepCount, f_latestRun, a_tokenKinds, a_tokenOperands, a_kinds, a_operands, a_parents, a_behind, a_ownFns, a_meanings, a_generatorFns, upd a_frameTokens (k + 1) t, upd (upd a_frameStages k st) (k + 1) 0, upd a_frameScopes (k + 1) c, a_keptEndings, a_keptSorts, a_keptNumbers, upd a_frameCounts a (nI (l + 2)), a_activeSlots, a_variableBinders, a_variableOuters, a_variableSorts, a_variableNumbers, a_functionTokens, a_functionScopes, a_generatorStates, a_noteSorts, a_noteNumbers)) :
    wpX_workOutPart post (f_tokenCount, f_scriptSize, f_saidPlace, f_activationCount, f_variableCount, f_functionCount, f_generatorCount, f_ending, f_valueSort, f_valueNumber, f_noteCount, f_stepCount, f_latestRun, a_tokenKinds, a_tokenOperands, a_kinds, a_operands, a_parents, a_behind, a_ownFns, a_meanings, a_generatorFns, a_frameTokens, a_frameStages, a_frameScopes, a_keptEndings, a_keptSorts, a_keptNumbers, a_frameCounts, a_activeSlots, a_variableBinders, a_variableOuters, a_variableSorts, a_variableNumbers, a_functionTokens, a_functionScopes, a_generatorStates, a_noteSorts, a_noteNumbers) (nI k) st t c := by
  have e5 := xm_tp hA hd hac
  have i2 : vp_in (a_activeSlots (f_activationCount - 1).toNatClampNeg) 16 := by rw [e5]; exact vp_in_nI ha (by decide)
  have i3 : vp_in (nI k) 768 := vp_in_nI (by omega) (by decide)
  have i4 : vp_in (nI k + 1) 768 := by rw [nI_1]; exact vp_in_nI (by omega) (by decide)
  have e6 : (nI k).toNatClampNeg = k := nI_clamp (by omega)
  have e7 : (nI k + 1).toNatClampNeg = k + 1 := by rw [nI_1]; exact nI_clamp (by omega)
  exact ⟨i3, nm_r (by rw [e6]) ⟨i4, nm_r (by rw [e7]) ⟨i4, nm_r (by rw [e7]) ⟨i4, nm_r (by rw [e7]) ⟨xm_ti hA hd, i2, i2, nm_r (by rw [e5, nI_clamp (by omega), hcn, nI_1]) h⟩⟩⟩⟩⟩
theorem xm_newVar {postv : Int32 → SX → Prop} {v : Nat} (hv : f_variableCount = nI v) (h6 : v < 600) {b c : Int32}
    (h : postv (nI v) (f_tokenCount, f_scriptSize, f_saidPlace, f_activationCount, nI (v + 1), f_functionCount, f_generatorCount, f_ending, f_valueSort, f_valueNumber, f_noteCount, f_stepCount, f_latestRun, a_tokenKinds, a_tokenOperands, a_kinds, a_operands, a_parents, a_behind, a_ownFns, a_meanings, a_generatorFns, a_frameTokens, a_frameStages, a_frameScopes, a_keptEndings, a_keptSorts, a_keptNumbers, a_frameCounts, a_activeSlots, upd a_variableBinders v b, upd a_variableOuters v c, upd a_variableSorts v f_valueSort, vp_updL a_variableNumbers v f_valueNumber, a_functionTokens, a_functionScopes, a_generatorStates, a_noteSorts, a_noteNumbers)) :
    wpX_newVariable postv (f_tokenCount, f_scriptSize, f_saidPlace, f_activationCount, f_variableCount, f_functionCount, f_generatorCount, f_ending, f_valueSort, f_valueNumber, f_noteCount, f_stepCount, f_latestRun, a_tokenKinds, a_tokenOperands, a_kinds, a_operands, a_parents, a_behind, a_ownFns, a_meanings, a_generatorFns, a_frameTokens, a_frameStages, a_frameScopes, a_keptEndings, a_keptSorts, a_keptNumbers, a_frameCounts, a_activeSlots, a_variableBinders, a_variableOuters, a_variableSorts, a_variableNumbers, a_functionTokens, a_functionScopes, a_generatorStates, a_noteSorts, a_noteNumbers) b c := by
  subst hv
  have i : vp_in (nI v) 600 := vp_in_nI h6 (by decide)
  have e : (nI v).toNatClampNeg = v := nI_clamp (by omega)
  exact ⟨i, nm_r (by rw [e]) ⟨i, nm_r (by rw [e]) ⟨i, nm_r (by rw [e]) ⟨i, nm_r (by rw [e]) (nm_r (nI_1 v) h)⟩⟩⟩⟩
theorem xm_keep {k : Nat} (hk : k < 768) (h : post (f_tokenCount, f_scriptSize, f_saidPlace, f_activationCount, f_variableCount, f_functionCount, f_generatorCount, f_ending, f_valueSort, f_valueNumber, f_noteCount, f_stepCount, f_latestRun, a_tokenKinds, a_tokenOperands, a_kinds, a_operands, a_parents, a_behind, a_ownFns, a_meanings, a_generatorFns, a_frameTokens, a_frameStages, a_frameScopes, a_keptEndings, upd a_keptSorts k f_valueSort, vp_updL a_keptNumbers k f_valueNumber, a_frameCounts, a_activeSlots, a_variableBinders, a_variableOuters, a_variableSorts, a_variableNumbers, a_functionTokens, a_functionScopes, a_generatorStates, a_noteSorts, a_noteNumbers)) : wpX_keepValue post (f_tokenCount, f_scriptSize, f_saidPlace, f_activationCount, f_variableCount, f_functionCount, f_generatorCount, f_ending, f_valueSort, f_valueNumber, f_noteCount, f_stepCount, f_latestRun, a_tokenKinds, a_tokenOperands, a_kinds, a_operands, a_parents, a_behind, a_ownFns, a_meanings, a_generatorFns, a_frameTokens, a_frameStages, a_frameScopes, a_keptEndings, a_keptSorts, a_keptNumbers, a_frameCounts, a_activeSlots, a_variableBinders, a_variableOuters, a_variableSorts, a_variableNumbers, a_functionTokens, a_functionScopes, a_generatorStates, a_noteSorts, a_noteNumbers) (nI k) := by
  have i : vp_in (nI k) 768 := vp_in_nI hk (by decide)
  have e : (nI k).toNatClampNeg = k := nI_clamp (by omega)
  exact ⟨i, nm_r (by rw [e]) ⟨i, nm_r (by rw [e]) h⟩⟩
theorem xm_lay {b : Nat} (hb : b < 16) {t c : Int32}
    (h : post (f_tokenCount, f_scriptSize, f_saidPlace, f_activationCount, f_variableCount, f_functionCount, f_generatorCount, f_ending, f_valueSort, f_valueNumber, f_noteCount, f_stepCount, f_latestRun, a_tokenKinds, a_tokenOperands, a_kinds, a_operands, a_parents, a_behind, a_ownFns, a_meanings, a_generatorFns, upd a_frameTokens (48 * b) t, upd a_frameStages (48 * b) 0, upd a_frameScopes (48 * b) c, a_keptEndings, a_keptSorts, a_keptNumbers, upd a_frameCounts b 1, a_activeSlots, a_variableBinders, a_variableOuters, a_variableSorts, a_variableNumbers, a_functionTokens, a_functionScopes, a_generatorStates, a_noteSorts, a_noteNumbers)) : wpX_layFirstFrame post (f_tokenCount, f_scriptSize, f_saidPlace, f_activationCount, f_variableCount, f_functionCount, f_generatorCount, f_ending, f_valueSort, f_valueNumber, f_noteCount, f_stepCount, f_latestRun, a_tokenKinds, a_tokenOperands, a_kinds, a_operands, a_parents, a_behind, a_ownFns, a_meanings, a_generatorFns, a_frameTokens, a_frameStages, a_frameScopes, a_keptEndings, a_keptSorts, a_keptNumbers, a_frameCounts, a_activeSlots, a_variableBinders, a_variableOuters, a_variableSorts, a_variableNumbers, a_functionTokens, a_functionScopes, a_generatorStates, a_noteSorts, a_noteNumbers) (nI b) t c := by
  have e0 : nI b * 48 = nI (48 * b) := by
    rw [Nat.mul_comm]
    exact pk_mul b 48
  have i : vp_in (nI (48 * b)) 768 := vp_in_nI (by omega) (by decide)
  have e : (nI (48 * b)).toNatClampNeg = 48 * b := nI_clamp (by omega)
  exact nm_r e0 ⟨i, nm_r (by rw [e]) ⟨i, nm_r (by rw [e]) ⟨i, nm_r (by rw [e]) ⟨vp_in_nI hb (by decide), nm_r (by rw [nI_clamp (by omega)]) h⟩⟩⟩⟩
theorem xm_enter {d : Nat} (hA : f_activationCount = nI d) (hd : d < 8) {b : Int32} (h : post (f_tokenCount, f_scriptSize, f_saidPlace, nI (d + 1), f_variableCount, f_functionCount, f_generatorCount, f_ending, f_valueSort, f_valueNumber, f_noteCount, f_stepCount, f_latestRun, a_tokenKinds, a_tokenOperands, a_kinds, a_operands, a_parents, a_behind, a_ownFns, a_meanings, a_generatorFns, a_frameTokens, a_frameStages, a_frameScopes, a_keptEndings, a_keptSorts, a_keptNumbers, a_frameCounts, upd a_activeSlots d b, a_variableBinders, a_variableOuters, a_variableSorts, a_variableNumbers, a_functionTokens, a_functionScopes, a_generatorStates, a_noteSorts, a_noteNumbers)) : wpX_enterSlot post (f_tokenCount, f_scriptSize, f_saidPlace, f_activationCount, f_variableCount, f_functionCount, f_generatorCount, f_ending, f_valueSort, f_valueNumber, f_noteCount, f_stepCount, f_latestRun, a_tokenKinds, a_tokenOperands, a_kinds, a_operands, a_parents, a_behind, a_ownFns, a_meanings, a_generatorFns, a_frameTokens, a_frameStages, a_frameScopes, a_keptEndings, a_keptSorts, a_keptNumbers, a_frameCounts, a_activeSlots, a_variableBinders, a_variableOuters, a_variableSorts, a_variableNumbers, a_functionTokens, a_functionScopes, a_generatorStates, a_noteSorts, a_noteNumbers) b := by
  subst hA
  exact ⟨vp_in_nI hd (by decide), nm_r (by rw [nI_clamp (by omega)]) (nm_r (nI_1 d) h)⟩
theorem xm_start {d : Nat} (hA : f_activationCount = nI d) (hd : d < 8) {t c : Int32}
    (h : post (f_tokenCount, f_scriptSize, f_saidPlace, nI (d + 1), f_variableCount, f_functionCount, f_generatorCount, f_ending, f_valueSort, f_valueNumber, f_noteCount, f_stepCount, f_latestRun, a_tokenKinds, a_tokenOperands, a_kinds, a_operands, a_parents, a_behind, a_ownFns, a_meanings, a_generatorFns, upd a_frameTokens (48 * d) t, upd a_frameStages (48 * d) 0, upd a_frameScopes (48 * d) c, a_keptEndings, a_keptSorts, a_keptNumbers, upd a_frameCounts d 1, upd a_activeSlots d (nI d), a_variableBinders, a_variableOuters, a_variableSorts, a_variableNumbers, a_functionTokens, a_functionScopes, a_generatorStates, a_noteSorts, a_noteNumbers)) : wpX_startBody post (f_tokenCount, f_scriptSize, f_saidPlace, f_activationCount, f_variableCount, f_functionCount, f_generatorCount, f_ending, f_valueSort, f_valueNumber, f_noteCount, f_stepCount, f_latestRun, a_tokenKinds, a_tokenOperands, a_kinds, a_operands, a_parents, a_behind, a_ownFns, a_meanings, a_generatorFns, a_frameTokens, a_frameStages, a_frameScopes, a_keptEndings, a_keptSorts, a_keptNumbers, a_frameCounts, a_activeSlots, a_variableBinders, a_variableOuters, a_variableSorts, a_variableNumbers, a_functionTokens, a_functionScopes, a_generatorStates, a_noteSorts, a_noteNumbers) t c := by
  subst hA
  unfold wpX_startBody
  refine xm_lay (by omega) ?_
  exact xm_enter rfl hd h
theorem xm_num {posti : Int32 → Prop} {s : Int32} (h : posti (if s = 1 ∨ s = 2 then 1 else 0)) : wpX_isNumber posti (f_tokenCount, f_scriptSize, f_saidPlace, f_activationCount, f_variableCount, f_functionCount, f_generatorCount, f_ending, f_valueSort, f_valueNumber, f_noteCount, f_stepCount, f_latestRun, a_tokenKinds, a_tokenOperands, a_kinds, a_operands, a_parents, a_behind, a_ownFns, a_meanings, a_generatorFns, a_frameTokens, a_frameStages, a_frameScopes, a_keptEndings, a_keptSorts, a_keptNumbers, a_frameCounts, a_activeSlots, a_variableBinders, a_variableOuters, a_variableSorts, a_variableNumbers, a_functionTokens, a_functionScopes, a_generatorStates, a_noteSorts, a_noteNumbers) s := by
  refine br_c (fun c => ?_) (fun c => br_c (fun d => ?_) (fun d => ?_))
  · rw [if_pos (Or.inl c)] at h; exact h
  · rw [if_pos (Or.inr d)] at h; exact h
  · rw [if_neg (by intro z; rcases z with z | z; exact c z; exact d z)] at h; exact h
end
def gk_tr (s : Int32) (x : Int64) : Bool := if s = 1 ∨ s = 2 then decide (x ≠ 0) else decide (s ≠ 0)
section
variable {post : SX → Prop} {f_tokenCount f_scriptSize f_saidPlace f_activationCount f_variableCount f_functionCount f_generatorCount f_ending f_valueSort : Int32} {f_valueNumber : Int64} {f_noteCount f_stepCount f_latestRun : Int32} {a_tokenKinds a_tokenOperands a_kinds a_operands a_parents a_behind a_ownFns a_meanings a_generatorFns a_frameTokens a_frameStages a_frameScopes a_keptEndings a_keptSorts : Nat → Int32} {a_keptNumbers : Nat → Int64} {a_frameCounts a_activeSlots a_variableBinders a_variableOuters a_variableSorts : Nat → Int32} {a_variableNumbers : Nat → Int64} {a_functionTokens a_functionScopes a_generatorStates a_noteSorts : Nat → Int32} {a_noteNumbers : Nat → Int64}
theorem xm_true {posti : Int32 → Prop} {s : Int32} {x : Int64} (hs : f_valueSort = s) (hx : f_valueNumber = x) (h : posti (if gk_tr s x = true then 1 else 0)) : wpX_isTrue posti (f_tokenCount, f_scriptSize, f_saidPlace, f_activationCount, f_variableCount, f_functionCount, f_generatorCount, f_ending, f_valueSort, f_valueNumber, f_noteCount, f_stepCount, f_latestRun, a_tokenKinds, a_tokenOperands, a_kinds, a_operands, a_parents, a_behind, a_ownFns, a_meanings, a_generatorFns, a_frameTokens, a_frameStages, a_frameScopes, a_keptEndings, a_keptSorts, a_keptNumbers, a_frameCounts, a_activeSlots, a_variableBinders, a_variableOuters, a_variableSorts, a_variableNumbers, a_functionTokens, a_functionScopes, a_generatorStates, a_noteSorts, a_noteNumbers) := by
  subst hs hx
  unfold wpX_isTrue
  refine xm_num ?_
  by_cases c : f_valueSort = 1 ∨ f_valueSort = 2
  · rw [if_pos c]
    refine br_f (by decide) (br_c (fun z => ?_) (fun z => ?_))
    · rw [gk_tr, if_pos c, z] at h; exact h
    · rw [gk_tr, if_pos c, decide_eq_true z] at h; exact h
  · rw [if_neg c]
    refine br_t rfl (br_c (fun z => ?_) (fun z => ?_))
    · rw [gk_tr, if_neg c, z] at h; exact h
    · rw [gk_tr, if_neg c, decide_eq_true z] at h; exact h
end
def gk_fi (V : gv_T) (b : Nat) : List Nat → Int32 → Nat
  | [], _ => 0
  | b' :: l, c => if b' = b then c.toNatClampNeg else gk_fi V b l (V.2.1 c.toNatClampNeg)
theorem gk_fil {V : gv_T} {b : Nat} (hv : V.2.2.2.2 < 2 ^ 31) : ∀ l c, gk_CH V l c → b ∈ l → gk_fi V b l c < V.2.2.2.2 := by
  intro l
  induction l with
  | nil => intro c _ h; cases h
  | cons b' l ih =>
    intro c hc hb
    obtain ⟨i, hi, rfl, h1, h2⟩ := hc
    show (if b' = b then (nI i).toNatClampNeg else gk_fi V b l (V.2.1 (nI i).toNatClampNeg)) < _
    rw [nI_clamp (by omega)]
    split
    · exact hi
    · rename_i z
      rcases List.mem_cons.mp hb with e | e
      · exact absurd e.symm z
      · exact ih _ h2 e
section
variable {f_tokenCount f_scriptSize f_saidPlace f_activationCount f_variableCount f_functionCount f_generatorCount f_ending f_valueSort : Int32} {f_valueNumber : Int64} {f_noteCount f_stepCount f_latestRun : Int32} {a_tokenKinds a_tokenOperands a_kinds a_operands a_parents a_behind a_ownFns a_meanings a_generatorFns a_frameTokens a_frameStages a_frameScopes a_keptEndings a_keptSorts : Nat → Int32} {a_keptNumbers : Nat → Int64} {a_frameCounts a_activeSlots a_variableBinders a_variableOuters a_variableSorts : Nat → Int32} {a_variableNumbers : Nat → Int64} {a_functionTokens a_functionScopes a_generatorStates a_noteSorts : Nat → Int32} {a_noteNumbers : Nat → Int64}
theorem xm_find5 {V : gv_T} {b : Nat} {post : Int32 → Prop} (hv : V.2.2.2.2 ≤ 600) (hb48 : b < 48) (e1 : a_variableBinders = V.1) (e2 : a_variableOuters = V.2.1) : ∀ l c n m, gk_CH V l c → b ∈ l → (∀ x, x ∈ l → x < 48) → m + l.length ≤ 48 → l.length < n →
    post (nI (gk_fi V b l c)) → wX_findVariable_5 post (nI b) f_tokenCount f_scriptSize f_saidPlace f_activationCount f_variableCount f_functionCount f_generatorCount f_ending f_valueSort f_valueNumber f_noteCount f_stepCount f_latestRun a_tokenKinds a_tokenOperands a_kinds a_operands a_parents a_behind a_ownFns a_meanings a_generatorFns a_frameTokens a_frameStages a_frameScopes a_keptEndings a_keptSorts a_keptNumbers a_frameCounts a_activeSlots a_variableBinders a_variableOuters a_variableSorts a_variableNumbers a_functionTokens a_functionScopes a_generatorStates a_noteSorts a_noteNumbers n c (nI m) := by
  intro l
  induction l with
  | nil => intro c n m _ h; cases h
  | cons b' l ih =>
    intro c n m hc hb h48 hm hn h
    obtain ⟨n, rfl⟩ : ∃ x, n = x + 1 := ⟨n - 1, by omega⟩
    obtain ⟨i, hi, rfl, h1, h2⟩ := hc
    have hm2 : m + (l.length + 1) ≤ 48 := hm
    have hn2 : l.length + 1 < n + 1 := hn
    have ec : (nI i).toNatClampNeg = i := nI_clamp (by omega)
    have h : post (nI (if b' = b then (nI i).toNatClampNeg else gk_fi V b l (V.2.1 (nI i).toNatClampNeg))) := h
    rw [ec] at h
    have iv : vp_in (nI i) 600 := vp_in_nI (by omega) (by decide)
    refine br_f (nI_ge (b := 48) (by omega) (by decide)) ⟨iv, ?_⟩
    have eb : a_variableBinders (nI i).toNatClampNeg = nI b' := by rw [ec, e1]; exact h1
    by_cases z : b' = b
    · rw [if_pos z] at h
      exact br_t (by rw [eb, z]) h
    · rw [if_neg z] at h
      refine br_f ?_ ⟨iv, nm_r (e' := V.2.1 i) (by rw [ec, e2]) (nm_r (nI_1 m) ?_)⟩
      · rw [eb, nI_eq (by have := h48 b' (List.mem_cons_self ..); omega) (by omega)]
        exact z
      · rcases List.mem_cons.mp hb with e | e
        · exact absurd e.symm z
        · exact ih _ n (m + 1) h2 e (fun x hx => h48 x (List.mem_cons_of_mem _ hx)) (by omega) (by omega) h
theorem xm_find {V : gv_T} {b : Nat} {post : Int32 → Prop} {l : List Nat} {c : Int32} (hv : V.2.2.2.2 ≤ 600) (hb48 : b < 48) (e1 : a_variableBinders = V.1) (e2 : a_variableOuters = V.2.1) (hc : gk_CH V l c) (hb : b ∈ l) (h48 : ∀ x, x ∈ l → x < 48) (hl : l.length ≤ 48)
    (h : post (nI (gk_fi V b l c))) : wpX_findVariable post (f_tokenCount, f_scriptSize, f_saidPlace, f_activationCount, f_variableCount, f_functionCount, f_generatorCount, f_ending, f_valueSort, f_valueNumber, f_noteCount, f_stepCount, f_latestRun, a_tokenKinds, a_tokenOperands, a_kinds, a_operands, a_parents, a_behind, a_ownFns, a_meanings, a_generatorFns, a_frameTokens, a_frameStages, a_frameScopes, a_keptEndings, a_keptSorts, a_keptNumbers, a_frameCounts, a_activeSlots, a_variableBinders, a_variableOuters, a_variableSorts, a_variableNumbers, a_functionTokens, a_functionScopes, a_generatorStates, a_noteSorts, a_noteNumbers) (nI b) c :=
  ⟨l.length + 1, xm_find5 hv hb48 e1 e2 l c (l.length + 1) 0 hc hb h48 (by omega) (by omega) h⟩
end
