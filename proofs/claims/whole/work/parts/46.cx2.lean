section
variable {f_tokenCount f_scriptSize f_saidPlace f_activationCount f_variableCount f_functionCount f_generatorCount f_ending f_valueSort : Int32} {f_valueNumber : Int64} {f_noteCount f_stepCount f_latestRun : Int32} {a_tokenKinds a_tokenOperands a_kinds a_operands a_parents a_behind a_ownFns a_meanings a_generatorFns a_frameTokens a_frameStages a_frameScopes a_keptEndings a_keptSorts : Nat → Int32} {a_keptNumbers : Nat → Int64} {a_frameCounts a_activeSlots a_variableBinders a_variableOuters a_variableSorts : Nat → Int32} {a_variableNumbers : Nat → Int64} {a_functionTokens a_functionScopes a_generatorStates a_noteSorts : Nat → Int32} {a_noteNumbers : Nat → Int64}
theorem cx_own2 {post : SX → Prop} {nt : Nat} {e : Nat → Nat} {g0 : Nat → Int32} (hnt : nt ≤ 48) (et : f_tokenCount = nI nt) (h : tr_T (gs_o nt a_kinds) e) (h0 : e 0 = nt) (hP0 : a_parents 0 = -1) (hP : ∀ k, 0 < k → k < nt → a_parents k = nI (tr_pa e k)) :
    ∀ d i (W g : Nat → Int32), i + d = nt → (∀ j, j < i → W j = gs_ow a_kinds e j) → g = cm_g a_kinds (gs_ow a_kinds e) g0 i →
    (∀ W', (∀ j, j < nt → W' j = gs_ow a_kinds e j) → post (f_tokenCount, f_scriptSize, f_saidPlace, f_activationCount, f_variableCount, f_functionCount, f_generatorCount, f_ending, f_valueSort, f_valueNumber, f_noteCount, f_stepCount, f_latestRun, a_tokenKinds, a_tokenOperands, a_kinds, a_operands, a_parents, a_behind, W', a_meanings, cm_g a_kinds (gs_ow a_kinds e) g0 nt, a_frameTokens, a_frameStages, a_frameScopes, a_keptEndings, a_keptSorts, a_keptNumbers, a_frameCounts, a_activeSlots, a_variableBinders, a_variableOuters, a_variableSorts, a_variableNumbers, a_functionTokens, a_functionScopes, a_generatorStates, a_noteSorts, a_noteNumbers)) →
    wX_findOwnFns_2 post f_tokenCount f_scriptSize f_saidPlace f_activationCount f_variableCount f_functionCount f_generatorCount f_ending f_valueSort f_valueNumber f_noteCount f_stepCount f_latestRun (d + 1) (nI i) a_tokenKinds a_tokenOperands a_kinds a_operands a_parents a_behind W a_meanings g a_frameTokens a_frameStages a_frameScopes a_keptEndings a_keptSorts a_keptNumbers a_frameCounts a_activeSlots a_variableBinders a_variableOuters a_variableSorts a_variableNumbers a_functionTokens a_functionScopes a_generatorStates a_noteSorts a_noteNumbers := by
  subst et
  have hW := cm_ow h h0
  intro d
  induction d with
  | zero =>
    intro i W g hi hw hg hp
    have hi : i = nt := by omega
    subst hi
    subst hg
    exact br_t (nI_le (by omega) (by omega)) (hp W hw)
  | succ d ih =>
    intro i W g hi hw hg hp
    have iv : vp_in (nI i) 48 := vp_in_nI (by omega) (by decide)
    have ei : (nI i).toNatClampNeg = i := nI_clamp (by omega)
    have hw2 : ∀ j, j < i + 1 → upd W i (gs_ow a_kinds e i) j = gs_ow a_kinds e j := by
      intro j hj
      by_cases z : j = i
      · subst z
        rw [pk_us]
      · rw [pk_un z]
        exact hw j (by omega)
    have f64 : wX_findOwnFns_64 post (wX_findOwnFns_2 post (nI nt) f_scriptSize f_saidPlace f_activationCount f_variableCount f_functionCount f_generatorCount f_ending f_valueSort f_valueNumber f_noteCount f_stepCount f_latestRun (d + 1)) (nI i) (nI nt) f_scriptSize f_saidPlace f_activationCount f_variableCount f_functionCount f_generatorCount f_ending f_valueSort f_valueNumber f_noteCount f_stepCount f_latestRun a_tokenKinds a_tokenOperands a_kinds a_operands a_parents a_behind (upd W i (gs_ow a_kinds e i)) a_meanings (upd g i 0) a_frameTokens a_frameStages a_frameScopes a_keptEndings a_keptSorts a_keptNumbers a_frameCounts a_activeSlots a_variableBinders a_variableOuters a_variableSorts a_variableNumbers a_functionTokens a_functionScopes a_generatorStates a_noteSorts a_noteNumbers := by
      refine ⟨iv, ?_⟩
      rw [ei]
      refine br_c (fun k22 => ⟨iv, ?_⟩) (fun k22 => ?_)
      · rw [pk_us]
        refine br_c (fun c => ?_) (fun c => ?_)
        · refine nm_r (nI_1 i) (ih (i + 1) _ _ (by omega) hw2 ?_ hp)
          show _ = (if a_kinds i = 22 ∧ ¬ gs_ow a_kinds e i < 0 then _ else upd (cm_g a_kinds (gs_ow a_kinds e) g0 i) i 0)
          rw [if_neg (fun z => z.2 c), hg]
        · have i48 : vp_in (gs_ow a_kinds e i) 48 := by
            rcases hW i (by omega) with z | ⟨f, hf, z, _⟩
            · rw [z] at c
              exact absurd (by decide) c
            · rw [z]
              exact vp_in_nI (by omega) (by decide)
          refine ⟨iv, i48, nm_r (e' := upd (upd g i 0) (gs_ow a_kinds e i).toNatClampNeg 1) (by rw [ym_b1]) (nm_r (nI_1 i) (ih (i + 1) _ _ (by omega) hw2 ?_ hp))⟩
          show _ = (if a_kinds i = 22 ∧ ¬ gs_ow a_kinds e i < 0 then upd (upd (cm_g a_kinds (gs_ow a_kinds e) g0 i) i 0) (gs_ow a_kinds e i).toNatClampNeg 1 else _)
          rw [if_pos ⟨k22, c⟩, hg]
      · refine nm_r (nI_1 i) (ih (i + 1) _ _ (by omega) hw2 ?_ hp)
        show _ = (if a_kinds i = 22 ∧ ¬ gs_ow a_kinds e i < 0 then _ else upd (cm_g a_kinds (gs_ow a_kinds e) g0 i) i 0)
        rw [if_neg (fun z => k22 z.1), hg]
    refine br_f (nI_ge (by omega) (by omega)) ⟨iv, nm_r (e' := upd g i 0) (by rw [ei, ym_b0]) ⟨iv, ?_⟩⟩
    by_cases z : i = 0
    · subst z
      refine nm_r (e' := -1) hP0 (br_f (by decide) ⟨iv, nm_r (e' := upd W 0 (gs_ow a_kinds e 0)) rfl f64⟩)
    · have hp2 := tr_pk h (gs_o3 nt a_kinds) (show 0 < i by omega) (by omega)
      have how := gs_owp (K := a_kinds) h (gs_o3 nt a_kinds) (show 0 < i by omega) (by omega)
      have ivp : vp_in (nI (tr_pa e i)) 48 := vp_in_nI (by omega) (by decide)
      have ep : (nI (tr_pa e i)).toNatClampNeg = tr_pa e i := nI_clamp (by omega)
      refine nm_r (e' := nI (tr_pa e i)) (by rw [ei]; exact hP i (by omega) (by omega)) (br_t (nI_pos' (by omega)) ⟨ivp, ?_⟩)
      rw [ep]
      refine br_c (fun k5 => ⟨iv, nm_r (e' := upd W i (gs_ow a_kinds e i)) (by rw [ei, how, if_pos k5]) f64⟩) (fun k5 => ⟨ivp, iv, nm_r (e' := upd W i (gs_ow a_kinds e i)) ?_ f64⟩)
      rw [ei, how, if_neg k5, hw (tr_pa e i) hp2.1]
theorem cx_own {post : SX → Prop} {nt : Nat} {e : Nat → Nat} (hnt : nt ≤ 48) (et : f_tokenCount = nI nt) (h : tr_T (gs_o nt a_kinds) e) (h0 : e 0 = nt) (hP0 : a_parents 0 = -1) (hP : ∀ k, 0 < k → k < nt → a_parents k = nI (tr_pa e k))
    (hp : ∀ W', (∀ j, j < nt → W' j = gs_ow a_kinds e j) → post (f_tokenCount, f_scriptSize, f_saidPlace, f_activationCount, f_variableCount, f_functionCount, f_generatorCount, f_ending, f_valueSort, f_valueNumber, f_noteCount, f_stepCount, f_latestRun, a_tokenKinds, a_tokenOperands, a_kinds, a_operands, a_parents, a_behind, W', a_meanings, cm_g a_kinds (gs_ow a_kinds e) a_generatorFns nt, a_frameTokens, a_frameStages, a_frameScopes, a_keptEndings, a_keptSorts, a_keptNumbers, a_frameCounts, a_activeSlots, a_variableBinders, a_variableOuters, a_variableSorts, a_variableNumbers, a_functionTokens, a_functionScopes, a_generatorStates, a_noteSorts, a_noteNumbers)) : wpX_findOwnFns post (f_tokenCount, f_scriptSize, f_saidPlace, f_activationCount, f_variableCount, f_functionCount, f_generatorCount, f_ending, f_valueSort, f_valueNumber, f_noteCount, f_stepCount, f_latestRun, a_tokenKinds, a_tokenOperands, a_kinds, a_operands, a_parents, a_behind, a_ownFns, a_meanings, a_generatorFns, a_frameTokens, a_frameStages, a_frameScopes, a_keptEndings, a_keptSorts, a_keptNumbers, a_frameCounts, a_activeSlots, a_variableBinders, a_variableOuters, a_variableSorts, a_variableNumbers, a_functionTokens, a_functionScopes, a_generatorStates, a_noteSorts, a_noteNumbers) :=
  ⟨nt + 1, cx_own2 (g0 := a_generatorFns) hnt et h h0 hP0 hP nt 0 a_ownFns a_generatorFns (by omega) (fun j hj => absurd hj (Nat.not_lt_zero _)) rfl hp⟩
theorem cx_binds {post : Int32 → Prop} {p k : Nat} (hp : p < 48) (hk : k < 48) (h1 : (a_kinds p = 5 ∨ (a_kinds p = 4 ∨ a_kinds p = 20) ∧ k ≠ p + 1) → post 1) (h0 : ¬ (a_kinds p = 5 ∨ (a_kinds p = 4 ∨ a_kinds p = 20) ∧ k ≠ p + 1) → post 0) : wpX_binds post (f_tokenCount, f_scriptSize, f_saidPlace, f_activationCount, f_variableCount, f_functionCount, f_generatorCount, f_ending, f_valueSort, f_valueNumber, f_noteCount, f_stepCount, f_latestRun, a_tokenKinds, a_tokenOperands, a_kinds, a_operands, a_parents, a_behind, a_ownFns, a_meanings, a_generatorFns, a_frameTokens, a_frameStages, a_frameScopes, a_keptEndings, a_keptSorts, a_keptNumbers, a_frameCounts, a_activeSlots, a_variableBinders, a_variableOuters, a_variableSorts, a_variableNumbers, a_functionTokens, a_functionScopes, a_generatorStates, a_noteSorts, a_noteNumbers) (nI p) (nI k) := by
  have iv : vp_in (nI p) 48 := vp_in_nI hp (by decide)
  have ep : (nI p).toNatClampNeg = p := nI_clamp (by omega)
  have f33 : (a_kinds p = 4 ∨ a_kinds p = 20) → ¬ a_kinds p = 5 → wX_binds_33 post (nI p) (nI k) f_tokenCount f_scriptSize f_saidPlace f_activationCount f_variableCount f_functionCount f_generatorCount f_ending f_valueSort f_valueNumber f_noteCount f_stepCount f_latestRun a_tokenKinds a_tokenOperands a_kinds a_operands a_parents a_behind a_ownFns a_meanings a_generatorFns a_frameTokens a_frameStages a_frameScopes a_keptEndings a_keptSorts a_keptNumbers a_frameCounts a_activeSlots a_variableBinders a_variableOuters a_variableSorts a_variableNumbers a_functionTokens a_functionScopes a_generatorStates a_noteSorts a_noteNumbers := by
    intro c c5
    by_cases z : k = p + 1
    · refine br_t (by rw [z, nI_1]) (h0 (fun y => ?_))
      rcases y with y | y
      · exact c5 y
      · exact y.2 z
    · refine br_f ?_ (h1 (Or.inr ⟨c, z⟩))
      rw [nI_1, nI_eq (by omega) (by omega)]
      exact z
  refine ⟨iv, ?_⟩
  rw [ep]
  refine br_c (fun c5 => h1 (Or.inl c5)) (fun c5 => ⟨iv, br_c (fun c4 => f33 (Or.inl c4) c5) (fun c4 => ⟨iv, br_c (fun c20 => f33 (Or.inr c20) c5) (fun c20 => h0 ?_)⟩)⟩)
  rintro (y | ⟨y | y, _⟩)
  · exact c5 y
  · exact c4 y
  · exact c20 y
theorem cx_fb {post : Int32 → Prop} {nt i : Nat} {e : Nat → Nat} (hnt : nt ≤ 48) (h : tr_T (gs_o nt a_kinds) e) (h0 : e 0 = nt) (hP0 : a_parents 0 = -1) (hP : ∀ k, 0 < k → k < nt → a_parents k = nI (tr_pa e k)) (hi : i < nt) :
    ∀ n k m, k < nt → m + k ≤ i → k < n → post (cm_fb a_operands (a_operands i) (gs_sc a_kinds e k)) → wX_findBinder_12 post (nI i) f_tokenCount f_scriptSize f_saidPlace f_activationCount f_variableCount f_functionCount f_generatorCount f_ending f_valueSort f_valueNumber f_noteCount f_stepCount f_latestRun a_tokenKinds a_tokenOperands a_kinds a_operands a_parents a_behind a_ownFns a_meanings a_generatorFns a_frameTokens a_frameStages a_frameScopes a_keptEndings a_keptSorts a_keptNumbers a_frameCounts a_activeSlots a_variableBinders a_variableOuters a_variableSorts a_variableNumbers a_functionTokens a_functionScopes a_generatorStates a_noteSorts a_noteNumbers n (nI k) (a_parents k) (nI m) := by
  have ivi : vp_in (nI i) 48 := vp_in_nI (by omega) (by decide)
  have ei : (nI i).toNatClampNeg = i := nI_clamp (by omega)
  intro n
  induction n with
  | zero => intro k m _ _ hn; omega
  | succ n ih =>
    intro k m hk hm hn hp
    refine br_f (nI_ge (b := 48) (by omega) (by decide)) ?_
    by_cases z : k = 0
    · subst z
      rw [hP0]
      exact br_t (by decide) hp
    · have hp2 := tr_pk h (gs_o3 nt a_kinds) (show 0 < k by omega) (by omega)
      have hsc := gs_scp (K := a_kinds) h (gs_o3 nt a_kinds) (show 0 < k by omega) (by omega)
      have hbd := (cm_bd h (show 0 < k by omega) (by omega) h0).1
      rw [hP k (by omega) hk]
      have ivp : vp_in (nI (tr_pa e k)) 48 := vp_in_nI (by omega) (by decide)
      have ep : (nI (tr_pa e k)).toNatClampNeg = tr_pa e k := nI_clamp (by omega)
      have f49 : post (cm_fb a_operands (a_operands i) (gs_sc a_kinds e (tr_pa e k))) → wX_findBinder_49 post (wX_findBinder_12 post (nI i) f_tokenCount f_scriptSize f_saidPlace f_activationCount f_variableCount f_functionCount f_generatorCount f_ending f_valueSort f_valueNumber f_noteCount f_stepCount f_latestRun a_tokenKinds a_tokenOperands a_kinds a_operands a_parents a_behind a_ownFns a_meanings a_generatorFns a_frameTokens a_frameStages a_frameScopes a_keptEndings a_keptSorts a_keptNumbers a_frameCounts a_activeSlots a_variableBinders a_variableOuters a_variableSorts a_variableNumbers a_functionTokens a_functionScopes a_generatorStates a_noteSorts a_noteNumbers n) (nI i) (nI (tr_pa e k)) (nI m) f_tokenCount f_scriptSize f_saidPlace f_activationCount f_variableCount f_functionCount f_generatorCount f_ending f_valueSort f_valueNumber f_noteCount f_stepCount f_latestRun a_tokenKinds a_tokenOperands a_kinds a_operands a_parents a_behind a_ownFns a_meanings a_generatorFns a_frameTokens a_frameStages a_frameScopes a_keptEndings a_keptSorts a_keptNumbers a_frameCounts a_activeSlots a_variableBinders a_variableOuters a_variableSorts a_variableNumbers a_functionTokens a_functionScopes a_generatorStates a_noteSorts a_noteNumbers := by
        intro hq
        exact ⟨ivp, nm_r (e' := a_parents (tr_pa e k)) (by rw [ep]) (nm_r (nI_1 m) (ih _ _ (by omega) (by omega) (by omega) hq))⟩
      refine br_f (nI_pos (by omega)) ?_
      refine cx_binds (by omega) (by omega) (fun c => br_f (by decide) ⟨ivp, ivi, ?_⟩) (fun c => br_t rfl ?_)
      · rw [ep, ei]
        rw [hsc, if_pos (hbd.mpr c)] at hp
        have hp : post (if a_operands (tr_pa e k) = a_operands i then nI (tr_pa e k) else cm_fb a_operands (a_operands i) (gs_sc a_kinds e (tr_pa e k))) := hp
        refine br_c (fun d => ?_) (fun d => ?_)
        · rw [if_pos d] at hp
          exact hp
        · rw [if_neg d] at hp
          exact f49 hp
      · rw [hsc, if_neg (fun y => c (hbd.mp y))] at hp
        exact f49 hp
theorem cx_mean2 {post : SX → Prop} {nt : Nat} {e : Nat → Nat} (hnt : nt ≤ 48) (et : f_tokenCount = nI nt) (h : tr_T (gs_o nt a_kinds) e) (h0 : e 0 = nt) (hP0 : a_parents 0 = -1) (hP : ∀ k, 0 < k → k < nt → a_parents k = nI (tr_pa e k)) :
    ∀ d i (Mn : Nat → Int32), i + d = nt → (∀ j, j < i → Mn j = cm_m a_kinds a_operands e j) →
    (∀ M', (∀ j, j < nt → M' j = cm_m a_kinds a_operands e j) → post (f_tokenCount, f_scriptSize, f_saidPlace, f_activationCount, f_variableCount, f_functionCount, f_generatorCount, f_ending, f_valueSort, f_valueNumber, f_noteCount, f_stepCount, f_latestRun, a_tokenKinds, a_tokenOperands, a_kinds, a_operands, a_parents, a_behind, a_ownFns, M', a_generatorFns, a_frameTokens, a_frameStages, a_frameScopes, a_keptEndings, a_keptSorts, a_keptNumbers, a_frameCounts, a_activeSlots, a_variableBinders, a_variableOuters, a_variableSorts, a_variableNumbers, a_functionTokens, a_functionScopes, a_generatorStates, a_noteSorts, a_noteNumbers)) →
    wX_findMeanings_2 post f_tokenCount f_scriptSize f_saidPlace f_activationCount f_variableCount f_functionCount f_generatorCount f_ending f_valueSort f_valueNumber f_noteCount f_stepCount f_latestRun (d + 1) (nI i) a_tokenKinds a_tokenOperands a_kinds a_operands a_parents a_behind a_ownFns Mn a_generatorFns a_frameTokens a_frameStages a_frameScopes a_keptEndings a_keptSorts a_keptNumbers a_frameCounts a_activeSlots a_variableBinders a_variableOuters a_variableSorts a_variableNumbers a_functionTokens a_functionScopes a_generatorStates a_noteSorts a_noteNumbers := by
  subst et
  intro d
  induction d with
  | zero =>
    intro i Mn hi hm hp
    have hi : i = nt := by omega
    subst hi
    exact br_t (nI_le (by omega) (by omega)) (hp Mn hm)
  | succ d ih =>
    intro i Mn hi hm hp
    have iv : vp_in (nI i) 48 := vp_in_nI (by omega) (by decide)
    have ei : (nI i).toNatClampNeg = i := nI_clamp (by omega)
    have hm2 : ∀ v, v = cm_m a_kinds a_operands e i → ∀ j, j < i + 1 → upd Mn i v j = cm_m a_kinds a_operands e j := by
      intro v ev j hj
      by_cases z : j = i
      · subst z
        rw [pk_us]
        exact ev
      · rw [pk_un z]
        exact hm j (by omega)
    have f1 : (a_kinds i = 2 ∨ a_kinds i = 3) → wX_findMeanings_35 post (wX_findMeanings_2 post (nI nt) f_scriptSize f_saidPlace f_activationCount f_variableCount f_functionCount f_generatorCount f_ending f_valueSort f_valueNumber f_noteCount f_stepCount f_latestRun (d + 1)) (nI i) 1 (nI nt) f_scriptSize f_saidPlace f_activationCount f_variableCount f_functionCount f_generatorCount f_ending f_valueSort f_valueNumber f_noteCount f_stepCount f_latestRun a_tokenKinds a_tokenOperands a_kinds a_operands a_parents a_behind a_ownFns Mn a_generatorFns a_frameTokens a_frameStages a_frameScopes a_keptEndings a_keptSorts a_keptNumbers a_frameCounts a_activeSlots a_variableBinders a_variableOuters a_variableSorts a_variableNumbers a_functionTokens a_functionScopes a_generatorStates a_noteSorts a_noteNumbers := by
      intro c
      refine br_f (by decide) ⟨iv, nm_r (e' := a_parents i) (by rw [ei]) ⟨i + 1, ?_⟩⟩
      refine cx_fb hnt h h0 hP0 hP (by omega) (i + 1) i 0 (by omega) (by omega) (by omega) ⟨iv, nm_r (by rw [ei]) (nm_r (nI_1 i) (ih (i + 1) _ (by omega) (hm2 _ ?_) hp))⟩
      unfold cm_m
      rw [if_pos c]
    refine br_f (nI_ge (by omega) (by omega)) ⟨iv, ?_⟩
    rw [ei]
    refine br_c (fun c2 => f1 (Or.inl c2)) (fun c2 => ⟨iv, br_c (fun c3 => f1 (Or.inr c3)) (fun c3 => br_t rfl ⟨iv, nm_r (by rw [ei]) (nm_r (nI_1 i) (ih (i + 1) _ (by omega) (hm2 _ ?_) hp))⟩)⟩)
    unfold cm_m
    rw [if_neg (fun z => by rcases z with z | z; exact c2 z; exact c3 z)]
theorem cx_mean {post : SX → Prop} {nt : Nat} {e : Nat → Nat} (hnt : nt ≤ 48) (et : f_tokenCount = nI nt) (h : tr_T (gs_o nt a_kinds) e) (h0 : e 0 = nt) (hP0 : a_parents 0 = -1) (hP : ∀ k, 0 < k → k < nt → a_parents k = nI (tr_pa e k))
    (hp : ∀ M', (∀ j, j < nt → M' j = cm_m a_kinds a_operands e j) → post (f_tokenCount, f_scriptSize, f_saidPlace, f_activationCount, f_variableCount, f_functionCount, f_generatorCount, f_ending, f_valueSort, f_valueNumber, f_noteCount, f_stepCount, f_latestRun, a_tokenKinds, a_tokenOperands, a_kinds, a_operands, a_parents, a_behind, a_ownFns, M', a_generatorFns, a_frameTokens, a_frameStages, a_frameScopes, a_keptEndings, a_keptSorts, a_keptNumbers, a_frameCounts, a_activeSlots, a_variableBinders, a_variableOuters, a_variableSorts, a_variableNumbers, a_functionTokens, a_functionScopes, a_generatorStates, a_noteSorts, a_noteNumbers)) : wpX_findMeanings post (f_tokenCount, f_scriptSize, f_saidPlace, f_activationCount, f_variableCount, f_functionCount, f_generatorCount, f_ending, f_valueSort, f_valueNumber, f_noteCount, f_stepCount, f_latestRun, a_tokenKinds, a_tokenOperands, a_kinds, a_operands, a_parents, a_behind, a_ownFns, a_meanings, a_generatorFns, a_frameTokens, a_frameStages, a_frameScopes, a_keptEndings, a_keptSorts, a_keptNumbers, a_frameCounts, a_activeSlots, a_variableBinders, a_variableOuters, a_variableSorts, a_variableNumbers, a_functionTokens, a_functionScopes, a_generatorStates, a_noteSorts, a_noteNumbers) :=
  ⟨nt + 1, cx_mean2 hnt et h h0 hP0 hP nt 0 a_meanings (by omega) (fun j hj => absurd hj (Nat.not_lt_zero _)) hp⟩
end
def cm_U (K M : Nat → Int32) (i : Nat) : Prop := (K i = 2 ∨ K i = 3) ∧ M i = -1
def cm_O (K W : Nat → Int32) (il : Nat → Bool) (i : Nat) : Prop := (K i = 22 ∧ W i = -1) ∨ ((K i = 16 ∨ K i = 17) ∧ il i = false)
section
variable {f_tokenCount f_scriptSize f_saidPlace f_activationCount f_variableCount f_functionCount f_generatorCount f_ending f_valueSort : Int32} {f_valueNumber : Int64} {f_noteCount f_stepCount f_latestRun : Int32} {a_tokenKinds a_tokenOperands a_kinds a_operands a_parents a_behind a_ownFns a_meanings a_generatorFns a_frameTokens a_frameStages a_frameScopes a_keptEndings a_keptSorts : Nat → Int32} {a_keptNumbers : Nat → Int64} {a_frameCounts a_activeSlots a_variableBinders a_variableOuters a_variableSorts : Nat → Int32} {a_variableNumbers : Nat → Int64} {a_functionTokens a_functionScopes a_generatorStates a_noteSorts : Nat → Int32} {a_noteNumbers : Nat → Int64}
theorem cx_unb2 {post : Int32 → Prop} {nt : Nat} (hnt : nt ≤ 48) (et : f_tokenCount = nI nt) (h0 : (∀ j, j < nt → ¬ cm_U a_kinds a_meanings j) → post (-1)) (h1 : ∀ i, i < nt → cm_U a_kinds a_meanings i → (∀ j, j < i → ¬ cm_U a_kinds a_meanings j) → post (nI i)) :
    ∀ d i, i + d = nt → (∀ j, j < i → ¬ cm_U a_kinds a_meanings j) → wX_findUnbound_2 post f_tokenCount f_scriptSize f_saidPlace f_activationCount f_variableCount f_functionCount f_generatorCount f_ending f_valueSort f_valueNumber f_noteCount f_stepCount f_latestRun a_tokenKinds a_tokenOperands a_kinds a_operands a_parents a_behind a_ownFns a_meanings a_generatorFns a_frameTokens a_frameStages a_frameScopes a_keptEndings a_keptSorts a_keptNumbers a_frameCounts a_activeSlots a_variableBinders a_variableOuters a_variableSorts a_variableNumbers a_functionTokens a_functionScopes a_generatorStates a_noteSorts a_noteNumbers (d + 1) (nI i) := by
  subst et
  intro d
  induction d with
  | zero =>
    intro i hi hj
    have hi : i = nt := by omega
    subst hi
    exact br_t (nI_le (by omega) (by omega)) (h0 hj)
  | succ d ih =>
    intro i hi hj
    have iv : vp_in (nI i) 48 := vp_in_nI (by omega) (by decide)
    have ei : (nI i).toNatClampNeg = i := nI_clamp (by omega)
    have f30 : (a_kinds i = 2 ∨ a_kinds i = 3) → wX_findUnbound_30 post (wX_findUnbound_2 post (nI nt) f_scriptSize f_saidPlace f_activationCount f_variableCount f_functionCount f_generatorCount f_ending f_valueSort f_valueNumber f_noteCount f_stepCount f_latestRun a_tokenKinds a_tokenOperands a_kinds a_operands a_parents a_behind a_ownFns a_meanings a_generatorFns a_frameTokens a_frameStages a_frameScopes a_keptEndings a_keptSorts a_keptNumbers a_frameCounts a_activeSlots a_variableBinders a_variableOuters a_variableSorts a_variableNumbers a_functionTokens a_functionScopes a_generatorStates a_noteSorts a_noteNumbers (d + 1)) (nI i) (nI nt) f_scriptSize f_saidPlace f_activationCount f_variableCount f_functionCount f_generatorCount f_ending f_valueSort f_valueNumber f_noteCount f_stepCount f_latestRun a_tokenKinds a_tokenOperands a_kinds a_operands a_parents a_behind a_ownFns a_meanings a_generatorFns a_frameTokens a_frameStages a_frameScopes a_keptEndings a_keptSorts a_keptNumbers a_frameCounts a_activeSlots a_variableBinders a_variableOuters a_variableSorts a_variableNumbers a_functionTokens a_functionScopes a_generatorStates a_noteSorts a_noteNumbers := by
      intro c
      refine ⟨iv, ?_⟩
      rw [ei]
      refine br_c (fun z => h1 i (by omega) ⟨c, z⟩ hj) (fun z => nm_r (nI_1 i) (ih (i + 1) (by omega) (fun j hj2 => ?_)))
      by_cases y : j = i
      · subst y
        exact fun q => z q.2
      · exact hj j (by omega)
    refine br_f (nI_ge (by omega) (by omega)) ⟨iv, ?_⟩
    rw [ei]
    refine br_c (fun c2 => f30 (Or.inl c2)) (fun c2 => ⟨iv, br_c (fun c3 => f30 (Or.inr c3)) (fun c3 => nm_r (nI_1 i) (ih (i + 1) (by omega) (fun j hj2 => ?_)))⟩)
    by_cases y : j = i
    · subst y
      exact fun q => by rcases q.1 with q | q; exact c2 q; exact c3 q
    · exact hj j (by omega)
theorem cx_unb {post : Int32 → Prop} {nt : Nat} (hnt : nt ≤ 48) (et : f_tokenCount = nI nt) (h0 : (∀ j, j < nt → ¬ cm_U a_kinds a_meanings j) → post (-1)) (h1 : ∀ i, i < nt → cm_U a_kinds a_meanings i → (∀ j, j < i → ¬ cm_U a_kinds a_meanings j) → post (nI i)) : wpX_findUnbound post (f_tokenCount, f_scriptSize, f_saidPlace, f_activationCount, f_variableCount, f_functionCount, f_generatorCount, f_ending, f_valueSort, f_valueNumber, f_noteCount, f_stepCount, f_latestRun, a_tokenKinds, a_tokenOperands, a_kinds, a_operands, a_parents, a_behind, a_ownFns, a_meanings, a_generatorFns, a_frameTokens, a_frameStages, a_frameScopes, a_keptEndings, a_keptSorts, a_keptNumbers, a_frameCounts, a_activeSlots, a_variableBinders, a_variableOuters, a_variableSorts, a_variableNumbers, a_functionTokens, a_functionScopes, a_generatorStates, a_noteSorts, a_noteNumbers) :=
  ⟨nt + 1, cx_unb2 hnt et h0 h1 nt 0 (by omega) (fun j hj => absurd hj (Nat.not_lt_zero _))⟩
theorem cx_il {post : Int32 → Prop} {nt : Nat} {e : Nat → Nat} (hnt : nt ≤ 48) (h : tr_T (gs_o nt a_kinds) e) (h0 : e 0 = nt) (hP0 : a_parents 0 = -1) (hP : ∀ k, 0 < k → k < nt → a_parents k = nI (tr_pa e k)) :
    ∀ n k m, k < nt → m + k < 48 → k < n → post (if gs_il a_kinds e k = true then 1 else 0) → wX_standsInLoop_12 post f_tokenCount f_scriptSize f_saidPlace f_activationCount f_variableCount f_functionCount f_generatorCount f_ending f_valueSort f_valueNumber f_noteCount f_stepCount f_latestRun a_tokenKinds a_tokenOperands a_kinds a_operands a_parents a_behind a_ownFns a_meanings a_generatorFns a_frameTokens a_frameStages a_frameScopes a_keptEndings a_keptSorts a_keptNumbers a_frameCounts a_activeSlots a_variableBinders a_variableOuters a_variableSorts a_variableNumbers a_functionTokens a_functionScopes a_generatorStates a_noteSorts a_noteNumbers n (nI k) (a_parents k) (nI m) := by
  intro n
  induction n with
  | zero => intro k m _ _ hn; omega
  | succ n ih =>
    intro k m hk hm hn hp
    refine br_f (nI_ge (b := 48) (by omega) (by decide)) ?_
    by_cases z : k = 0
    · subst z
      rw [hP0]
      exact br_t (by decide) hp
    · have hp2 := tr_pk h (gs_o3 nt a_kinds) (show 0 < k by omega) (by omega)
      have hil := gs_ilp (K := a_kinds) h (gs_o3 nt a_kinds) (show 0 < k by omega) (by omega)
      have hbd := (cm_bd h (show 0 < k by omega) (by omega) h0).2
      rw [hP k (by omega) hk]
      have ivp : vp_in (nI (tr_pa e k)) 48 := vp_in_nI (by omega) (by decide)
      have ep : (nI (tr_pa e k)).toNatClampNeg = tr_pa e k := nI_clamp (by omega)
      have f53 : post (if gs_il a_kinds e (tr_pa e k) = true then 1 else 0) → wX_standsInLoop_53 post (wX_standsInLoop_12 post f_tokenCount f_scriptSize f_saidPlace f_activationCount f_variableCount f_functionCount f_generatorCount f_ending f_valueSort f_valueNumber f_noteCount f_stepCount f_latestRun a_tokenKinds a_tokenOperands a_kinds a_operands a_parents a_behind a_ownFns a_meanings a_generatorFns a_frameTokens a_frameStages a_frameScopes a_keptEndings a_keptSorts a_keptNumbers a_frameCounts a_activeSlots a_variableBinders a_variableOuters a_variableSorts a_variableNumbers a_functionTokens a_functionScopes a_generatorStates a_noteSorts a_noteNumbers n) (nI (tr_pa e k)) (nI m) f_tokenCount f_scriptSize f_saidPlace f_activationCount f_variableCount f_functionCount f_generatorCount f_ending f_valueSort f_valueNumber f_noteCount f_stepCount f_latestRun a_tokenKinds a_tokenOperands a_kinds a_operands a_parents a_behind a_ownFns a_meanings a_generatorFns a_frameTokens a_frameStages a_frameScopes a_keptEndings a_keptSorts a_keptNumbers a_frameCounts a_activeSlots a_variableBinders a_variableOuters a_variableSorts a_variableNumbers a_functionTokens a_functionScopes a_generatorStates a_noteSorts a_noteNumbers := by
        intro hq
        exact ⟨ivp, nm_r (e' := a_parents (tr_pa e k)) (by rw [ep]) (nm_r (nI_1 m) (ih _ _ (by omega) (by omega) (by omega) hq))⟩
      refine br_f (nI_pos (by omega)) ⟨ivp, ?_⟩
      rw [ep]
      refine br_c (fun c5 => ?_) (fun c5 => ⟨ivp, br_c (fun c14 => ?_) (fun c14 => ?_)⟩)
      · rw [if_pos c5] at hil
        rw [hil] at hp
        exact hp
      · by_cases y : k = tr_pa e k + 1
        · rw [if_neg c5, if_neg (fun q => (hbd c14).mp q.2 y)] at hil
          rw [hil] at hp
          refine br_t ?_ (f53 hp)
          rw [nI_1, ← y]
        · rw [if_neg c5, if_pos ⟨c14, (hbd c14).mpr y⟩] at hil
          rw [hil] at hp
          refine br_f ?_ hp
          rw [nI_1, nI_eq (by omega) (by omega)]
          exact y
      · rw [if_neg c5, if_neg (fun q => c14 q.1)] at hil
        rw [hil] at hp
        exact f53 hp
theorem cx_out2 {post : Int32 → Prop} {nt : Nat} {e : Nat → Nat} (hnt : nt ≤ 48) (et : f_tokenCount = nI nt) (h : tr_T (gs_o nt a_kinds) e) (he : e 0 = nt) (hP0 : a_parents 0 = -1) (hP : ∀ k, 0 < k → k < nt → a_parents k = nI (tr_pa e k))
    (h0 : (∀ j, j < nt → ¬ cm_O a_kinds a_ownFns (gs_il a_kinds e) j) → post (-1)) (h1 : ∀ i, i < nt → cm_O a_kinds a_ownFns (gs_il a_kinds e) i → (∀ j, j < i → ¬ cm_O a_kinds a_ownFns (gs_il a_kinds e) j) → post (nI i)) :
    ∀ d i, i + d = nt → (∀ j, j < i → ¬ cm_O a_kinds a_ownFns (gs_il a_kinds e) j) → wX_findOutside_2 post f_tokenCount f_scriptSize f_saidPlace f_activationCount f_variableCount f_functionCount f_generatorCount f_ending f_valueSort f_valueNumber f_noteCount f_stepCount f_latestRun a_tokenKinds a_tokenOperands a_kinds a_operands a_parents a_behind a_ownFns a_meanings a_generatorFns a_frameTokens a_frameStages a_frameScopes a_keptEndings a_keptSorts a_keptNumbers a_frameCounts a_activeSlots a_variableBinders a_variableOuters a_variableSorts a_variableNumbers a_functionTokens a_functionScopes a_generatorStates a_noteSorts a_noteNumbers (d + 1) (nI i) := by
  subst et
  intro d
  induction d with
  | zero =>
    intro i hi hj
    have hi : i = nt := by omega
    subst hi
    exact br_t (nI_le (by omega) (by omega)) (h0 hj)
  | succ d ih =>
    intro i hi hj
    have iv : vp_in (nI i) 48 := vp_in_nI (by omega) (by decide)
    have ei : (nI i).toNatClampNeg = i := nI_clamp (by omega)
    have next : ¬ cm_O a_kinds a_ownFns (gs_il a_kinds e) i → ∀ j, j < i + 1 → ¬ cm_O a_kinds a_ownFns (gs_il a_kinds e) j := by
      intro q j hj2
      by_cases y : j = i
      · subst y
        exact q
      · exact hj j (by omega)
    have f55 : ¬ (a_kinds i = 22 ∧ a_ownFns i = -1) → (a_kinds i = 16 ∨ a_kinds i = 17) → wX_findOutside_55 post (wX_findOutside_2 post (nI nt) f_scriptSize f_saidPlace f_activationCount f_variableCount f_functionCount f_generatorCount f_ending f_valueSort f_valueNumber f_noteCount f_stepCount f_latestRun a_tokenKinds a_tokenOperands a_kinds a_operands a_parents a_behind a_ownFns a_meanings a_generatorFns a_frameTokens a_frameStages a_frameScopes a_keptEndings a_keptSorts a_keptNumbers a_frameCounts a_activeSlots a_variableBinders a_variableOuters a_variableSorts a_variableNumbers a_functionTokens a_functionScopes a_generatorStates a_noteSorts a_noteNumbers (d + 1)) (nI i) (nI nt) f_scriptSize f_saidPlace f_activationCount f_variableCount f_functionCount f_generatorCount f_ending f_valueSort f_valueNumber f_noteCount f_stepCount f_latestRun a_tokenKinds a_tokenOperands a_kinds a_operands a_parents a_behind a_ownFns a_meanings a_generatorFns a_frameTokens a_frameStages a_frameScopes a_keptEndings a_keptSorts a_keptNumbers a_frameCounts a_activeSlots a_variableBinders a_variableOuters a_variableSorts a_variableNumbers a_functionTokens a_functionScopes a_generatorStates a_noteSorts a_noteNumbers := by
      intro n22 c
      refine ⟨iv, nm_r (e' := a_parents i) (by rw [ei]) ⟨i + 1, ?_⟩⟩
      refine cx_il hnt h he hP0 hP (i + 1) i 0 (by omega) (by omega) (by omega) ?_
      by_cases z : gs_il a_kinds e i = true
      · rw [if_pos z]
        refine br_f (by decide) (nm_r (nI_1 i) (ih (i + 1) (by omega) (next ?_)))
        rintro (q | q)
        · exact n22 q
        · rw [z] at q
          exact absurd q.2 (by decide)
      · rw [if_neg z]
        refine br_t rfl (h1 i (by omega) (Or.inr ⟨c, ?_⟩) hj)
        cases hb : gs_il a_kinds e i
        · rfl
        · exact absurd hb z
    have f33 : ¬ (a_kinds i = 22 ∧ a_ownFns i = -1) → wX_findOutside_33 post (wX_findOutside_2 post (nI nt) f_scriptSize f_saidPlace f_activationCount f_variableCount f_functionCount f_generatorCount f_ending f_valueSort f_valueNumber f_noteCount f_stepCount f_latestRun a_tokenKinds a_tokenOperands a_kinds a_operands a_parents a_behind a_ownFns a_meanings a_generatorFns a_frameTokens a_frameStages a_frameScopes a_keptEndings a_keptSorts a_keptNumbers a_frameCounts a_activeSlots a_variableBinders a_variableOuters a_variableSorts a_variableNumbers a_functionTokens a_functionScopes a_generatorStates a_noteSorts a_noteNumbers (d + 1)) (nI i) (nI nt) f_scriptSize f_saidPlace f_activationCount f_variableCount f_functionCount f_generatorCount f_ending f_valueSort f_valueNumber f_noteCount f_stepCount f_latestRun a_tokenKinds a_tokenOperands a_kinds a_operands a_parents a_behind a_ownFns a_meanings a_generatorFns a_frameTokens a_frameStages a_frameScopes a_keptEndings a_keptSorts a_keptNumbers a_frameCounts a_activeSlots a_variableBinders a_variableOuters a_variableSorts a_variableNumbers a_functionTokens a_functionScopes a_generatorStates a_noteSorts a_noteNumbers := by
      intro n22
      refine ⟨iv, ?_⟩
      rw [ei]
      refine br_c (fun c => f55 n22 (Or.inl c)) (fun c16 => ⟨iv, br_c (fun c => f55 n22 (Or.inr c)) (fun c17 => nm_r (nI_1 i) (ih (i + 1) (by omega) (next ?_)))⟩)
      rintro (q | q)
      · exact n22 q
      · rcases q.1 with y | y
        · exact c16 y
        · exact c17 y
    refine br_f (nI_ge (by omega) (by omega)) ⟨iv, ?_⟩
    rw [ei]
    refine br_c (fun c => ⟨iv, br_c (fun z => h1 i (by omega) (Or.inl ⟨c, z⟩) hj) (fun z => f33 (fun q => z q.2))⟩) (fun c => f33 (fun q => c q.1))
theorem cx_out {post : Int32 → Prop} {nt : Nat} {e : Nat → Nat} (hnt : nt ≤ 48) (et : f_tokenCount = nI nt) (h : tr_T (gs_o nt a_kinds) e) (he : e 0 = nt) (hP0 : a_parents 0 = -1) (hP : ∀ k, 0 < k → k < nt → a_parents k = nI (tr_pa e k))
    (h0 : (∀ j, j < nt → ¬ cm_O a_kinds a_ownFns (gs_il a_kinds e) j) → post (-1)) (h1 : ∀ i, i < nt → cm_O a_kinds a_ownFns (gs_il a_kinds e) i → (∀ j, j < i → ¬ cm_O a_kinds a_ownFns (gs_il a_kinds e) j) → post (nI i)) : wpX_findOutside post (f_tokenCount, f_scriptSize, f_saidPlace, f_activationCount, f_variableCount, f_functionCount, f_generatorCount, f_ending, f_valueSort, f_valueNumber, f_noteCount, f_stepCount, f_latestRun, a_tokenKinds, a_tokenOperands, a_kinds, a_operands, a_parents, a_behind, a_ownFns, a_meanings, a_generatorFns, a_frameTokens, a_frameStages, a_frameScopes, a_keptEndings, a_keptSorts, a_keptNumbers, a_frameCounts, a_activeSlots, a_variableBinders, a_variableOuters, a_variableSorts, a_variableNumbers, a_functionTokens, a_functionScopes, a_generatorStates, a_noteSorts, a_noteNumbers) :=
  ⟨nt + 1, cx_out2 hnt et h he hP0 hP h0 h1 nt 0 (by omega) (fun j hj => absurd hj (Nat.not_lt_zero _))⟩
end
