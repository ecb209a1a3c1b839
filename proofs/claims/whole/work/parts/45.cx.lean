section
variable {f_tokenCount f_scriptSize f_saidPlace f_activationCount f_variableCount f_functionCount f_generatorCount f_ending f_valueSort : Int32} {f_valueNumber : Int64} {f_noteCount f_stepCount f_latestRun : Int32} {a_tokenKinds a_tokenOperands a_kinds a_operands a_parents a_behind a_ownFns a_meanings a_generatorFns a_frameTokens a_frameStages a_frameScopes a_keptEndings a_keptSorts : Nat → Int32} {a_keptNumbers : Nat → Int64} {a_frameCounts a_activeSlots a_variableBinders a_variableOuters a_variableSorts : Nat → Int32} {a_variableNumbers : Nat → Int64} {a_functionTokens a_functionScopes a_generatorStates a_noteSorts : Nat → Int32} {a_noteNumbers : Nat → Int64}
theorem cx_bad {post : Int32 → Prop} {nt : Nat} {e : Nat → Nat} (hnt : nt ≤ 48) (et : f_tokenCount = nI nt) (hkd : ∀ i, i < nt → ∃ k, k < 27 ∧ a_tokenKinds i = nI k) (h : tr_T (gs_o nt a_tokenKinds) e) (hp : post (cm_pl (e 0) nt)) :
    ∀ (d i m : Nat), i + d = nt → i ≤ e 0 → (m : Int) = tr_s (gs_o nt a_tokenKinds) i → m ≤ 2 * i + 1 → wX_findBadShape_4 post f_tokenCount f_scriptSize f_saidPlace f_activationCount f_variableCount f_functionCount f_generatorCount f_ending f_valueSort f_valueNumber f_noteCount f_stepCount f_latestRun a_tokenKinds a_tokenOperands a_kinds a_operands a_parents a_behind a_ownFns a_meanings a_generatorFns a_frameTokens a_frameStages a_frameScopes a_keptEndings a_keptSorts a_keptNumbers a_frameCounts a_activeSlots a_variableBinders a_variableOuters a_variableSorts a_variableNumbers a_functionTokens a_functionScopes a_generatorStates a_noteSorts a_noteNumbers (d + 1) (nI m) (nI i) := by
  subst et
  have hs := tr_sum0 h
  intro d
  induction d with
  | zero =>
    intro i m hi he hm hb
    have hi : i = nt := by omega
    subst hi
    refine br_t (nI_le (by omega) (by omega)) (br_c (fun z => ?_) (fun z => ?_))
    · have hm0 : m = 0 := by
        have z2 : nI m = nI 0 := z
        rw [nI_eq (by omega) (by decide)] at z2
        exact z2
      have : e 0 = i := by
        by_cases y : i < e 0
        · have := hs.2 i y
          omega
        · omega
      rw [cm_pl0 this] at hp
      exact hp
    · have : i ≠ e 0 := by
        intro y
        apply z
        have h0 := hs.1
        rw [← y] at h0
        have : m = 0 := by omega
        rw [this]
        rfl
      rw [cm_pl2 (by omega)] at hp
      exact hp
  | succ d ih =>
    intro i m hi he hm hb
    refine br_f (nI_ge (by omega) (by omega)) (br_c (fun z => ?_) (fun z => ?_))
    · have hm0 : m = 0 := by
        have z2 : nI m = nI 0 := z
        rw [nI_eq (by omega) (by decide)] at z2
        exact z2
      have : e 0 = i := by
        by_cases y : i < e 0
        · have := hs.2 i y
          omega
        · omega
      rw [cm_pl1 (by omega), this] at hp
      exact hp
    · have hne : i ≠ e 0 := by
        intro y
        apply z
        have h0 := hs.1
        rw [← y] at h0
        have : m = 0 := by omega
        rw [this]
        rfl
      have h1 := hs.2 i (by omega)
      obtain ⟨q, rfl⟩ : ∃ q, m = q + 1 := ⟨m - 1, by omega⟩
      obtain ⟨kk, hk27, hk⟩ := hkd i (by omega)
      have ho := gs_oi nt a_tokenKinds i (by omega)
      rw [hk] at ho
      have ho3 := gs_op3 (nI kk)
      refine ⟨vp_in_nI (by omega) (by decide), ?_⟩
      rw [nI_clamp (by omega), hk]
      have e1 : nI (q + 1) + (nI (gw_op (nI kk)) - 1) = nI (q + gw_op (nI kk)) := by
        rw [← nI_1 q, ← nI_add]
        grind
      refine xm_ops kk hk27 (nm_r e1 (nm_r (nI_1 i) (ih (i + 1) _ (by omega) (by omega) ?_ (by omega))))
      show ((q + gw_op (nI kk) : Nat) : Int) = tr_s (gs_o nt a_tokenKinds) i + (gs_o nt a_tokenKinds i : Int) - 1
      rw [ho]
      omega
theorem cx_shape {post : Int32 → Prop} {nt : Nat} {e : Nat → Nat} (hnt : nt ≤ 48) (et : f_tokenCount = nI nt) (hkd : ∀ i, i < nt → ∃ k, k < 27 ∧ a_tokenKinds i = nI k) (h : tr_T (gs_o nt a_tokenKinds) e) (hp : post (cm_pl (e 0) nt)) : wpX_findBadShape post (f_tokenCount, f_scriptSize, f_saidPlace, f_activationCount, f_variableCount, f_functionCount, f_generatorCount, f_ending, f_valueSort, f_valueNumber, f_noteCount, f_stepCount, f_latestRun, a_tokenKinds, a_tokenOperands, a_kinds, a_operands, a_parents, a_behind, a_ownFns, a_meanings, a_generatorFns, a_frameTokens, a_frameStages, a_frameScopes, a_keptEndings, a_keptSorts, a_keptNumbers, a_frameCounts, a_activeSlots, a_variableBinders, a_variableOuters, a_variableSorts, a_variableNumbers, a_functionTokens, a_functionScopes, a_generatorStates, a_noteSorts, a_noteNumbers) :=
  ⟨nt + 1, cx_bad hnt et hkd h hp nt 0 1 (by omega) (by omega) rfl (by omega)⟩
theorem cx_copy2 {post : SX → Prop} {nt : Nat} (hnt : nt ≤ 48) (et : f_tokenCount = nI nt) : ∀ d i (K O : Nat → Int32), i + d = nt → (∀ j, j < i → K j = a_tokenKinds j ∧ O j = a_tokenOperands j) →
    (∀ K' O', (∀ j, j < nt → K' j = a_tokenKinds j ∧ O' j = a_tokenOperands j) → post (f_tokenCount, f_scriptSize, f_saidPlace, f_activationCount, f_variableCount, f_functionCount, f_generatorCount, f_ending, f_valueSort, f_valueNumber, f_noteCount, f_stepCount, f_latestRun, a_tokenKinds, a_tokenOperands, K', O', a_parents, a_behind, a_ownFns, a_meanings, a_generatorFns, a_frameTokens, a_frameStages, a_frameScopes, a_keptEndings, a_keptSorts, a_keptNumbers, a_frameCounts, a_activeSlots, a_variableBinders, a_variableOuters, a_variableSorts, a_variableNumbers, a_functionTokens, a_functionScopes, a_generatorStates, a_noteSorts, a_noteNumbers)) →
    wX_copyTokens_2 post f_tokenCount f_scriptSize f_saidPlace f_activationCount f_variableCount f_functionCount f_generatorCount f_ending f_valueSort f_valueNumber f_noteCount f_stepCount f_latestRun (d + 1) (nI i) a_tokenKinds a_tokenOperands K O a_parents a_behind a_ownFns a_meanings a_generatorFns a_frameTokens a_frameStages a_frameScopes a_keptEndings a_keptSorts a_keptNumbers a_frameCounts a_activeSlots a_variableBinders a_variableOuters a_variableSorts a_variableNumbers a_functionTokens a_functionScopes a_generatorStates a_noteSorts a_noteNumbers := by
  subst et
  intro d
  induction d with
  | zero =>
    intro i K O hi hj hp
    have hi : i = nt := by omega
    subst hi
    exact br_t (nI_le (by omega) (by omega)) (hp K O hj)
  | succ d ih =>
    intro i K O hi hj hp
    have iv : vp_in (nI i) 48 := vp_in_nI (by omega) (by decide)
    have ei : (nI i).toNatClampNeg = i := nI_clamp (by omega)
    refine br_f (nI_ge (by omega) (by omega)) ⟨iv, iv, nm_r (e' := upd K i (a_tokenKinds i)) (by rw [ei]) ⟨iv, iv, nm_r (e' := upd O i (a_tokenOperands i)) (by rw [ei]) (nm_r (nI_1 i) (ih (i + 1) _ _ (by omega) ?_ hp))⟩⟩
    intro j hj2
    by_cases z : j = i
    · subst z
      rw [pk_us, pk_us]
      exact ⟨rfl, rfl⟩
    · rw [pk_un z, pk_un z]
      exact hj j (by omega)
theorem cx_copy {post : SX → Prop} {nt : Nat} (hnt : nt ≤ 48) (et : f_tokenCount = nI nt) (hp : ∀ K' O', (∀ j, j < nt → K' j = a_tokenKinds j ∧ O' j = a_tokenOperands j) → post (f_tokenCount, f_scriptSize, f_saidPlace, f_activationCount, f_variableCount, f_functionCount, f_generatorCount, f_ending, f_valueSort, f_valueNumber, f_noteCount, f_stepCount, f_latestRun, a_tokenKinds, a_tokenOperands, K', O', a_parents, a_behind, a_ownFns, a_meanings, a_generatorFns, a_frameTokens, a_frameStages, a_frameScopes, a_keptEndings, a_keptSorts, a_keptNumbers, a_frameCounts, a_activeSlots, a_variableBinders, a_variableOuters, a_variableSorts, a_variableNumbers, a_functionTokens, a_functionScopes, a_generatorStates, a_noteSorts, a_noteNumbers)) : wpX_copyTokens post (f_tokenCount, f_scriptSize, f_saidPlace, f_activationCount, f_variableCount, f_functionCount, f_generatorCount, f_ending, f_valueSort, f_valueNumber, f_noteCount, f_stepCount, f_latestRun, a_tokenKinds, a_tokenOperands, a_kinds, a_operands, a_parents, a_behind, a_ownFns, a_meanings, a_generatorFns, a_frameTokens, a_frameStages, a_frameScopes, a_keptEndings, a_keptSorts, a_keptNumbers, a_frameCounts, a_activeSlots, a_variableBinders, a_variableOuters, a_variableSorts, a_variableNumbers, a_functionTokens, a_functionScopes, a_generatorStates, a_noteSorts, a_noteNumbers) :=
  ⟨nt + 1, cx_copy2 hnt et nt 0 a_kinds a_operands (by omega) (fun j hj => absurd hj (Nat.not_lt_zero _)) hp⟩
end
def cx_P (nt : Nat) (o e : Nat → Nat) (i : Nat) (P : Nat → Int32) : Prop := P 0 = -1 ∧ ∀ p j, i ≤ p → p < nt → j < o p → P (tr_c e p j) = nI p
section
variable {f_tokenCount f_scriptSize f_saidPlace f_activationCount f_variableCount f_functionCount f_generatorCount f_ending f_valueSort : Int32} {f_valueNumber : Int64} {f_noteCount f_stepCount f_latestRun : Int32} {a_tokenKinds a_tokenOperands a_kinds a_operands a_parents a_behind a_ownFns a_meanings a_generatorFns a_frameTokens a_frameStages a_frameScopes a_keptEndings a_keptSorts : Nat → Int32} {a_keptNumbers : Nat → Int64} {a_frameCounts a_activeSlots a_variableBinders a_variableOuters a_variableSorts : Nat → Int32} {a_variableNumbers : Nat → Int64} {a_functionTokens a_functionScopes a_generatorStates a_noteSorts : Nat → Int32} {a_noteNumbers : Nat → Int64}
theorem cx_l36 {post : SX → Prop} {J : Int32 → (Nat → Int32) → (Nat → Int32) → (Nat → Int32) → (Nat → Int32) → (Nat → Int32) → (Nat → Int32) → (Nat → Int32) → (Nat → Int32) → (Nat → Int32) → (Nat → Int32) → (Nat → Int32) → (Nat → Int32) → (Nat → Int32) → (Nat → Int32) → (Nat → Int64) → (Nat → Int32) → (Nat → Int32) → (Nat → Int32) → (Nat → Int32) → (Nat → Int32) → (Nat → Int64) → (Nat → Int32) → (Nat → Int32) → (Nat → Int32) → (Nat → Int32) → (Nat → Int64) → Prop}
    {nt i : Nat} {o e : Nat → Nat} (hnt : nt ≤ 48) (et : f_tokenCount = nI nt) (h : tr_T o e) (h3 : ∀ i, o i ≤ 3) (h0 : e 0 = nt) (hi : i < nt) (hb : ∀ j, i < j → j < nt → a_behind j = nI (e j)) :
    ∀ d j (P : Nat → Int32), j + d = o i → cx_P nt o e (i + 1) P → (∀ j', j' < j → P (tr_c e i j') = nI i) →
    (∀ P', cx_P nt o e i P' → J (nI i + (-1)) a_tokenKinds a_tokenOperands a_kinds a_operands P' (upd a_behind i (nI (e i))) a_ownFns a_meanings a_generatorFns a_frameTokens a_frameStages a_frameScopes a_keptEndings a_keptSorts a_keptNumbers a_frameCounts a_activeSlots a_variableBinders a_variableOuters a_variableSorts a_variableNumbers a_functionTokens a_functionScopes a_generatorStates a_noteSorts a_noteNumbers) →
    wX_linkTokens_36 post J (nI i) (nI (o i)) f_tokenCount f_scriptSize f_saidPlace f_activationCount f_variableCount f_functionCount f_generatorCount f_ending f_valueSort f_valueNumber f_noteCount f_stepCount f_latestRun (d + 1) (nI (tr_c e i j)) (nI j) a_tokenKinds a_tokenOperands a_kinds a_operands P a_behind a_ownFns a_meanings a_generatorFns a_frameTokens a_frameStages a_frameScopes a_keptEndings a_keptSorts a_keptNumbers a_frameCounts a_activeSlots a_variableBinders a_variableOuters a_variableSorts a_variableNumbers a_functionTokens a_functionScopes a_generatorStates a_noteSorts a_noteNumbers := by
  subst et
  have iv : vp_in (nI i) 48 := vp_in_nI (by omega) (by decide)
  have ei : (nI i).toNatClampNeg = i := nI_clamp (by omega)
  have o3 := h3 i
  intro d
  induction d with
  | zero =>
    intro j P hj hP hc hp
    have hj : j = o i := by omega
    subst hj
    refine br_t (nI_le (by omega) (by omega)) ⟨iv, nm_r (e' := upd a_behind i (nI (e i))) (by rw [ei, ← h.1 i]) (nm_e (hp P ⟨hP.1, ?_⟩))⟩
    intro p j hp1 hp2 hjj
    by_cases z : p = i
    · subst z
      exact hc j hjj
    · exact hP.2 p j (by omega) hp2 hjj
  | succ d ih =>
    intro j P hj hP hc hp
    have hin := tr_cin h (show j < o i by omega)
    have hne := tr_nest h _ 0 i (Nat.le_refl _) (by omega) (by omega)
    have ivc : vp_in (nI (tr_c e i j)) 48 := vp_in_nI (by omega) (by decide)
    have ec : (nI (tr_c e i j)).toNatClampNeg = tr_c e i j := nI_clamp (by omega)
    refine br_f (nI_ge (by omega) (by omega)) (br_f (nI_ge (by omega) (by omega)) ⟨ivc, nm_r (e' := upd P (tr_c e i j) (nI i)) (by rw [ec]) ⟨ivc, nm_r (e' := nI (tr_c e i (j + 1))) (by rw [ec, hb _ hin.1 (by omega)]; rfl) (nm_r (nI_1 j) (ih (j + 1) _ (by omega) ⟨?_, ?_⟩ ?_ hp))⟩⟩)
    · rw [pk_un (by omega)]
      exact hP.1
    · intro p j' hp1 hp2 hj'
      rw [pk_un]
      · exact hP.2 p j' hp1 hp2 hj'
      · intro z
        have := (tr_uniq h hj' (show j < o i by omega) z).1
        omega
    · intro j' hj'
      by_cases z : j' = j
      · subst z
        rw [pk_us]
      · rw [pk_un]
        · exact hc j' (by omega)
        · intro y
          exact z (tr_cinj h y)
end
section
variable {f_tokenCount f_scriptSize f_saidPlace f_activationCount f_variableCount f_functionCount f_generatorCount f_ending f_valueSort : Int32} {f_valueNumber : Int64} {f_noteCount f_stepCount f_latestRun : Int32} {a_tokenKinds a_tokenOperands a_kinds a_operands a_parents a_behind a_ownFns a_meanings a_generatorFns a_frameTokens a_frameStages a_frameScopes a_keptEndings a_keptSorts : Nat → Int32} {a_keptNumbers : Nat → Int64} {a_frameCounts a_activeSlots a_variableBinders a_variableOuters a_variableSorts : Nat → Int32} {a_variableNumbers : Nat → Int64} {a_functionTokens a_functionScopes a_generatorStates a_noteSorts : Nat → Int32} {a_noteNumbers : Nat → Int64}
theorem cx_l14 {post : SX → Prop} {nt : Nat} {o e : Nat → Nat} (hnt : nt ≤ 48) (et : f_tokenCount = nI nt) (h : tr_T o e) (h3 : ∀ i, o i ≤ 3) (h0 : e 0 = nt) (hk : ∀ i, i < nt → ∃ k, k < 27 ∧ a_kinds i = nI k ∧ o i = gw_op (nI k)) :
    ∀ m (P b : Nat → Int32), m ≤ nt → cx_P nt o e m P → (∀ j, m ≤ j → j < nt → b j = nI (e j)) →
    (∀ P' b', cx_P nt o e 0 P' → (∀ j, j < nt → b' j = nI (e j)) → post (f_tokenCount, f_scriptSize, f_saidPlace, f_activationCount, f_variableCount, f_functionCount, f_generatorCount, f_ending, f_valueSort, f_valueNumber, f_noteCount, f_stepCount, f_latestRun, a_tokenKinds, a_tokenOperands, a_kinds, a_operands, P', b', a_ownFns, a_meanings, a_generatorFns, a_frameTokens, a_frameStages, a_frameScopes, a_keptEndings, a_keptSorts, a_keptNumbers, a_frameCounts, a_activeSlots, a_variableBinders, a_variableOuters, a_variableSorts, a_variableNumbers, a_functionTokens, a_functionScopes, a_generatorStates, a_noteSorts, a_noteNumbers)) →
    wX_linkTokens_14 post f_tokenCount f_scriptSize f_saidPlace f_activationCount f_variableCount f_functionCount f_generatorCount f_ending f_valueSort f_valueNumber f_noteCount f_stepCount f_latestRun (m + 1) (nI m + (-1)) a_tokenKinds a_tokenOperands a_kinds a_operands P b a_ownFns a_meanings a_generatorFns a_frameTokens a_frameStages a_frameScopes a_keptEndings a_keptSorts a_keptNumbers a_frameCounts a_activeSlots a_variableBinders a_variableOuters a_variableSorts a_variableNumbers a_functionTokens a_functionScopes a_generatorStates a_noteSorts a_noteNumbers := by
  intro m
  induction m with
  | zero =>
    intro P b hm hP hb hp
    exact br_t (by decide) (hp P b hP (fun j hj => hb j (by omega) hj))
  | succ m ih =>
    intro P b hm hP hb hp
    obtain ⟨k, hk27, e1, e2⟩ := hk m (by omega)
    rw [pk_m1]
    refine br_f (nI_pos (by omega)) ⟨vp_in_nI (by omega) (by decide), ?_⟩
    rw [nI_clamp (by omega), e1]
    refine xm_ops k hk27 (nm_r (e' := nI (tr_c e m 0)) (nI_1 m) ⟨o m + 1, ?_⟩)
    rw [← e2]
    refine cx_l36 (a_behind := b) hnt et h h3 h0 (by omega) (fun j hj1 hj2 => hb j (by omega) hj2) (o m) 0 P (by omega) hP (fun j' hj' => absurd hj' (Nat.not_lt_zero _)) ?_
    intro P' hP'
    refine ih P' _ (by omega) hP' ?_ hp
    intro j hj1 hj2
    by_cases z : j = m
    · subst z
      rw [pk_us]
    · rw [pk_un z]
      exact hb j (by omega) hj2
theorem cx_link {post : SX → Prop} {nt : Nat} {o e : Nat → Nat} (hnt : nt ≤ 48) (hn0 : 0 < nt) (et : f_tokenCount = nI nt) (h : tr_T o e) (h3 : ∀ i, o i ≤ 3) (h0 : e 0 = nt) (hk : ∀ i, i < nt → ∃ k, k < 27 ∧ a_kinds i = nI k ∧ o i = gw_op (nI k))
    (hp : ∀ P' b', cx_P nt o e 0 P' → (∀ j, j < nt → b' j = nI (e j)) → post (f_tokenCount, f_scriptSize, f_saidPlace, f_activationCount, f_variableCount, f_functionCount, f_generatorCount, f_ending, f_valueSort, f_valueNumber, f_noteCount, f_stepCount, f_latestRun, a_tokenKinds, a_tokenOperands, a_kinds, a_operands, P', b', a_ownFns, a_meanings, a_generatorFns, a_frameTokens, a_frameStages, a_frameScopes, a_keptEndings, a_keptSorts, a_keptNumbers, a_frameCounts, a_activeSlots, a_variableBinders, a_variableOuters, a_variableSorts, a_variableNumbers, a_functionTokens, a_functionScopes, a_generatorStates, a_noteSorts, a_noteNumbers)) : wpX_linkTokens post (f_tokenCount, f_scriptSize, f_saidPlace, f_activationCount, f_variableCount, f_functionCount, f_generatorCount, f_ending, f_valueSort, f_valueNumber, f_noteCount, f_stepCount, f_latestRun, a_tokenKinds, a_tokenOperands, a_kinds, a_operands, a_parents, a_behind, a_ownFns, a_meanings, a_generatorFns, a_frameTokens, a_frameStages, a_frameScopes, a_keptEndings, a_keptSorts, a_keptNumbers, a_frameCounts, a_activeSlots, a_variableBinders, a_variableOuters, a_variableSorts, a_variableNumbers, a_functionTokens, a_functionScopes, a_generatorStates, a_noteSorts, a_noteNumbers) := by
  refine nm_e (nm_r (e' := nI nt + (-1)) ?_ ⟨nt + 1, ?_⟩)
  · rw [et]
    grind
  · exact cx_l14 hnt et h h3 h0 hk nt (upd a_parents 0 (-1)) a_behind (Nat.le_refl _) ⟨pk_us, fun p j hp1 hp2 => by omega⟩ (fun j hj1 hj2 => by omega) hp
end
