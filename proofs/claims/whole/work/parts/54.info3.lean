def if_mt (e : Nat → Nat) (M : Nat → Int32) (f b : Nat) : Prop := ∃ j, f < j ∧ j < e f ∧ M j = nI b
section
variable {f_tokenCount f_scriptSize f_saidPlace f_activationCount f_variableCount f_functionCount f_generatorCount f_ending f_valueSort : Int32} {f_valueNumber : Int64} {f_noteCount f_stepCount f_latestRun : Int32} {a_tokenKinds a_tokenOperands a_kinds a_operands a_parents a_behind a_ownFns a_meanings a_generatorFns a_frameTokens a_frameStages a_frameScopes a_keptEndings a_keptSorts : Nat → Int32} {a_keptNumbers : Nat → Int64} {a_frameCounts a_activeSlots a_variableBinders a_variableOuters a_variableSorts : Nat → Int32} {a_variableNumbers : Nat → Int64} {a_functionTokens a_functionScopes a_generatorStates a_noteSorts : Nat → Int32} {a_noteNumbers : Nat → Int64}
theorem if_17 {post : Int32 → Prop} {J : Int32 → Int32 → Prop} {e : Nat → Nat} {n f b c : Nat} (hn : n ≤ 48) (hf : f < n) (hb : b < f) (hef : e f ≤ n) (hbf : a_behind f = nI (e f)) (h1 : if_mt e a_meanings f b → J (nI (c + 1)) (nI (b + 1))) (h0 : ¬ if_mt e a_meanings f b → J (nI c) (nI (b + 1))) :
    ∀ d j (x4 : Int32), j + d = e f → f < j → ((x4 = 1 ∧ if_mt e a_meanings f b) ∨ (x4 = 0 ∧ ∀ j', f < j' → j' < j → a_meanings j' ≠ nI b)) → wX_countOutsideVariables_17 post J (nI f) (nI c) (nI b) f_tokenCount f_scriptSize f_saidPlace f_activationCount f_variableCount f_functionCount f_generatorCount f_ending f_valueSort f_valueNumber f_noteCount f_stepCount f_latestRun a_tokenKinds a_tokenOperands a_kinds a_operands a_parents a_behind a_ownFns a_meanings a_generatorFns a_frameTokens a_frameStages a_frameScopes a_keptEndings a_keptSorts a_keptNumbers a_frameCounts a_activeSlots a_variableBinders a_variableOuters a_variableSorts a_variableNumbers a_functionTokens a_functionScopes a_generatorStates a_noteSorts a_noteNumbers (d + 1) x4 (nI j) := by
  have ivf : vp_in (nI f) 48 := vp_in_nI (by omega) (by decide)
  have ef : (nI f).toNatClampNeg = f := nI_clamp (by omega)
  intro d
  induction d with
  | zero =>
    intro j x4 hj hfj hx
    have hj : j = e f := by omega
    subst hj
    refine ⟨ivf, ?_⟩
    rw [ef, hbf]
    refine br_t (nI_le (Nat.le_refl _) (by omega)) ?_
    rcases hx with ⟨rfl, m⟩ | ⟨rfl, m⟩
    · exact br_f (by decide) (nm_r (nI_1 c) (nm_r (nI_1 b) (h1 m)))
    · exact br_t rfl (nm_r (nI_1 b) (h0 (fun ⟨j', q1, q2, q3⟩ => m j' q1 q2 q3)))
  | succ d ih =>
    intro j x4 hj hfj hx
    have ivj : vp_in (nI j) 48 := vp_in_nI (by omega) (by decide)
    have ej : (nI j).toNatClampNeg = j := nI_clamp (by omega)
    refine ⟨ivf, ?_⟩
    rw [ef, hbf]
    refine br_f (nI_ge (by omega) (by omega)) ?_
    rcases hx with ⟨rfl, m⟩ | ⟨rfl, m⟩
    · exact br_f (by decide) (nm_r (nI_1 j) (ih (j + 1) 1 (by omega) (by omega) (Or.inl ⟨rfl, m⟩)))
    · refine br_t rfl ⟨ivj, ?_⟩
      rw [ej]
      refine br_c (fun z => nm_r (nI_1 j) (ih (j + 1) 1 (by omega) (by omega) (Or.inl ⟨rfl, ⟨j, hfj, by omega, z⟩⟩))) (fun z => nm_r (nI_1 j) (ih (j + 1) 0 (by omega) (by omega) (Or.inr ⟨rfl, fun j' q1 q2 => ?_⟩)))
      by_cases y : j' = j
      · subst y; exact z
      · exact m j' q1 (by omega)
end
section
variable {f_drafted f_length f_place f_there f_chains f_functions f_generators f_active f_begins f_token f_chain f_how f_sort : Int32} {f_value : Int64} {f_steps f_endSort f_status : Int32} {f_endNumber : Int64} {f_over f_noted : Int32} {a_draftKind a_draftWith a_kind a_with a_above a_as a_part a_open a_means a_own a_yields a_binder a_outer a_holdsSort : Nat → Int32} {a_holds : Nat → Int64} {a_fnToken a_fnChain a_state a_gBody a_gChain a_gYield a_closing a_rowOf a_many a_wToken a_wOperand a_wChain a_wSort a_wHow : Nat → Int32} {a_wValue : Nat → Int64} {a_noteSort : Nat → Int32} {a_noteNumber : Nat → Int64}
theorem if_bl2 {post : Int32 → Prop} {o e : Nat → Nat} {n i f : Nat} (hn : n ≤ 48) (h : tr_T o e) (h3 : ∀ i, o i ≤ 3) (he : e 0 = n) (hA0 : a_above 0 = -1) (hA : ∀ k, 0 < k → k < n → a_above k = nI (tr_pa e k)) (hi : i < n) (hf : f < n) (hne : i ≠ f) (h1 : f < i → i < e f → post 1) (h0 : ¬ (f < i ∧ i < e f) → post 0) :
    ∀ m k, k < n → k + 1 < m → ((f ≤ k ∧ k < e f) ↔ (f < i ∧ i < e f)) → wY_isBelow_2 post (nI i) (nI f) f_drafted f_length f_place f_there f_chains f_functions f_generators f_active f_begins f_token f_chain f_how f_sort f_value f_steps f_endSort f_status f_endNumber f_over f_noted a_draftKind a_draftWith a_kind a_with a_above a_as a_part a_open a_means a_own a_yields a_binder a_outer a_holdsSort a_holds a_fnToken a_fnChain a_state a_gBody a_gChain a_gYield a_closing a_rowOf a_many a_wToken a_wOperand a_wChain a_wSort a_wHow a_wValue a_noteSort a_noteNumber m (nI k) := by
  have nif : ¬ nI i = nI f := by rw [nI_eq (by omega) (by omega)]; exact hne
  intro m
  induction m with
  | zero => intro k _ hm; omega
  | succ m ih =>
    intro k hk hm hq
    refine br_f (nI_pos (by omega)) ?_
    by_cases z : k = f
    · subst z
      have := hq.mp ⟨Nat.le_refl _, h.2 _⟩
      exact br_t rfl (br_t rfl (br_f nif (h1 this.1 this.2)))
    · have nk : ¬ nI k = nI f := by rw [nI_eq (by omega) (by omega)]; exact z
      have iv : vp_in (nI k) 49 := vp_in_nI (by omega) (by decide)
      have ek : (nI k).toNatClampNeg = k := nI_clamp (by omega)
      refine br_f nk ⟨iv, ?_⟩
      rw [ek]
      by_cases y : k = 0
      · subst y
        obtain ⟨m, rfl⟩ : ∃ q, m = q + 1 := ⟨m - 1, by omega⟩
        refine nm_r hA0 (br_t (by decide) (br_f (rt_m1 (by omega)) (h0 (fun q => ?_))))
        have q2 := hq.mpr q
        omega
      · have hp := tr_pk (k := k) h h3 (by omega) (by omega)
        refine nm_r (hA k (by omega) hk) (ih _ (by omega) (by omega) ?_)
        have hin := tr_cin h hp.2.1
        rw [hp.2.2] at hin
        constructor
        · intro q
          refine hq.mp ⟨by omega, ?_⟩
          have := tr_nest h _ f (tr_pa e k) (Nat.le_refl _) q.1 q.2
          omega
        · intro q
          have q2 := hq.mpr q
          obtain ⟨p, j, hp1, hj, hc⟩ := tr_par h _ f k (Nat.le_refl _) (by omega) q2.2
          have hpa := tr_pac h hj
          rw [hc] at hpa
          rw [hpa]
          have := tr_cin h hj
          rw [hc] at this
          exact ⟨hp1, by omega⟩
theorem if_bl {post : Int32 → Prop} {o e : Nat → Nat} {n i f : Nat} (hn : n ≤ 48) (h : tr_T o e) (h3 : ∀ i, o i ≤ 3) (he : e 0 = n) (hA0 : a_above 0 = -1) (hA : ∀ k, 0 < k → k < n → a_above k = nI (tr_pa e k)) (hi : i < n) (hf : f < n) (h1 : f < i → i < e f → post 1) (h0 : ¬ (f < i ∧ i < e f) → post 0) : wpY_isBelow post (f_drafted, f_length, f_place, f_there, f_chains, f_functions, f_generators, f_active, f_begins, f_token, f_chain, f_how, f_sort, f_value, f_steps, f_endSort, f_status, f_endNumber, f_over, f_noted, a_draftKind, a_draftWith, a_kind, a_with, a_above, a_as, a_part, a_open, a_means, a_own, a_yields, a_binder, a_outer, a_holdsSort, a_holds, a_fnToken, a_fnChain, a_state, a_gBody, a_gChain, a_gYield, a_closing, a_rowOf, a_many, a_wToken, a_wOperand, a_wChain, a_wSort, a_wHow, a_wValue, a_noteSort, a_noteNumber) (nI i) (nI f) := by
  refine ⟨i + 2, ?_⟩
  by_cases z : i = f
  · subst z
    exact br_f (nI_pos (by omega)) (br_t rfl (br_t rfl (br_t rfl (h0 (fun q => by omega)))))
  · refine if_bl2 hn h h3 he hA0 hA hi hf z h1 h0 (i + 2) i hi (by omega) ?_
    constructor
    · intro q
      exact ⟨by omega, q.2⟩
    · intro q
      exact ⟨by omega, q.2⟩
theorem if_18 {post : Int32 → Prop} {J : Int32 → Int32 → Prop} {o e : Nat → Nat} {n f b c : Nat} (hn : n ≤ 48) (ey : f_length = nI n) (h : tr_T o e) (h3 : ∀ i, o i ≤ 3) (he : e 0 = n) (hA0 : a_above 0 = -1) (hA : ∀ k, 0 < k → k < n → a_above k = nI (tr_pa e k)) (hf : f < n) (hb : b < n)
    (h1 : (if_mt e a_means f b ∧ b ≠ f ∧ ¬ (f < b ∧ b < e f)) → J (nI (c + 1)) (nI (b + 1))) (h0 : ¬ (if_mt e a_means f b ∧ b ≠ f ∧ ¬ (f < b ∧ b < e f)) → J (nI c) (nI (b + 1))) :
    ∀ d j (x4 : Int32), j + d = n → ((x4 = 1 ∧ if_mt e a_means f b) ∨ (x4 = 0 ∧ ∀ j', j' < j → ¬ (f < j' ∧ j' < e f ∧ a_means j' = nI b))) → wY_outside_18 post J (nI f) (nI c) (nI b) f_drafted f_length f_place f_there f_chains f_functions f_generators f_active f_begins f_token f_chain f_how f_sort f_value f_steps f_endSort f_status f_endNumber f_over f_noted a_draftKind a_draftWith a_kind a_with a_above a_as a_part a_open a_means a_own a_yields a_binder a_outer a_holdsSort a_holds a_fnToken a_fnChain a_state a_gBody a_gChain a_gYield a_closing a_rowOf a_many a_wToken a_wOperand a_wChain a_wSort a_wHow a_wValue a_noteSort a_noteNumber (d + 1) x4 (nI j) := by
  have hef : e f ≤ n := by
    have := tr_nest h _ 0 f (Nat.le_refl _) (by omega) (by omega)
    omega
  intro d
  induction d with
  | zero =>
    intro j x4 hj hx
    have hj : j = n := by omega
    subst hj
    refine br_t (by rw [ey]; exact nI_le (Nat.le_refl _) (by omega)) ?_
    rcases hx with ⟨rfl, m⟩ | ⟨rfl, m⟩
    · refine br_f (by decide) ?_
      by_cases z : b = f
      · subst z
        exact br_t rfl (nm_r (nI_1 b) (h0 (fun q => q.2.1 rfl)))
      · refine br_f (by rw [nI_eq (by omega) (by omega)]; exact z) ?_
        exact if_bl hn h h3 he hA0 hA hb hf (fun q1 q2 => br_f (by decide) (nm_r (nI_1 b) (h0 (fun q => q.2.2 ⟨q1, q2⟩)))) (fun q => br_t rfl (nm_r (nI_1 c) (nm_r (nI_1 b) (h1 ⟨m, z, q⟩))))
    · refine br_t rfl (nm_r (nI_1 b) (h0 (fun q => ?_)))
      obtain ⟨j', q1, q2, q3⟩ := q.1
      exact m j' (by omega) ⟨q1, q2, q3⟩
  | succ d ih =>
    intro j x4 hj hx
    have ivj : vp_in (nI j) 48 := vp_in_nI (by omega) (by decide)
    have ej : (nI j).toNatClampNeg = j := nI_clamp (by omega)
    have o0 : x4 ||| 0 = x4 := by rcases hx with ⟨rfl, _⟩ | ⟨rfl, _⟩ <;> decide
    have o1 : x4 ||| 1 = 1 := by rcases hx with ⟨rfl, _⟩ | ⟨rfl, _⟩ <;> decide
    have nx : ¬ (f < j ∧ j < e f ∧ a_means j = nI b) → ((x4 = 1 ∧ if_mt e a_means f b) ∨ (x4 = 0 ∧ ∀ j', j' < j + 1 → ¬ (f < j' ∧ j' < e f ∧ a_means j' = nI b))) := by
      intro q
      rcases hx with y | ⟨y, m⟩
      · exact Or.inl y
      · refine Or.inr ⟨y, fun j' hj' => ?_⟩
        by_cases z : j' = j
        · subst z; exact q
        · exact m j' (by omega)
    refine br_f (by rw [ey]; exact nI_ge (by omega) (by omega)) ⟨ivj, ?_⟩
    rw [ej]
    refine br_c (fun z => ?_) (fun z => nm_r o0 (nm_r (nI_1 j) (ih (j + 1) _ (by omega) (nx (fun q => z q.2.2)))))
    exact if_bl hn h h3 he hA0 hA (by omega) hf (fun q1 q2 => br_f (by decide) (nm_r o1 (nm_r (nI_1 j) (ih (j + 1) 1 (by omega) (Or.inl ⟨rfl, ⟨j, q1, q2, z⟩⟩))))) (fun q => br_t rfl (nm_r o0 (nm_r (nI_1 j) (ih (j + 1) _ (by omega) (nx (fun y => q ⟨y.1, y.2.1⟩))))))
end
section
variable {f_tokenCount f_scriptSize f_saidPlace f_activationCount f_variableCount f_functionCount f_generatorCount f_ending f_valueSort : Int32} {f_valueNumber : Int64} {f_noteCount f_stepCount f_latestRun : Int32} {a_tokenKinds a_tokenOperands a_kinds a_operands a_parents a_behind a_ownFns a_meanings a_generatorFns a_frameTokens a_frameStages a_frameScopes a_keptEndings a_keptSorts : Nat → Int32} {a_keptNumbers : Nat → Int64} {a_frameCounts a_activeSlots a_variableBinders a_variableOuters a_variableSorts : Nat → Int32} {a_variableNumbers : Nat → Int64} {a_functionTokens a_functionScopes a_generatorStates a_noteSorts : Nat → Int32} {a_noteNumbers : Nat → Int64} {f_drafted f_length f_place f_there f_chains f_functions f_generators f_active f_begins f_token f_chain f_how f_sort : Int32} {f_value : Int64} {f_steps f_endSort f_status : Int32} {f_endNumber : Int64} {f_over f_noted : Int32} {a_draftKind a_draftWith a_kind a_with a_above a_as a_part a_open a_means a_own a_yields a_binder a_outer a_holdsSort : Nat → Int32} {a_holds : Nat → Int64} {a_fnToken a_fnChain a_state a_gBody a_gChain a_gYield a_closing a_rowOf a_many a_wToken a_wOperand a_wChain a_wSort a_wHow : Nat → Int32} {a_wValue : Nat → Int64} {a_noteSort : Nat → Int32} {a_noteNumber : Nat → Int64}
variable {o e : Nat → Nat} {n f : Nat}
theorem if_rest {post : Int32 → Prop} {c : Nat} (hn : n ≤ 48) (ey : f_length = nI n) (h : tr_T o e) (h3 : ∀ i, o i ≤ 3) (he : e 0 = n) (hA0 : a_above 0 = -1) (hA : ∀ k, 0 < k → k < n → a_above k = nI (tr_pa e k)) (hf : f < n) (hmj : ∀ b j, b < n → j < n → a_means j = nI b → b < j) (hp : post (nI c)) :
    ∀ d b, b + d = n → f ≤ b → wY_outside_4 post (nI f) f_drafted f_length f_place f_there f_chains f_functions f_generators f_active f_begins f_token f_chain f_how f_sort f_value f_steps f_endSort f_status f_endNumber f_over f_noted a_draftKind a_draftWith a_kind a_with a_above a_as a_part a_open a_means a_own a_yields a_binder a_outer a_holdsSort a_holds a_fnToken a_fnChain a_state a_gBody a_gChain a_gYield a_closing a_rowOf a_many a_wToken a_wOperand a_wChain a_wSort a_wHow a_wValue a_noteSort a_noteNumber (d + 1) (nI c) (nI b) := by
  have hef : e f ≤ n := by
    have := tr_nest h _ 0 f (Nat.le_refl _) (by omega) (by omega)
    omega
  intro d
  induction d with
  | zero =>
    intro b hb hfb
    exact br_t (by rw [ey]; exact nI_le (by omega) (by omega)) hp
  | succ d ih =>
    intro b hb hfb
    refine br_f (by rw [ey]; exact nI_ge (by omega) (by omega)) ⟨n + 1, ?_⟩
    refine if_18 hn ey h h3 he hA0 hA hf (by omega) (fun q => ?_) (fun _ => ih (b + 1) (by omega) (by omega)) n 0 0 (by omega) (Or.inr ⟨rfl, fun j' hj' => absurd hj' (Nat.not_lt_zero _)⟩)
    obtain ⟨⟨j, q1, q2, q3⟩, q4, q5⟩ := q
    have := hmj b j (by omega) (by omega) q3
    exact absurd ⟨by omega, by omega⟩ q5
theorem if_out (hn : n ≤ 48) (ex : f_scriptSize = nI n) (ey : f_length = nI n) (h : tr_T o e) (h3 : ∀ i, o i ≤ 3) (he : e 0 = n) (hA0 : a_above 0 = -1) (hA : ∀ k, 0 < k → k < n → a_above k = nI (tr_pa e k)) (hM : ∀ i, i < n → a_means i = a_meanings i) (hbf : ∀ i, i < n → a_behind i = nI (e i)) (hf : f < n) (hmj : ∀ b j, b < n → j < n → a_means j = nI b → b < j) :
    ∀ d b c, b + d = f → c ≤ b → ∃ q, q ≤ f ∧ (∀ post : Int32 → Prop, post (nI q) → wX_countOutsideVariables_4 post (nI f) f_tokenCount f_scriptSize f_saidPlace f_activationCount f_variableCount f_functionCount f_generatorCount f_ending f_valueSort f_valueNumber f_noteCount f_stepCount f_latestRun a_tokenKinds a_tokenOperands a_kinds a_operands a_parents a_behind a_ownFns a_meanings a_generatorFns a_frameTokens a_frameStages a_frameScopes a_keptEndings a_keptSorts a_keptNumbers a_frameCounts a_activeSlots a_variableBinders a_variableOuters a_variableSorts a_variableNumbers a_functionTokens a_functionScopes a_generatorStates a_noteSorts a_noteNumbers (d + 1) (nI c) (nI b)) ∧ (∀ post : Int32 → Prop, post (nI q) → wY_outside_4 post (nI f) f_drafted f_length f_place f_there f_chains f_functions f_generators f_active f_begins f_token f_chain f_how f_sort f_value f_steps f_endSort f_status f_endNumber f_over f_noted a_draftKind a_draftWith a_kind a_with a_above a_as a_part a_open a_means a_own a_yields a_binder a_outer a_holdsSort a_holds a_fnToken a_fnChain a_state a_gBody a_gChain a_gYield a_closing a_rowOf a_many a_wToken a_wOperand a_wChain a_wSort a_wHow a_wValue a_noteSort a_noteNumber (n - b + 1) (nI c) (nI b)) := by
  have hef : e f ≤ n := by
    have := tr_nest h _ 0 f (Nat.le_refl _) (by omega) (by omega)
    omega
  intro d
  induction d with
  | zero =>
    intro b c hb hc
    have hb : b = f := by omega
    subst hb
    exact ⟨c, hc, fun _ hp => br_t (nI_le (Nat.le_refl _) (by omega)) hp, fun _ hp => if_rest hn ey h h3 he hA0 hA hf hmj hp (n - b) b (by omega) (Nat.le_refl _)⟩
  | succ d ih =>
    intro b c hb hc
    have fu : n - b + 1 = (n - (b + 1) + 1) + 1 := by omega
    have mt : if_mt e a_means f b ↔ if_mt e a_meanings f b := by
      constructor
      · rintro ⟨j, q1, q2, q3⟩
        exact ⟨j, q1, q2, by rw [← hM j (by omega)]; exact q3⟩
      · rintro ⟨j, q1, q2, q3⟩
        exact ⟨j, q1, q2, by rw [hM j (by omega)]; exact q3⟩
    have gx : ¬ nI f ≤ nI b := nI_ge (by omega) (by omega)
    have gy : ¬ f_length ≤ nI b := by rw [ey]; exact nI_ge (by omega) (by omega)
    by_cases z : if_mt e a_meanings f b
    · obtain ⟨q, hq, hX, hY⟩ := ih (b + 1) (c + 1) (by omega) (by omega)
      refine ⟨q, hq, fun post hp => br_f gx (nm_r (nI_1 f) ⟨e f - (f + 1) + 1, ?_⟩), fun post hp => ?_⟩
      · exact if_17 hn hf (by omega) hef (hbf f hf) (fun _ => hX post hp) (fun y => absurd z y) _ (f + 1) 0 (by have := h.2 f; omega) (by omega) (Or.inr ⟨rfl, fun j' q1 q2 => by omega⟩)
      · rw [fu]
        refine br_f gy ⟨n + 1, ?_⟩
        exact if_18 hn ey h h3 he hA0 hA hf (by omega) (fun _ => hY post hp) (fun y => absurd ⟨mt.mpr z, by omega, fun w => by omega⟩ y) n 0 0 (by omega) (Or.inr ⟨rfl, fun j' hj' => absurd hj' (Nat.not_lt_zero _)⟩)
    · obtain ⟨q, hq, hX, hY⟩ := ih (b + 1) c (by omega) (by omega)
      refine ⟨q, hq, fun post hp => br_f gx (nm_r (nI_1 f) ⟨e f - (f + 1) + 1, ?_⟩), fun post hp => ?_⟩
      · exact if_17 hn hf (by omega) hef (hbf f hf) (fun y => absurd y z) (fun _ => hX post hp) _ (f + 1) 0 (by have := h.2 f; omega) (by omega) (Or.inr ⟨rfl, fun j' q1 q2 => by omega⟩)
      · rw [fu]
        refine br_f gy ⟨n + 1, ?_⟩
        exact if_18 hn ey h h3 he hA0 hA hf (by omega) (fun y => absurd (mt.mp y.1) z) (fun _ => hY post hp) n 0 0 (by omega) (Or.inr ⟨rfl, fun j' hj' => absurd hj' (Nat.not_lt_zero _)⟩)
theorem if_3 (hn : n ≤ 48) (ex : f_scriptSize = nI n) (ey : f_length = nI n) (h : tr_T o e) (h3 : ∀ i, o i ≤ 3) (he : e 0 = n) (hA0 : a_above 0 = -1) (hA : ∀ k, 0 < k → k < n → a_above k = nI (tr_pa e k)) (hK : ∀ i, i < n → a_kind i = a_kinds i) (hM : ∀ i, i < n → a_means i = a_meanings i) (hbf : ∀ i, i < n → a_behind i = nI (e i)) (hmj : ∀ b j, b < n → j < n → a_means j = nI b → b < j) :
    ∀ d i c, i + d = n → c ≤ 48 → ∃ r : Int32, (∀ post : Int32 → Prop, post r → wX_mostOutsideVariables_4 post f_tokenCount f_scriptSize f_saidPlace f_activationCount f_variableCount f_functionCount f_generatorCount f_ending f_valueSort f_valueNumber f_noteCount f_stepCount f_latestRun a_tokenKinds a_tokenOperands a_kinds a_operands a_parents a_behind a_ownFns a_meanings a_generatorFns a_frameTokens a_frameStages a_frameScopes a_keptEndings a_keptSorts a_keptNumbers a_frameCounts a_activeSlots a_variableBinders a_variableOuters a_variableSorts a_variableNumbers a_functionTokens a_functionScopes a_generatorStates a_noteSorts a_noteNumbers (d + 1) (nI c) (nI i)) ∧ (∀ post : Int32 → Prop, post r → wY_info_21 post 3 f_drafted f_length f_place f_there f_chains f_functions f_generators f_active f_begins f_token f_chain f_how f_sort f_value f_steps f_endSort f_status f_endNumber f_over f_noted a_draftKind a_draftWith a_kind a_with a_above a_as a_part a_open a_means a_own a_yields a_binder a_outer a_holdsSort a_holds a_fnToken a_fnChain a_state a_gBody a_gChain a_gYield a_closing a_rowOf a_many a_wToken a_wOperand a_wChain a_wSort a_wHow a_wValue a_noteSort a_noteNumber (d + 1) (nI c) (nI i)) := by
  intro d
  induction d with
  | zero =>
    intro i c hi hc
    have hi : i = n := by omega
    subst hi
    exact ⟨nI c, fun _ hp => br_t (by rw [ex]; exact nI_le (Nat.le_refl _) (by omega)) hp, fun _ hp => br_t (by rw [ey]; exact nI_le (Nat.le_refl _) (by omega)) hp⟩
  | succ d ih =>
    intro i c hi hc
    have iv : vp_in (nI i) 48 := vp_in_nI (by omega) (by decide)
    have ei : (nI i).toNatClampNeg = i := nI_clamp (by omega)
    have eK := hK i (by omega)
    have gx : ¬ f_scriptSize ≤ nI i := by rw [ex]; exact nI_ge (by omega) (by omega)
    have gy : ¬ f_length ≤ nI i := by rw [ey]; exact nI_ge (by omega) (by omega)
    by_cases z : a_kinds i = 5
    · obtain ⟨q, hq, oX, oY⟩ := if_out (f := i) hn ex ey h h3 he hA0 hA hM hbf (by omega) hmj i 0 0 (by omega) (Nat.le_refl _)
      by_cases y : q ≤ c
      · obtain ⟨r, hX, hY⟩ := ih (i + 1) c (by omega) hc
        have le : nI q ≤ nI c := nI_le y (by omega)
        refine ⟨r, fun post hp => br_f gx ⟨iv, br_t (by rw [ei]; exact z) ⟨_, oX _ (br_t le (nm_r (nI_1 i) (hX post hp)))⟩⟩, fun post hp => br_f gy (br_f (by decide) ⟨iv, br_t (by rw [ei, eK]; exact z) (br_f (by decide) (br_f (by decide) (br_t rfl ⟨_, oY _ (br_t le (nm_r (nI_1 i) (hY post hp)))⟩)))⟩)⟩
      · obtain ⟨r, hX, hY⟩ := ih (i + 1) q (by omega) (by omega)
        have gt : ¬ nI q ≤ nI c := nI_ge (by omega) (by omega)
        refine ⟨r, fun post hp => br_f gx ⟨iv, br_t (by rw [ei]; exact z) ⟨_, oX _ (br_f gt (nm_r (nI_1 i) (hX post hp)))⟩⟩, fun post hp => br_f gy (br_f (by decide) ⟨iv, br_t (by rw [ei, eK]; exact z) (br_f (by decide) (br_f (by decide) (br_t rfl ⟨_, oY _ (br_f gt (br_t rfl (nm_r (nI_1 i) (hY post hp))))⟩)))⟩)⟩
    · obtain ⟨r, hX, hY⟩ := ih (i + 1) c (by omega) hc
      exact ⟨r, fun post hp => br_f gx ⟨iv, br_f (by rw [ei]; exact z) (br_t (nI_pos' (by omega)) (nm_r (nI_1 i) (hX post hp)))⟩, fun post hp => br_f gy (br_f (by decide) ⟨iv, br_f (by rw [ei, eK]; exact z) (nm_r (nI_1 i) (hY post hp))⟩)⟩
end
theorem i_vc_info {k : Nat} {u : SX} {v : SY} (I : i_Rel k u v) (hk : k + 3 ≤ 1536) (v1 : Int32) : wpX_info (fun r => wpY_info (fun r' => r' = r ∧ i_Rel (k + 3) u v) v v1) u v1 := by
  obtain ⟨f_tokenCount, f_scriptSize, f_saidPlace, f_activationCount, f_variableCount, f_functionCount, f_generatorCount, f_ending, f_valueSort, f_valueNumber, f_noteCount, f_stepCount, f_latestRun, a_tokenKinds, a_tokenOperands, a_kinds, a_operands, a_parents, a_behind, a_ownFns, a_meanings, a_generatorFns, a_frameTokens, a_frameStages, a_frameScopes, a_keptEndings, a_keptSorts, a_keptNumbers, a_frameCounts, a_activeSlots, a_variableBinders, a_variableOuters, a_variableSorts, a_variableNumbers, a_functionTokens, a_functionScopes, a_generatorStates, a_noteSorts, a_noteNumbers⟩ := u
  obtain ⟨f_drafted, f_length, f_place, f_there, f_chains, f_functions, f_generators, f_active, f_begins, f_token, f_chain, f_how, f_sort, f_value, f_steps, f_endSort, f_status, f_endNumber, f_over, f_noted, a_draftKind, a_draftWith, a_kind, a_with, a_above, a_as, a_part, a_open, a_means, a_own, a_yields, a_binder, a_outer, a_holdsSort, a_holds, a_fnToken, a_fnChain, a_state, a_gBody, a_gChain, a_gYield, a_closing, a_rowOf, a_many, a_wToken, a_wOperand, a_wChain, a_wSort, a_wHow, a_wValue, a_noteSort, a_noteNumber⟩ := v
  have I0 : il_R (f_tokenCount, f_scriptSize, f_saidPlace, f_activationCount, f_variableCount, f_functionCount, f_generatorCount, f_ending, f_valueSort, f_valueNumber, f_noteCount, f_stepCount, f_latestRun, a_tokenKinds, a_tokenOperands, a_kinds, a_operands, a_parents, a_behind, a_ownFns, a_meanings, a_generatorFns, a_frameTokens, a_frameStages, a_frameScopes, a_keptEndings, a_keptSorts, a_keptNumbers, a_frameCounts, a_activeSlots, a_variableBinders, a_variableOuters, a_variableSorts, a_variableNumbers, a_functionTokens, a_functionScopes, a_generatorStates, a_noteSorts, a_noteNumbers) (f_drafted, f_length, f_place, f_there, f_chains, f_functions, f_generators, f_active, f_begins, f_token, f_chain, f_how, f_sort, f_value, f_steps, f_endSort, f_status, f_endNumber, f_over, f_noted, a_draftKind, a_draftWith, a_kind, a_with, a_above, a_as, a_part, a_open, a_means, a_own, a_yields, a_binder, a_outer, a_holdsSort, a_holds, a_fnToken, a_fnChain, a_state, a_gBody, a_gChain, a_gYield, a_closing, a_rowOf, a_many, a_wToken, a_wOperand, a_wChain, a_wSort, a_wHow, a_wValue, a_noteSort, a_noteNumber) := I
  obtain ⟨⟨nt, hnt, rfl, rfl, hkd⟩, rfl, rfl, rfl, hT, ⟨rfl, rfl, rfl, rfl, rfl, rfl⟩, ⟨rfl, rfl, rfl, rfl⟩, ⟨gc, hgc, rfl, rfl, hG⟩, hE⟩ := I
  rcases hT with ⟨rfl, rfl⟩ | ⟨n, hn0, hn48, rfl, rfl, rfl, w, hw, hw2, hwn, rfl, rfl, rfl, rfl, hbx, hfx, hky, hpy, hfy, hay0, hay⟩
  · exact br_t rfl (br_t rfl ⟨rfl, I0⟩)
  · have n0 : ¬ nI n = 0 := nI_ne0 hn0 (by omega)
    have t1 : ¬ (1 : Int32) = 0 := by decide
    have hK : ∀ i, i < n → a_kind i = gw_K w i := fun i hi => (hky i hi).1
    have hM : ∀ i, i < n → a_means i = gw_mn w i := fun i hi => (hky i hi).2.2.1
    have hW : ∀ i, i < n → a_own i = a_ownFns i := fun i hi => by rw [hfy i hi, hfx i hi]
    have hgy : ∀ i, i < n → a_yields i = gw_gn w i := fun i hi => (hky i hi).2.2.2
    have h5 : ∀ i, i < n → gw_gn w i = 0 ∨ (gw_gn w i = 1 ∧ gw_K w i = 5) := by
      intro i hi
      rcases hw.2.2.2.2.2.2.2.2.2.2.1 i (by rw [hwn]; exact hi) with q | q
      · exact Or.inl q
      · exact Or.inr ⟨q, hw2.2.1 i (by rw [hwn]; exact hi) q⟩
    have hmj : ∀ b j, b < n → j < n → gw_mn w j = nI b → b < j ∧ (gw_K w b = 5 ∨ gw_K w b = 4 ∨ gw_K w b = 20) := by
      intro b j hb hj q
      rcases hw2.2.2.1 j (by rw [hwn]; exact hj) with y | ⟨b', hb', y⟩
      · rw [y] at q
        exact absurd q (rt_m1 (by omega))
      · have f := hw2.2.2.2 j (by rw [hwn]; exact hj) b' hb'
        rw [y, nI_eq (by omega) (by omega)] at q
        subst q
        exact ⟨f.1, f.2.2⟩
    by_cases c : ∃ j, j < 4 ∧ v1 = nI j
    · obtain ⟨j, hj, rfl⟩ := c
      have c0 : ¬ nI j < 0 := nI_pos (by omega)
      have c3 : ¬ (3 : Int32) < nI j := nI_nlt (a := 3) (by omega) (by decide)
      have Yin : ∀ (r : Int32), (∀ post : Int32 → Prop, post r → ∃ n21, wY_info_21 post (nI j) (nI nt) (nI n) f_place 1 f_chains f_functions (nI gc) f_active f_begins f_token f_chain f_how f_sort f_value f_steps f_endSort f_status f_endNumber f_over f_noted a_draftKind a_draftWith a_kind a_with a_above a_as a_part a_open a_means a_own a_yields a_binder a_outer a_holdsSort a_holds a_fnToken a_fnChain a_state a_gBody a_gChain a_gYield a_closing a_rowOf a_many a_wToken a_wOperand a_wChain a_wSort a_wHow a_wValue a_noteSort a_noteNumber n21 0 0) → wpY_info (fun r' => r' = r ∧ il_R (nI nt, nI n, f_place, f_activationCount, f_variableCount, f_functionCount, nI gc, f_ending, f_valueSort, f_valueNumber, f_noted, f_steps, f_latestRun, a_draftKind, a_draftWith, gw_K w, gw_v w, a_parents, a_behind, a_ownFns, gw_mn w, gw_gn w, a_frameTokens, a_frameStages, a_frameScopes, a_keptEndings, a_keptSorts, a_keptNumbers, a_frameCounts, a_activeSlots, a_binder, a_outer, a_holdsSort, a_holds, a_fnToken, a_fnChain, a_generatorStates, a_noteSort, a_noteNumber) (nI nt, nI n, f_place, 1, f_chains, f_functions, nI gc, f_active, f_begins, f_token, f_chain, f_how, f_sort, f_value, f_steps, f_endSort, f_status, f_endNumber, f_over, f_noted, a_draftKind, a_draftWith, a_kind, a_with, a_above, a_as, a_part, a_open, a_means, a_own, a_yields, a_binder, a_outer, a_holdsSort, a_holds, a_fnToken, a_fnChain, a_state, a_gBody, a_gChain, a_gYield, a_closing, a_rowOf, a_many, a_wToken, a_wOperand, a_wChain, a_wSort, a_wHow, a_wValue, a_noteSort, a_noteNumber)) (nI nt, nI n, f_place, 1, f_chains, f_functions, nI gc, f_active, f_begins, f_token, f_chain, f_how, f_sort, f_value, f_steps, f_endSort, f_status, f_endNumber, f_over, f_noted, a_draftKind, a_draftWith, a_kind, a_with, a_above, a_as, a_part, a_open, a_means, a_own, a_yields, a_binder, a_outer, a_holdsSort, a_holds, a_fnToken, a_fnChain, a_state, a_gBody, a_gChain, a_gYield, a_closing, a_rowOf, a_many, a_wToken, a_wOperand, a_wChain, a_wSort, a_wHow, a_wValue, a_noteSort, a_noteNumber) (nI j) := by
        intro r hr
        refine br_f t1 ?_
        exact il_in (n := 4) (by decide) (fun z => absurd rfl (z j hj)) (fun i hi e => br_f (by decide) (hr _ ⟨rfl, I0⟩))
      have : j = 0 ∨ j = 1 ∨ j = 2 ∨ j = 3 := by omega
      rcases this with rfl | rfl | rfl | rfl
      · obtain ⟨r, hX, hY⟩ := if_0 hn48 rfl rfl hK n 0 0 (by omega) (Nat.le_refl _)
        exact br_f n0 (br_f c0 (br_f c3 (br_t rfl ⟨_, hX _ (Yin r (fun post hp => ⟨_, hY post hp⟩))⟩)))
      · obtain ⟨r, hX, hY⟩ := if_1 hn48 rfl rfl hK hgy h5 n 0 0 (by omega) (Nat.le_refl _)
        exact br_f n0 (br_f c0 (br_f c3 (br_f (by decide) (br_t rfl ⟨_, hX _ (Yin r (fun post hp => ⟨_, hY post hp⟩))⟩))))
      · obtain ⟨r, hX, hY⟩ := if_2 hn48 rfl rfl hK hM hW hmj n 0 0 (by omega) (Nat.le_refl _)
        exact br_f n0 (br_f c0 (br_f c3 (br_f (by decide) (br_f (by decide) (br_t rfl ⟨_, hX _ (Yin r (fun post hp => ⟨_, hY post hp⟩))⟩)))))
      · have h3 : ∀ i, gw_o w i ≤ 3 := hw2.1
        obtain ⟨r, hX, hY⟩ := if_3 (o := gw_o w) (e := gw_e w) hn48 rfl rfl hw.1 h3 (by rw [hw.2.1, hwn]) hay0 hay hK hM hbx (fun b j hb hj q => (hmj b j hb hj (by rw [← hM j hj]; exact q)).1) n 0 0 (by omega) (by omega)
        exact br_f n0 (br_f c0 (br_f c3 (br_f (by decide) (br_f (by decide) (br_f (by decide) (br_t rfl ⟨_, hX _ (Yin r (fun post hp => ⟨_, hY post hp⟩))⟩))))))
    · have Y0 : wpY_info (fun r' => r' = -1 ∧ il_R (nI nt, nI n, f_place, f_activationCount, f_variableCount, f_functionCount, nI gc, f_ending, f_valueSort, f_valueNumber, f_noted, f_steps, f_latestRun, a_draftKind, a_draftWith, gw_K w, gw_v w, a_parents, a_behind, a_ownFns, gw_mn w, gw_gn w, a_frameTokens, a_frameStages, a_frameScopes, a_keptEndings, a_keptSorts, a_keptNumbers, a_frameCounts, a_activeSlots, a_binder, a_outer, a_holdsSort, a_holds, a_fnToken, a_fnChain, a_generatorStates, a_noteSort, a_noteNumber) (nI nt, nI n, f_place, 1, f_chains, f_functions, nI gc, f_active, f_begins, f_token, f_chain, f_how, f_sort, f_value, f_steps, f_endSort, f_status, f_endNumber, f_over, f_noted, a_draftKind, a_draftWith, a_kind, a_with, a_above, a_as, a_part, a_open, a_means, a_own, a_yields, a_binder, a_outer, a_holdsSort, a_holds, a_fnToken, a_fnChain, a_state, a_gBody, a_gChain, a_gYield, a_closing, a_rowOf, a_many, a_wToken, a_wOperand, a_wChain, a_wSort, a_wHow, a_wValue, a_noteSort, a_noteNumber)) (nI nt, nI n, f_place, 1, f_chains, f_functions, nI gc, f_active, f_begins, f_token, f_chain, f_how, f_sort, f_value, f_steps, f_endSort, f_status, f_endNumber, f_over, f_noted, a_draftKind, a_draftWith, a_kind, a_with, a_above, a_as, a_part, a_open, a_means, a_own, a_yields, a_binder, a_outer, a_holdsSort, a_holds, a_fnToken, a_fnChain, a_state, a_gBody, a_gChain, a_gYield, a_closing, a_rowOf, a_many, a_wToken, a_wOperand, a_wChain, a_wSort, a_wHow, a_wValue, a_noteSort, a_noteNumber) v1 := by
        refine br_f t1 ?_
        exact il_in (n := 4) (by decide) (fun z => br_t rfl ⟨rfl, I0⟩) (fun i hi e => absurd ⟨i, hi, e⟩ c)
      refine br_f n0 (br_c (fun _ => Y0) (fun d => br_t ?_ Y0))
      obtain ⟨j, hj, rfl⟩ := nI_of d
      by_cases y : j < 4
      · exact absurd ⟨j, y, rfl⟩ c
      · exact nI_lt (a := 3) (by omega) hj
