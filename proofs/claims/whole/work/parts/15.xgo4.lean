abbrev gk_nu (s : Int32) : Prop := s = 1 ∨ s = 2
def gk_same (s : Int32) (x : Int64) (s' : Int32) (x' : Int64) : Int64 := if x = x' ∧ ((gk_nu s ∧ gk_nu s') ∨ s = s') then 1 else 0
def gk_res (k : Int32) (x y : Int64) : Int64 := if k = 7 then x + y else if k = 8 then x - y else if k = 9 then x * y else x / y
def gk_ov (k : Int32) (x y : Int64) : Prop :=
  (k = 7 ∧ ¬ ca_in (x.toInt + y.toInt)) ∨ (k = 8 ∧ ¬ ca_in (x.toInt - y.toInt)) ∨ (k = 9 ∧ ¬ ca_in (x.toInt * y.toInt)) ∨ (k = 10 ∧ y = -1 ∧ x < 0 ∧ -x = x)
theorem ov_7 {x y : Int64} : gk_ov 7 x y ↔ ¬ ca_in (x.toInt + y.toInt) := by
  constructor
  · intro h
    rcases h with h | h | h | h
    · exact h.2
    · exact absurd h.1 (by decide)
    · exact absurd h.1 (by decide)
    · exact absurd h.1 (by decide)
  · exact fun h => Or.inl ⟨rfl, h⟩
theorem ov_8 {x y : Int64} : gk_ov 8 x y ↔ ¬ ca_in (x.toInt - y.toInt) := by
  constructor
  · intro h
    rcases h with h | h | h | h
    · exact absurd h.1 (by decide)
    · exact h.2
    · exact absurd h.1 (by decide)
    · exact absurd h.1 (by decide)
  · exact fun h => Or.inr (Or.inl ⟨rfl, h⟩)
theorem ov_9 {x y : Int64} : gk_ov 9 x y ↔ ¬ ca_in (x.toInt * y.toInt) := by
  constructor
  · intro h
    rcases h with h | h | h | h
    · exact absurd h.1 (by decide)
    · exact absurd h.1 (by decide)
    · exact h.2
    · exact absurd h.1 (by decide)
  · exact fun h => Or.inr (Or.inr (Or.inl ⟨rfl, h⟩))
theorem ov_10 {x y : Int64} : gk_ov 10 x y ↔ (y = -1 ∧ x < 0 ∧ -x = x) := by
  constructor
  · intro h
    rcases h with h | h | h | h
    · exact absurd h.1 (by decide)
    · exact absurd h.1 (by decide)
    · exact absurd h.1 (by decide)
    · exact h.2
  · exact fun h => Or.inr (Or.inr (Or.inr ⟨rfl, h⟩))
def gk_op4 (k : Int32) : Prop := k = 7 ∨ k = 8 ∨ k = 9 ∨ k = 10
section
variable {f_tokenCount f_scriptSize f_saidPlace f_activationCount f_variableCount f_functionCount f_generatorCount f_ending f_valueSort : Int32} {f_valueNumber : Int64} {f_noteCount f_stepCount f_latestRun : Int32} {a_tokenKinds a_tokenOperands a_kinds a_operands a_parents a_behind a_ownFns a_meanings a_generatorFns a_frameTokens a_frameStages a_frameScopes a_keptEndings a_keptSorts : Nat → Int32} {a_keptNumbers : Nat → Int64} {a_frameCounts a_activeSlots a_variableBinders a_variableOuters a_variableSorts : Nat → Int32} {a_variableNumbers : Nat → Int64} {a_functionTokens a_functionScopes a_generatorStates a_noteSorts : Nat → Int32} {a_noteNumbers : Nat → Int64}
theorem xm_wrap {post : Int64 → Prop} {k : Int32} {x y : Int64} (hk : gk_op4 k) (h0 : k = 10 → y ≠ 0) (h : post (gk_res k x y)) : wpX_wrappedResult post (f_tokenCount, f_scriptSize, f_saidPlace, f_activationCount, f_variableCount, f_functionCount, f_generatorCount, f_ending, f_valueSort, f_valueNumber, f_noteCount, f_stepCount, f_latestRun, a_tokenKinds, a_tokenOperands, a_kinds, a_operands, a_parents, a_behind, a_ownFns, a_meanings, a_generatorFns, a_frameTokens, a_frameStages, a_frameScopes, a_keptEndings, a_keptSorts, a_keptNumbers, a_frameCounts, a_activeSlots, a_variableBinders, a_variableOuters, a_variableSorts, a_variableNumbers, a_functionTokens, a_functionScopes, a_generatorStates, a_noteSorts, a_noteNumbers) k x y := by
  rcases hk with rfl | rfl | rfl | rfl
  · exact br_f (by decide) (br_f (by decide) (br_t rfl h))
  · exact br_f (by decide) (br_f (by decide) (br_f (by decide) (br_t rfl h)))
  · exact br_f (by decide) (br_f (by decide) (br_f (by decide) (br_f (by decide) (br_t rfl h))))
  · exact br_f (by decide) (br_t (by decide) (br_f (h0 rfl) ⟨h0 rfl, h⟩))
theorem xm_hw {post : Int32 → Prop} {k : Int32} {x y : Int64} (hk : gk_op4 k) (h1 : gk_ov k x y → post 1) (h0 : ¬ gk_ov k x y → post 0) : wpX_hasWrapped post (f_tokenCount, f_scriptSize, f_saidPlace, f_activationCount, f_variableCount, f_functionCount, f_generatorCount, f_ending, f_valueSort, f_valueNumber, f_noteCount, f_stepCount, f_latestRun, a_tokenKinds, a_tokenOperands, a_kinds, a_operands, a_parents, a_behind, a_ownFns, a_meanings, a_generatorFns, a_frameTokens, a_frameStages, a_frameScopes, a_keptEndings, a_keptSorts, a_keptNumbers, a_frameCounts, a_activeSlots, a_variableBinders, a_variableOuters, a_variableSorts, a_variableNumbers, a_functionTokens, a_functionScopes, a_generatorStates, a_noteSorts, a_noteNumbers) k x y (gk_res k x y) := by
  rcases hk with rfl | rfl | rfl | rfl
  · refine br_f (by decide) (br_f (by decide) (br_t rfl (br_c (fun z => ?_) (fun z => ?_))))
    · refine h0 (fun o => ?_)
      have := (ca_addX x y).mpr (ov_7.mp o)
      exact Int64.not_lt.mpr z this
    · exact h1 (ov_7.mpr ((ca_addX x y).mp (Int64.not_le.mp z)))
  · refine br_f (by decide) (br_f (by decide) (br_f (by decide) (br_t rfl (br_c (fun z => ?_) (fun z => ?_)))))
    · refine h0 (fun o => ?_)
      have := (ca_subX x y).mpr (ov_8.mp o)
      exact Int64.not_lt.mpr z this
    · exact h1 (ov_8.mpr ((ca_subX x y).mp (Int64.not_le.mp z)))
  · refine br_f (by decide) (br_f (by decide) (br_f (by decide) (br_f (by decide) (br_t rfl (br_c (fun z => ?_) (fun z => br_c (fun z1 => ?_) (fun z1 => ⟨z, br_c (fun e => ?_) (fun e => ?_)⟩)))))))
    · subst z
      refine br_f (by decide) (h0 (fun o => ?_))
      have o2 := ov_9.mp o
      rw [ca_0] at o2
      apply o2
      unfold ca_in
      omega
    · subst z1
      have key := ca_mulXm x
      refine br_t rfl (br_c (fun c => ?_) (fun c => br_c (fun d => ?_) (fun d => ?_)))
      · refine h0 (fun o => ?_)
        exact Int64.not_lt.mpr c (key.mpr (ov_9.mp o)).1
      · refine h0 (fun o => ?_)
        exact Int64.not_lt.mpr d (key.mpr (ov_9.mp o)).2
      · exact h1 (ov_9.mpr (key.mp ⟨Int64.not_le.mp c, Int64.not_le.mp d⟩))
    · refine h0 (fun o => ?_)
      exact (ca_mulX x y z z1).mpr (ov_9.mp o) e
    · exact h1 (ov_9.mpr ((ca_mulX x y z z1).mp e))
  · refine br_f (by decide) (br_t (by decide) (br_c (fun z => br_c (fun c => ?_) (fun c => br_c (fun d => ?_) (fun d => ?_))) (fun z => ?_)))
    · refine h0 (fun o => ?_)
      exact Int64.not_lt.mpr c (ov_10.mp o).2.1
    · refine h0 (fun o => ?_)
      subst z
      have key := (ca_divm x).mpr (ov_10.mp o).2
      exact Int64.not_lt.mpr d key.2
    · subst z
      exact h1 (ov_10.mpr ⟨rfl, (ca_divm x).mp ⟨Int64.not_le.mp c, Int64.not_le.mp d⟩⟩)
    · exact h0 (fun o => z (ov_10.mp o).1)
end
section
variable {w : gw_T} {q : xq_T} {M M' : gm_T} {S : Nat → List gf_T} {a : Nat} {A' : List Nat} {V : gv_T} {F : gp_T} {G : gg_T} {N : gn_T} {nc sp : Nat} {u : SX} {f : gf_T} {L : List gf_T} {post : SX → Prop}
variable {e0 s0 k1 k2 : Int32} {n0 k3 : Int64}
theorem xg_same (hw : gw_S w) (hq : xq_S w q) (I : gk_I w M S (a :: A') V F G nc sp) (hR : xr_R w q M S (a :: A') V F G N sp u) (hSa : S a = f :: L) (hb : M.1 = false) (hh : M.2.1 = 0) (hst : f.2.1 = 2) (hk : gw_K w f.1 = 12)
    (hp : ∀ u', xr_R w q (false, 0, 1, gk_same f.2.2.2.2.1 f.2.2.2.2.2 M.2.2.1 M.2.2.2) (gk_su S a L) (a :: A') V F G N sp u' → post u') : wpX_goOn post u (nI (48 * a + L.length)) := by
  obtain ⟨en, vs, vn, ft, fs, fc, ke, ks, kn, cn, ac, gs, rfl, hP⟩ := hR
  have B := xo_mk hw I hSa hP
  have fo := xs_fo I hSa
  obtain ⟨hen, hv⟩ := hP.1 hb
  obtain ⟨i1, i2, eK, eS, eT, eC⟩ := xs_in hw B fo.1 hk hst
  have hkp := xg_kp fo B hst (by rw [hk]; decide) (by rw [hk]; decide)
  obtain ⟨rfl, rfl⟩ := hv (Or.inl hh)
  refine ⟨i1, i2, nm_r eK ⟨i1, nm_r eS (br_f (by decide) (br_f (by decide) (br_f (by decide) (br_f (by decide) (br_t (hen.trans hh) (br_f (by decide) (br_f (by decide) ⟨i1, nm_r hkp.1 ⟨i1, nm_r hkp.2 ?_⟩⟩)))))))⟩⟩
  refine br_f (by decide) (br_f (by decide) (br_t (by decide) ?_))
  unfold gk_same at hp
  unfold wpX_compare
  refine xm_num ?_
  by_cases n1 : f.2.2.2.2.1 = 1 ∨ f.2.2.2.2.1 = 2
  · rw [if_pos n1]
    refine br_f (by decide) ?_
    refine xm_num ?_
    by_cases n2 : M.2.2.1 = 1 ∨ M.2.2.1 = 2
    · rw [if_pos n2]
      refine br_f (by decide) (br_f (by decide) (br_c (fun z => br_f (by decide) ?_) (fun z => br_t (by decide) ?_)))
      · rw [if_pos ⟨z, Or.inl ⟨n1, n2⟩⟩] at hp
        exact xs_fin B hp
      · rw [if_neg (fun y => z y.1)] at hp
        exact xs_fin B hp
    · rw [if_neg n2]
      refine br_t (by decide) (br_t (by decide) (br_c (fun y => ?_) (fun y => br_t (by decide) ?_)))
      · exact absurd (by rw [← y]; exact n1) n2
      · rw [if_neg (fun z => by rcases z.2 with c | c; exact n2 c.2; exact y c)] at hp
        exact xs_fin B hp
  · rw [if_neg n1]
    refine br_t (by decide) (br_t (by decide) (br_c (fun y => br_c (fun z => br_f (by decide) ?_) (fun z => br_t (by decide) ?_)) (fun y => br_t (by decide) ?_)))
    · rw [if_pos ⟨z, Or.inr y⟩] at hp
      exact xs_fin B hp
    · rw [if_neg (fun c => z c.1)] at hp
      exact xs_fin B hp
    · rw [if_neg (fun z => by rcases z.2 with c | c; exact n1 c.1; exact y c)] at hp
      exact xs_fin B hp
theorem xg_ca3 (hw : gw_S w) (hq : xq_S w q) (I : gk_I w M S (a :: A') V F G nc sp) (hR : xr_R w q M S (a :: A') V F G N sp u) (hSa : S a = f :: L) (hb : M.1 = false) (hh : M.2.1 = 0) (hst : f.2.1 = 2) {kd : Int32} (hk : gw_K w f.1 = kd) (hd : kd = 7 ∨ kd = 8 ∨ kd = 9 ∨ kd = 10 ∨ kd = 11) (hn : ¬ (gk_nu f.2.2.2.2.1 ∧ gk_nu M.2.2.1))
    (hp : ∀ u', xr_R w q (false, 1, 1, (-3 : Int32).toInt64) (gk_su S a L) (a :: A') V F G N sp u' → post u') : wpX_goOn post u (nI (48 * a + L.length)) := by
  obtain ⟨en, vs, vn, ft, fs, fc, ke, ks, kn, cn, ac, gs, rfl, hP⟩ := hR
  have B := xo_mk hw I hSa hP
  have fo := xs_fo I hSa
  obtain ⟨hen, hv⟩ := hP.1 hb
  obtain ⟨i1, i2, eK, eS, eT, eC⟩ := xs_in hw B fo.1 hk hst
  have h14 : kd ≠ 14 := by rcases hd with rfl | rfl | rfl | rfl | rfl <;> decide
  have h21 : kd ≠ 21 := by rcases hd with rfl | rfl | rfl | rfl | rfl <;> decide
  have h20 : kd ≠ 20 := by rcases hd with rfl | rfl | rfl | rfl | rfl <;> decide
  have h6 : kd ≠ 6 := by rcases hd with rfl | rfl | rfl | rfl | rfl <;> decide
  have h23 : kd ≠ 23 := by rcases hd with rfl | rfl | rfl | rfl | rfl <;> decide
  have h12 : kd ≠ 12 := by rcases hd with rfl | rfl | rfl | rfl | rfl <;> decide
  have hkp := xg_kp fo B hst (by rw [hk]; exact h14) (by rw [hk]; exact h21)
  obtain ⟨rfl, rfl⟩ := hv (Or.inl hh)
  refine ⟨i1, i2, nm_r eK ⟨i1, nm_r eS (br_f h14 (br_f h21 (br_f h20 (br_f h20 (br_t (hen.trans hh) (br_f (by decide) (br_f (by decide) ⟨i1, nm_r hkp.1 ⟨i1, nm_r hkp.2 (br_f h6 (br_f h23 (br_f h12 ?_)))⟩⟩)))))))⟩⟩
  unfold wpX_calculate
  refine xm_num ?_
  by_cases n1 : f.2.2.2.2.1 = 1 ∨ f.2.2.2.2.1 = 2
  · rw [if_pos n1]
    refine br_f (by decide) (xm_num ?_)
    rw [if_neg (fun z => hn ⟨n1, z⟩)]
    refine br_t (by decide) ?_
    exact xs_thr B hp
  · rw [if_neg n1]
    refine br_t (by decide) ?_
    exact xs_thr B hp
theorem xg_less (hw : gw_S w) (hq : xq_S w q) (I : gk_I w M S (a :: A') V F G nc sp) (hR : xr_R w q M S (a :: A') V F G N sp u) (hSa : S a = f :: L) (hb : M.1 = false) (hh : M.2.1 = 0) (hst : f.2.1 = 2) (hk : gw_K w f.1 = 11) (hn : gk_nu f.2.2.2.2.1 ∧ gk_nu M.2.2.1)
    (hp : ∀ u', xr_R w q (false, 0, 1, (if f.2.2.2.2.2 < M.2.2.2 then 1 else 0)) (gk_su S a L) (a :: A') V F G N sp u' → post u') : wpX_goOn post u (nI (48 * a + L.length)) := by
  obtain ⟨en, vs, vn, ft, fs, fc, ke, ks, kn, cn, ac, gs, rfl, hP⟩ := hR
  have B := xo_mk hw I hSa hP
  have fo := xs_fo I hSa
  obtain ⟨hen, hv⟩ := hP.1 hb
  obtain ⟨i1, i2, eK, eS, eT, eC⟩ := xs_in hw B fo.1 hk hst
  have kd : (11 : Int32) = 11 := rfl
  have hkp := xg_kp fo B hst (by rw [hk]; decide) (by rw [hk]; decide)
  obtain ⟨rfl, rfl⟩ := hv (Or.inl hh)
  refine ⟨i1, i2, nm_r eK ⟨i1, nm_r eS (br_f (by decide) (br_f (by decide) (br_f (by decide) (br_f (by decide) (br_t (hen.trans hh) (br_f (by decide) (br_f (by decide) ⟨i1, nm_r hkp.1 ⟨i1, nm_r hkp.2 ?_⟩⟩)))))))⟩⟩
  refine br_f (by decide) (br_f (by decide) (br_f (by decide) ?_))
  unfold wpX_calculate
  refine xm_num ?_
  rw [if_pos hn.1]
  refine br_f (by decide) (xm_num ?_)
  rw [if_pos hn.2]
  refine br_f (by decide) ?_
  refine br_t (by decide) (br_c (fun z => ?_) (fun z => ?_))
  · rw [if_neg (Int64.not_lt.mpr z)] at hp
    exact xs_fin B hp
  · rw [if_pos (Int64.not_le.mp z)] at hp
    exact xs_fin B hp
theorem xg_div0 (hw : gw_S w) (hq : xq_S w q) (I : gk_I w M S (a :: A') V F G nc sp) (hR : xr_R w q M S (a :: A') V F G N sp u) (hSa : S a = f :: L) (hb : M.1 = false) (hh : M.2.1 = 0) (hst : f.2.1 = 2) (hk : gw_K w f.1 = 10) (hn : gk_nu f.2.2.2.2.1 ∧ gk_nu M.2.2.1) (h0 : M.2.2.2 = 0)
    (hp : ∀ u', xr_R w q (false, 1, 1, (-1 : Int32).toInt64) (gk_su S a L) (a :: A') V F G N sp u' → post u') : wpX_goOn post u (nI (48 * a + L.length)) := by
  obtain ⟨en, vs, vn, ft, fs, fc, ke, ks, kn, cn, ac, gs, rfl, hP⟩ := hR
  have B := xo_mk hw I hSa hP
  have fo := xs_fo I hSa
  obtain ⟨hen, hv⟩ := hP.1 hb
  obtain ⟨i1, i2, eK, eS, eT, eC⟩ := xs_in hw B fo.1 hk hst
  have hkp := xg_kp fo B hst (by rw [hk]; decide) (by rw [hk]; decide)
  obtain ⟨rfl, rfl⟩ := hv (Or.inl hh)
  refine ⟨i1, i2, nm_r eK ⟨i1, nm_r eS (br_f (by decide) (br_f (by decide) (br_f (by decide) (br_f (by decide) (br_t (hen.trans hh) (br_f (by decide) (br_f (by decide) ⟨i1, nm_r hkp.1 ⟨i1, nm_r hkp.2 ?_⟩⟩)))))))⟩⟩
  refine br_f (by decide) (br_f (by decide) (br_f (by decide) ?_))
  unfold wpX_calculate
  refine xm_num ?_
  rw [if_pos hn.1]
  refine br_f (by decide) (xm_num ?_)
  rw [if_pos hn.2]
  refine br_f (by decide) ?_
  refine br_f (by decide) (br_t (by decide) (br_t h0 ?_))
  exact xs_thr B hp
def gk_rs (s s' : Int32) (r : Int64) : Int32 := if s = 1 ∧ s' = 1 ∧ r = r.toInt32.toInt64 then 1 else 2
theorem xg_calc (hw : gw_S w) (hq : xq_S w q) (I : gk_I w M S (a :: A') V F G nc sp) (hR : xr_R w q M S (a :: A') V F G N sp u) (hSa : S a = f :: L) (hb : M.1 = false) (hh : M.2.1 = 0) (hst : f.2.1 = 2) {kd : Int32} (hk : gw_K w f.1 = kd) (hop : gk_op4 kd) (h10 : kd = 10 → M.2.2.2 ≠ 0) (hn : gk_nu f.2.2.2.2.1 ∧ gk_nu M.2.2.1)
    (hp1 : gk_ov kd f.2.2.2.2.2 M.2.2.2 → ∀ u', xr_R w q (false, 1, 1, (-2 : Int32).toInt64) (gk_su S a L) (a :: A') V F G N sp u' → post u')
    (hp0 : ¬ gk_ov kd f.2.2.2.2.2 M.2.2.2 → ∀ u', xr_R w q (false, 0, gk_rs f.2.2.2.2.1 M.2.2.1 (gk_res kd f.2.2.2.2.2 M.2.2.2), gk_res kd f.2.2.2.2.2 M.2.2.2) (gk_su S a L) (a :: A') V F G N sp u' → post u') : wpX_goOn post u (nI (48 * a + L.length)) := by
  obtain ⟨en, vs, vn, ft, fs, fc, ke, ks, kn, cn, ac, gs, rfl, hP⟩ := hR
  have B := xo_mk hw I hSa hP
  have fo := xs_fo I hSa
  obtain ⟨hen, hv⟩ := hP.1 hb
  obtain ⟨i1, i2, eK, eS, eT, eC⟩ := xs_in hw B fo.1 hk hst
  have hd : kd = 7 ∨ kd = 8 ∨ kd = 9 ∨ kd = 10 ∨ kd = 11 := by
    rcases hop with h | h | h | h
    · exact Or.inl h
    · exact Or.inr (Or.inl h)
    · exact Or.inr (Or.inr (Or.inl h))
    · exact Or.inr (Or.inr (Or.inr (Or.inl h)))
  have h11 : kd ≠ 11 := by rcases hop with rfl | rfl | rfl | rfl <;> decide
  have h14 : kd ≠ 14 := by rcases hd with rfl | rfl | rfl | rfl | rfl <;> decide
  have h21 : kd ≠ 21 := by rcases hd with rfl | rfl | rfl | rfl | rfl <;> decide
  have h20 : kd ≠ 20 := by rcases hd with rfl | rfl | rfl | rfl | rfl <;> decide
  have h6 : kd ≠ 6 := by rcases hd with rfl | rfl | rfl | rfl | rfl <;> decide
  have h23 : kd ≠ 23 := by rcases hd with rfl | rfl | rfl | rfl | rfl <;> decide
  have h12 : kd ≠ 12 := by rcases hd with rfl | rfl | rfl | rfl | rfl <;> decide
  have hkp := xg_kp fo B hst (by rw [hk]; exact h14) (by rw [hk]; exact h21)
  obtain ⟨rfl, rfl⟩ := hv (Or.inl hh)
  refine ⟨i1, i2, nm_r eK ⟨i1, nm_r eS (br_f h14 (br_f h21 (br_f h20 (br_f h20 (br_t (hen.trans hh) (br_f (by decide) (br_f (by decide) ⟨i1, nm_r hkp.1 ⟨i1, nm_r hkp.2 (br_f h6 (br_f h23 (br_f h12 ?_)))⟩⟩)))))))⟩⟩
  unfold wpX_calculate
  refine xm_num ?_
  rw [if_pos hn.1]
  refine br_f (by decide) (xm_num ?_)
  rw [if_pos hn.2]
  refine br_f (by decide) ?_
  have body : wX_calculate_81 post kd f.2.2.2.2.1 f.2.2.2.2.2 M.2.2.2 q.1 q.2.1 q.2.2.1 (nI (a :: A').length) (nI V.2.2.2.2) (nI F.2.2) (nI G.2.2.2) en M.2.2.1 M.2.2.2 (nI N.2.2) (nI sp) q.2.2.2.1 q.2.2.2.2.1 q.2.2.2.2.2.1 (gw_K w) (gw_v w) q.2.2.2.2.2.2.1 q.2.2.2.2.2.2.2.1 q.2.2.2.2.2.2.2.2 (gw_mn w) (gw_gn w) ft fs fc ke ks kn cn ac V.1 V.2.1 V.2.2.1 V.2.2.2.1 F.1 F.2.1 gs N.1 N.2.1 := by
    refine xm_wrap hop h10 ?_
    generalize hr : gk_res kd f.2.2.2.2.2 M.2.2.2 = r at hp0 ⊢
    refine br_c (fun y1 => br_c (fun y2 => br_c (fun y3 => ?_) (fun y3 => ?_)) (fun y2 => ?_)) (fun y1 => ?_)
    · unfold gk_rs at hp0
      rw [if_pos ⟨y1, y2, y3⟩] at hp0
      unfold wX_calculate_119
      rw [← hr]
      refine xm_hw hop (fun o => br_f (by decide) ?_) (fun o => br_t rfl (br_f (by decide) ?_))
      · exact xs_thr B (hp1 o)
      · rw [hr]
        exact xs_fin B (hp0 o)
    · unfold gk_rs at hp0
      rw [if_neg (fun c => y3 c.2.2)] at hp0
      unfold wX_calculate_118 wX_calculate_119
      rw [← hr]
      refine xm_hw hop (fun o => br_f (by decide) ?_) (fun o => br_t rfl (br_t rfl ?_))
      · exact xs_thr B (hp1 o)
      · rw [hr]
        exact xs_fin B (hp0 o)
    · unfold gk_rs at hp0
      rw [if_neg (fun c => y2 c.2.1)] at hp0
      unfold wX_calculate_118 wX_calculate_119
      rw [← hr]
      refine xm_hw hop (fun o => br_f (by decide) ?_) (fun o => br_t rfl (br_t rfl ?_))
      · exact xs_thr B (hp1 o)
      · rw [hr]
        exact xs_fin B (hp0 o)
    · unfold gk_rs at hp0
      rw [if_neg (fun c => y1 c.1)] at hp0
      unfold wX_calculate_118 wX_calculate_119
      rw [← hr]
      refine xm_hw hop (fun o => br_f (by decide) ?_) (fun o => br_t rfl (br_t rfl ?_))
      · exact xs_thr B (hp1 o)
      · rw [hr]
        exact xs_fin B (hp0 o)
  refine br_f h11 (br_c (fun z => br_f (h10 z) body) (fun z => body))
end
