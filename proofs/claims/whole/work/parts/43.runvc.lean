def rn_S : Nat → List gf_T := gk_su (fun _ => []) 0 [(0, 0, -1, 0, 0, 0)]
theorem rn_s : 0 + 0 + 0 + gk_sm gk_yl rn_S 16 ≤ 0 := by decide
theorem rn_I {w : gw_T} (hw : gw_S w) (hn : 0 < gw_n w) (B O VS : Nat → Int32) (VN : Nat → Int64) (FT FS st cl gy : Nat → Int32) : gk_I w (true, 0, 0, 0) rn_S [0] (B, O, VS, VN, 0) (FT, FS, 0) (st, cl, gy, 0) 0 0 := by
  refine ⟨?_, ⟨⟨Or.inl rfl, trivial⟩, by show 1 ≤ 8; decide⟩, fun g hg => absurd hg (Nat.not_lt_zero _), ⟨fun i hi => absurd hi (Nat.not_lt_zero _), fun i hi => absurd hi (Nat.not_lt_zero _)⟩, ⟨rn_s, by decide, by show (0 : Nat) ≤ 8; decide⟩, ?_, fun z => nomatch z⟩
  · intro s h16 hl
    have hs : s = 0 := by
      rcases hl with h | h
      · rcases List.mem_cons.mp h with h | h
        · exact h
        · cases h
      · have h2 : s < 8 + 0 := h.2
        omega
    subst hs
    refine ⟨0, Or.inl ⟨rfl, rfl⟩, ?_⟩
    show gk_SL w _ _ _ 0 _ [(0, 0, -1, 0, 0, 0)]
    refine gk_SL1 hn rfl ?_
    rw [hw.2.2.2.2.2.1.1]
    exact rfl
  · intro a A' e
    cases e
    exact ⟨fun s hs => (by cases hs), fun _ => ⟨_, _, rfl, rfl⟩, fun z => (by cases z)⟩
theorem rn_mu : gk_mu (true, 0, 0, 0) rn_S [0] 0 ≤ 2401 := by decide
theorem rn_G {w : gw_T} (hw : gw_S w) {M : gm_T} {S : Nat → List gf_T} {A : List Nat} {V : gv_T} {F : gp_T} {G : gg_T} {nc sp : Nat} (I : gk_I w M S A V F G nc sp) {ft fs fc ke ks : Nat → Int32} {kn : Nat → Int64} {cn gs : Nat → Int32}
    (hC : xr_C (gw_K w) (xr_Z ft fs fc ke ks kn) cn (gk_lv A G.2.2.2) S) (hg : ∀ g, g < G.2.2.2 → gs g = xr_g (G.1 g) (G.2.1 g)) : il_G G.2.2.2 gs ft cn G.1 G.2.1 G.2.2.1 := by
  intro g hgc
  have gn := I.2.2.1 g hgc
  have h8 := I.2.2.2.2.1.2.2
  refine ⟨gn.1, hg g hgc, fun z => ?_⟩
  obtain ⟨_, f, L, e1, e2, _, e3⟩ := gn.2.2.2.2 z
  have hlv : gk_lv A G.2.2.2 (8 + g) := Or.inr ⟨by omega, by omega⟩
  have hl := xo_len hw I (8 + g) (by omega) hlv
  have hc := hC (8 + g) (by omega) hlv
  rw [e1] at hl hc
  have hl2 : L.length + 1 ≤ 48 := hl
  refine ⟨L.length, by omega, hc.1, ?_⟩
  rw [e3]
  exact hc.2.1.1
theorem rn_20 : ¬ (2 : Int32) = 0 := by decide
theorem rn_21 : ¬ (2 : Int32) = 1 := by decide
theorem rn_0 {s : Nat} (hl : gk_lv [0] 0 s) : s = 0 := by
  rcases hl with h | h
  · rcases List.mem_cons.mp h with h | h
    · exact h
    · cases h
  · have h2 : s < 8 + 0 := h.2
    omega
theorem rn_E {h s vs : Int32} {x vn : Int64} {F : gp_T} {gc : Nat} (hfc : F.2.2 ≤ 600) (hvv : gk_VV F.2.2 gc s x) (hvs : vs = s ∧ vn = x) :
    ((if h = 1 then (1 : Int32) else 0) = 0 ∨ (if h = 1 then (1 : Int32) else 0) = 1) ∧ vs = s ∧ (vs = 3 → ∃ i, i < 600 ∧ vn = lN i ∧ (F.1 i).toInt64 = gk_sh F s x) ∧ (¬ vs = 3 → vn = gk_sh F s x) := by
  obtain ⟨rfl, rfl⟩ := hvs
  refine ⟨by split; exact Or.inr rfl; exact Or.inl rfl, rfl, ?_, ?_⟩
  · intro z
    rcases hvv with c | ⟨_, i, hi, e⟩ | ⟨c, _⟩
    · rw [z] at c; exact absurd c (by decide)
    · refine ⟨i, by omega, e, ?_⟩
      rw [gk_sh, if_pos z, e, lN_i, nI_clamp (by omega)]
    · rw [z] at c; exact absurd c (by decide)
  · intro z
    rw [gk_sh, if_neg z]
theorem i_vc_run {k : Nat} {u : SX} {v : SY} (I : i_Rel k u v) (hk : k + 3 ≤ 1536) (v1 : Int32) : wpX_run (fun r u' => wpY_run (fun r' v' => r' = r ∧ i_Rel (k + 3) u' v') v v1) u v1 := by
  obtain ⟨f_tokenCount, f_scriptSize, f_saidPlace, f_activationCount, f_variableCount, f_functionCount, f_generatorCount, f_ending, f_valueSort, f_valueNumber, f_noteCount, f_stepCount, f_latestRun, a_tokenKinds, a_tokenOperands, a_kinds, a_operands, a_parents, a_behind, a_ownFns, a_meanings, a_generatorFns, a_frameTokens, a_frameStages, a_frameScopes, a_keptEndings, a_keptSorts, a_keptNumbers, a_frameCounts, a_activeSlots, a_variableBinders, a_variableOuters, a_variableSorts, a_variableNumbers, a_functionTokens, a_functionScopes, a_generatorStates, a_noteSorts, a_noteNumbers⟩ := u
  obtain ⟨f_drafted, f_length, f_place, f_there, f_chains, f_functions, f_generators, f_active, f_begins, f_token, f_chain, f_how, f_sort, f_value, f_steps, f_endSort, f_status, f_endNumber, f_over, f_noted, a_draftKind, a_draftWith, a_kind, a_with, a_above, a_as, a_part, a_open, a_means, a_own, a_yields, a_binder, a_outer, a_holdsSort, a_holds, a_fnToken, a_fnChain, a_state, a_gBody, a_gChain, a_gYield, a_closing, a_rowOf, a_many, a_wToken, a_wOperand, a_wChain, a_wSort, a_wHow, a_wValue, a_noteSort, a_noteNumber⟩ := v
  have I0 : il_R (f_tokenCount, f_scriptSize, f_saidPlace, f_activationCount, f_variableCount, f_functionCount, f_generatorCount, f_ending, f_valueSort, f_valueNumber, f_noteCount, f_stepCount, f_latestRun, a_tokenKinds, a_tokenOperands, a_kinds, a_operands, a_parents, a_behind, a_ownFns, a_meanings, a_generatorFns, a_frameTokens, a_frameStages, a_frameScopes, a_keptEndings, a_keptSorts, a_keptNumbers, a_frameCounts, a_activeSlots, a_variableBinders, a_variableOuters, a_variableSorts, a_variableNumbers, a_functionTokens, a_functionScopes, a_generatorStates, a_noteSorts, a_noteNumbers) (f_drafted, f_length, f_place, f_there, f_chains, f_functions, f_generators, f_active, f_begins, f_token, f_chain, f_how, f_sort, f_value, f_steps, f_endSort, f_status, f_endNumber, f_over, f_noted, a_draftKind, a_draftWith, a_kind, a_with, a_above, a_as, a_part, a_open, a_means, a_own, a_yields, a_binder, a_outer, a_holdsSort, a_holds, a_fnToken, a_fnChain, a_state, a_gBody, a_gChain, a_gYield, a_closing, a_rowOf, a_many, a_wToken, a_wOperand, a_wChain, a_wSort, a_wHow, a_wValue, a_noteSort, a_noteNumber) := I
  obtain ⟨⟨nt, hnt, rfl, rfl, hkd⟩, rfl, rfl, rfl, hT, ⟨rfl, rfl, rfl, rfl, rfl, rfl⟩, ⟨rfl, rfl, rfl, rfl⟩, ⟨gc, hgc, rfl, rfl, hG⟩, hE⟩ := I
  rcases hT with ⟨rfl, rfl⟩ | ⟨n, hn0, hn48, rfl, rfl, rfl, w, hw, hw2, hwn, rfl, rfl, rfl, rfl, hbx, hfx, hky, hpy, hfy, hay0, hay⟩
  · exact br_t rfl (br_t rfl ⟨rfl, I0⟩)
  · have n0 : ¬ nI n = 0 := nI_ne0 hn0 (by omega)
    by_cases c1 : v1 < 1
    · exact br_f n0 (br_t c1 (br_f (by decide) (br_t c1 ⟨rfl, I0⟩)))
    by_cases c6 : v1 ≤ 600
    · obtain ⟨most, hm6, rfl⟩ := nI_of2 (M := 600) (n := 600) (by decide) (fun z => c1 (Int32.lt_trans z (by decide))) c6
      refine br_f n0 (br_f c1 (br_t c6 ?_))
      unfold wpX_forgetRun
      refine xm_start (d := 0) rfl (by decide) ?_
      refine ⟨2402, ?_⟩
      have hx : xq_S w (nI nt, nI n, f_place, (-1 : Int32), a_draftKind, a_draftWith, a_parents, a_behind, a_ownFns) := fun i hi => hbx i (by rw [← hwn]; exact hi)
      have hy : yq_S w (nI nt, nI n, f_place, (1 : Int32), a_draftKind, a_draftWith, a_kind, a_with, a_above, a_as, a_part, a_open, a_means, a_own, a_yields) :=
        ⟨fun i hi => hky i (by rw [← hwn]; exact hi), fun i j hi hj => hpy i j (by rw [← hwn]; exact hi) hj⟩
      refine ru_main (E := (-1, f_status, 0, 0)) hw hx hy hm6 rfl (fun u' v' => i_Rel (k + 3) u' v') (fun postY => wpY_run postY (nI nt, nI n, f_place, 1, f_chains, f_functions, nI gc, f_active, f_begins, f_token, f_chain, f_how, f_sort, f_value, f_steps, f_endSort, f_status, f_endNumber, f_over, f_noted, a_draftKind, a_draftWith, a_kind, a_with, a_above, a_as, a_part, a_open, a_means, a_own, a_yields, a_binder, a_outer, a_holdsSort, a_holds, a_fnToken, a_fnChain, a_state, a_gBody, a_gChain, a_gYield, a_closing, a_rowOf, a_many, a_wToken, a_wOperand, a_wChain, a_wSort, a_wHow, a_wValue, a_noteSort, a_noteNumber) (nI most)) ?_ ?_
        2401 (true, 0, 0, 0) rn_S [0] (a_binder, a_outer, a_holdsSort, a_holds, 0) (a_fnToken, a_fnChain, 0) (a_state, a_closing, a_gYield, 0) (a_noteSort, a_noteNumber, 0) 0 (rn_I hw (by rw [hwn]; exact hn0) _ _ _ _ _ _ _ _ _) rn_mu (Nat.zero_le _) (List.cons_ne_nil _ _) ?_ (nI nt, nI n, f_place, nI (0 + 1), 0, 0, 0, f_ending, f_valueSort, f_valueNumber, 0, 0, -1, a_draftKind, a_draftWith, gw_K w, gw_v w, a_parents, a_behind, a_ownFns, gw_mn w, gw_gn w, upd a_frameTokens (48 * 0) 0, upd a_frameStages (48 * 0) 0, upd a_frameScopes (48 * 0) (-1), a_keptEndings, a_keptSorts, a_keptNumbers, upd a_frameCounts 0 1, upd a_activeSlots 0 (nI 0), a_binder, a_outer, a_holdsSort, a_holds, a_fnToken, a_fnChain, a_generatorStates, a_noteSort, a_noteNumber) 2402 0 ?_ (by decide) (by decide)
      · intro M S A V F G N sp u v J hX hY
        obtain ⟨en, vs, vn, ft, fs, fc, ke, ks, kn, cn, ac, gs, rfl, hP⟩ := hX
        obtain ⟨bg, tk, ch, hw', so, va, gb, gh, ro, mn, wt, wo, wc, wh, ws, wv, rfl, hQ⟩ := hY
        exact ⟨⟨nt, hnt, rfl, rfl, hkd⟩, rfl, rfl, rfl, Or.inr ⟨n, hn0, hn48, rfl, rfl, rfl, w, hw, hw2, hwn, rfl, rfl, rfl, rfl, hbx, hfx, hky, hpy, hfy, hay0, hay⟩, ⟨rfl, rfl, rfl, rfl, rfl, rfl⟩, ⟨rfl, rfl, rfl, rfl⟩, ⟨G.2.2.2, J.2.2.2.2.1.2.2, rfl, rfl, rn_G hw J hP.2.2.1 hP.2.2.2⟩, Or.inl ⟨⟨rn_20, rn_21⟩, rfl, rfl⟩⟩
      · intro h s x S V F G N sp u v J hX hY
        obtain ⟨en, vs, vn, ft, fs, fc, ke, ks, kn, cn, ac, gs, rfl, hP⟩ := hX
        obtain ⟨bg, tk, ch, hw', so, va, gb, gh, ro, mn, wt, wo, wc, wh, ws, wv, rfl, hQ⟩ := hY
        obtain ⟨_, h01, hvv⟩ := J.2.2.2.2.2.2 rfl
        have hvs := (hP.1 rfl).2 (by rcases h01 with z | z; exact Or.inl z; exact Or.inr (Or.inl z))
        have hfc : F.2.2 ≤ 600 := by have := J.2.2.2.2.1; omega
        refine ⟨⟨nt, hnt, rfl, rfl, hkd⟩, rfl, rfl, rfl, Or.inr ⟨n, hn0, hn48, rfl, rfl, rfl, w, hw, hw2, hwn, rfl, rfl, rfl, rfl, hbx, hfx, hky, hpy, hfy, hay0, hay⟩, ⟨rfl, rfl, rfl, rfl, rfl, rfl⟩, ⟨rfl, rfl, rfl, rfl⟩, ⟨G.2.2.2, J.2.2.2.2.1.2.2, rfl, rfl, rn_G hw J hP.2.2.1 hP.2.2.2⟩, Or.inr ?_⟩
        exact rn_E hfc hvv hvs
      · intro postY hpY
        refine br_f (by decide) (br_f c1 (br_t c6 ?_))
        unfold wpY_forget
        refine ym_enterD (d := 0) (r := 8) rfl (by decide) (by decide) (by decide) rfl ?_
        refine ⟨2403, hpY (nI nt, nI n, f_place, 1, 0, 0, 0, nI (0 + 1), 1, 0, -1, f_how, f_sort, f_value, 0, -1, f_status, 0, 0, 0, a_draftKind, a_draftWith, a_kind, a_with, a_above, a_as, a_part, a_open, a_means, a_own, a_yields, a_binder, a_outer, a_holdsSort, a_holds, a_fnToken, a_fnChain, a_state, a_gBody, a_gChain, a_gYield, a_closing, upd a_rowOf 0 (nI 8), upd a_many 8 0, a_wToken, a_wOperand, a_wChain, a_wSort, a_wHow, a_wValue, a_noteSort, a_noteNumber) ?_ 2403 (by decide)⟩
        refine ⟨1, 0, -1, f_how, f_sort, f_value, a_gBody, a_gChain, _, _, a_wToken, a_wOperand, a_wChain, a_wHow, a_wSort, a_wValue, rfl, ⟨fun _ => ⟨rfl, ?_⟩, fun z => (by cases z)⟩, ⟨pk_us, trivial⟩, ?_, fun g hg => absurd hg (Nat.not_lt_zero _)⟩
        · intro a A' f L e1 e2
          cases e1
          cases e2
          exact ⟨rfl, rfl⟩
        · intro s h16 hl
          have hs := rn_0 hl
          subst hs
          exact ⟨pk_us, gk_0y, trivial⟩
      · refine ⟨f_ending, f_valueSort, f_valueNumber, _, _, _, a_keptEndings, a_keptSorts, a_keptNumbers, _, _, a_generatorStates, rfl, fun z => (by cases z), ⟨pk_us, trivial⟩, ?_, fun g hg => absurd hg (Nat.not_lt_zero _)⟩
        exact xr_lay (b := 0) (t := 0) (P := fun _ => False) (S := fun _ => []) (cn := a_frameCounts) (fun s hs hp => hp.elim) (fun s hs hp => hp.elim) (fun s hs hne => absurd (rn_0 hs) hne)
    · exact br_f n0 (br_f c1 (br_f c6 (br_f (by decide) (br_f c1 (br_f c6 ⟨rfl, I0⟩)))))
