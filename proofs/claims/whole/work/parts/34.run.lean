def ru_X (post : Int32 → SX → Prop) (x1 : Int32) (n : Nat) (x2 : Int32) (u : SX) : Prop := match u with
  | (f_tokenCount, f_scriptSize, f_saidPlace, f_activationCount, f_variableCount, f_functionCount, f_generatorCount, f_ending, f_valueSort, f_valueNumber, f_noteCount, f_stepCount, f_latestRun, a_tokenKinds, a_tokenOperands, a_kinds, a_operands, a_parents, a_behind, a_ownFns, a_meanings, a_generatorFns, a_frameTokens, a_frameStages, a_frameScopes, a_keptEndings, a_keptSorts, a_keptNumbers, a_frameCounts, a_activeSlots, a_variableBinders, a_variableOuters, a_variableSorts, a_variableNumbers, a_functionTokens, a_functionScopes, a_generatorStates, a_noteSorts, a_noteNumbers) => wX_run_33 post x1 n x2 f_tokenCount f_scriptSize f_saidPlace f_activationCount f_variableCount f_functionCount f_generatorCount f_ending f_valueSort f_valueNumber f_noteCount f_stepCount f_latestRun a_tokenKinds a_tokenOperands a_kinds a_operands a_parents a_behind a_ownFns a_meanings a_generatorFns a_frameTokens a_frameStages a_frameScopes a_keptEndings a_keptSorts a_keptNumbers a_frameCounts a_activeSlots a_variableBinders a_variableOuters a_variableSorts a_variableNumbers a_functionTokens a_functionScopes a_generatorStates a_noteSorts a_noteNumbers
def ru_Y (post : Int32 → SY → Prop) (x1 : Int32) (n : Nat) (v : SY) : Prop := match v with
  | (f_drafted, f_length, f_place, f_there, f_chains, f_functions, f_generators, f_active, f_begins, f_token, f_chain, f_how, f_sort, f_value, f_steps, f_endSort, f_status, f_endNumber, f_over, f_noted, a_draftKind, a_draftWith, a_kind, a_with, a_above, a_as, a_part, a_open, a_means, a_own, a_yields, a_binder, a_outer, a_holdsSort, a_holds, a_fnToken, a_fnChain, a_state, a_gBody, a_gChain, a_gYield, a_closing, a_rowOf, a_many, a_wToken, a_wOperand, a_wChain, a_wSort, a_wHow, a_wValue, a_noteSort, a_noteNumber) => wY_run_42 post x1 n f_drafted f_length f_place f_there f_chains f_functions f_generators f_active f_begins f_token f_chain f_how f_sort f_value f_steps f_endSort f_status f_endNumber f_over f_noted a_draftKind a_draftWith a_kind a_with a_above a_as a_part a_open a_means a_own a_yields a_binder a_outer a_holdsSort a_holds a_fnToken a_fnChain a_state a_gBody a_gChain a_gYield a_closing a_rowOf a_many a_wToken a_wOperand a_wChain a_wSort a_wHow a_wValue a_noteSort a_noteNumber
def ru_q (q : xq_T) (r : Int32) : xq_T := (q.1, q.2.1, q.2.2.1, r, q.2.2.2.2)
section
variable {w : gw_T} {qx : xq_T} {qy : yq_T} {E : ye_T} {S : Nat → List gf_T} {a : Nat} {A' : List Nat} {V : gv_T} {F : gp_T} {G : gg_T} {N : gn_T} {nc sp most : Nat} {f : gf_T} {L : List gf_T} {h s : Int32} {x : Int64}
theorem ru_Yp {postY : Int32 → SY → Prop} {n : Nat} {v : SY} (hE : E.2.2.2 = 0) (hR : yr_R w qy E (false, h, s, x) S (a :: A') V F G N sp v) (hp : wpY_pass (fun v' => ru_Y postY (nI most) n v') v) : ru_Y postY (nI most) (n + 1) v := by
  obtain ⟨bg, tk, ch, hw, so, va, gb, gh, ro, mn, wt, wo, wc, wh, ws, wv, rfl, hP⟩ := hR
  obtain ⟨hbg, _, _⟩ := hP.1.2 rfl
  exact br_t hE (br_t hbg hp)
theorem ru_Yb {postY : Int32 → SY → Prop} {n : Nat} {v : SY} (hE : E.2.2.2 = 0) (hsp : sp < most) (hm : most ≤ 600) (hR : yr_R w qy E (true, h, s, x) S (a :: A') V F G N sp v)
    (hp : ∀ v2, yr_R w qy E (true, h, s, x) S (a :: A') V F G N (sp + 1) v2 → wpY_begin (fun v' => ru_Y postY (nI most) n v') v2) : ru_Y postY (nI most) (n + 1) v := by
  obtain ⟨bg, tk, ch, hw, so, va, gb, gh, ro, mn, wt, wo, wc, wh, ws, wv, rfl, hP⟩ := hR
  obtain ⟨rfl, _⟩ := hP.1.1 rfl
  refine br_t hE (br_f (by decide) (br_f ?_ (nm_r (nI_1 sp) ?_)))
  · rw [nI_eq (by omega) (by omega)]
    omega
  · exact hp _ ⟨1, tk, ch, hw, so, va, gb, gh, ro, mn, wt, wo, wc, wh, ws, wv, rfl, hP⟩
theorem ru_Yl {postY : Int32 → SY → Prop} {n : Nat} {v : SY} (hE : E.2.2.2 = 0) (hR : yr_R w qy E (true, h, s, x) S (a :: A') V F G N sp v) (hsp : sp = most)
    (hp : ∀ v2, yr_R w qy (E.1, 2, E.2.2.1, 1) (true, h, s, x) S (a :: A') V F G N sp v2 → postY 2 v2) : ru_Y postY (nI most) (n + 2) v := by
  obtain ⟨bg, tk, ch, hw, so, va, gb, gh, ro, mn, wt, wo, wc, wh, ws, wv, rfl, hP⟩ := hR
  obtain ⟨rfl, _⟩ := hP.1.1 rfl
  subst hsp
  refine br_t hE (br_f (by decide) (br_t rfl (br_f (by decide) ?_)))
  exact hp _ ⟨1, tk, ch, hw, so, va, gb, gh, ro, mn, wt, wo, wc, wh, ws, wv, rfl, hP⟩
theorem ru_Yo {postY : Int32 → SY → Prop} {n : Nat} {v : SY} {M : gm_T} {A : List Nat} (hE : E.2.2.2 = 1) (hR : yr_R w qy E M S A V F G N sp v) (hp : postY E.2.1 v) : ru_Y postY (nI most) (n + 1) v := by
  obtain ⟨bg, tk, ch, hw, so, va, gb, gh, ro, mn, wt, wo, wc, wh, ws, wv, rfl, hP⟩ := hR
  exact br_f (by rw [hE]; decide) hp
theorem ru_Xc {PX : Int32 → SX → Prop} {n turn : Nat} : ∀ u', ru_X PX (nI most) n (nI (turn + 1)) u' → (match u' with
  | (f_tokenCount, f_scriptSize, f_saidPlace, f_activationCount, f_variableCount, f_functionCount, f_generatorCount, f_ending, f_valueSort, f_valueNumber, f_noteCount, f_stepCount, f_latestRun, a_tokenKinds, a_tokenOperands, a_kinds, a_operands, a_parents, a_behind, a_ownFns, a_meanings, a_generatorFns, a_frameTokens, a_frameStages, a_frameScopes, a_keptEndings, a_keptSorts, a_keptNumbers, a_frameCounts, a_activeSlots, a_variableBinders, a_variableOuters, a_variableSorts, a_variableNumbers, a_functionTokens, a_functionScopes, a_generatorStates, a_noteSorts, a_noteNumbers) => ∀ y : Int32, y = nI turn + 1 → wX_run_33 PX (nI most) n y f_tokenCount f_scriptSize f_saidPlace f_activationCount f_variableCount f_functionCount f_generatorCount f_ending f_valueSort f_valueNumber f_noteCount f_stepCount f_latestRun a_tokenKinds a_tokenOperands a_kinds a_operands a_parents a_behind a_ownFns a_meanings a_generatorFns a_frameTokens a_frameStages a_frameScopes a_keptEndings a_keptSorts a_keptNumbers a_frameCounts a_activeSlots a_variableBinders a_variableOuters a_variableSorts a_variableNumbers a_functionTokens a_functionScopes a_generatorStates a_noteSorts a_noteNumbers) := by
  intro u' hr
  obtain ⟨f_tokenCount, f_scriptSize, f_saidPlace, f_activationCount, f_variableCount, f_functionCount, f_generatorCount, f_ending, f_valueSort, f_valueNumber, f_noteCount, f_stepCount, f_latestRun, a_tokenKinds, a_tokenOperands, a_kinds, a_operands, a_parents, a_behind, a_ownFns, a_meanings, a_generatorFns, a_frameTokens, a_frameStages, a_frameScopes, a_keptEndings, a_keptSorts, a_keptNumbers, a_frameCounts, a_activeSlots, a_variableBinders, a_variableOuters, a_variableSorts, a_variableNumbers, a_functionTokens, a_functionScopes, a_generatorStates, a_noteSorts, a_noteNumbers⟩ := u'
  exact nm_r (nI_1 turn) hr
theorem ru_Xe {M : gm_T} (hw : gw_S w) (I : gk_I w M S (a :: A') V F G nc sp) {turn n : Nat} {u : SX} {PX : Int32 → SX → Prop} (ht : turn < 1000000) (hR : xr_R w qx M S (a :: A') V F G N sp u)
    (h0 : S a = [] → ∀ post, (∀ u', ru_X PX (nI most) n (nI (turn + 1)) u' → post u') → wpX_endActivation post u (nI a))
    (h1 : ∀ f L, S a = f :: L → f.2.1 ≠ 0 → ∀ post, (∀ u', ru_X PX (nI most) n (nI (turn + 1)) u' → post u') → wpX_goOn post u (nI (48 * a + L.length)))
    (h2 : ∀ f L, S a = f :: L → f.2.1 = 0 → sp < most → ∀ post, (∀ u', ru_X PX (nI most) n (nI (turn + 1)) u' → post u') → wpX_beginToken post u (nI (48 * a + L.length)))
    (h3 : ∀ f L, S a = f :: L → f.2.1 = 0 → most ≤ sp → ∀ u', xr_R w (ru_q qx 2) M S (a :: A') V F G N sp u' → PX 2 u') (hm : most ≤ 600) : ru_X PX (nI most) (n + 1) (nI turn) u := by
  have ha := gk_Ia I
  have hl8 : A'.length < 8 := I.2.1.2
  have hsp := I.2.2.2.2.1.2.1
  have hfo : ∀ f L, S a = f :: L → f.2.1 ≤ 3 := fun f L e => (xs_fo I e).2.2.1
  obtain ⟨en, vs, vn, ft, fs, fc, ke, ks, kn, cn, ac, gs, rfl, hP⟩ := hR
  have hc := hP.2.2.1 a ha (Or.inl (List.mem_cons_self ..))
  have e1 : ac (nI (a :: A').length - 1).toNatClampNeg = nI a := xm_tp (d := A'.length) rfl hl8 hP.2.1.1
  have ea : (nI a).toNatClampNeg = a := nI_clamp (by omega)
  have i16 : vp_in (nI a) 16 := vp_in_nI ha (by decide)
  have hlen := xo_len hw I a ha (Or.inl (List.mem_cons_self ..))
  refine br_f (nI_ge (b := 1000000) ht (by decide)) (br_f (nI_nle (n := A'.length + 1) (by omega) (by omega)) ⟨xm_ti (d := A'.length) rfl hl8, nm_r e1 ⟨i16, ?_⟩⟩)
  cases hS : S a with
  | nil =>
    rw [hS] at hc
    have ec : cn (nI a).toNatClampNeg = 0 := by rw [ea, hc.1]; rfl
    refine nm_e ⟨i16, br_t ec ?_⟩
    exact h0 hS _ ru_Xc
  | cons f L =>
    rw [hS] at hc hlen
    have hl : L.length + 1 ≤ 48 := hlen
    have ec : cn (nI a).toNatClampNeg = nI (L.length + 1) := by rw [ea, hc.1]; rfl
    have ek : nI a * 48 + cn (nI a).toNatClampNeg - 1 = nI (48 * a + L.length) := by
      rw [ec, show nI a * 48 = nI (48 * a) from (by rw [Nat.mul_comm]; exact pk_mul a 48), nI_add, show 48 * a + (L.length + 1) = (48 * a + L.length) + 1 from rfl, nI_pred]
    have ekc : (nI (48 * a + L.length)).toNatClampNeg = 48 * a + L.length := nI_clamp (by omega)
    have efs : fs (48 * a + L.length) = nI f.2.1 := hc.2.1.2.1
    have i768 : vp_in (nI (48 * a + L.length)) 768 := vp_in_nI (by omega) (by decide)
    refine nm_r ek ⟨i16, br_f (by rw [ec]; exact nI_ne0 (by omega) (by omega)) ⟨i768, ?_⟩⟩
    have h3s := hfo f L hS
    by_cases z : f.2.1 = 0
    · refine br_t (by rw [ekc, efs, z]; rfl) ?_
      by_cases y : sp < most
      · exact br_f (nI_ge y (by omega)) (h2 f L hS z y _ ru_Xc)
      · refine br_t (nI_le (by omega) (by omega)) ?_
        exact h3 f L hS z (by omega) _ ⟨en, vs, vn, ft, fs, fc, ke, ks, kn, cn, ac, gs, rfl, hP⟩
    · exact br_f (by rw [ekc, efs]; exact nI_ne0 (by omega) (by omega)) (h1 f L hS z _ ru_Xc)
theorem ru_Xo {PX : Int32 → SX → Prop} {n : Nat} {x2 : Int32} {u : SX} (hR : xr_R w qx (false, h, s, x) S [] V F G N sp u)
    (hp : ∀ u', xr_R w (ru_q qx (if h = 1 then 1 else 0)) (false, h, s, x) S [] V F G N sp u' → PX (if h = 1 then 1 else 0) u') : ru_X PX (nI most) (n + 1) x2 u := by
  obtain ⟨en, vs, vn, ft, fs, fc, ke, ks, kn, cn, ac, gs, rfl, hP⟩ := hR
  obtain ⟨hen, _⟩ := hP.1 rfl
  have fin : wX_run_139 PX qx.1 qx.2.1 qx.2.2.1 (nI 0) (nI V.2.2.2.2) (nI F.2.2) (nI G.2.2.2) en vs vn (nI N.2.2) (nI sp) qx.2.2.2.1 qx.2.2.2.2.1 qx.2.2.2.2.2.1 (gw_K w) (gw_v w) qx.2.2.2.2.2.2.1 qx.2.2.2.2.2.2.2.1 qx.2.2.2.2.2.2.2.2 (gw_mn w) (gw_gn w) ft fs fc ke ks kn cn ac V.1 V.2.1 V.2.2.1 V.2.2.2.1 F.1 F.2.1 gs N.1 N.2.1 := by
    refine br_c (fun z => ?_) (fun z => ?_)
    · have e : h = 1 := hen.symm.trans z
      rw [if_pos e] at hp
      exact hp _ ⟨en, vs, vn, ft, fs, fc, ke, ks, kn, cn, ac, gs, rfl, hP⟩
    · have e : ¬ h = 1 := fun y => z (hen.trans y)
      rw [if_neg e] at hp
      exact hp _ ⟨en, vs, vn, ft, fs, fc, ke, ks, kn, cn, ac, gs, rfl, hP⟩
  exact br_c (fun _ => fin) (fun _ => br_t (by decide) fin)
theorem ru_main (hw : gw_S w) (hx : xq_S w qx) (hy : yq_S w qy) (hm6 : most ≤ 600) (hE : E.2.2.2 = 0) (Rel : SX → SY → Prop) (Q : (Int32 → SY → Prop) → Prop)
    (FL : ∀ M S A V F G N sp u v, gk_I w M S A V F G N.2.2 sp → xr_R w (ru_q qx 2) M S A V F G N sp u → yr_R w qy (E.1, 2, E.2.2.1, 1) M S A V F G N sp v → Rel u v)
    (FE : ∀ h s x S V F G N sp u v, gk_I w (false, h, s, x) S [] V F G N.2.2 sp → xr_R w (ru_q qx (if h = 1 then 1 else 0)) (false, h, s, x) S [] V F G N sp u → yr_R w qy (ye_E F h s x) (false, h, s, x) S [] V F G N sp v → Rel u v) :
    ∀ m M S A V F G N sp, gk_I w M S A V F G N.2.2 sp → gk_mu M S A sp ≤ m → sp ≤ most → A ≠ [] →
      (∀ postY, (∀ v, yr_R w qy E M S A V F G N sp v → ∀ nY, m + 1 < nY → ru_Y postY (nI most) nY v) → Q postY) →
      ∀ u nX turn, xr_R w qx M S A V F G N sp u → m < nX → turn + m < 1000000 → ru_X (fun r u' => Q (fun r' v' => r' = r ∧ Rel u' v')) (nI most) nX (nI turn) u := by
  intro m
  induction m with
  | zero =>
    intro M S A V F G N sp I hmu hsp hA
    cases A with
    | nil => exact absurd rfl hA
    | cons a A' =>
      exact absurd hmu (by unfold gk_mu; show ¬ _ + (A'.length + 1) + _ ≤ 0; omega)
  | succ m ih =>
    intro M S A V F G N sp I hmu hsp hA HY u nX turn hR hn ht
    cases A with
    | nil => exact absurd rfl hA
    | cons a A' =>
      obtain ⟨nX, rfl⟩ : ∃ y, nX = y + 1 := ⟨nX - 1, by omega⟩
      have md := (I.2.2.2.2.2.1 a A' rfl).2
      obtain ⟨b, h, s, x⟩ := M
      refine ru_Xe hw I (by omega) hR ?_ ?_ ?_ ?_ hm6
      · intro hS post hpost
        cases b with
        | true =>
          obtain ⟨f, L', e, _⟩ := md.1 rfl
          rw [hS] at e
          cases e
        | false =>
          obtain ⟨h', s', x', G', I', mu', sX, sY⟩ := re_end (qx := qx) (qy := qy) (E := E) hw I hS
          refine sX u post hR (fun u' hR' => hpost u' ?_)
          by_cases hA' : A' = []
          · subst hA'
            obtain ⟨k, rfl⟩ : ∃ y, nX = y + 1 := ⟨nX - 1, by omega⟩
            refine ru_Xo hR' (fun u2 hR2 => ?_)
            refine HY _ (fun v hv nY hnY => ?_)
            obtain ⟨j, rfl⟩ : ∃ y, nY = y + 2 := ⟨nY - 2, by omega⟩
            refine ru_Yp hE hv (sY v _ hv (fun z => absurd rfl z) (fun _ v' hv' => ?_))
            refine ru_Yo rfl hv' ⟨rfl, FE _ _ _ _ _ _ _ _ _ _ _ I' hR2 hv'⟩
          · refine ih _ _ _ _ _ _ _ _ I' (by omega) hsp hA' ?_ u' nX (turn + 1) hR' (by omega) (by omega)
            intro postY hpY
            refine HY _ (fun v hv nY hnY => ?_)
            obtain ⟨j, rfl⟩ : ∃ y, nY = y + 1 := ⟨nY - 1, by omega⟩
            exact ru_Yp hE hv (sY v _ hv (fun _ v' hv' => hpY v' hv' j (by omega)) (fun z => absurd z hA'))
      · intro f L hS hst post hpost
        cases b with
        | true =>
          obtain ⟨f2, L', e, e0⟩ := md.1 rfl
          rw [hS] at e
          cases e
          exact absurd e0 hst
        | false =>
          obtain ⟨M', S', A2, V', F', G', N', I', mu', hA2, sX, sY⟩ := rt_go (E := E) hw hx hy I hS
          refine sX u post hR (fun u' hR' => hpost u' ?_)
          refine ih _ _ _ _ _ _ _ _ I' (by omega) hsp hA2 ?_ u' nX (turn + 1) hR' (by omega) (by omega)
          intro postY hpY
          refine HY _ (fun v hv nY hnY => ?_)
          rcases sY with sY | sY
          · exact hpY v (sY v hv) nY (by omega)
          · obtain ⟨j, rfl⟩ : ∃ y, nY = y + 1 := ⟨nY - 1, by omega⟩
            exact ru_Yp hE hv (sY v _ hv (fun v' hv' => hpY v' hv' j (by omega)))
      · intro f L hS hst hspm post hpost
        cases b with
        | false => exact absurd hst ((md.2 rfl).1 f (by rw [hS]; exact List.mem_cons_self ..))
        | true =>
          obtain ⟨M', S', F', I', mu', sX, sY⟩ := rb_begin (E := E) hw hx hy I (by omega) hS hst
          refine sX u post hR (fun u' hR' => hpost u' ?_)
          refine ih _ _ _ _ _ _ _ _ I' (by omega) (by omega) (List.cons_ne_nil _ _) ?_ u' nX (turn + 1) hR' (by omega) (by omega)
          intro postY hpY
          refine HY _ (fun v hv nY hnY => ?_)
          obtain ⟨j, rfl⟩ : ∃ y, nY = y + 1 := ⟨nY - 1, by omega⟩
          exact ru_Yb hE hspm hm6 hv (fun v2 hv2 => sY v2 _ hv2 (fun v' hv' => hpY v' hv' j (by omega)))
      · intro f L hS hst hspm u' hR'
        cases b with
        | false => exact absurd hst ((md.2 rfl).1 f (by rw [hS]; exact List.mem_cons_self ..))
        | true =>
          refine HY _ (fun v hv nY hnY => ?_)
          obtain ⟨j, rfl⟩ : ∃ y, nY = y + 2 := ⟨nY - 2, by omega⟩
          exact ru_Yl hE hv (by omega) (fun v2 hv2 => ⟨rfl, FL _ _ _ _ _ _ _ _ _ _ I hR' hv2⟩)
end
