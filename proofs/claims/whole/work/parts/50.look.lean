section
variable {f_drafted f_length f_place f_there f_chains f_functions f_generators f_active f_begins f_token f_chain f_how f_sort : Int32} {f_value : Int64} {f_steps f_endSort f_status : Int32} {f_endNumber : Int64} {f_over f_noted : Int32} {a_draftKind a_draftWith a_kind a_with a_above a_as a_part a_open a_means a_own a_yields a_binder a_outer a_holdsSort : Nat → Int32} {a_holds : Nat → Int64} {a_fnToken a_fnChain a_state a_gBody a_gChain a_gYield a_closing a_rowOf a_many a_wToken a_wOperand a_wChain a_wSort a_wHow : Nat → Int32} {a_wValue : Nat → Int64} {a_noteSort : Nat → Int32} {a_noteNumber : Nat → Int64}
theorem cy_binds {post : Int32 → Prop} {p j : Nat} (hp : p < 48) (hj : j < 3) (h1 : gw_bd (a_kind p) j → post 1) (h0 : ¬ gw_bd (a_kind p) j → post 0) : wpY_binds post (f_drafted, f_length, f_place, f_there, f_chains, f_functions, f_generators, f_active, f_begins, f_token, f_chain, f_how, f_sort, f_value, f_steps, f_endSort, f_status, f_endNumber, f_over, f_noted, a_draftKind, a_draftWith, a_kind, a_with, a_above, a_as, a_part, a_open, a_means, a_own, a_yields, a_binder, a_outer, a_holdsSort, a_holds, a_fnToken, a_fnChain, a_state, a_gBody, a_gChain, a_gYield, a_closing, a_rowOf, a_many, a_wToken, a_wOperand, a_wChain, a_wSort, a_wHow, a_wValue, a_noteSort, a_noteNumber) (nI p) (nI j) := by
  have iv : vp_in (nI p) 48 := vp_in_nI hp (by decide)
  have ep : (nI p).toNatClampNeg = p := nI_clamp (by omega)
  have f31 : (a_kind p = 4 ∨ a_kind p = 20) → ¬ a_kind p = 5 → wY_binds_31 post (nI j) f_drafted f_length f_place f_there f_chains f_functions f_generators f_active f_begins f_token f_chain f_how f_sort f_value f_steps f_endSort f_status f_endNumber f_over f_noted a_draftKind a_draftWith a_kind a_with a_above a_as a_part a_open a_means a_own a_yields a_binder a_outer a_holdsSort a_holds a_fnToken a_fnChain a_state a_gBody a_gChain a_gYield a_closing a_rowOf a_many a_wToken a_wOperand a_wChain a_wSort a_wHow a_wValue a_noteSort a_noteNumber := by
    intro c c5
    by_cases z : j = 1
    · subst z
      exact br_t rfl (h1 (Or.inr ⟨c, rfl⟩))
    · refine br_f ?_ (h0 ?_)
      · show ¬ nI j = nI 1
        rw [nI_eq (by omega) (by omega)]
        exact z
      · rintro (y | y)
        · exact c5 y
        · exact z y.2
  refine ⟨iv, ?_⟩
  rw [ep]
  refine br_c (fun c5 => h1 (Or.inl c5)) (fun c5 => ⟨iv, br_c (fun c4 => f31 (Or.inl c4) c5) (fun c4 => ⟨iv, br_c (fun c20 => f31 (Or.inr c20) c5) (fun c20 => h0 ?_)⟩)⟩)
  rintro (y | ⟨y | y, _⟩)
  · exact c5 y
  · exact c4 y
  · exact c20 y
theorem cy_lo {post : SY → Prop} {nt i : Nat} {e : Nat → Nat} {g Mn0 W0 : Nat → Int32} (hnt : nt ≤ 48) (h : tr_T (gs_o nt a_kind) e) (h0 : e 0 = nt) (hA0 : a_above 0 = -1) (hA : ∀ k, 0 < k → k < nt → a_above k = nI (tr_pa e k) ∧ a_as k = nI (tr_ix e k)) (hi : i < nt)
    (hp : ∀ M' W' : Nat → Int32, (∀ j, j ≠ i → M' j = Mn0 j) → M' i = cm_m a_kind a_with e i → (∀ j, j ≠ i → W' j = W0 j) → W' i = gs_ow a_kind e i →
      post (f_drafted, f_length, f_place, f_there, f_chains, f_functions, f_generators, f_active, f_begins, f_token, f_chain, f_how, f_sort, f_value, f_steps, f_endSort, f_status, f_endNumber, f_over, f_noted, a_draftKind, a_draftWith, a_kind, a_with, a_above, a_as, a_part, a_open, M', W', (if a_kind i = 22 ∧ ¬ gs_ow a_kind e i < 0 then upd g (gs_ow a_kind e i).toNatClampNeg 1 else g), a_binder, a_outer, a_holdsSort, a_holds, a_fnToken, a_fnChain, a_state, a_gBody, a_gChain, a_gYield, a_closing, a_rowOf, a_many, a_wToken, a_wOperand, a_wChain, a_wSort, a_wHow, a_wValue, a_noteSort, a_noteNumber)) :
    ∀ n k (Mn W : Nat → Int32), k < nt → k < n → (∀ j, j ≠ i → Mn j = Mn0 j) → (∀ j, j ≠ i → W j = W0 j) →
    ((W i = gs_ow a_kind e i ∧ ¬ gs_ow a_kind e i < 0) ∨ (W i = -1 ∧ gs_ow a_kind e k = gs_ow a_kind e i)) →
    ((Mn i = cm_m a_kind a_with e i ∧ ¬ cm_m a_kind a_with e i < 0) ∨ (Mn i = -1 ∧ (if a_kind i = 2 ∨ a_kind i = 3 then cm_fb a_with (a_with i) (gs_sc a_kind e k) else -1) = cm_m a_kind a_with e i)) →
    wY_look_23 post (nI i) f_drafted f_length f_place f_there f_chains f_functions f_generators f_active f_begins f_token f_chain f_how f_sort f_value f_steps f_endSort f_status f_endNumber f_over f_noted n (nI k) a_draftKind a_draftWith a_kind a_with a_above a_as a_part a_open Mn W g a_binder a_outer a_holdsSort a_holds a_fnToken a_fnChain a_state a_gBody a_gChain a_gYield a_closing a_rowOf a_many a_wToken a_wOperand a_wChain a_wSort a_wHow a_wValue a_noteSort a_noteNumber := by
  have ivi : vp_in (nI i) 48 := vp_in_nI (by omega) (by decide)
  have ei : (nI i).toNatClampNeg = i := nI_clamp (by omega)
  have hOW := cm_ow h h0
  intro n
  induction n with
  | zero => intro k Mn W _ hn; omega
  | succ n ih =>
    intro k Mn W hk hn hM hW cW cM
    have ivk : vp_in (nI k) 49 := vp_in_nI (by omega) (by decide)
    have ek : (nI k).toNatClampNeg = k := nI_clamp (by omega)
    by_cases z : k = 0
    · subst z
      have eW : W i = gs_ow a_kind e i := by
        rcases cW with c | c
        · exact c.1
        · rw [c.1, ← c.2]; rfl
      have eM : Mn i = cm_m a_kind a_with e i := by
        rcases cM with c | c
        · exact c.1
        · rw [c.1, ← c.2]
          split <;> rfl
      have hpf := hp Mn W hM eM hW eW
      refine ⟨ivk, ?_⟩
      rw [ek, hA0]
      refine br_t (by decide) ⟨ivi, ?_⟩
      rw [ei]
      refine br_c (fun k22 => ⟨ivi, ?_⟩) (fun k22 => ?_)
      · rw [eW]
        refine br_c (fun c => ?_) (fun c => ⟨ivi, ?_, ?_⟩)
        · rw [if_neg (fun q => q.2 c)] at hpf
          exact hpf
        · rcases hOW i hi with q | ⟨f, hf, q, _⟩
          · rw [q] at c
            exact absurd (by decide) c
          · rw [q]
            exact vp_in_nI (by omega) (by decide)
        · rw [if_pos ⟨k22, c⟩] at hpf
          exact nm_r (by rw [ym_b1]) hpf
      · rw [if_neg (fun q => k22 q.1)] at hpf
        exact hpf
    · have hp2 := tr_pk (k := k) h (gs_o3 nt a_kind) (by omega) (by omega)
      have how := gs_owp (K := a_kind) (k := k) h (gs_o3 nt a_kind) (by omega) (by omega)
      have hsc := gs_scp (K := a_kind) (k := k) h (gs_o3 nt a_kind) (by omega) (by omega)
      have o3 := gs_o3 nt a_kind (tr_pa e k)
      obtain ⟨hAk, hAs⟩ := hA k (by omega) hk
      have ivp : vp_in (nI (tr_pa e k)) 48 := vp_in_nI (by omega) (by decide)
      have ep : (nI (tr_pa e k)).toNatClampNeg = tr_pa e k := nI_clamp (by omega)
      have f65 : ∀ W1 : Nat → Int32, (∀ j, j ≠ i → W1 j = W0 j) → ((W1 i = gs_ow a_kind e i ∧ ¬ gs_ow a_kind e i < 0) ∨ (W1 i = -1 ∧ gs_ow a_kind e (tr_pa e k) = gs_ow a_kind e i)) →
          wY_look_65 post (wY_look_23 post (nI i) f_drafted f_length f_place f_there f_chains f_functions f_generators f_active f_begins f_token f_chain f_how f_sort f_value f_steps f_endSort f_status f_endNumber f_over f_noted n) (nI i) (nI k) (nI (tr_pa e k)) f_drafted f_length f_place f_there f_chains f_functions f_generators f_active f_begins f_token f_chain f_how f_sort f_value f_steps f_endSort f_status f_endNumber f_over f_noted a_draftKind a_draftWith a_kind a_with a_above a_as a_part a_open Mn W1 g a_binder a_outer a_holdsSort a_holds a_fnToken a_fnChain a_state a_gBody a_gChain a_gYield a_closing a_rowOf a_many a_wToken a_wOperand a_wChain a_wSort a_wHow a_wValue a_noteSort a_noteNumber := by
        intro W1 hW1 cW1
        have go : ∀ M1 : Nat → Int32, (∀ j, j ≠ i → M1 j = Mn0 j) → ((M1 i = cm_m a_kind a_with e i ∧ ¬ cm_m a_kind a_with e i < 0) ∨ (M1 i = -1 ∧ (if a_kind i = 2 ∨ a_kind i = 3 then cm_fb a_with (a_with i) (gs_sc a_kind e (tr_pa e k)) else -1) = cm_m a_kind a_with e i)) →
            vp_in (nI k) 49 ∧ ∀ y : Int32, y = a_above (nI k).toNatClampNeg → wY_look_23 post (nI i) f_drafted f_length f_place f_there f_chains f_functions f_generators f_active f_begins f_token f_chain f_how f_sort f_value f_steps f_endSort f_status f_endNumber f_over f_noted n y a_draftKind a_draftWith a_kind a_with a_above a_as a_part a_open M1 W1 g a_binder a_outer a_holdsSort a_holds a_fnToken a_fnChain a_state a_gBody a_gChain a_gYield a_closing a_rowOf a_many a_wToken a_wOperand a_wChain a_wSort a_wHow a_wValue a_noteSort a_noteNumber := by
          intro M1 hM1 cM1
          exact ⟨ivk, nm_r (e' := nI (tr_pa e k)) (by rw [ek]; exact hAk) (ih _ M1 W1 (by omega) (by omega) hM1 hW1 cW1 cM1)⟩
        have go' : ∀ M1 : Nat → Int32, (∀ j, j ≠ i → M1 j = Mn0 j) → ((M1 i = cm_m a_kind a_with e i ∧ ¬ cm_m a_kind a_with e i < 0) ∨ (M1 i = -1 ∧ (if a_kind i = 2 ∨ a_kind i = 3 then cm_fb a_with (a_with i) (gs_sc a_kind e (tr_pa e k)) else -1) = cm_m a_kind a_with e i)) →
            vp_in (nI k) 49 ∧ ∀ y : Int32, y = a_above k → wY_look_23 post (nI i) f_drafted f_length f_place f_there f_chains f_functions f_generators f_active f_begins f_token f_chain f_how f_sort f_value f_steps f_endSort f_status f_endNumber f_over f_noted n y a_draftKind a_draftWith a_kind a_with a_above a_as a_part a_open M1 W1 g a_binder a_outer a_holdsSort a_holds a_fnToken a_fnChain a_state a_gBody a_gChain a_gYield a_closing a_rowOf a_many a_wToken a_wOperand a_wChain a_wSort a_wHow a_wValue a_noteSort a_noteNumber := by
          intro M1 hM1 cM1
          exact ⟨ivk, nm_r (e' := nI (tr_pa e k)) hAk (ih _ M1 W1 (by omega) (by omega) hM1 hW1 cW1 cM1)⟩
        refine ⟨ivi, ?_⟩
        rw [ei]
        refine br_c (fun c => go Mn hM ?_) (fun c => ?_)
        · rcases cM with q | q
          · exact Or.inl q
          · rw [q.1] at c
            exact absurd c (by decide)
        · have cM2 : Mn i = -1 ∧ (if a_kind i = 2 ∨ a_kind i = 3 then cm_fb a_with (a_with i) (gs_sc a_kind e k) else -1) = cm_m a_kind a_with e i := by
            rcases cM with q | q
            · rw [q.1] at c
              exact absurd (Int32.not_lt.mp q.2) c
            · exact q
          have f94 : (a_kind i = 2 ∨ a_kind i = 3) → wY_look_94 post (wY_look_23 post (nI i) f_drafted f_length f_place f_there f_chains f_functions f_generators f_active f_begins f_token f_chain f_how f_sort f_value f_steps f_endSort f_status f_endNumber f_over f_noted n) (nI i) (nI k) (nI (tr_pa e k)) f_drafted f_length f_place f_there f_chains f_functions f_generators f_active f_begins f_token f_chain f_how f_sort f_value f_steps f_endSort f_status f_endNumber f_over f_noted a_draftKind a_draftWith a_kind a_with a_above a_as a_part a_open Mn W1 g a_binder a_outer a_holdsSort a_holds a_fnToken a_fnChain a_state a_gBody a_gChain a_gYield a_closing a_rowOf a_many a_wToken a_wOperand a_wChain a_wSort a_wHow a_wValue a_noteSort a_noteNumber := by
            intro vs
            rw [if_pos vs] at cM2
            refine ⟨ivk, ?_⟩
            rw [ek, hAs]
            refine cy_binds (by omega) (by have := hp2.2.1; omega) (fun bd => br_f (by decide) ⟨ivp, ivi, ?_⟩) (fun bd => br_t rfl (go' Mn hM (Or.inr ⟨cM2.1, ?_⟩)))
            · rw [ep, ei]
              rw [hsc, if_pos bd] at cM2
              have cM3 : (if a_with (tr_pa e k) = a_with i then nI (tr_pa e k) else cm_fb a_with (a_with i) (gs_sc a_kind e (tr_pa e k))) = cm_m a_kind a_with e i := cM2.2
              refine br_c (fun d => ⟨ivi, nm_e (go' _ (fun j hj => ?_) (Or.inl ⟨?_, ?_⟩))⟩) (fun d => go' Mn hM (Or.inr ⟨cM2.1, ?_⟩))
              · rw [pk_un hj]
                exact hM j hj
              · rw [if_pos d] at cM3
                rw [pk_us]
                exact cM3
              · rw [if_pos d] at cM3
                rw [← cM3]
                exact nI_pos (by omega)
              · rw [if_neg d] at cM3
                rw [if_pos vs]
                exact cM3
            · rw [hsc, if_neg bd] at cM2
              rw [if_pos vs]
              exact cM2.2
          refine ⟨ivi, br_c (fun c2 => f94 (Or.inl c2)) (fun c2 => ⟨ivi, br_c (fun c3 => f94 (Or.inr c3)) (fun c3 => go Mn hM (Or.inr ⟨cM2.1, ?_⟩))⟩)⟩
          have nv : ¬ (a_kind i = 2 ∨ a_kind i = 3) := fun q => by rcases q with q | q; exact c2 q; exact c3 q
          rw [if_neg nv]
          have := cM2.2
          rw [if_neg nv] at this
          exact this
      refine ⟨ivk, ?_⟩
      rw [ek, hAk]
      refine br_f (nI_pos (by omega)) ⟨ivk, nm_e ⟨ivi, ?_⟩⟩
      rw [ei]
      refine br_c (fun c => f65 W hW ?_) (fun c => ⟨ivp, ?_⟩)
      · rcases cW with q | q
        · exact Or.inl q
        · rw [q.1] at c
          exact absurd c (by decide)
      · have cW2 : W i = -1 ∧ gs_ow a_kind e k = gs_ow a_kind e i := by
          rcases cW with q | q
          · rw [q.1] at c
            exact absurd (Int32.not_lt.mp q.2) c
          · exact q
        rw [ep]
        refine br_c (fun k5 => ⟨ivi, nm_e (f65 _ (fun j hj => ?_) (Or.inl ⟨?_, ?_⟩))⟩) (fun k5 => f65 W hW (Or.inr ⟨cW2.1, ?_⟩))
        · rw [pk_un hj]
          exact hW j hj
        · rw [pk_us, ← cW2.2, how, if_pos k5]
        · rw [← cW2.2, how, if_pos k5]
          exact nI_pos (by omega)
        · rw [← cW2.2, how, if_neg k5]
theorem cy_look {post : SY → Prop} {nt i : Nat} {e : Nat → Nat} (hnt : nt ≤ 48) (h : tr_T (gs_o nt a_kind) e) (h0 : e 0 = nt) (hA0 : a_above 0 = -1) (hA : ∀ k, 0 < k → k < nt → a_above k = nI (tr_pa e k) ∧ a_as k = nI (tr_ix e k)) (hi : i < nt)
    (hp : ∀ M' W' : Nat → Int32, (∀ j, j ≠ i → M' j = a_means j) → M' i = cm_m a_kind a_with e i → (∀ j, j ≠ i → W' j = a_own j) → W' i = gs_ow a_kind e i →
      post (f_drafted, f_length, f_place, f_there, f_chains, f_functions, f_generators, f_active, f_begins, f_token, f_chain, f_how, f_sort, f_value, f_steps, f_endSort, f_status, f_endNumber, f_over, f_noted, a_draftKind, a_draftWith, a_kind, a_with, a_above, a_as, a_part, a_open, M', W', (if a_kind i = 22 ∧ ¬ gs_ow a_kind e i < 0 then upd (upd a_yields i 0) (gs_ow a_kind e i).toNatClampNeg 1 else upd a_yields i 0), a_binder, a_outer, a_holdsSort, a_holds, a_fnToken, a_fnChain, a_state, a_gBody, a_gChain, a_gYield, a_closing, a_rowOf, a_many, a_wToken, a_wOperand, a_wChain, a_wSort, a_wHow, a_wValue, a_noteSort, a_noteNumber)) : wpY_look post (f_drafted, f_length, f_place, f_there, f_chains, f_functions, f_generators, f_active, f_begins, f_token, f_chain, f_how, f_sort, f_value, f_steps, f_endSort, f_status, f_endNumber, f_over, f_noted, a_draftKind, a_draftWith, a_kind, a_with, a_above, a_as, a_part, a_open, a_means, a_own, a_yields, a_binder, a_outer, a_holdsSort, a_holds, a_fnToken, a_fnChain, a_state, a_gBody, a_gChain, a_gYield, a_closing, a_rowOf, a_many, a_wToken, a_wOperand, a_wChain, a_wSort, a_wHow, a_wValue, a_noteSort, a_noteNumber) (nI i) := by
  have ivi : vp_in (nI i) 48 := vp_in_nI (by omega) (by decide)
  have ei : (nI i).toNatClampNeg = i := nI_clamp (by omega)
  refine ⟨ivi, nm_r (e' := upd a_means i (-1)) (by rw [ei]) ⟨ivi, nm_r (e' := upd a_own i (-1)) (by rw [ei]) ⟨ivi, nm_r (e' := upd a_yields i 0) (by rw [ei, ym_b0]) ⟨i + 1, ?_⟩⟩⟩⟩
  refine cy_lo (Mn0 := a_means) (W0 := a_own) hnt h h0 hA0 hA hi hp (i + 1) i _ _ hi (by omega) (fun j hj => pk_un hj) (fun j hj => pk_un hj) (Or.inr ⟨pk_us, rfl⟩) (Or.inr ⟨pk_us, rfl⟩)
end
section
variable {f_drafted f_length f_place f_there f_chains f_functions f_generators f_active f_begins f_token f_chain f_how f_sort : Int32} {f_value : Int64} {f_steps f_endSort f_status : Int32} {f_endNumber : Int64} {f_over f_noted : Int32} {a_draftKind a_draftWith a_kind a_with a_above a_as a_part a_open a_means a_own a_yields a_binder a_outer a_holdsSort : Nat → Int32} {a_holds : Nat → Int64} {a_fnToken a_fnChain a_state a_gBody a_gChain a_gYield a_closing a_rowOf a_many a_wToken a_wOperand a_wChain a_wSort a_wHow : Nat → Int32} {a_wValue : Nat → Int64} {a_noteSort : Nat → Int32} {a_noteNumber : Nat → Int64}
theorem cy_76 {post : Int32 → SY → Prop} {nt : Nat} {e : Nat → Nat} {g0 : Nat → Int32} (hnt : nt ≤ 48) (el : f_length = nI nt) (h : tr_T (gs_o nt a_kind) e) (h0 : e 0 = nt) (hA0 : a_above 0 = -1) (hA : ∀ k, 0 < k → k < nt → a_above k = nI (tr_pa e k) ∧ a_as k = nI (tr_ix e k))
    (hp : ∀ M' W' : Nat → Int32, (∀ j, j < nt → M' j = cm_m a_kind a_with e j ∧ W' j = gs_ow a_kind e j) → ∃ n97, wY_compile_97 post f_drafted f_length f_place f_there f_chains f_functions f_generators f_active f_begins f_token f_chain f_how f_sort f_value f_steps f_endSort f_status f_endNumber f_over f_noted a_draftKind a_draftWith a_kind a_with a_above a_as a_part a_open M' W' (cm_g a_kind (gs_ow a_kind e) g0 nt) a_binder a_outer a_holdsSort a_holds a_fnToken a_fnChain a_state a_gBody a_gChain a_gYield a_closing a_rowOf a_many a_wToken a_wOperand a_wChain a_wSort a_wHow a_wValue a_noteSort a_noteNumber n97 0) :
    ∀ d i (Mn W g : Nat → Int32), i + d = nt → (∀ j, j < i → Mn j = cm_m a_kind a_with e j ∧ W j = gs_ow a_kind e j) → g = cm_g a_kind (gs_ow a_kind e) g0 i →
    wY_compile_76 post (d + 1) (nI i) f_drafted f_length f_place f_there f_chains f_functions f_generators f_active f_begins f_token f_chain f_how f_sort f_value f_steps f_endSort f_status f_endNumber f_over f_noted a_draftKind a_draftWith a_kind a_with a_above a_as a_part a_open Mn W g a_binder a_outer a_holdsSort a_holds a_fnToken a_fnChain a_state a_gBody a_gChain a_gYield a_closing a_rowOf a_many a_wToken a_wOperand a_wChain a_wSort a_wHow a_wValue a_noteSort a_noteNumber := by
  intro d
  induction d with
  | zero =>
    intro i Mn W g hi hj hg
    have hi : i = nt := by omega
    subst hi
    subst hg
    exact br_t (by rw [el]; exact nI_le (Nat.le_refl _) (by omega)) (hp Mn W hj)
  | succ d ih =>
    intro i Mn W g hi hj hg
    refine br_f (by rw [el]; exact nI_ge (by omega) (by omega)) ?_
    refine cy_look hnt h h0 hA0 hA (by omega) (fun M' W' m1 m2 w1 w2 => nm_r (nI_1 i) (ih (i + 1) M' W' _ (by omega) (fun j hj2 => ?_) ?_))
    · by_cases z : j = i
      · subst z
        exact ⟨m2, w2⟩
      · rw [m1 j z, w1 j z]
        exact hj j (by omega)
    · rw [hg]
      rfl
theorem cy_97 {post : Int32 → SY → Prop} {nt : Nat} (hnt : nt ≤ 48) (el : f_length = nI nt) (hM : ∀ j, j < nt → a_means j = -1 ∨ 0 ≤ a_means j)
    (h0 : (∀ j, j < nt → ¬ cm_U a_kind a_means j) → ∃ n149, wY_compile_149 post f_drafted f_length f_place f_there f_chains f_functions f_generators f_active f_begins f_token f_chain f_how f_sort f_value f_steps f_endSort f_status f_endNumber f_over f_noted a_draftKind a_draftWith a_kind a_with a_above a_as a_part a_open a_means a_own a_yields a_binder a_outer a_holdsSort a_holds a_fnToken a_fnChain a_state a_gBody a_gChain a_gYield a_closing a_rowOf a_many a_wToken a_wOperand a_wChain a_wSort a_wHow a_wValue a_noteSort a_noteNumber n149 0) (h1 : ∀ i, i < nt → cm_U a_kind a_means i → (∀ j, j < i → ¬ cm_U a_kind a_means j) → post 2 (f_drafted, f_length, nI i, f_there, f_chains, f_functions, f_generators, f_active, f_begins, f_token, f_chain, f_how, f_sort, f_value, f_steps, f_endSort, f_status, f_endNumber, f_over, f_noted, a_draftKind, a_draftWith, a_kind, a_with, a_above, a_as, a_part, a_open, a_means, a_own, a_yields, a_binder, a_outer, a_holdsSort, a_holds, a_fnToken, a_fnChain, a_state, a_gBody, a_gChain, a_gYield, a_closing, a_rowOf, a_many, a_wToken, a_wOperand, a_wChain, a_wSort, a_wHow, a_wValue, a_noteSort, a_noteNumber)) :
    ∀ d i, i + d = nt → (∀ j, j < i → ¬ cm_U a_kind a_means j) → wY_compile_97 post f_drafted f_length f_place f_there f_chains f_functions f_generators f_active f_begins f_token f_chain f_how f_sort f_value f_steps f_endSort f_status f_endNumber f_over f_noted a_draftKind a_draftWith a_kind a_with a_above a_as a_part a_open a_means a_own a_yields a_binder a_outer a_holdsSort a_holds a_fnToken a_fnChain a_state a_gBody a_gChain a_gYield a_closing a_rowOf a_many a_wToken a_wOperand a_wChain a_wSort a_wHow a_wValue a_noteSort a_noteNumber (d + 1) (nI i) := by
  intro d
  induction d with
  | zero =>
    intro i hi hj
    have hi : i = nt := by omega
    subst hi
    exact br_t (by rw [el]; exact nI_le (Nat.le_refl _) (by omega)) (h0 hj)
  | succ d ih =>
    intro i hi hj
    have iv : vp_in (nI i) 48 := vp_in_nI (by omega) (by decide)
    have ei : (nI i).toNatClampNeg = i := nI_clamp (by omega)
    have f125 : (a_kind i = 2 ∨ a_kind i = 3) → wY_compile_125 post (wY_compile_97 post f_drafted f_length f_place f_there f_chains f_functions f_generators f_active f_begins f_token f_chain f_how f_sort f_value f_steps f_endSort f_status f_endNumber f_over f_noted a_draftKind a_draftWith a_kind a_with a_above a_as a_part a_open a_means a_own a_yields a_binder a_outer a_holdsSort a_holds a_fnToken a_fnChain a_state a_gBody a_gChain a_gYield a_closing a_rowOf a_many a_wToken a_wOperand a_wChain a_wSort a_wHow a_wValue a_noteSort a_noteNumber (d + 1)) (nI i) f_drafted f_length f_place f_there f_chains f_functions f_generators f_active f_begins f_token f_chain f_how f_sort f_value f_steps f_endSort f_status f_endNumber f_over f_noted a_draftKind a_draftWith a_kind a_with a_above a_as a_part a_open a_means a_own a_yields a_binder a_outer a_holdsSort a_holds a_fnToken a_fnChain a_state a_gBody a_gChain a_gYield a_closing a_rowOf a_many a_wToken a_wOperand a_wChain a_wSort a_wHow a_wValue a_noteSort a_noteNumber := by
      intro c
      refine ⟨iv, ?_⟩
      rw [ei]
      refine br_c (fun z => nm_r (nI_1 i) (ih (i + 1) (by omega) (fun j hj2 => ?_))) (fun z => h1 i (by omega) ⟨c, ?_⟩ hj)
      · by_cases y : j = i
        · subst y
          intro q
          rw [q.2] at z
          exact absurd z (by decide)
        · exact hj j (by omega)
      · rcases hM i (by omega) with q | q
        · exact q
        · exact absurd q z
    refine br_f (by rw [el]; exact nI_ge (by omega) (by omega)) ⟨iv, ?_⟩
    rw [ei]
    refine br_c (fun c2 => f125 (Or.inl c2)) (fun c2 => ⟨iv, br_c (fun c3 => f125 (Or.inr c3)) (fun c3 => nm_r (nI_1 i) (ih (i + 1) (by omega) (fun j hj2 => ?_)))⟩)
    by_cases y : j = i
    · subst y
      exact fun q => by rcases q.1 with q | q; exact c2 q; exact c3 q
    · exact hj j (by omega)
theorem cy_52 {post : Int32 → Prop} {nt : Nat} {e : Nat → Nat} (hnt : nt ≤ 48) (h : tr_T (gs_o nt a_kind) e) (h0 : e 0 = nt) (hA0 : a_above 0 = -1) (hA : ∀ k, 0 < k → k < nt → a_above k = nI (tr_pa e k) ∧ a_as k = nI (tr_ix e k)) :
    ∀ n k, k < nt → k < n → post (if gs_il a_kind e k = true then 0 else 1) → wY_isLost_52 post f_drafted f_length f_place f_there f_chains f_functions f_generators f_active f_begins f_token f_chain f_how f_sort f_value f_steps f_endSort f_status f_endNumber f_over f_noted a_draftKind a_draftWith a_kind a_with a_above a_as a_part a_open a_means a_own a_yields a_binder a_outer a_holdsSort a_holds a_fnToken a_fnChain a_state a_gBody a_gChain a_gYield a_closing a_rowOf a_many a_wToken a_wOperand a_wChain a_wSort a_wHow a_wValue a_noteSort a_noteNumber n (nI k) := by
  intro n
  induction n with
  | zero => intro k _ hn; omega
  | succ n ih =>
    intro k hk hn hp
    have ivk : vp_in (nI k) 49 := vp_in_nI (by omega) (by decide)
    have ek : (nI k).toNatClampNeg = k := nI_clamp (by omega)
    refine ⟨ivk, ?_⟩
    rw [ek]
    by_cases z : k = 0
    · subst z
      rw [hA0]
      exact br_t (by decide) hp
    · have hp2 := tr_pk (k := k) h (gs_o3 nt a_kind) (by omega) (by omega)
      have hil := gs_ilp (K := a_kind) (k := k) h (gs_o3 nt a_kind) (by omega) (by omega)
      have o3 := gs_o3 nt a_kind (tr_pa e k)
      obtain ⟨hAk, hAs⟩ := hA k (by omega) hk
      have ivp : vp_in (nI (tr_pa e k)) 48 := vp_in_nI (by omega) (by decide)
      have ep : (nI (tr_pa e k)).toNatClampNeg = tr_pa e k := nI_clamp (by omega)
      rw [hAk, hAs, ep]
      refine br_f (nI_pos (by omega)) ⟨ivk, ivp, br_c (fun c5 => ?_) (fun c5 => ⟨ivk, ivp, br_c (fun c14 => ⟨ivk, br_c (fun c1 => ?_) (fun c1 => ⟨ivk, nm_e (ih _ (by omega) (by omega) ?_)⟩)⟩) (fun c14 => ⟨ivk, nm_e (ih _ (by omega) (by omega) ?_)⟩)⟩)⟩
      · rw [if_pos c5] at hil
        rw [hil] at hp
        exact hp
      · have c2 : tr_ix e k = 1 := by
          have c3 : nI (tr_ix e k) = nI 1 := c1
          rw [nI_eq (by have := hp2.2.1; omega) (by omega)] at c3
          exact c3
        rw [if_neg c5, if_pos ⟨c14, c2⟩] at hil
        rw [hil] at hp
        exact hp
      · rw [if_neg c5, if_neg (fun q => c1 (by rw [q.2]; rfl))] at hil
        rw [hil] at hp
        exact hp
      · rw [if_neg c5, if_neg (fun q => c14 q.1)] at hil
        rw [hil] at hp
        exact hp
theorem cy_lost {post : Int32 → Prop} {nt i : Nat} {e : Nat → Nat} (hnt : nt ≤ 48) (h : tr_T (gs_o nt a_kind) e) (h0 : e 0 = nt) (hA0 : a_above 0 = -1) (hA : ∀ k, 0 < k → k < nt → a_above k = nI (tr_pa e k) ∧ a_as k = nI (tr_ix e k)) (hi : i < nt) (hW : a_own i = -1 ∨ 0 ≤ a_own i)
    (p1 : cm_O a_kind a_own (gs_il a_kind e) i → post 1) (p0 : ¬ cm_O a_kind a_own (gs_il a_kind e) i → post 0) : wpY_isLost post (f_drafted, f_length, f_place, f_there, f_chains, f_functions, f_generators, f_active, f_begins, f_token, f_chain, f_how, f_sort, f_value, f_steps, f_endSort, f_status, f_endNumber, f_over, f_noted, a_draftKind, a_draftWith, a_kind, a_with, a_above, a_as, a_part, a_open, a_means, a_own, a_yields, a_binder, a_outer, a_holdsSort, a_holds, a_fnToken, a_fnChain, a_state, a_gBody, a_gChain, a_gYield, a_closing, a_rowOf, a_many, a_wToken, a_wOperand, a_wChain, a_wSort, a_wHow, a_wValue, a_noteSort, a_noteNumber) (nI i) := by
  have iv : vp_in (nI i) 48 := vp_in_nI (by omega) (by decide)
  have ei : (nI i).toNatClampNeg = i := nI_clamp (by omega)
  have floop : ¬ a_kind i = 22 → (a_kind i = 16 ∨ a_kind i = 17) → ∃ n52, wY_isLost_52 post f_drafted f_length f_place f_there f_chains f_functions f_generators f_active f_begins f_token f_chain f_how f_sort f_value f_steps f_endSort f_status f_endNumber f_over f_noted a_draftKind a_draftWith a_kind a_with a_above a_as a_part a_open a_means a_own a_yields a_binder a_outer a_holdsSort a_holds a_fnToken a_fnChain a_state a_gBody a_gChain a_gYield a_closing a_rowOf a_many a_wToken a_wOperand a_wChain a_wSort a_wHow a_wValue a_noteSort a_noteNumber n52 (nI i) := by
    intro n22 c
    refine ⟨i + 1, cy_52 hnt h h0 hA0 hA (i + 1) i hi (by omega) ?_⟩
    by_cases z : gs_il a_kind e i = true
    · rw [if_pos z]
      refine p0 ?_
      rintro (q | q)
      · exact n22 q.1
      · rw [z] at q
        exact absurd q.2 (by decide)
    · rw [if_neg z]
      refine p1 (Or.inr ⟨c, ?_⟩)
      cases hb : gs_il a_kind e i
      · rfl
      · exact absurd hb z
  refine ⟨iv, ?_⟩
  rw [ei]
  refine br_c (fun c22 => ⟨iv, br_c (fun z => p0 ?_) (fun z => p1 (Or.inl ⟨c22, ?_⟩))⟩) (fun c22 => ⟨iv, br_c (fun c => floop c22 (Or.inl c)) (fun c16 => ⟨iv, br_c (fun c => floop c22 (Or.inr c)) (fun c17 => p0 ?_)⟩)⟩)
  · rintro (q | q)
    · rw [q.2] at z
      exact absurd z (by decide)
    · rw [c22] at q
      exact absurd q.1 (by decide)
  · rcases hW with q | q
    · exact q
    · exact absurd q z
  · rintro (q | q)
    · exact c22 q.1
    · rcases q.1 with y | y
      · exact c16 y
      · exact c17 y
theorem cy_149 {post : Int32 → SY → Prop} {nt : Nat} {e : Nat → Nat} (hnt : nt ≤ 48) (el : f_length = nI nt) (h : tr_T (gs_o nt a_kind) e) (he : e 0 = nt) (hA0 : a_above 0 = -1) (hA : ∀ k, 0 < k → k < nt → a_above k = nI (tr_pa e k) ∧ a_as k = nI (tr_ix e k)) (hW : ∀ j, j < nt → a_own j = -1 ∨ 0 ≤ a_own j)
    (h0 : (∀ j, j < nt → ¬ cm_O a_kind a_own (gs_il a_kind e) j) → post 0 (f_drafted, f_length, f_place, 1, f_chains, f_functions, f_generators, f_active, f_begins, f_token, f_chain, f_how, f_sort, f_value, f_steps, f_endSort, f_status, f_endNumber, f_over, f_noted, a_draftKind, a_draftWith, a_kind, a_with, a_above, a_as, a_part, a_open, a_means, a_own, a_yields, a_binder, a_outer, a_holdsSort, a_holds, a_fnToken, a_fnChain, a_state, a_gBody, a_gChain, a_gYield, a_closing, a_rowOf, a_many, a_wToken, a_wOperand, a_wChain, a_wSort, a_wHow, a_wValue, a_noteSort, a_noteNumber)) (h1 : ∀ i, i < nt → cm_O a_kind a_own (gs_il a_kind e) i → (∀ j, j < i → ¬ cm_O a_kind a_own (gs_il a_kind e) j) → post 3 (f_drafted, f_length, nI i, f_there, f_chains, f_functions, f_generators, f_active, f_begins, f_token, f_chain, f_how, f_sort, f_value, f_steps, f_endSort, f_status, f_endNumber, f_over, f_noted, a_draftKind, a_draftWith, a_kind, a_with, a_above, a_as, a_part, a_open, a_means, a_own, a_yields, a_binder, a_outer, a_holdsSort, a_holds, a_fnToken, a_fnChain, a_state, a_gBody, a_gChain, a_gYield, a_closing, a_rowOf, a_many, a_wToken, a_wOperand, a_wChain, a_wSort, a_wHow, a_wValue, a_noteSort, a_noteNumber)) :
    ∀ d i, i + d = nt → (∀ j, j < i → ¬ cm_O a_kind a_own (gs_il a_kind e) j) → wY_compile_149 post f_drafted f_length f_place f_there f_chains f_functions f_generators f_active f_begins f_token f_chain f_how f_sort f_value f_steps f_endSort f_status f_endNumber f_over f_noted a_draftKind a_draftWith a_kind a_with a_above a_as a_part a_open a_means a_own a_yields a_binder a_outer a_holdsSort a_holds a_fnToken a_fnChain a_state a_gBody a_gChain a_gYield a_closing a_rowOf a_many a_wToken a_wOperand a_wChain a_wSort a_wHow a_wValue a_noteSort a_noteNumber (d + 1) (nI i) := by
  intro d
  induction d with
  | zero =>
    intro i hi hj
    have hi : i = nt := by omega
    subst hi
    exact br_t (by rw [el]; exact nI_le (Nat.le_refl _) (by omega)) (h0 hj)
  | succ d ih =>
    intro i hi hj
    refine br_f (by rw [el]; exact nI_ge (by omega) (by omega)) ?_
    refine cy_lost hnt h he hA0 hA (by omega) (hW i (by omega)) (fun c => br_f (by decide) (h1 i (by omega) c hj)) (fun c => br_t rfl (nm_r (nI_1 i) (ih (i + 1) (by omega) (fun j hj2 => ?_))))
    by_cases y : j = i
    · subst y
      exact c
    · exact hj j (by omega)
theorem cy_19 {post : Int32 → SY → Prop} {nt : Nat} (hnt : nt ≤ 48) (el : f_length = nI nt) (hp : ∀ K' O' : Nat → Int32, (∀ j, j < nt → K' j = a_draftKind j ∧ O' j = a_draftWith j) →
      wpY_shape (fun r_55 u => match u with | (f_drafted, f_length, f_place, f_there, f_chains, f_functions, f_generators, f_active, f_begins, f_token, f_chain, f_how, f_sort, f_value, f_steps, f_endSort, f_status, f_endNumber, f_over, f_noted, a_draftKind, a_draftWith, a_kind, a_with, a_above, a_as, a_part, a_open, a_means, a_own, a_yields, a_binder, a_outer, a_holdsSort, a_holds, a_fnToken, a_fnChain, a_state, a_gBody, a_gChain, a_gYield, a_closing, a_rowOf, a_many, a_wToken, a_wOperand, a_wChain, a_wSort, a_wHow, a_wValue, a_noteSort, a_noteNumber) => (((r_55 < 0 → (∃ n76 : Nat, wY_compile_76 post n76 0 f_drafted f_length r_55 f_there f_chains f_functions f_generators f_active f_begins f_token f_chain f_how f_sort f_value f_steps f_endSort f_status f_endNumber f_over f_noted a_draftKind a_draftWith a_kind a_with a_above a_as a_part a_open a_means a_own a_yields a_binder a_outer a_holdsSort a_holds a_fnToken a_fnChain a_state a_gBody a_gChain a_gYield a_closing a_rowOf a_many a_wToken a_wOperand a_wChain a_wSort a_wHow a_wValue a_noteSort a_noteNumber)) ∧ (¬ r_55 < 0 → (post 1 (f_drafted, f_length, r_55, f_there, f_chains, f_functions, f_generators, f_active, f_begins, f_token, f_chain, f_how, f_sort, f_value, f_steps, f_endSort, f_status, f_endNumber, f_over, f_noted, a_draftKind, a_draftWith, a_kind, a_with, a_above, a_as, a_part, a_open, a_means, a_own, a_yields, a_binder, a_outer, a_holdsSort, a_holds, a_fnToken, a_fnChain, a_state, a_gBody, a_gChain, a_gYield, a_closing, a_rowOf, a_many, a_wToken, a_wOperand, a_wChain, a_wSort, a_wHow, a_wValue, a_noteSort, a_noteNumber)))))) (f_drafted, f_length, f_place, f_there, f_chains, f_functions, f_generators, f_active, f_begins, f_token, f_chain, f_how, f_sort, f_value, f_steps, f_endSort, f_status, f_endNumber, f_over, f_noted, a_draftKind, a_draftWith, K', O', a_above, a_as, a_part, a_open, a_means, a_own, a_yields, a_binder, a_outer, a_holdsSort, a_holds, a_fnToken, a_fnChain, a_state, a_gBody, a_gChain, a_gYield, a_closing, a_rowOf, a_many, a_wToken, a_wOperand, a_wChain, a_wSort, a_wHow, a_wValue, a_noteSort, a_noteNumber)) :
    ∀ d i (K O : Nat → Int32), i + d = nt → (∀ j, j < i → K j = a_draftKind j ∧ O j = a_draftWith j) → wY_compile_19 post f_drafted f_length f_place f_there f_chains f_functions f_generators f_active f_begins f_token f_chain f_how f_sort f_value f_steps f_endSort f_status f_endNumber f_over f_noted (d + 1) (nI i) a_draftKind a_draftWith K O a_above a_as a_part a_open a_means a_own a_yields a_binder a_outer a_holdsSort a_holds a_fnToken a_fnChain a_state a_gBody a_gChain a_gYield a_closing a_rowOf a_many a_wToken a_wOperand a_wChain a_wSort a_wHow a_wValue a_noteSort a_noteNumber := by
  intro d
  induction d with
  | zero =>
    intro i K O hi hj
    have hi : i = nt := by omega
    subst hi
    exact br_t (by rw [el]; exact nI_le (Nat.le_refl _) (by omega)) (hp K O hj)
  | succ d ih =>
    intro i K O hi hj
    have iv : vp_in (nI i) 48 := vp_in_nI (by omega) (by decide)
    have ei : (nI i).toNatClampNeg = i := nI_clamp (by omega)
    refine br_f (by rw [el]; exact nI_ge (by omega) (by omega)) ⟨iv, iv, nm_r (e' := upd K i (a_draftKind i)) (by rw [ei]) ⟨iv, iv, nm_r (e' := upd O i (a_draftWith i)) (by rw [ei]) (nm_r (nI_1 i) (ih (i + 1) _ _ (by omega) ?_))⟩⟩
    intro j hj2
    by_cases z : j = i
    · subst z
      rw [pk_us, pk_us]
      exact ⟨rfl, rfl⟩
    · rw [pk_un z, pk_un z]
      exact hj j (by omega)
end
