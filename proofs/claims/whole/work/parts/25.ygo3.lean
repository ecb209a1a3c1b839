section
variable {f_drafted f_length f_place f_there f_chains f_functions f_generators f_active f_begins f_token f_chain f_how f_sort : Int32} {f_value : Int64} {f_steps f_endSort f_status : Int32} {f_endNumber : Int64} {f_over f_noted : Int32} {a_draftKind a_draftWith a_kind a_with a_above a_as a_part a_open a_means a_own a_yields a_binder a_outer a_holdsSort : Nat → Int32} {a_holds : Nat → Int64} {a_fnToken a_fnChain a_state a_gBody a_gChain a_gYield a_closing a_rowOf a_many a_wToken a_wOperand a_wChain a_wSort a_wHow : Nat → Int32} {a_wValue : Nat → Int64} {a_noteSort : Nat → Int32} {a_noteNumber : Nat → Int64}
theorem ym_19 {post : SY → Prop} {k x6 : Int32} {x y : Int64} (hk : gk_op4 k) (hy : k = 10 → y ≠ 0) (h1 : gk_ov k x y → ∀ r, wY_calculate_244 post x6 r 1 f_drafted f_length f_place f_there f_chains f_functions f_generators f_active f_begins f_token f_chain f_how f_sort f_value f_steps f_endSort f_status f_endNumber f_over f_noted a_draftKind a_draftWith a_kind a_with a_above a_as a_part a_open a_means a_own a_yields a_binder a_outer a_holdsSort a_holds a_fnToken a_fnChain a_state a_gBody a_gChain a_gYield a_closing a_rowOf a_many a_wToken a_wOperand a_wChain a_wSort a_wHow a_wValue a_noteSort a_noteNumber) (h0 : ¬ gk_ov k x y → wY_calculate_244 post x6 (gk_res k x y) 0 f_drafted f_length f_place f_there f_chains f_functions f_generators f_active f_begins f_token f_chain f_how f_sort f_value f_steps f_endSort f_status f_endNumber f_over f_noted a_draftKind a_draftWith a_kind a_with a_above a_as a_part a_open a_means a_own a_yields a_binder a_outer a_holdsSort a_holds a_fnToken a_fnChain a_state a_gBody a_gChain a_gYield a_closing a_rowOf a_many a_wToken a_wOperand a_wChain a_wSort a_wHow a_wValue a_noteSort a_noteNumber) : wY_calculate_19 post k x y x6 f_drafted f_length f_place f_there f_chains f_functions f_generators f_active f_begins f_token f_chain f_how f_sort f_value f_steps f_endSort f_status f_endNumber f_over f_noted a_draftKind a_draftWith a_kind a_with a_above a_as a_part a_open a_means a_own a_yields a_binder a_outer a_holdsSort a_holds a_fnToken a_fnChain a_state a_gBody a_gChain a_gYield a_closing a_rowOf a_many a_wToken a_wOperand a_wChain a_wSort a_wHow a_wValue a_noteSort a_noteNumber := by
  rcases hk with rfl | rfl | rfl | rfl
  · refine br_f (by decide) (br_f (by decide) (br_t rfl (nm_e (br_c (fun c => br_c (fun z => ?_) (fun z => ?_)) (fun c => br_c (fun z => ?_) (fun z => ?_))))))
    · refine h0 (fun o => ?_)
      exact Int64.not_lt.mpr z ((ca_addY2 x y (Int64.not_lt.mpr c)).mpr (ov_7.mp o))
    · exact h1 (ov_7.mpr ((ca_addY2 x y (Int64.not_lt.mpr c)).mp (Int64.not_le.mp z))) _
    · refine h0 (fun o => ?_)
      exact Int64.not_lt.mpr z ((ca_addY1 x y (Int64.not_le.mp c)).mpr (ov_7.mp o))
    · exact h1 (ov_7.mpr ((ca_addY1 x y (Int64.not_le.mp c)).mp (Int64.not_le.mp z))) _
  · refine br_f (by decide) (br_f (by decide) (br_f (by decide) (br_t rfl (nm_e (br_c (fun c => br_c (fun z => ?_) (fun z => ?_)) (fun c => br_c (fun z => ?_) (fun z => ?_)))))))
    · refine h0 (fun o => ?_)
      exact Int64.not_lt.mpr z ((ca_subY2 x y (Int64.not_lt.mpr c)).mpr (ov_8.mp o))
    · exact h1 (ov_8.mpr ((ca_subY2 x y (Int64.not_lt.mpr c)).mp (Int64.not_le.mp z))) _
    · refine h0 (fun o => ?_)
      exact Int64.not_lt.mpr z ((ca_subY1 x y (Int64.not_le.mp c)).mpr (ov_8.mp o))
    · exact h1 (ov_8.mpr ((ca_subY1 x y (Int64.not_le.mp c)).mp (Int64.not_le.mp z))) _
  · refine br_f (by decide) (br_f (by decide) (br_f (by decide) (br_f (by decide) (br_t rfl (nm_e (br_c (fun c => ?_) (fun c => br_c (fun d => br_c (fun e => br_c (fun z => ?_) (fun z => ?_)) (fun e => ?_)) (fun d => ⟨c, br_c (fun z => ?_) (fun z => ?_)⟩))))))))
    · subst c
      refine h0 (fun o => ?_)
      have o2 := ov_9.mp o
      rw [ca_0] at o2
      apply o2
      unfold ca_in
      omega
    · subst d
      refine h0 (fun o => ?_)
      exact Int64.not_lt.mpr z ((ca_mulYm y).mpr (ov_9.mp o)).2
    · subst d
      exact h1 (ov_9.mpr ((ca_mulYm y).mp ⟨e, Int64.not_le.mp z⟩)) _
    · subst d
      refine h0 (fun o => ?_)
      exact e ((ca_mulYm y).mpr (ov_9.mp o)).1
    · refine h0 (fun o => ?_)
      exact (ca_mulY x y c d).mpr (ov_9.mp o) z
    · exact h1 (ov_9.mpr ((ca_mulY x y c d).mp z)) _
  · have hy := hy rfl
    refine br_f (by decide) (br_t (by decide) (br_c (fun c => br_c (fun d => br_t rfl ⟨hy, ?_⟩) (fun d => br_c (fun e => br_f (by decide) ?_) (fun e => br_t rfl ⟨hy, ?_⟩))) (fun c => br_t rfl ⟨hy, ?_⟩)))
    · refine h0 (fun o => ?_)
      exact Int64.not_lt.mpr d (ov_10.mp o).2.1
    · exact h1 (ov_10.mpr ⟨c, Int64.not_le.mp d, e⟩) _
    · refine h0 (fun o => ?_)
      exact e (ov_10.mp o).2.2
    · refine h0 (fun o => ?_)
      exact c (ov_10.mp o).1
end
section
variable {w : gw_T} {q : yq_T} {E : ye_T} {M M' : gm_T} {S : Nat → List gf_T} {a : Nat} {A' : List Nat} {V : gv_T} {F : gp_T} {G : gg_T} {N : gn_T} {nc sp : Nat} {v : SY} {f : gf_T} {L : List gf_T} {post : SY → Prop}
variable {e0 s0 k1 k2 : Int32} {n0 k3 : Int64}
theorem yg_ap3 (hw0 : gw_S w) (hq : yq_S w q) (I : gk_I w M S (a :: A') V F G nc sp) (hR : yr_R w q E M S (a :: A') V F G N sp v) (hSa : S a = f :: L) (hb : M.1 = false) (hh : M.2.1 = 0) (hst : f.2.1 = 2) (hk : gw_K w f.1 = 6) (hs : f.2.2.2.2.1 ≠ 3)
    (hp : ∀ v', yr_R w q E (false, 1, 1, (-3 : Int32).toInt64) (gk_su S a L) (a :: A') V F G N sp v' → post v') : wpY_pass post v := by
  obtain ⟨bg, tk, ch, hw, so, va, gb, gh, ro, mn, wt, wo, wc, wh, ws, wv, rfl, hP⟩ := hR
  have B := yo_mk hw0 I hSa hP
  have fo := xs_fo I hSa
  obtain ⟨hbg, hhw, hv⟩ := hP.1.2 hb
  obtain ⟨j1, jr, j2, jn, jm, jk, j3, jt, jo, j4, jc, jK, jW⟩ := yp_in hw0 hq B fo.1 (Or.inr hst) hk (sg := 1) (by rw [hst])
  have hkp := (jW hst (by rw [hk]; decide)).2 (Or.inl ((fo.2.2.2.2.2.2 hst (by rw [hk]; decide)).2.2.2.2 (by rw [hk]; decide)))
  refine ⟨j1, nm_r jr ⟨j2, br_f jn ⟨j2, j2, nm_r jm ⟨j2, nm_r jk ⟨j3, nm_r jt ⟨j3, nm_r jo ⟨j4, ?_⟩⟩⟩⟩⟩⟩⟩
  rw [jK]
  refine br_f (by decide) ⟨j4, br_f (by decide) (br_f (by rw [hhw, hh]; decide) (br_t (hhw.trans hh) (br_f (by decide) (br_f (by decide) ⟨j3, j3, ?_⟩))))⟩
  rw [hkp.1, hkp.2]
  refine ⟨j4, ?_⟩
  rw [jK]
  refine br_t (by decide) (br_f hs ?_)
  exact yf_top (M' := (false, 1, 1, (-3 : Int32).toInt64)) (L2 := L) (post := post) (V' := V) (F' := F) (N' := N) (sp' := sp) (st' := G.1) (cl' := G.2.1) (gy' := G.2.2.1) B (fun _ _ z => z) pk_us (fun r h => pk_un h) (fun z => z) yf_me hp
theorem yg_apF (hw0 : gw_S w) (hq : yq_S w q) (I : gk_I w M S (a :: A') V F G nc sp) (hR : yr_R w q E M S (a :: A') V F G N sp v) (hSa : S a = f :: L) (hb : M.1 = false) (hh : M.2.1 = 0) (hst : f.2.1 = 2) (hk : gw_K w f.1 = 6) (hs : f.2.2.2.2.1 = 3) {i t : Nat} (hx : f.2.2.2.2.2 = lN i) (hi : i < F.2.2) (ht : t < gw_n w) (hft : F.1 i = nI t) (hg : gw_gn w t = 0) (hd : ¬ A'.length + 1 < 8)
    (hp : ∀ v', yr_R w q E (false, 1, 1, (-5 : Int32).toInt64) (gk_su S a L) (a :: A') V F G N sp v' → post v') : wpY_pass post v := by
  obtain ⟨bg, tk, ch, hw, so, va, gb, gh, ro, mn, wt, wo, wc, wh, ws, wv, rfl, hP⟩ := hR
  have B := yo_mk hw0 I hSa hP
  have fo := xs_fo I hSa
  obtain ⟨hbg, hhw, hv⟩ := hP.1.2 hb
  obtain ⟨j1, jr, j2, jn, jm, jk, j3, jt, jo, j4, jc, jK, jW⟩ := yp_in hw0 hq B fo.1 (Or.inr hst) hk (sg := 1) (by rw [hst])
  have hkp := (jW hst (by rw [hk]; decide)).2 (Or.inl ((fo.2.2.2.2.2.2 hst (by rw [hk]; decide)).2.2.2.2 (by rw [hk]; decide)))
  have hvc := xg_vc I
  have hn := hw0.2.2.1
  have ec : (nI i).toNatClampNeg = i := nI_clamp (by omega)
  have etc : (nI t).toNatClampNeg = t := nI_clamp (by omega)
  have i7 : vp_in (nI i) 700 := vp_in_nI (by omega) (by decide)
  have i4 : vp_in (nI t) 48 := vp_in_nI (by omega) (by decide)
  have ex : f.2.2.2.2.2.toInt32 = nI i := by rw [hx, lN_i]
  have eF : F.1 (nI i).toNatClampNeg = nI t := by rw [ec, hft]
  have eY : q.2.2.2.2.2.2.2.2.2.2.2.2.2.2 (nI t).toNatClampNeg = gw_gn w t := by rw [etc]; exact (hq.1 t ht).2.2.2
  refine ⟨j1, nm_r jr ⟨j2, br_f jn ⟨j2, j2, nm_r jm ⟨j2, nm_r jk ⟨j3, nm_r jt ⟨j3, nm_r jo ⟨j4, ?_⟩⟩⟩⟩⟩⟩⟩
  rw [jK]
  refine br_f (by decide) ⟨j4, br_f (by decide) (br_f (by rw [hhw, hh]; decide) (br_t (hhw.trans hh) (br_f (by decide) (br_f (by decide) ⟨j3, j3, ?_⟩))))⟩
  rw [hkp.1, hkp.2]
  refine ⟨j4, ?_⟩
  rw [jK]
  refine br_t (by decide) (br_t hs ?_)
  rw [ex]
  refine ⟨i7, nm_r eF ⟨i4, ?_⟩⟩
  rw [eY]
  have e8 : A'.length + 1 = 8 := by have := B.2.1; omega
  have h8 : nI (a :: A').length = 8 := by
    show nI (A'.length + 1) = 8
    rw [e8]
    rfl
  refine br_t hg (br_t h8 ⟨i4, br_t (by rw [eY, hg]) ?_⟩)
  exact yf_top (M' := (false, 1, 1, (-5 : Int32).toInt64)) (L2 := L) (post := post) (V' := V) (F' := F) (N' := N) (sp' := sp) (st' := G.1) (cl' := G.2.1) (gy' := G.2.2.1) B (fun _ _ z => z) pk_us (fun r h => pk_un h) (fun z => z) yf_me hp
theorem yg_apG (hw0 : gw_S w) (hq : yq_S w q) (I : gk_I w M S (a :: A') V F G nc sp) (hR : yr_R w q E M S (a :: A') V F G N sp v) (hSa : S a = f :: L) (hb : M.1 = false) (hh : M.2.1 = 0) (hst : f.2.1 = 2) (hk : gw_K w f.1 = 6) (hs : f.2.2.2.2.1 = 3) {i t : Nat} (hx : f.2.2.2.2.2 = lN i) (hi : i < F.2.2) (ht : t < gw_n w) (hft : F.1 i = nI t) (hg : gw_gn w t = 1) (hd : ¬ G.2.2.2 < 8)
    (hp : ∀ v', yr_R w q E (false, 1, 1, (-6 : Int32).toInt64) (gk_su S a L) (a :: A') V F G N sp v' → post v') : wpY_pass post v := by
  obtain ⟨bg, tk, ch, hw, so, va, gb, gh, ro, mn, wt, wo, wc, wh, ws, wv, rfl, hP⟩ := hR
  have B := yo_mk hw0 I hSa hP
  have fo := xs_fo I hSa
  obtain ⟨hbg, hhw, hv⟩ := hP.1.2 hb
  obtain ⟨j1, jr, j2, jn, jm, jk, j3, jt, jo, j4, jc, jK, jW⟩ := yp_in hw0 hq B fo.1 (Or.inr hst) hk (sg := 1) (by rw [hst])
  have hkp := (jW hst (by rw [hk]; decide)).2 (Or.inl ((fo.2.2.2.2.2.2 hst (by rw [hk]; decide)).2.2.2.2 (by rw [hk]; decide)))
  have hvc := xg_vc I
  have hn := hw0.2.2.1
  have ec : (nI i).toNatClampNeg = i := nI_clamp (by omega)
  have etc : (nI t).toNatClampNeg = t := nI_clamp (by omega)
  have i7 : vp_in (nI i) 700 := vp_in_nI (by omega) (by decide)
  have i4 : vp_in (nI t) 48 := vp_in_nI (by omega) (by decide)
  have ex : f.2.2.2.2.2.toInt32 = nI i := by rw [hx, lN_i]
  have eF : F.1 (nI i).toNatClampNeg = nI t := by rw [ec, hft]
  have eY : q.2.2.2.2.2.2.2.2.2.2.2.2.2.2 (nI t).toNatClampNeg = gw_gn w t := by rw [etc]; exact (hq.1 t ht).2.2.2
  refine ⟨j1, nm_r jr ⟨j2, br_f jn ⟨j2, j2, nm_r jm ⟨j2, nm_r jk ⟨j3, nm_r jt ⟨j3, nm_r jo ⟨j4, ?_⟩⟩⟩⟩⟩⟩⟩
  rw [jK]
  refine br_f (by decide) ⟨j4, br_f (by decide) (br_f (by rw [hhw, hh]; decide) (br_t (hhw.trans hh) (br_f (by decide) (br_f (by decide) ⟨j3, j3, ?_⟩))))⟩
  rw [hkp.1, hkp.2]
  refine ⟨j4, ?_⟩
  rw [jK]
  refine br_t (by decide) (br_t hs ?_)
  rw [ex]
  refine ⟨i7, nm_r eF ⟨i4, ?_⟩⟩
  rw [eY]
  have h8 : nI G.2.2.2 = 8 := by
    rw [show G.2.2.2 = 8 by omega]
    rfl
  refine br_f (by rw [hg]; decide) (br_t h8 ⟨i4, br_f (by rw [eY, hg]; decide) ?_⟩)
  exact yf_top (M' := (false, 1, 1, (-6 : Int32).toInt64)) (L2 := L) (post := post) (V' := V) (F' := F) (N' := N) (sp' := sp) (st' := G.1) (cl' := G.2.1) (gy' := G.2.2.1) B (fun _ _ z => z) pk_us (fun r h => pk_un h) (fun z => z) yf_me hp
theorem yg_ap (hw0 : gw_S w) (hq : yq_S w q) (I : gk_I w M S (a :: A') V F G nc sp) (hR : yr_R w q E M S (a :: A') V F G N sp v) (hSa : S a = f :: L) (hb : M.1 = false) (hh : M.2.1 = 0) (hst : f.2.1 = 2) (hk : gw_K w f.1 = 6) (hs : f.2.2.2.2.1 = 3) {i t : Nat} (hx : f.2.2.2.2.2 = lN i) (hi : i < F.2.2) (ht : t < gw_n w) (hft : F.1 i = nI t) (hkt : gw_K w t = 5) (hg : gw_gn w t = 0) (hd : A'.length + 1 < 8) (hm : M'.1 = true)
    (hp : ∀ v', yr_R w q E M' (gk_su (gk_su S a ((f.1, 3, f.2.2) :: L)) (A'.length + 1) [(t + 1, 0, nI V.2.2.2.2, e0, s0, n0)]) ((A'.length + 1) :: a :: A') (gk_bd V (nI t) (F.2.1 i) M.2.2.1 M.2.2.2) F G N sp v' → post v') : wpY_pass post v := by
  obtain ⟨bg, tk, ch, hw, so, va, gb, gh, ro, mn, wt, wo, wc, wh, ws, wv, rfl, hP⟩ := hR
  have B := yo_mk hw0 I hSa hP
  have fo := xs_fo I hSa
  obtain ⟨hbg, hhw, hv⟩ := hP.1.2 hb
  obtain ⟨j1, jr, j2, jn, jm, jk, j3, jt, jo, j4, jc, jK, jW⟩ := yp_in hw0 hq B fo.1 (Or.inr hst) hk (sg := 1) (by rw [hst])
  have hkp := (jW hst (by rw [hk]; decide)).2 (Or.inl ((fo.2.2.2.2.2.2 hst (by rw [hk]; decide)).2.2.2.2 (by rw [hk]; decide)))
  obtain ⟨rfl, rfl⟩ := hv (Or.inl hh)
  have hot : gw_o w t = 1 := by rw [hw0.2.2.2.1 _ ht, hkt]; decide
  have hp0 := yp_p0 hw0 hq ht (by omega)
  have hvc := xg_vc I
  have hn := hw0.2.2.1
  have ec : (nI i).toNatClampNeg = i := nI_clamp (by omega)
  have etc : (nI t).toNatClampNeg = t := nI_clamp (by omega)
  have i7 : vp_in (nI i) 700 := vp_in_nI (by omega) (by decide)
  have i4 : vp_in (nI t) 48 := vp_in_nI (by omega) (by decide)
  have ex : f.2.2.2.2.2.toInt32 = nI i := by rw [hx, lN_i]
  have eF : F.1 (nI i).toNatClampNeg = nI t := by rw [ec, hft]
  have eY : q.2.2.2.2.2.2.2.2.2.2.2.2.2.2 (nI t).toNatClampNeg = gw_gn w t := by rw [etc]; exact (hq.1 t ht).2.2.2
  refine ⟨j1, nm_r jr ⟨j2, br_f jn ⟨j2, j2, nm_r jm ⟨j2, nm_r jk ⟨j3, nm_r jt ⟨j3, nm_r jo ⟨j4, ?_⟩⟩⟩⟩⟩⟩⟩
  rw [jK]
  refine br_f (by decide) ⟨j4, br_f (by decide) (br_f (by rw [hhw, hh]; decide) (br_t (hhw.trans hh) (br_f (by decide) (br_f (by decide) ⟨j3, j3, ?_⟩))))⟩
  rw [hkp.1, hkp.2]
  refine ⟨j4, ?_⟩
  rw [jK]
  refine br_t (by decide) (br_t hs ?_)
  rw [ex]
  refine ⟨i7, nm_r eF ⟨i4, ?_⟩⟩
  rw [eY]
  have h8 : ¬ nI (a :: A').length = 8 := by
    show ¬ nI (A'.length + 1) = nI 8
    rw [nI_eq (by omega) (by decide)]
    omega
  refine br_t hg (br_f h8 ⟨by rw [ex]; exact i7, ?_⟩)
  rw [ex, ec]
  refine ym_bind (v := V.2.2.2.2) rfl (xg_vlt I hSa (Or.inr hst)) ⟨i4, br_t (by rw [eY, hg]) ?_⟩
  have er : (8 : Int32) + nI (a :: A').length = nI (8 + (A'.length + 1)) := nI_add 8 _
  rw [er]
  refine ym_enterD (d := A'.length + 1) (r := 8 + (A'.length + 1)) rfl (by omega) (by omega) (by omega) rfl ⟨hp0.1, ?_⟩
  rw [hp0.2]
  have hl48 := B.2.2.1 a B.1 (Or.inl (List.mem_cons_self ..))
  rw [hSa] at hl48
  have hl : L.length + 1 ≤ 48 := hl48
  have had : ∀ s, s ∈ a :: A' → s ≠ A'.length + 1 := by
    intro s hs
    rcases gk_AOm _ I.2.1.1 s hs with z | z
    · have z2 : s < A'.length + 1 := z
      omega
    · omega
  have hrow : yr_row (A'.length + 1) = 8 + (A'.length + 1) := yr_rd hd
  refine hp _ ⟨1, _, _, _, _, _, gb, gh, _, _, wt, wo, wc, wh, ws, wv, rfl, yf_mb hm, ⟨by rw [hrow]; exact pk_us, xr_Ac _ (fun j hj => pk_un (by have : j < A'.length + 1 := hj; omega)) B.2.2.2.2.1⟩,
    yr_ch (yr_flat (P' := gk_lv (a :: A') G.2.2.2) (mn' := upd mn (yr_row a) (nI (gk_yl L))) (L2 := (f.1, 3, f.2.2) :: L) B.2.2.2.2.2.1 B.1 (Or.inl (List.mem_cons_self ..)) B.2.2.1 (fun s q _ => q) B.2.2.2.1 pk_us (fun r h => pk_un h) (fun z => ⟨gk_3y, z⟩)) (by omega) ?_ ?_ (fun _ _ => rfl) (by rw [hrow]; exact pk_us) (fun r h => pk_un (by rw [← hrow]; exact h)) ⟨gk_0y, trivial⟩, ?_⟩
  · intro s h16 hs
    by_cases z : s = a
    · subst z
      rw [gk_sus]
      exact hl
    · rw [gk_sun z]
      exact B.2.2.1 s h16 hs
  · intro s hs hne
    rcases hs with h | h
    · rcases List.mem_cons.mp h with h | h
      · exact absurd h hne
      · exact Or.inl h
    · exact Or.inr h
  · intro g hg h0 f' e
    rw [gk_sun (by omega)] at e
    exact yo_g B (fun _ _ z => z) g hg h0 f' e
theorem yg_apM (hw0 : gw_S w) (hq : yq_S w q) (I : gk_I w M S (a :: A') V F G nc sp) (hR : yr_R w q E M S (a :: A') V F G N sp v) (hSa : S a = f :: L) (hb : M.1 = false) (hh : M.2.1 = 0) (hst : f.2.1 = 2) (hk : gw_K w f.1 = 6) (hs : f.2.2.2.2.1 = 3) {i t : Nat} (hx : f.2.2.2.2.2 = lN i) (hi : i < F.2.2) (ht : t < gw_n w) (hft : F.1 i = nI t) (hkt : gw_K w t = 5) (hg : gw_gn w t = 1) (hd : G.2.2.2 < 8)
    (hp : ∀ v', yr_R w q E (false, 0, 4, lN G.2.2.2) (gk_su (gk_su S a L) (8 + G.2.2.2) [(t + 1, 0, nI V.2.2.2.2, e0, s0, n0)]) (a :: A') (gk_bd V (nI t) (F.2.1 i) M.2.2.1 M.2.2.2) F (upd G.1 G.2.2.2 0, upd G.2.1 G.2.2.2 0, G.2.2.1, G.2.2.2 + 1) N sp v' → post v') : wpY_pass post v := by
  obtain ⟨bg, tk, ch, hw, so, va, gb, gh, ro, mn, wt, wo, wc, wh, ws, wv, rfl, hP⟩ := hR
  have B := yo_mk hw0 I hSa hP
  have fo := xs_fo I hSa
  obtain ⟨hbg, hhw, hv⟩ := hP.1.2 hb
  obtain ⟨j1, jr, j2, jn, jm, jk, j3, jt, jo, j4, jc, jK, jW⟩ := yp_in hw0 hq B fo.1 (Or.inr hst) hk (sg := 1) (by rw [hst])
  have hkp := (jW hst (by rw [hk]; decide)).2 (Or.inl ((fo.2.2.2.2.2.2 hst (by rw [hk]; decide)).2.2.2.2 (by rw [hk]; decide)))
  obtain ⟨rfl, rfl⟩ := hv (Or.inl hh)
  have hot : gw_o w t = 1 := by rw [hw0.2.2.2.1 _ ht, hkt]; decide
  have hp0 := yp_p0 hw0 hq ht (by omega)
  have hvc := xg_vc I
  have hn := hw0.2.2.1
  have ec : (nI i).toNatClampNeg = i := nI_clamp (by omega)
  have etc : (nI t).toNatClampNeg = t := nI_clamp (by omega)
  have i7 : vp_in (nI i) 700 := vp_in_nI (by omega) (by decide)
  have i4 : vp_in (nI t) 48 := vp_in_nI (by omega) (by decide)
  have ex : f.2.2.2.2.2.toInt32 = nI i := by rw [hx, lN_i]
  have eF : F.1 (nI i).toNatClampNeg = nI t := by rw [ec, hft]
  have eY : q.2.2.2.2.2.2.2.2.2.2.2.2.2.2 (nI t).toNatClampNeg = gw_gn w t := by rw [etc]; exact (hq.1 t ht).2.2.2
  refine ⟨j1, nm_r jr ⟨j2, br_f jn ⟨j2, j2, nm_r jm ⟨j2, nm_r jk ⟨j3, nm_r jt ⟨j3, nm_r jo ⟨j4, ?_⟩⟩⟩⟩⟩⟩⟩
  rw [jK]
  refine br_f (by decide) ⟨j4, br_f (by decide) (br_f (by rw [hhw, hh]; decide) (br_t (hhw.trans hh) (br_f (by decide) (br_f (by decide) ⟨j3, j3, ?_⟩))))⟩
  rw [hkp.1, hkp.2]
  refine ⟨j4, ?_⟩
  rw [jK]
  refine br_t (by decide) (br_t hs ?_)
  rw [ex]
  refine ⟨i7, nm_r eF ⟨i4, ?_⟩⟩
  rw [eY]
  have h8 : ¬ nI G.2.2.2 = 8 := by
    show ¬ nI G.2.2.2 = nI 8
    rw [nI_eq (by omega) (by decide)]
    omega
  refine br_f (by rw [hg]; decide) (br_f h8 ⟨by rw [ex]; exact i7, ?_⟩)
  rw [ex, ec]
  have egc : (nI G.2.2.2).toNatClampNeg = G.2.2.2 := nI_clamp (by omega)
  have ig : vp_in (nI G.2.2.2) 8 := vp_in_nI hd (by decide)
  have ig17 : vp_in (nI G.2.2.2) 17 := vp_in_nI (by omega) (by decide)
  refine ym_bind (v := V.2.2.2.2) rfl (xg_vlt I hSa (Or.inr hst)) ⟨i4, br_f (by rw [eY, hg]; decide) (nm_r (nI_1 _) ⟨ig, nm_r (e' := upd G.1 G.2.2.2 0) (by rw [egc]) ⟨hp0.1, ig, nm_r (e' := upd gb G.2.2.2 (nI (t + 1))) (by rw [egc, hp0.2]) ⟨ig, nm_r (e' := upd gh G.2.2.2 (nI V.2.2.2.2)) (by rw [egc]) ⟨ig, nm_r (e' := upd G.2.1 G.2.2.2 0) (by rw [egc, ym_b0]) ⟨ig17, nm_r (e' := upd (upd mn (yr_row a) (nI (gk_yl L))) G.2.2.2 0) (by rw [egc]) ?_⟩⟩⟩⟩⟩)⟩
  rw [nI_l (by omega)]
  have hl48 := B.2.2.1 a B.1 (Or.inl (List.mem_cons_self ..))
  rw [hSa] at hl48
  have hl : L.length + 1 ≤ 48 := hl48
  have hag := gk_AOg _ I.2.1.1 I.2.1.2 a (List.mem_cons_self ..)
  have hrow : yr_row (8 + G.2.2.2) = G.2.2.2 := yr_rg _
  refine hp _ ⟨0, _, _, 0, 4, _, _, _, ro, _, wt, wo, wc, wh, ws, wv, rfl, yf_me, B.2.2.2.2.1,
    yr_ch (yr_flat (P' := gk_lv (a :: A') G.2.2.2) (mn' := upd mn (yr_row a) (nI (gk_yl L))) (L2 := L) B.2.2.2.2.2.1 B.1 (Or.inl (List.mem_cons_self ..)) B.2.2.1 (fun s q _ => q) B.2.2.2.1 pk_us (fun r h => pk_un h) (fun z => z)) (by omega) ?_ ?_ (fun _ _ => rfl) (by rw [hrow]; exact pk_us) (fun r h => pk_un (by rw [← hrow]; exact h)) ⟨gk_0y, trivial⟩, ?_⟩
  · intro s h16 hs
    by_cases z : s = a
    · subst z
      rw [gk_sus]
      omega
    · rw [gk_sun z]
      exact B.2.2.1 s h16 hs
  · intro s hs hne
    rcases hs with h | h
    · exact Or.inl h
    · have h2 : s < 8 + (G.2.2.2 + 1) := h.2
      exact Or.inr ⟨h.1, by omega⟩
  · intro g hg2 h0 f' e
    have hg3 : g < G.2.2.2 + 1 := hg2
    by_cases z : g = G.2.2.2
    · subst z
      rw [gk_sus] at e
      cases e
      exact ⟨pk_us, pk_us⟩
    · rw [gk_sun (by omega)] at e
      have h00 : upd G.1 G.2.2.2 0 g = 0 := h0
      rw [pk_un z] at h00
      have r := yo_g B (fun _ _ z => z) g (by omega) h00 f' e
      rw [pk_un z, pk_un z]
      exact r
theorem yg_rs3 (hw0 : gw_S w) (hq : yq_S w q) (I : gk_I w M S (a :: A') V F G nc sp) (hR : yr_R w q E M S (a :: A') V F G N sp v) (hSa : S a = f :: L) (hb : M.1 = false) (hh : M.2.1 = 0) (hst : f.2.1 = 2) (hk : gw_K w f.1 = 23) (hs : f.2.2.2.2.1 ≠ 4)
    (hp : ∀ v', yr_R w q E (false, 1, 1, (-3 : Int32).toInt64) (gk_su S a L) (a :: A') V F G N sp v' → post v') : wpY_pass post v := by
  obtain ⟨bg, tk, ch, hw, so, va, gb, gh, ro, mn, wt, wo, wc, wh, ws, wv, rfl, hP⟩ := hR
  have B := yo_mk hw0 I hSa hP
  have fo := xs_fo I hSa
  obtain ⟨hbg, hhw, hv⟩ := hP.1.2 hb
  obtain ⟨j1, jr, j2, jn, jm, jk, j3, jt, jo, j4, jc, jK, jW⟩ := yp_in hw0 hq B fo.1 (Or.inr hst) hk (sg := 1) (by rw [hst])
  have hkp := (jW hst (by rw [hk]; decide)).2 (Or.inl ((fo.2.2.2.2.2.2 hst (by rw [hk]; decide)).2.2.2.2 (by rw [hk]; decide)))
  refine ⟨j1, nm_r jr ⟨j2, br_f jn ⟨j2, j2, nm_r jm ⟨j2, nm_r jk ⟨j3, nm_r jt ⟨j3, nm_r jo ⟨j4, ?_⟩⟩⟩⟩⟩⟩⟩
  rw [jK]
  refine br_f (by decide) ⟨j4, br_f (by decide) (br_f (by rw [hhw, hh]; decide) (br_t (hhw.trans hh) (br_f (by decide) (br_f (by decide) ⟨j3, j3, ?_⟩))))⟩
  rw [hkp.1, hkp.2]
  refine ⟨j4, ?_⟩
  rw [jK]
  refine br_f (by decide) ⟨j4, br_t (by decide) (br_f hs ?_)⟩
  exact yf_top (M' := (false, 1, 1, (-3 : Int32).toInt64)) (L2 := L) (post := post) (V' := V) (F' := F) (N' := N) (sp' := sp) (st' := G.1) (cl' := G.2.1) (gy' := G.2.2.1) B (fun _ _ z => z) pk_us (fun r h => pk_un h) (fun z => z) yf_me hp
theorem yg_rsE (hw0 : gw_S w) (hq : yq_S w q) (I : gk_I w M S (a :: A') V F G nc sp) (hR : yr_R w q E M S (a :: A') V F G N sp v) (hSa : S a = f :: L) (hb : M.1 = false) (hh : M.2.1 = 0) (hst : f.2.1 = 2) (hk : gw_K w f.1 = 23) (hs : f.2.2.2.2.1 = 4) {g : Nat} (hx : f.2.2.2.2.2 = lN g) (hg : g < G.2.2.2) (h3 : G.1 g = 3)
    (hp : ∀ v', yr_R w q E (false, 0, 0, 0) (gk_su S a L) (a :: A') V F G N sp v' → post v') : wpY_pass post v := by
  obtain ⟨bg, tk, ch, hw, so, va, gb, gh, ro, mn, wt, wo, wc, wh, ws, wv, rfl, hP⟩ := hR
  have B := yo_mk hw0 I hSa hP
  have fo := xs_fo I hSa
  obtain ⟨hbg, hhw, hv⟩ := hP.1.2 hb
  obtain ⟨j1, jr, j2, jn, jm, jk, j3, jt, jo, j4, jc, jK, jW⟩ := yp_in hw0 hq B fo.1 (Or.inr hst) hk (sg := 1) (by rw [hst])
  have hkp := (jW hst (by rw [hk]; decide)).2 (Or.inl ((fo.2.2.2.2.2.2 hst (by rw [hk]; decide)).2.2.2.2 (by rw [hk]; decide)))
  have hvc := xg_vc I
  have egc : (nI g).toNatClampNeg = g := nI_clamp (by omega)
  have ig : vp_in (nI g) 8 := vp_in_nI (by omega) (by decide)
  have ex : f.2.2.2.2.2.toInt32 = nI g := by rw [hx, lN_i]
  refine ⟨j1, nm_r jr ⟨j2, br_f jn ⟨j2, j2, nm_r jm ⟨j2, nm_r jk ⟨j3, nm_r jt ⟨j3, nm_r jo ⟨j4, ?_⟩⟩⟩⟩⟩⟩⟩
  rw [jK]
  refine br_f (by decide) ⟨j4, br_f (by decide) (br_f (by rw [hhw, hh]; decide) (br_t (hhw.trans hh) (br_f (by decide) (br_f (by decide) ⟨j3, j3, ?_⟩))))⟩
  rw [hkp.1, hkp.2]
  refine ⟨j4, ?_⟩
  rw [jK]
  refine br_f (by decide) ⟨j4, br_t (by decide) (br_t hs ?_)⟩
  rw [ex]
  refine ⟨ig, ?_⟩
  rw [egc]
  refine br_f (by rw [h3]; decide) ⟨ig, br_t h3 ?_⟩
  exact yf_top (M' := (false, 0, 0, 0)) (L2 := L) (post := post) (V' := V) (F' := F) (N' := N) (sp' := sp) (st' := G.1) (cl' := G.2.1) (gy' := G.2.2.1) B (fun _ _ z => z) pk_us (fun r h => pk_un h) (fun z => z) yf_me hp
theorem yg_rsW (hw0 : gw_S w) (hq : yq_S w q) (I : gk_I w M S (a :: A') V F G nc sp) (hR : yr_R w q E M S (a :: A') V F G N sp v) (hSa : S a = f :: L) (hb : M.1 = false) (hh : M.2.1 = 0) (hst : f.2.1 = 2) (hk : gw_K w f.1 = 23) (hs : f.2.2.2.2.1 = 4) {g : Nat} (hx : f.2.2.2.2.2 = lN g) (hg : g < G.2.2.2) (h2 : G.1 g = 2)
    (hp : ∀ v', yr_R w q E (false, 1, 1, (-4 : Int32).toInt64) (gk_su S a L) (a :: A') V F G N sp v' → post v') : wpY_pass post v := by
  obtain ⟨bg, tk, ch, hw, so, va, gb, gh, ro, mn, wt, wo, wc, wh, ws, wv, rfl, hP⟩ := hR
  have B := yo_mk hw0 I hSa hP
  have fo := xs_fo I hSa
  obtain ⟨hbg, hhw, hv⟩ := hP.1.2 hb
  obtain ⟨j1, jr, j2, jn, jm, jk, j3, jt, jo, j4, jc, jK, jW⟩ := yp_in hw0 hq B fo.1 (Or.inr hst) hk (sg := 1) (by rw [hst])
  have hkp := (jW hst (by rw [hk]; decide)).2 (Or.inl ((fo.2.2.2.2.2.2 hst (by rw [hk]; decide)).2.2.2.2 (by rw [hk]; decide)))
  have hvc := xg_vc I
  have egc : (nI g).toNatClampNeg = g := nI_clamp (by omega)
  have ig : vp_in (nI g) 8 := vp_in_nI (by omega) (by decide)
  have ex : f.2.2.2.2.2.toInt32 = nI g := by rw [hx, lN_i]
  refine ⟨j1, nm_r jr ⟨j2, br_f jn ⟨j2, j2, nm_r jm ⟨j2, nm_r jk ⟨j3, nm_r jt ⟨j3, nm_r jo ⟨j4, ?_⟩⟩⟩⟩⟩⟩⟩
  rw [jK]
  refine br_f (by decide) ⟨j4, br_f (by decide) (br_f (by rw [hhw, hh]; decide) (br_t (hhw.trans hh) (br_f (by decide) (br_f (by decide) ⟨j3, j3, ?_⟩))))⟩
  rw [hkp.1, hkp.2]
  refine ⟨j4, ?_⟩
  rw [jK]
  refine br_f (by decide) ⟨j4, br_t (by decide) (br_t hs ?_)⟩
  rw [ex]
  refine ⟨ig, ?_⟩
  rw [egc]
  refine br_t h2 ?_
  exact yf_top (M' := (false, 1, 1, (-4 : Int32).toInt64)) (L2 := L) (post := post) (V' := V) (F' := F) (N' := N) (sp' := sp) (st' := G.1) (cl' := G.2.1) (gy' := G.2.2.1) B (fun _ _ z => z) pk_us (fun r h => pk_un h) (fun z => z) yf_me hp
theorem yg_rsF (hw0 : gw_S w) (hq : yq_S w q) (I : gk_I w M S (a :: A') V F G nc sp) (hR : yr_R w q E M S (a :: A') V F G N sp v) (hSa : S a = f :: L) (hb : M.1 = false) (hh : M.2.1 = 0) (hst : f.2.1 = 2) (hk : gw_K w f.1 = 23) (hs : f.2.2.2.2.1 = 4) {g : Nat} (hx : f.2.2.2.2.2 = lN g) (hg : g < G.2.2.2) (h2 : G.1 g = 0 ∨ G.1 g = 1) (hd : ¬ A'.length + 1 < 8)
    (hp : ∀ v', yr_R w q E (false, 1, 1, (-5 : Int32).toInt64) (gk_su S a L) (a :: A') V F G N sp v' → post v') : wpY_pass post v := by
  obtain ⟨bg, tk, ch, hw, so, va, gb, gh, ro, mn, wt, wo, wc, wh, ws, wv, rfl, hP⟩ := hR
  have B := yo_mk hw0 I hSa hP
  have fo := xs_fo I hSa
  obtain ⟨hbg, hhw, hv⟩ := hP.1.2 hb
  obtain ⟨j1, jr, j2, jn, jm, jk, j3, jt, jo, j4, jc, jK, jW⟩ := yp_in hw0 hq B fo.1 (Or.inr hst) hk (sg := 1) (by rw [hst])
  have hkp := (jW hst (by rw [hk]; decide)).2 (Or.inl ((fo.2.2.2.2.2.2 hst (by rw [hk]; decide)).2.2.2.2 (by rw [hk]; decide)))
  have hvc := xg_vc I
  have egc : (nI g).toNatClampNeg = g := nI_clamp (by omega)
  have ig : vp_in (nI g) 8 := vp_in_nI (by omega) (by decide)
  have ex : f.2.2.2.2.2.toInt32 = nI g := by rw [hx, lN_i]
  refine ⟨j1, nm_r jr ⟨j2, br_f jn ⟨j2, j2, nm_r jm ⟨j2, nm_r jk ⟨j3, nm_r jt ⟨j3, nm_r jo ⟨j4, ?_⟩⟩⟩⟩⟩⟩⟩
  rw [jK]
  refine br_f (by decide) ⟨j4, br_f (by decide) (br_f (by rw [hhw, hh]; decide) (br_t (hhw.trans hh) (br_f (by decide) (br_f (by decide) ⟨j3, j3, ?_⟩))))⟩
  rw [hkp.1, hkp.2]
  refine ⟨j4, ?_⟩
  rw [jK]
  refine br_f (by decide) ⟨j4, br_t (by decide) (br_t hs ?_)⟩
  rw [ex]
  refine ⟨ig, ?_⟩
  rw [egc]
  have e8 : A'.length + 1 = 8 := by have := B.2.1; omega
  have h8 : nI (a :: A').length = 8 := by
    show nI (A'.length + 1) = 8
    rw [e8]
    rfl
  refine br_f (by rcases h2 with z | z <;> (rw [z]; decide)) ⟨ig, br_f (by rcases h2 with z | z <;> (rw [z]; decide)) (br_t h8 ?_)⟩
  exact yf_top (M' := (false, 1, 1, (-5 : Int32).toInt64)) (L2 := L) (post := post) (V' := V) (F' := F) (N' := N) (sp' := sp) (st' := G.1) (cl' := G.2.1) (gy' := G.2.2.1) B (fun _ _ z => z) pk_us (fun r h => pk_un h) (fun z => z) yf_me hp
theorem yg_rs0 (hw0 : gw_S w) (hq : yq_S w q) (I : gk_I w M S (a :: A') V F G nc sp) (hR : yr_R w q E M S (a :: A') V F G N sp v) (hSa : S a = f :: L) (hb : M.1 = false) (hh : M.2.1 = 0) (hst : f.2.1 = 2) (hk : gw_K w f.1 = 23) (hs : f.2.2.2.2.1 = 4) {g : Nat} (hx : f.2.2.2.2.2 = lN g) (hg : g < G.2.2.2) (h2 : G.1 g = 0) (hd : A'.length + 1 < 8) (hm : M'.1 = true)
    (hp : ∀ v', yr_R w q E M' (gk_su S a ((f.1, 3, f.2.2) :: L)) ((8 + g) :: a :: A') V F (upd G.1 g 2, G.2.1, G.2.2.1, G.2.2.2) N sp v' → post v') : wpY_pass post v := by
  obtain ⟨bg, tk, ch, hw, so, va, gb, gh, ro, mn, wt, wo, wc, wh, ws, wv, rfl, hP⟩ := hR
  have B := yo_mk hw0 I hSa hP
  have fo := xs_fo I hSa
  obtain ⟨hbg, hhw, hv⟩ := hP.1.2 hb
  obtain ⟨j1, jr, j2, jn, jm, jk, j3, jt, jo, j4, jc, jK, jW⟩ := yp_in hw0 hq B fo.1 (Or.inr hst) hk (sg := 1) (by rw [hst])
  have hkp := (jW hst (by rw [hk]; decide)).2 (Or.inl ((fo.2.2.2.2.2.2 hst (by rw [hk]; decide)).2.2.2.2 (by rw [hk]; decide)))
  have hvc := xg_vc I
  have egc : (nI g).toNatClampNeg = g := nI_clamp (by omega)
  have ig : vp_in (nI g) 8 := vp_in_nI (by omega) (by decide)
  have ex : f.2.2.2.2.2.toInt32 = nI g := by rw [hx, lN_i]
  refine ⟨j1, nm_r jr ⟨j2, br_f jn ⟨j2, j2, nm_r jm ⟨j2, nm_r jk ⟨j3, nm_r jt ⟨j3, nm_r jo ⟨j4, ?_⟩⟩⟩⟩⟩⟩⟩
  rw [jK]
  refine br_f (by decide) ⟨j4, br_f (by decide) (br_f (by rw [hhw, hh]; decide) (br_t (hhw.trans hh) (br_f (by decide) (br_f (by decide) ⟨j3, j3, ?_⟩))))⟩
  rw [hkp.1, hkp.2]
  refine ⟨j4, ?_⟩
  rw [jK]
  refine br_f (by decide) ⟨j4, br_t (by decide) (br_t hs ?_)⟩
  rw [ex]
  refine ⟨ig, ?_⟩
  rw [egc]
  have h8 : ¬ nI (a :: A').length = 8 := by
    show ¬ nI (A'.length + 1) = nI 8
    rw [nI_eq (by omega) (by decide)]
    omega
  have hfr := ((I.2.2.1 g hg).2.2.2.1 h2).2
  refine br_f (by rw [h2]; decide) ⟨ig, br_f (by rw [h2]; decide) (br_f h8 ⟨ig, br_t h2 ⟨ig, nm_r (e' := upd G.1 g 2) (by rw [egc]) ?_⟩⟩)⟩
  refine ym_enterG (d := A'.length + 1) rfl (by omega) (by omega) (br_f (by decide) ⟨ig, ig, ?_⟩)
  rw [egc]
  refine hp _ ⟨1, gb g, gh g, hw, so, va, gb, gh, _, _, wt, wo, wc, wh, ws, wv, rfl, ⟨fun _ => ⟨rfl, ?_⟩, fun z => absurd (hm.symm.trans z) (by decide)⟩, ⟨by rw [yr_rg]; exact pk_us, xr_Ac _ (fun j hj => pk_un (by have : j < A'.length + 1 := hj; omega)) B.2.2.2.2.1⟩, yr_flat (mn' := upd mn (yr_row a) (nI (gk_yl L))) B.2.2.2.2.2.1 B.1 (Or.inl (List.mem_cons_self ..)) B.2.2.1 (yo_lv hg) B.2.2.2.1 pk_us (fun r h => pk_un h) (fun z => ⟨gk_3y, z⟩), yo_g B (yo_u3 (by decide))⟩
  intro a2 A2 f2 L3 e1 e2
  cases e1
  have hB := B.2.2.2.2.2.2 g hg h2
  rw [gk_sun hB.1] at e2
  obtain ⟨f0, e3, _⟩ := hfr
  rw [e3] at e2
  cases e2
  exact hB.2 _ e3
theorem yg_rs1 (hw0 : gw_S w) (hq : yq_S w q) (I : gk_I w M S (a :: A') V F G nc sp) (hR : yr_R w q E M S (a :: A') V F G N sp v) (hSa : S a = f :: L) (hb : M.1 = false) (hh : M.2.1 = 0) (hst : f.2.1 = 2) (hk : gw_K w f.1 = 23) (hs : f.2.2.2.2.1 = 4) {g : Nat} (hx : f.2.2.2.2.2 = lN g) (hg : g < G.2.2.2) (h2 : G.1 g = 1) (hd : A'.length + 1 < 8)
    (hp : ∀ v', yr_R w q E M (gk_su S a ((f.1, 3, f.2.2) :: L)) ((8 + g) :: a :: A') V F (upd G.1 g 2, G.2.1, G.2.2.1, G.2.2.2) N sp v' → post v') : wpY_pass post v := by
  obtain ⟨bg, tk, ch, hw, so, va, gb, gh, ro, mn, wt, wo, wc, wh, ws, wv, rfl, hP⟩ := hR
  have B := yo_mk hw0 I hSa hP
  have fo := xs_fo I hSa
  obtain ⟨hbg, hhw, hv⟩ := hP.1.2 hb
  obtain ⟨j1, jr, j2, jn, jm, jk, j3, jt, jo, j4, jc, jK, jW⟩ := yp_in hw0 hq B fo.1 (Or.inr hst) hk (sg := 1) (by rw [hst])
  have hkp := (jW hst (by rw [hk]; decide)).2 (Or.inl ((fo.2.2.2.2.2.2 hst (by rw [hk]; decide)).2.2.2.2 (by rw [hk]; decide)))
  have hvc := xg_vc I
  have egc : (nI g).toNatClampNeg = g := nI_clamp (by omega)
  have ig : vp_in (nI g) 8 := vp_in_nI (by omega) (by decide)
  have ex : f.2.2.2.2.2.toInt32 = nI g := by rw [hx, lN_i]
  refine ⟨j1, nm_r jr ⟨j2, br_f jn ⟨j2, j2, nm_r jm ⟨j2, nm_r jk ⟨j3, nm_r jt ⟨j3, nm_r jo ⟨j4, ?_⟩⟩⟩⟩⟩⟩⟩
  rw [jK]
  refine br_f (by decide) ⟨j4, br_f (by decide) (br_f (by rw [hhw, hh]; decide) (br_t (hhw.trans hh) (br_f (by decide) (br_f (by decide) ⟨j3, j3, ?_⟩))))⟩
  rw [hkp.1, hkp.2]
  refine ⟨j4, ?_⟩
  rw [jK]
  refine br_f (by decide) ⟨j4, br_t (by decide) (br_t hs ?_)⟩
  rw [ex]
  refine ⟨ig, ?_⟩
  rw [egc]
  have h8 : ¬ nI (a :: A').length = 8 := by
    show ¬ nI (A'.length + 1) = nI 8
    rw [nI_eq (by omega) (by decide)]
    omega
  refine br_f (by rw [h2]; decide) ⟨ig, br_f (by rw [h2]; decide) (br_f h8 ⟨ig, br_f (by rw [h2]; decide) ⟨ig, nm_r (e' := upd G.1 g 2) (by rw [egc]) ?_⟩⟩)⟩
  refine ym_enterG (d := A'.length + 1) rfl (by omega) (by omega) (br_t (by decide) ?_)
  exact hp _ ⟨bg, tk, ch, hw, so, va, gb, gh, _, _, wt, wo, wc, wh, ws, wv, rfl, yf_ms hb ⟨hbg, hhw, hv⟩, ⟨by rw [yr_rg]; exact pk_us, xr_Ac _ (fun j hj => pk_un (by have : j < A'.length + 1 := hj; omega)) B.2.2.2.2.1⟩, yr_flat (mn' := upd mn (yr_row a) (nI (gk_yl L))) B.2.2.2.2.2.1 B.1 (Or.inl (List.mem_cons_self ..)) B.2.2.1 (yo_lv hg) B.2.2.2.1 pk_us (fun r h => pk_un h) (fun z => ⟨gk_3y, z⟩), yo_g B (yo_u3 (by decide))⟩
theorem yg_same (hw0 : gw_S w) (hq : yq_S w q) (I : gk_I w M S (a :: A') V F G nc sp) (hR : yr_R w q E M S (a :: A') V F G N sp v) (hSa : S a = f :: L) (hb : M.1 = false) (hh : M.2.1 = 0) (hst : f.2.1 = 2) (hk : gw_K w f.1 = 12)
    (hp : ∀ v', yr_R w q E (false, 0, 1, gk_same f.2.2.2.2.1 f.2.2.2.2.2 M.2.2.1 M.2.2.2) (gk_su S a L) (a :: A') V F G N sp v' → post v') : wpY_pass post v := by
  obtain ⟨bg, tk, ch, hw, so, va, gb, gh, ro, mn, wt, wo, wc, wh, ws, wv, rfl, hP⟩ := hR
  have B := yo_mk hw0 I hSa hP
  have fo := xs_fo I hSa
  obtain ⟨hbg, hhw, hv⟩ := hP.1.2 hb
  obtain ⟨j1, jr, j2, jn, jm, jk, j3, jt, jo, j4, jc, jK, jW⟩ := yp_in hw0 hq B fo.1 (Or.inr hst) hk (sg := 1) (by rw [hst])
  have hkp := (jW hst (by rw [hk]; decide)).2 (Or.inl ((fo.2.2.2.2.2.2 hst (by rw [hk]; decide)).2.2.2.2 (by rw [hk]; decide)))
  obtain ⟨rfl, rfl⟩ := hv (Or.inl hh)
  refine ⟨j1, nm_r jr ⟨j2, br_f jn ⟨j2, j2, nm_r jm ⟨j2, nm_r jk ⟨j3, nm_r jt ⟨j3, nm_r jo ⟨j4, ?_⟩⟩⟩⟩⟩⟩⟩
  rw [jK]
  refine br_f (by decide) ⟨j4, br_f (by decide) (br_f (by rw [hhw, hh]; decide) (br_t (hhw.trans hh) (br_f (by decide) (br_f (by decide) ⟨j3, j3, ?_⟩))))⟩
  rw [hkp.1, hkp.2]
  refine ⟨j4, ?_⟩
  rw [jK]
  refine br_f (by decide) ⟨j4, br_f (by decide) ⟨j4, br_t (by decide) ?_⟩⟩
  have fin : ∀ z : Int32, (z = 1 ∨ z = 0) → z.toInt64 = gk_same f.2.2.2.2.1 f.2.2.2.2.2 M.2.2.1 M.2.2.2 → wY_both_127 post z q.1 q.2.1 q.2.2.1 q.2.2.2.1 (nI V.2.2.2.2) (nI F.2.2) (nI G.2.2.2) (nI (a :: A').length) bg tk ch hw M.2.2.1 M.2.2.2 (nI sp) E.1 E.2.1 E.2.2.1 E.2.2.2 (nI N.2.2) q.2.2.2.2.1 q.2.2.2.2.2.1 q.2.2.2.2.2.2.1 q.2.2.2.2.2.2.2.1 q.2.2.2.2.2.2.2.2.1 q.2.2.2.2.2.2.2.2.2.1 q.2.2.2.2.2.2.2.2.2.2.1 q.2.2.2.2.2.2.2.2.2.2.2.1 q.2.2.2.2.2.2.2.2.2.2.2.2.1 q.2.2.2.2.2.2.2.2.2.2.2.2.2.1 q.2.2.2.2.2.2.2.2.2.2.2.2.2.2 V.1 V.2.1 V.2.2.1 V.2.2.2.1 F.1 F.2.1 G.1 gb gh G.2.2.1 G.2.1 ro (upd mn (yr_row a) (nI (gk_yl L))) wt wo wc ws wh wv N.1 N.2.1 := by
    intro z _ e
    rw [← e] at hp
    exact yf_top (M' := (false, 0, 1, z.toInt64)) (L2 := L) (post := post) (V' := V) (F' := F) (N' := N) (sp' := sp) (st' := G.1) (cl' := G.2.1) (gy' := G.2.2.1) B (fun _ _ z => z) pk_us (fun r h => pk_un h) (fun z => z) yf_me hp
  unfold gk_same at fin
  have g89 : ∀ (x5 z0 : Int32), ((x5 = 1 ∧ gk_nu f.2.2.2.2.1) ∨ (x5 = 0 ∧ ¬ gk_nu f.2.2.2.2.1)) → ((z0 = 1 ∧ gk_nu M.2.2.1) ∨ (z0 = 0 ∧ ¬ gk_nu M.2.2.1)) → wY_both_89 post f.2.2.2.2.1 f.2.2.2.2.2 x5 z0 q.1 q.2.1 q.2.2.1 q.2.2.2.1 (nI V.2.2.2.2) (nI F.2.2) (nI G.2.2.2) (nI (a :: A').length) bg tk ch hw M.2.2.1 M.2.2.2 (nI sp) E.1 E.2.1 E.2.2.1 E.2.2.2 (nI N.2.2) q.2.2.2.2.1 q.2.2.2.2.2.1 q.2.2.2.2.2.2.1 q.2.2.2.2.2.2.2.1 q.2.2.2.2.2.2.2.2.1 q.2.2.2.2.2.2.2.2.2.1 q.2.2.2.2.2.2.2.2.2.2.1 q.2.2.2.2.2.2.2.2.2.2.2.1 q.2.2.2.2.2.2.2.2.2.2.2.2.1 q.2.2.2.2.2.2.2.2.2.2.2.2.2.1 q.2.2.2.2.2.2.2.2.2.2.2.2.2.2 V.1 V.2.1 V.2.2.1 V.2.2.2.1 F.1 F.2.1 G.1 gb gh G.2.2.1 G.2.1 ro (upd mn (yr_row a) (nI (gk_yl L))) wt wo wc ws wh wv N.1 N.2.1 := by
    intro x5 z0 h5 h0
    refine br_c (fun e => ?_) (fun e => ?_)
    · rcases h5 with ⟨r5, n5⟩ | ⟨r5, n5⟩
      · subst r5
        rcases h0 with ⟨r0, n0⟩ | ⟨r0, n0⟩
        · subst r0
          exact br_f (by decide) (br_f (by decide) (fin 1 (Or.inl rfl) (by rw [if_pos ⟨e, Or.inl ⟨n5, n0⟩⟩]; rfl)))
        · subst r0
          refine br_f (by decide) (br_t (by decide) (fin 0 (Or.inr rfl) ?_))
          rw [if_neg]
          · rfl
          · intro c
            rcases c.2 with d | d
            · exact n0 d.2
            · exact n0 (by rw [← d]; exact n5)
      · subst r5
        refine br_t (by decide) (br_c (fun d => ?_) (fun d => ?_))
        · exact fin 1 (Or.inl rfl) (by rw [if_pos ⟨e, Or.inr d⟩]; rfl)
        · refine fin 0 (Or.inr rfl) ?_
          rw [if_neg]
          · rfl
          · intro c
            rcases c.2 with y | y
            · exact n5 y.1
            · exact d y
    · exact fin 0 (Or.inr rfl) (by rw [if_neg (fun c => e c.1)]; rfl)
  have g66 : ∀ (x5 : Int32), ((x5 = 1 ∧ gk_nu f.2.2.2.2.1) ∨ (x5 = 0 ∧ ¬ gk_nu f.2.2.2.2.1)) → wY_both_66 post f.2.2.2.2.1 f.2.2.2.2.2 x5 q.1 q.2.1 q.2.2.1 q.2.2.2.1 (nI V.2.2.2.2) (nI F.2.2) (nI G.2.2.2) (nI (a :: A').length) bg tk ch hw M.2.2.1 M.2.2.2 (nI sp) E.1 E.2.1 E.2.2.1 E.2.2.2 (nI N.2.2) q.2.2.2.2.1 q.2.2.2.2.2.1 q.2.2.2.2.2.2.1 q.2.2.2.2.2.2.2.1 q.2.2.2.2.2.2.2.2.1 q.2.2.2.2.2.2.2.2.2.1 q.2.2.2.2.2.2.2.2.2.2.1 q.2.2.2.2.2.2.2.2.2.2.2.1 q.2.2.2.2.2.2.2.2.2.2.2.2.1 q.2.2.2.2.2.2.2.2.2.2.2.2.2.1 q.2.2.2.2.2.2.2.2.2.2.2.2.2.2 V.1 V.2.1 V.2.2.1 V.2.2.2.1 F.1 F.2.1 G.1 gb gh G.2.2.1 G.2.1 ro (upd mn (yr_row a) (nI (gk_yl L))) wt wo wc ws wh wv N.1 N.2.1 := by
    intro x5 h5
    refine br_c (fun e => ?_) (fun e => br_c (fun d => ?_) (fun d => ?_))
    · exact g89 x5 1 h5 (Or.inl ⟨rfl, Or.inl e⟩)
    · exact g89 x5 1 h5 (Or.inl ⟨rfl, Or.inr d⟩)
    · exact g89 x5 0 h5 (Or.inr ⟨rfl, fun c => by rcases c with c | c; exact e c; exact d c⟩)
  refine br_c (fun e => ?_) (fun e => br_c (fun d => ?_) (fun d => ?_))
  · exact g66 1 (Or.inl ⟨rfl, Or.inl e⟩)
  · exact g66 1 (Or.inl ⟨rfl, Or.inr d⟩)
  · exact g66 0 (Or.inr ⟨rfl, fun c => by rcases c with c | c; exact e c; exact d c⟩)
theorem yg_ca3 (hw0 : gw_S w) (hq : yq_S w q) (I : gk_I w M S (a :: A') V F G nc sp) (hR : yr_R w q E M S (a :: A') V F G N sp v) (hSa : S a = f :: L) (hb : M.1 = false) (hh : M.2.1 = 0) (hst : f.2.1 = 2) {kd : Int32} (hk : gw_K w f.1 = kd) (hd : kd = 7 ∨ kd = 8 ∨ kd = 9 ∨ kd = 10 ∨ kd = 11) (hn : ¬ (gk_nu f.2.2.2.2.1 ∧ gk_nu M.2.2.1))
    (hp : ∀ v', yr_R w q E (false, 1, 1, (-3 : Int32).toInt64) (gk_su S a L) (a :: A') V F G N sp v' → post v') : wpY_pass post v := by
  obtain ⟨bg, tk, ch, hw, so, va, gb, gh, ro, mn, wt, wo, wc, wh, ws, wv, rfl, hP⟩ := hR
  have B := yo_mk hw0 I hSa hP
  have fo := xs_fo I hSa
  obtain ⟨hbg, hhw, hv⟩ := hP.1.2 hb
  obtain ⟨j1, jr, j2, jn, jm, jk, j3, jt, jo, j4, jc, jK, jW⟩ := yp_in hw0 hq B fo.1 (Or.inr hst) hk (sg := 1) (by rw [hst])
  have h14 : kd ≠ 14 := by rcases hd with rfl | rfl | rfl | rfl | rfl <;> decide
  have h21 : kd ≠ 21 := by rcases hd with rfl | rfl | rfl | rfl | rfl <;> decide
  have h6 : kd ≠ 6 := by rcases hd with rfl | rfl | rfl | rfl | rfl <;> decide
  have h23 : kd ≠ 23 := by rcases hd with rfl | rfl | rfl | rfl | rfl <;> decide
  have h12 : kd ≠ 12 := by rcases hd with rfl | rfl | rfl | rfl | rfl <;> decide
  have hkp := (jW hst (by rw [hk]; exact h14)).2 (Or.inl ((fo.2.2.2.2.2.2 hst (by rw [hk]; exact h14)).2.2.2.2 (by rw [hk]; exact h21)))
  obtain ⟨rfl, rfl⟩ := hv (Or.inl hh)
  refine ⟨j1, nm_r jr ⟨j2, br_f jn ⟨j2, j2, nm_r jm ⟨j2, nm_r jk ⟨j3, nm_r jt ⟨j3, nm_r jo ⟨j4, ?_⟩⟩⟩⟩⟩⟩⟩
  rw [jK]
  refine br_f h21 ⟨j4, br_f h14 (br_f (by rw [hhw, hh]; decide) (br_t (hhw.trans hh) (br_f (by decide) (br_f (by decide) ⟨j3, j3, ?_⟩))))⟩
  rw [hkp.1, hkp.2]
  refine ⟨j4, ?_⟩
  rw [jK]
  refine br_f h6 ⟨j4, br_f h23 ⟨j4, br_f h12 ?_⟩⟩
  have fin : wY_both_159 post q.1 q.2.1 q.2.2.1 q.2.2.2.1 (nI V.2.2.2.2) (nI F.2.2) (nI G.2.2.2) (nI (a :: A').length) bg tk ch hw M.2.2.1 M.2.2.2 (nI sp) E.1 E.2.1 E.2.2.1 E.2.2.2 (nI N.2.2) q.2.2.2.2.1 q.2.2.2.2.2.1 q.2.2.2.2.2.2.1 q.2.2.2.2.2.2.2.1 q.2.2.2.2.2.2.2.2.1 q.2.2.2.2.2.2.2.2.2.1 q.2.2.2.2.2.2.2.2.2.2.1 q.2.2.2.2.2.2.2.2.2.2.2.1 q.2.2.2.2.2.2.2.2.2.2.2.2.1 q.2.2.2.2.2.2.2.2.2.2.2.2.2.1 q.2.2.2.2.2.2.2.2.2.2.2.2.2.2 V.1 V.2.1 V.2.2.1 V.2.2.2.1 F.1 F.2.1 G.1 gb gh G.2.2.1 G.2.1 ro (upd mn (yr_row a) (nI (gk_yl L))) wt wo wc ws wh wv N.1 N.2.1 := by
    exact yf_top (M' := (false, 1, 1, (-3 : Int32).toInt64)) (L2 := L) (post := post) (V' := V) (F' := F) (N' := N) (sp' := sp) (st' := G.1) (cl' := G.2.1) (gy' := G.2.2.1) B (fun _ _ z => z) pk_us (fun r h => pk_un h) (fun z => z) yf_me hp
  by_cases n1 : gk_nu f.2.2.2.2.1
  · have n2 : ¬ gk_nu M.2.2.1 := fun z => hn ⟨n1, z⟩
    have g143 : wY_both_143 post (nI f.1) f.2.2.2.2.1 f.2.2.2.2.2 q.1 q.2.1 q.2.2.1 q.2.2.2.1 (nI V.2.2.2.2) (nI F.2.2) (nI G.2.2.2) (nI (a :: A').length) bg tk ch hw M.2.2.1 M.2.2.2 (nI sp) E.1 E.2.1 E.2.2.1 E.2.2.2 (nI N.2.2) q.2.2.2.2.1 q.2.2.2.2.2.1 q.2.2.2.2.2.2.1 q.2.2.2.2.2.2.2.1 q.2.2.2.2.2.2.2.2.1 q.2.2.2.2.2.2.2.2.2.1 q.2.2.2.2.2.2.2.2.2.2.1 q.2.2.2.2.2.2.2.2.2.2.2.1 q.2.2.2.2.2.2.2.2.2.2.2.2.1 q.2.2.2.2.2.2.2.2.2.2.2.2.2.1 q.2.2.2.2.2.2.2.2.2.2.2.2.2.2 V.1 V.2.1 V.2.2.1 V.2.2.2.1 F.1 F.2.1 G.1 gb gh G.2.2.1 G.2.1 ro (upd mn (yr_row a) (nI (gk_yl L))) wt wo wc ws wh wv N.1 N.2.1 :=
      br_f (fun z => n2 (Or.inl z)) (br_f (fun z => n2 (Or.inr z)) fin)
    refine br_c (fun _ => g143) (fun e => br_c (fun _ => g143) (fun d => ?_))
    exact absurd n1 (fun c => by rcases c with c | c; exact e c; exact d c)
  · exact br_f (fun z => n1 (Or.inl z)) (br_f (fun z => n1 (Or.inr z)) fin)
theorem yg_nn {bg tk ch hw : Int32} {gb gh ro mn wt wo wc wh ws : Nat → Int32} {wv : Nat → Int64} (hn : gk_nu f.2.2.2.2.1 ∧ gk_nu M.2.2.1)
    (h : wY_both_168 post (nI f.1) f.2.2.2.2.1 f.2.2.2.2.2 q.1 q.2.1 q.2.2.1 q.2.2.2.1 (nI V.2.2.2.2) (nI F.2.2) (nI G.2.2.2) (nI (a :: A').length) bg tk ch hw M.2.2.1 M.2.2.2 (nI sp) E.1 E.2.1 E.2.2.1 E.2.2.2 (nI N.2.2) q.2.2.2.2.1 q.2.2.2.2.2.1 q.2.2.2.2.2.2.1 q.2.2.2.2.2.2.2.1 q.2.2.2.2.2.2.2.2.1 q.2.2.2.2.2.2.2.2.2.1 q.2.2.2.2.2.2.2.2.2.2.1 q.2.2.2.2.2.2.2.2.2.2.2.1 q.2.2.2.2.2.2.2.2.2.2.2.2.1 q.2.2.2.2.2.2.2.2.2.2.2.2.2.1 q.2.2.2.2.2.2.2.2.2.2.2.2.2.2 V.1 V.2.1 V.2.2.1 V.2.2.2.1 F.1 F.2.1 G.1 gb gh G.2.2.1 G.2.1 ro (upd mn (yr_row a) (nI (gk_yl L))) wt wo wc ws wh wv N.1 N.2.1) :
    (f.2.2.2.2.1 = 1 → wY_both_143 post (nI f.1) f.2.2.2.2.1 f.2.2.2.2.2 q.1 q.2.1 q.2.2.1 q.2.2.2.1 (nI V.2.2.2.2) (nI F.2.2) (nI G.2.2.2) (nI (a :: A').length) bg tk ch hw M.2.2.1 M.2.2.2 (nI sp) E.1 E.2.1 E.2.2.1 E.2.2.2 (nI N.2.2) q.2.2.2.2.1 q.2.2.2.2.2.1 q.2.2.2.2.2.2.1 q.2.2.2.2.2.2.2.1 q.2.2.2.2.2.2.2.2.1 q.2.2.2.2.2.2.2.2.2.1 q.2.2.2.2.2.2.2.2.2.2.1 q.2.2.2.2.2.2.2.2.2.2.2.1 q.2.2.2.2.2.2.2.2.2.2.2.2.1 q.2.2.2.2.2.2.2.2.2.2.2.2.2.1 q.2.2.2.2.2.2.2.2.2.2.2.2.2.2 V.1 V.2.1 V.2.2.1 V.2.2.2.1 F.1 F.2.1 G.1 gb gh G.2.2.1 G.2.1 ro (upd mn (yr_row a) (nI (gk_yl L))) wt wo wc ws wh wv N.1 N.2.1) ∧ (¬ f.2.2.2.2.1 = 1 → ((f.2.2.2.2.1 = 2 → wY_both_143 post (nI f.1) f.2.2.2.2.1 f.2.2.2.2.2 q.1 q.2.1 q.2.2.1 q.2.2.2.1 (nI V.2.2.2.2) (nI F.2.2) (nI G.2.2.2) (nI (a :: A').length) bg tk ch hw M.2.2.1 M.2.2.2 (nI sp) E.1 E.2.1 E.2.2.1 E.2.2.2 (nI N.2.2) q.2.2.2.2.1 q.2.2.2.2.2.1 q.2.2.2.2.2.2.1 q.2.2.2.2.2.2.2.1 q.2.2.2.2.2.2.2.2.1 q.2.2.2.2.2.2.2.2.2.1 q.2.2.2.2.2.2.2.2.2.2.1 q.2.2.2.2.2.2.2.2.2.2.2.1 q.2.2.2.2.2.2.2.2.2.2.2.2.1 q.2.2.2.2.2.2.2.2.2.2.2.2.2.1 q.2.2.2.2.2.2.2.2.2.2.2.2.2.2 V.1 V.2.1 V.2.2.1 V.2.2.2.1 F.1 F.2.1 G.1 gb gh G.2.2.1 G.2.1 ro (upd mn (yr_row a) (nI (gk_yl L))) wt wo wc ws wh wv N.1 N.2.1) ∧ (¬ f.2.2.2.2.1 = 2 → wY_both_159 post q.1 q.2.1 q.2.2.1 q.2.2.2.1 (nI V.2.2.2.2) (nI F.2.2) (nI G.2.2.2) (nI (a :: A').length) bg tk ch hw M.2.2.1 M.2.2.2 (nI sp) E.1 E.2.1 E.2.2.1 E.2.2.2 (nI N.2.2) q.2.2.2.2.1 q.2.2.2.2.2.1 q.2.2.2.2.2.2.1 q.2.2.2.2.2.2.2.1 q.2.2.2.2.2.2.2.2.1 q.2.2.2.2.2.2.2.2.2.1 q.2.2.2.2.2.2.2.2.2.2.1 q.2.2.2.2.2.2.2.2.2.2.2.1 q.2.2.2.2.2.2.2.2.2.2.2.2.1 q.2.2.2.2.2.2.2.2.2.2.2.2.2.1 q.2.2.2.2.2.2.2.2.2.2.2.2.2.2 V.1 V.2.1 V.2.2.1 V.2.2.2.1 F.1 F.2.1 G.1 gb gh G.2.2.1 G.2.1 ro (upd mn (yr_row a) (nI (gk_yl L))) wt wo wc ws wh wv N.1 N.2.1))) := by
  have g143 : wY_both_143 post (nI f.1) f.2.2.2.2.1 f.2.2.2.2.2 q.1 q.2.1 q.2.2.1 q.2.2.2.1 (nI V.2.2.2.2) (nI F.2.2) (nI G.2.2.2) (nI (a :: A').length) bg tk ch hw M.2.2.1 M.2.2.2 (nI sp) E.1 E.2.1 E.2.2.1 E.2.2.2 (nI N.2.2) q.2.2.2.2.1 q.2.2.2.2.2.1 q.2.2.2.2.2.2.1 q.2.2.2.2.2.2.2.1 q.2.2.2.2.2.2.2.2.1 q.2.2.2.2.2.2.2.2.2.1 q.2.2.2.2.2.2.2.2.2.2.1 q.2.2.2.2.2.2.2.2.2.2.2.1 q.2.2.2.2.2.2.2.2.2.2.2.2.1 q.2.2.2.2.2.2.2.2.2.2.2.2.2.1 q.2.2.2.2.2.2.2.2.2.2.2.2.2.2 V.1 V.2.1 V.2.2.1 V.2.2.2.1 F.1 F.2.1 G.1 gb gh G.2.2.1 G.2.1 ro (upd mn (yr_row a) (nI (gk_yl L))) wt wo wc ws wh wv N.1 N.2.1 := by
    refine br_c (fun _ => h) (fun e => br_c (fun _ => h) (fun d => ?_))
    exact absurd hn.2 (fun c => by rcases c with c | c; exact e c; exact d c)
  refine br_c (fun _ => g143) (fun e => br_c (fun _ => g143) (fun d => ?_))
  exact absurd hn.1 (fun c => by rcases c with c | c; exact e c; exact d c)
theorem yg_less (hw0 : gw_S w) (hq : yq_S w q) (I : gk_I w M S (a :: A') V F G nc sp) (hR : yr_R w q E M S (a :: A') V F G N sp v) (hSa : S a = f :: L) (hb : M.1 = false) (hh : M.2.1 = 0) (hst : f.2.1 = 2) (hk : gw_K w f.1 = 11) (hn : gk_nu f.2.2.2.2.1 ∧ gk_nu M.2.2.1)
    (hp : ∀ v', yr_R w q E (false, 0, 1, (if f.2.2.2.2.2 < M.2.2.2 then 1 else 0)) (gk_su S a L) (a :: A') V F G N sp v' → post v') : wpY_pass post v := by
  obtain ⟨bg, tk, ch, hw, so, va, gb, gh, ro, mn, wt, wo, wc, wh, ws, wv, rfl, hP⟩ := hR
  have B := yo_mk hw0 I hSa hP
  have fo := xs_fo I hSa
  obtain ⟨hbg, hhw, hv⟩ := hP.1.2 hb
  obtain ⟨j1, jr, j2, jn, jm, jk, j3, jt, jo, j4, jc, jK, jW⟩ := yp_in hw0 hq B fo.1 (Or.inr hst) hk (sg := 1) (by rw [hst])
  have hkp := (jW hst (by rw [hk]; decide)).2 (Or.inl ((fo.2.2.2.2.2.2 hst (by rw [hk]; decide)).2.2.2.2 (by rw [hk]; decide)))
  obtain ⟨rfl, rfl⟩ := hv (Or.inl hh)
  refine ⟨j1, nm_r jr ⟨j2, br_f jn ⟨j2, j2, nm_r jm ⟨j2, nm_r jk ⟨j3, nm_r jt ⟨j3, nm_r jo ⟨j4, ?_⟩⟩⟩⟩⟩⟩⟩
  rw [jK]
  refine br_f (by decide) ⟨j4, br_f (by decide) (br_f (by rw [hhw, hh]; decide) (br_t (hhw.trans hh) (br_f (by decide) (br_f (by decide) ⟨j3, j3, ?_⟩))))⟩
  rw [hkp.1, hkp.2]
  refine ⟨j4, ?_⟩
  rw [jK]
  refine br_f (by decide) ⟨j4, br_f (by decide) ⟨j4, br_f (by decide) ?_⟩⟩
  refine yg_nn hn ⟨j4, br_t jK (br_c (fun z => ?_) (fun z => ?_))⟩
  · rw [if_neg (Int64.not_lt.mpr z)] at hp
    exact yf_top (M' := (false, 0, 1, 0)) (L2 := L) (post := post) (V' := V) (F' := F) (N' := N) (sp' := sp) (st' := G.1) (cl' := G.2.1) (gy' := G.2.2.1) B (fun _ _ z => z) pk_us (fun r h => pk_un h) (fun z => z) yf_me hp
  · rw [if_pos (Int64.not_le.mp z)] at hp
    exact yf_top (M' := (false, 0, 1, 1)) (L2 := L) (post := post) (V' := V) (F' := F) (N' := N) (sp' := sp) (st' := G.1) (cl' := G.2.1) (gy' := G.2.2.1) B (fun _ _ z => z) pk_us (fun r h => pk_un h) (fun z => z) yf_me hp
theorem yg_div0 (hw0 : gw_S w) (hq : yq_S w q) (I : gk_I w M S (a :: A') V F G nc sp) (hR : yr_R w q E M S (a :: A') V F G N sp v) (hSa : S a = f :: L) (hb : M.1 = false) (hh : M.2.1 = 0) (hst : f.2.1 = 2) (hk : gw_K w f.1 = 10) (hn : gk_nu f.2.2.2.2.1 ∧ gk_nu M.2.2.1) (h0 : M.2.2.2 = 0)
    (hp : ∀ v', yr_R w q E (false, 1, 1, (-1 : Int32).toInt64) (gk_su S a L) (a :: A') V F G N sp v' → post v') : wpY_pass post v := by
  obtain ⟨bg, tk, ch, hw, so, va, gb, gh, ro, mn, wt, wo, wc, wh, ws, wv, rfl, hP⟩ := hR
  have B := yo_mk hw0 I hSa hP
  have fo := xs_fo I hSa
  obtain ⟨hbg, hhw, hv⟩ := hP.1.2 hb
  obtain ⟨j1, jr, j2, jn, jm, jk, j3, jt, jo, j4, jc, jK, jW⟩ := yp_in hw0 hq B fo.1 (Or.inr hst) hk (sg := 1) (by rw [hst])
  have hkp := (jW hst (by rw [hk]; decide)).2 (Or.inl ((fo.2.2.2.2.2.2 hst (by rw [hk]; decide)).2.2.2.2 (by rw [hk]; decide)))
  obtain ⟨rfl, rfl⟩ := hv (Or.inl hh)
  refine ⟨j1, nm_r jr ⟨j2, br_f jn ⟨j2, j2, nm_r jm ⟨j2, nm_r jk ⟨j3, nm_r jt ⟨j3, nm_r jo ⟨j4, ?_⟩⟩⟩⟩⟩⟩⟩
  rw [jK]
  refine br_f (by decide) ⟨j4, br_f (by decide) (br_f (by rw [hhw, hh]; decide) (br_t (hhw.trans hh) (br_f (by decide) (br_f (by decide) ⟨j3, j3, ?_⟩))))⟩
  rw [hkp.1, hkp.2]
  refine ⟨j4, ?_⟩
  rw [jK]
  refine br_f (by decide) ⟨j4, br_f (by decide) ⟨j4, br_f (by decide) ?_⟩⟩
  have fin : ∀ x6 : Int32, wY_both_230 post x6 M.2.2.2 f.2.2.2.2.2 10 q.1 q.2.1 q.2.2.1 q.2.2.2.1 (nI V.2.2.2.2) (nI F.2.2) (nI G.2.2.2) (nI (a :: A').length) bg tk ch hw M.2.2.1 M.2.2.2 (nI sp) E.1 E.2.1 E.2.2.1 E.2.2.2 (nI N.2.2) q.2.2.2.2.1 q.2.2.2.2.2.1 q.2.2.2.2.2.2.1 q.2.2.2.2.2.2.2.1 q.2.2.2.2.2.2.2.2.1 q.2.2.2.2.2.2.2.2.2.1 q.2.2.2.2.2.2.2.2.2.2.1 q.2.2.2.2.2.2.2.2.2.2.2.1 q.2.2.2.2.2.2.2.2.2.2.2.2.1 q.2.2.2.2.2.2.2.2.2.2.2.2.2.1 q.2.2.2.2.2.2.2.2.2.2.2.2.2.2 V.1 V.2.1 V.2.2.1 V.2.2.2.1 F.1 F.2.1 G.1 gb gh G.2.2.1 G.2.1 ro (upd mn (yr_row a) (nI (gk_yl L))) wt wo wc ws wh wv N.1 N.2.1 := by
    intro x6
    refine br_t (by decide) (br_t h0 ?_)
    exact yf_top (M' := (false, 1, 1, (-1 : Int32).toInt64)) (L2 := L) (post := post) (V' := V) (F' := F) (N' := N) (sp' := sp) (st' := G.1) (cl' := G.2.1) (gy' := G.2.2.1) B (fun _ _ z => z) pk_us (fun r h => pk_un h) (fun z => z) yf_me hp
  refine yg_nn hn ⟨j4, br_f (by rw [jK]; decide) ⟨j4, ?_⟩⟩
  rw [jK]
  exact br_c (fun _ => br_c (fun _ => fin 1) (fun _ => fin 0)) (fun _ => fin 0)
theorem yg_calc (hw0 : gw_S w) (hq : yq_S w q) (I : gk_I w M S (a :: A') V F G nc sp) (hR : yr_R w q E M S (a :: A') V F G N sp v) (hSa : S a = f :: L) (hb : M.1 = false) (hh : M.2.1 = 0) (hst : f.2.1 = 2) {kd : Int32} (hk : gw_K w f.1 = kd) (hop : gk_op4 kd) (h10 : kd = 10 → M.2.2.2 ≠ 0) (hn : gk_nu f.2.2.2.2.1 ∧ gk_nu M.2.2.1)
    (hp1 : gk_ov kd f.2.2.2.2.2 M.2.2.2 → ∀ v', yr_R w q E (false, 1, 1, (-2 : Int32).toInt64) (gk_su S a L) (a :: A') V F G N sp v' → post v')
    (hp0 : ¬ gk_ov kd f.2.2.2.2.2 M.2.2.2 → ∀ v', yr_R w q E (false, 0, gk_rs f.2.2.2.2.1 M.2.2.1 (gk_res kd f.2.2.2.2.2 M.2.2.2), gk_res kd f.2.2.2.2.2 M.2.2.2) (gk_su S a L) (a :: A') V F G N sp v' → post v') : wpY_pass post v := by
  obtain ⟨bg, tk, ch, hw, so, va, gb, gh, ro, mn, wt, wo, wc, wh, ws, wv, rfl, hP⟩ := hR
  have B := yo_mk hw0 I hSa hP
  have fo := xs_fo I hSa
  obtain ⟨hbg, hhw, hv⟩ := hP.1.2 hb
  obtain ⟨j1, jr, j2, jn, jm, jk, j3, jt, jo, j4, jc, jK, jW⟩ := yp_in hw0 hq B fo.1 (Or.inr hst) hk (sg := 1) (by rw [hst])
  have hd : kd = 7 ∨ kd = 8 ∨ kd = 9 ∨ kd = 10 ∨ kd = 11 := by
    rcases hop with h | h | h | h
    · exact Or.inl h
    · exact Or.inr (Or.inl h)
    · exact Or.inr (Or.inr (Or.inl h))
    · exact Or.inr (Or.inr (Or.inr (Or.inl h)))
  have h11 : kd ≠ 11 := by rcases hop with rfl | rfl | rfl | rfl <;> decide
  have h14 : kd ≠ 14 := by rcases hd with rfl | rfl | rfl | rfl | rfl <;> decide
  have h21 : kd ≠ 21 := by rcases hd with rfl | rfl | rfl | rfl | rfl <;> decide
  have h6 : kd ≠ 6 := by rcases hd with rfl | rfl | rfl | rfl | rfl <;> decide
  have h23 : kd ≠ 23 := by rcases hd with rfl | rfl | rfl | rfl | rfl <;> decide
  have h12 : kd ≠ 12 := by rcases hd with rfl | rfl | rfl | rfl | rfl <;> decide
  have hkp := (jW hst (by rw [hk]; exact h14)).2 (Or.inl ((fo.2.2.2.2.2.2 hst (by rw [hk]; exact h14)).2.2.2.2 (by rw [hk]; exact h21)))
  obtain ⟨rfl, rfl⟩ := hv (Or.inl hh)
  refine ⟨j1, nm_r jr ⟨j2, br_f jn ⟨j2, j2, nm_r jm ⟨j2, nm_r jk ⟨j3, nm_r jt ⟨j3, nm_r jo ⟨j4, ?_⟩⟩⟩⟩⟩⟩⟩
  rw [jK]
  refine br_f h21 ⟨j4, br_f h14 (br_f (by rw [hhw, hh]; decide) (br_t (hhw.trans hh) (br_f (by decide) (br_f (by decide) ⟨j3, j3, ?_⟩))))⟩
  rw [hkp.1, hkp.2]
  refine ⟨j4, ?_⟩
  rw [jK]
  refine br_f h6 ⟨j4, br_f h23 ⟨j4, br_f h12 ?_⟩⟩
  have fin : ∀ x6 : Int32, ((x6 = 1 ∧ f.2.2.2.2.1 = 1 ∧ M.2.2.1 = 1) ∨ (x6 = 0 ∧ ¬ (f.2.2.2.2.1 = 1 ∧ M.2.2.1 = 1))) → wY_both_230 post x6 M.2.2.2 f.2.2.2.2.2 kd q.1 q.2.1 q.2.2.1 q.2.2.2.1 (nI V.2.2.2.2) (nI F.2.2) (nI G.2.2.2) (nI (a :: A').length) bg tk ch hw M.2.2.1 M.2.2.2 (nI sp) E.1 E.2.1 E.2.2.1 E.2.2.2 (nI N.2.2) q.2.2.2.2.1 q.2.2.2.2.2.1 q.2.2.2.2.2.2.1 q.2.2.2.2.2.2.2.1 q.2.2.2.2.2.2.2.2.1 q.2.2.2.2.2.2.2.2.2.1 q.2.2.2.2.2.2.2.2.2.2.1 q.2.2.2.2.2.2.2.2.2.2.2.1 q.2.2.2.2.2.2.2.2.2.2.2.2.1 q.2.2.2.2.2.2.2.2.2.2.2.2.2.1 q.2.2.2.2.2.2.2.2.2.2.2.2.2.2 V.1 V.2.1 V.2.2.1 V.2.2.2.1 F.1 F.2.1 G.1 gb gh G.2.2.1 G.2.1 ro (upd mn (yr_row a) (nI (gk_yl L))) wt wo wc ws wh wv N.1 N.2.1 := by
    intro x6 h6
    have g19 : wY_calculate_19 post kd f.2.2.2.2.2 M.2.2.2 x6 q.1 q.2.1 q.2.2.1 q.2.2.2.1 (nI V.2.2.2.2) (nI F.2.2) (nI G.2.2.2) (nI (a :: A').length) bg tk ch hw M.2.2.1 M.2.2.2 (nI sp) E.1 E.2.1 E.2.2.1 E.2.2.2 (nI N.2.2) q.2.2.2.2.1 q.2.2.2.2.2.1 q.2.2.2.2.2.2.1 q.2.2.2.2.2.2.2.1 q.2.2.2.2.2.2.2.2.1 q.2.2.2.2.2.2.2.2.2.1 q.2.2.2.2.2.2.2.2.2.2.1 q.2.2.2.2.2.2.2.2.2.2.2.1 q.2.2.2.2.2.2.2.2.2.2.2.2.1 q.2.2.2.2.2.2.2.2.2.2.2.2.2.1 q.2.2.2.2.2.2.2.2.2.2.2.2.2.2 V.1 V.2.1 V.2.2.1 V.2.2.2.1 F.1 F.2.1 G.1 gb gh G.2.2.1 G.2.1 ro (upd mn (yr_row a) (nI (gk_yl L))) wt wo wc ws wh wv N.1 N.2.1 := by
      refine ym_19 hop h10 (fun o r => br_f (by decide) ?_) (fun o => br_t rfl ?_)
      · exact yf_top (M' := (false, 1, 1, (-2 : Int32).toInt64)) (L2 := L) (post := post) (V' := V) (F' := F) (N' := N) (sp' := sp) (st' := G.1) (cl' := G.2.1) (gy' := G.2.2.1) B (fun _ _ z => z) pk_us (fun r h => pk_un h) (fun z => z) yf_me (hp1 o)
      · have hp := hp0 o
        generalize gk_res kd f.2.2.2.2.2 M.2.2.2 = r at hp ⊢
        unfold gk_rs at hp
        rcases h6 with ⟨e6, n1, n2⟩ | ⟨e6, n1⟩
        · subst e6
          refine br_f (by decide) (br_c (fun y => ?_) (fun y => ?_))
          · rw [if_pos ⟨n1, n2, y⟩] at hp
            exact yf_top (M' := (false, 0, 1, r)) (L2 := L) (post := post) (V' := V) (F' := F) (N' := N) (sp' := sp) (st' := G.1) (cl' := G.2.1) (gy' := G.2.2.1) B (fun _ _ z => z) pk_us (fun r h => pk_un h) (fun z => z) yf_me hp
          · rw [if_neg (fun c => y c.2.2)] at hp
            exact yf_top (M' := (false, 0, 2, r)) (L2 := L) (post := post) (V' := V) (F' := F) (N' := N) (sp' := sp) (st' := G.1) (cl' := G.2.1) (gy' := G.2.2.1) B (fun _ _ z => z) pk_us (fun r h => pk_un h) (fun z => z) yf_me hp
        · subst e6
          rw [if_neg (fun c => n1 ⟨c.1, c.2.1⟩)] at hp
          refine br_t rfl ?_
          exact yf_top (M' := (false, 0, 2, r)) (L2 := L) (post := post) (V' := V) (F' := F) (N' := N) (sp' := sp) (st' := G.1) (cl' := G.2.1) (gy' := G.2.2.1) B (fun _ _ z => z) pk_us (fun r h => pk_un h) (fun z => z) yf_me hp
    refine br_c (fun z => br_f (h10 z) g19) (fun z => g19)
  refine yg_nn hn ⟨j4, br_f (by rw [jK]; exact h11) ⟨j4, ?_⟩⟩
  rw [jK]
  exact br_c (fun y1 => br_c (fun y2 => fin 1 (Or.inl ⟨rfl, y1, y2⟩)) (fun y2 => fin 0 (Or.inr ⟨rfl, fun c => y2 c.2⟩))) (fun y1 => fin 0 (Or.inr ⟨rfl, fun c => y1 c.1⟩))
end
