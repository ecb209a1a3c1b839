section
variable {w : gw_T} {q : xq_T} {M M' : gm_T} {S : Nat → List gf_T} {a : Nat} {A' : List Nat} {V : gv_T} {F : gp_T} {G : gg_T} {N : gn_T} {nc sp : Nat} {u : SX} {f : gf_T} {L : List gf_T} {post : SX → Prop}
variable {e0 s0 k1 k2 : Int32} {n0 k3 : Int64}
theorem xb_num (hw : gw_S w) (hq : xq_S w q) (I : gk_I w M S (a :: A') V F G nc sp) (hR : xr_R w q M S (a :: A') V F G N sp u) (hSa : S a = f :: L) (hst : f.2.1 = 0) (hk : gw_K w f.1 = 0)
    (hp : ∀ u', xr_R w q (false, 0, 1, (gw_v w f.1).toInt64) (gk_su S a L) (a :: A') V F G N (sp + 1) u' → post u') : wpX_beginToken post u (nI (48 * a + L.length)) := by
  obtain ⟨en, vs, vn, ft, fs, fc, ke, ks, kn, cn, ac, gs, rfl, hP⟩ := hR
  have B := xo_mk hw I hSa hP
  have fo := xs_fo I hSa
  obtain ⟨i1, i2, eK, eS, eT, eC⟩ := xs_in hw B fo.1 hk hst
  have hn := hw.2.2.1
  have ef : (nI f.1).toNatClampNeg = f.1 := nI_clamp (by have := fo.1; omega)
  have i4 : vp_in (nI f.1) 48 := vp_in_nI (by have := fo.1; omega) (by decide)
  have eK2 : gw_K w (nI f.1).toNatClampNeg = 0 := by rw [ef]; exact hk
  refine nm_r (nI_1 sp) ⟨i1, nm_r eT ⟨i4, br_f (by rw [eK2]; decide) ⟨i4, ?_⟩⟩⟩
  rw [eK2]
  refine xm_ops 0 (by decide) (br_t rfl ⟨i1, ?_⟩)
  rw [eC]
  refine ⟨i4, nm_r eK2 ?_⟩
  refine br_t (by decide) ⟨i4, ?_⟩
  rw [ef]
  exact xs_fin B hp
theorem xb_nil (hw : gw_S w) (hq : xq_S w q) (I : gk_I w M S (a :: A') V F G nc sp) (hR : xr_R w q M S (a :: A') V F G N sp u) (hSa : S a = f :: L) (hst : f.2.1 = 0) (hk : gw_K w f.1 = 1)
    (hp : ∀ u', xr_R w q (false, 0, 0, 0) (gk_su S a L) (a :: A') V F G N (sp + 1) u' → post u') : wpX_beginToken post u (nI (48 * a + L.length)) := by
  obtain ⟨en, vs, vn, ft, fs, fc, ke, ks, kn, cn, ac, gs, rfl, hP⟩ := hR
  have B := xo_mk hw I hSa hP
  have fo := xs_fo I hSa
  obtain ⟨i1, i2, eK, eS, eT, eC⟩ := xs_in hw B fo.1 hk hst
  have hn := hw.2.2.1
  have ef : (nI f.1).toNatClampNeg = f.1 := nI_clamp (by have := fo.1; omega)
  have i4 : vp_in (nI f.1) 48 := vp_in_nI (by have := fo.1; omega) (by decide)
  have eK2 : gw_K w (nI f.1).toNatClampNeg = 1 := by rw [ef]; exact hk
  refine nm_r (nI_1 sp) ⟨i1, nm_r eT ⟨i4, br_f (by rw [eK2]; decide) ⟨i4, ?_⟩⟩⟩
  rw [eK2]
  refine xm_ops 1 (by decide) (br_t rfl ⟨i1, ?_⟩)
  rw [eC]
  refine ⟨i4, nm_r eK2 ?_⟩
  repeat (refine br_f (by decide) ?_)
  exact xs_fin B hp
theorem xb_brk (hw : gw_S w) (hq : xq_S w q) (I : gk_I w M S (a :: A') V F G nc sp) (hR : xr_R w q M S (a :: A') V F G N sp u) (hSa : S a = f :: L) (hst : f.2.1 = 0) (hk : gw_K w f.1 = 16)
    (hp : ∀ u', xr_R w q (false, 2, 0, 0) (gk_su S a L) (a :: A') V F G N (sp + 1) u' → post u') : wpX_beginToken post u (nI (48 * a + L.length)) := by
  obtain ⟨en, vs, vn, ft, fs, fc, ke, ks, kn, cn, ac, gs, rfl, hP⟩ := hR
  have B := xo_mk hw I hSa hP
  have fo := xs_fo I hSa
  obtain ⟨i1, i2, eK, eS, eT, eC⟩ := xs_in hw B fo.1 hk hst
  have hn := hw.2.2.1
  have ef : (nI f.1).toNatClampNeg = f.1 := nI_clamp (by have := fo.1; omega)
  have i4 : vp_in (nI f.1) 48 := vp_in_nI (by have := fo.1; omega) (by decide)
  have eK2 : gw_K w (nI f.1).toNatClampNeg = 16 := by rw [ef]; exact hk
  refine nm_r (nI_1 sp) ⟨i1, nm_r eT ⟨i4, br_f (by rw [eK2]; decide) ⟨i4, ?_⟩⟩⟩
  rw [eK2]
  refine xm_ops 16 (by decide) (br_t rfl ⟨i1, ?_⟩)
  rw [eC]
  refine ⟨i4, nm_r eK2 ?_⟩
  repeat (refine br_f (by decide) ?_)
  refine br_t (by decide) ?_
  exact xs_fas (M' := (false, 2, 0, 0)) B (fun _ => ⟨rfl, fun z => absurd z (by unfold gk_hv; decide)⟩) hp
theorem xb_nxt (hw : gw_S w) (hq : xq_S w q) (I : gk_I w M S (a :: A') V F G nc sp) (hR : xr_R w q M S (a :: A') V F G N sp u) (hSa : S a = f :: L) (hst : f.2.1 = 0) (hk : gw_K w f.1 = 17)
    (hp : ∀ u', xr_R w q (false, 3, 0, 0) (gk_su S a L) (a :: A') V F G N (sp + 1) u' → post u') : wpX_beginToken post u (nI (48 * a + L.length)) := by
  obtain ⟨en, vs, vn, ft, fs, fc, ke, ks, kn, cn, ac, gs, rfl, hP⟩ := hR
  have B := xo_mk hw I hSa hP
  have fo := xs_fo I hSa
  obtain ⟨i1, i2, eK, eS, eT, eC⟩ := xs_in hw B fo.1 hk hst
  have hn := hw.2.2.1
  have ef : (nI f.1).toNatClampNeg = f.1 := nI_clamp (by have := fo.1; omega)
  have i4 : vp_in (nI f.1) 48 := vp_in_nI (by have := fo.1; omega) (by decide)
  have eK2 : gw_K w (nI f.1).toNatClampNeg = 17 := by rw [ef]; exact hk
  refine nm_r (nI_1 sp) ⟨i1, nm_r eT ⟨i4, br_f (by rw [eK2]; decide) ⟨i4, ?_⟩⟩⟩
  rw [eK2]
  refine xm_ops 17 (by decide) (br_t rfl ⟨i1, ?_⟩)
  rw [eC]
  refine ⟨i4, nm_r eK2 ?_⟩
  repeat (refine br_f (by decide) ?_)
  refine br_t (by decide) ?_
  exact xs_fas (M' := (false, 3, 0, 0)) B (fun _ => ⟨rfl, fun z => absurd z (by unfold gk_hv; decide)⟩) hp
theorem xb_var (hw : gw_S w) (hq : xq_S w q) (I : gk_I w M S (a :: A') V F G nc sp) (hR : xr_R w q M S (a :: A') V F G N sp u) (hSa : S a = f :: L) (hst : f.2.1 = 0) (hk : gw_K w f.1 = 2) {b : Nat} (hbs : b ∈ gw_sc w f.1) (hmn : gw_mn w f.1 = nI b)
    (hp : ∀ u', xr_R w q (false, 0, V.2.2.1 (gk_fi V b (gw_sc w f.1) f.2.2.1), V.2.2.2.1 (gk_fi V b (gw_sc w f.1) f.2.2.1)) (gk_su S a L) (a :: A') V F G N (sp + 1) u' → post u') : wpX_beginToken post u (nI (48 * a + L.length)) := by
  obtain ⟨en, vs, vn, ft, fs, fc, ke, ks, kn, cn, ac, gs, rfl, hP⟩ := hR
  have B := xo_mk hw I hSa hP
  have fo := xs_fo I hSa
  obtain ⟨i1, i2, eK, eS, eT, eC⟩ := xs_in hw B fo.1 hk hst
  have hn := hw.2.2.1
  have ef : (nI f.1).toNatClampNeg = f.1 := nI_clamp (by have := fo.1; omega)
  have i4 : vp_in (nI f.1) 48 := vp_in_nI (by have := fo.1; omega) (by decide)
  have eK2 : gw_K w (nI f.1).toNatClampNeg = 2 := by rw [ef]; exact hk
  refine nm_r (nI_1 sp) ⟨i1, nm_r eT ⟨i4, br_f (by rw [eK2]; decide) ⟨i4, ?_⟩⟩⟩
  rw [eK2]
  refine xm_ops 2 (by decide) (br_t rfl ⟨i1, ?_⟩)
  rw [eC]
  refine ⟨i4, nm_r eK2 ?_⟩
  repeat (refine br_f (by decide) ?_)
  refine br_t (by decide) ⟨i4, ?_⟩
  have hvc := xg_vc I
  have hsc := hw.2.2.2.2.2.2.2.2.2.2.2 f.1 fo.1
  have hb48 : b < 48 := by have := hsc.2 b hbs; have := fo.1; omega
  have hfi := gk_fil (b := b) (by omega) _ _ fo.2.1 hbs
  rw [ef, hmn]
  refine xm_find hvc.1 hb48 rfl rfl fo.2.1 hbs (fun x hx => by have := hsc.2 x hx; have := fo.1; omega) (by have := hsc.1; have := fo.1; omega) ?_
  have i6 : vp_in (nI (gk_fi V b (gw_sc w f.1) f.2.2.1)) 600 := vp_in_nI (by omega) (by decide)
  have e6 : (nI (gk_fi V b (gw_sc w f.1) f.2.2.1)).toNatClampNeg = gk_fi V b (gw_sc w f.1) f.2.2.1 := nI_clamp (by omega)
  refine ⟨i6, i6, ?_⟩
  rw [e6]
  exact xs_fin B hp
theorem xb_fn (hw : gw_S w) (hq : xq_S w q) (I : gk_I w M S (a :: A') V F G nc sp) (hR : xr_R w q M S (a :: A') V F G N sp u) (hSa : S a = f :: L) (hst : f.2.1 = 0) (hk : gw_K w f.1 = 5) (h6 : F.2.2 < 600)
    (hp : ∀ u', xr_R w q (false, 0, 3, lN F.2.2) (gk_su S a L) (a :: A') V (upd F.1 F.2.2 (nI f.1), upd F.2.1 F.2.2 f.2.2.1, F.2.2 + 1) G N (sp + 1) u' → post u') : wpX_beginToken post u (nI (48 * a + L.length)) := by
  obtain ⟨en, vs, vn, ft, fs, fc, ke, ks, kn, cn, ac, gs, rfl, hP⟩ := hR
  have B := xo_mk hw I hSa hP
  have fo := xs_fo I hSa
  obtain ⟨i1, i2, eK, eS, eT, eC⟩ := xs_in hw B fo.1 hk hst
  have hn := hw.2.2.1
  have ef : (nI f.1).toNatClampNeg = f.1 := nI_clamp (by have := fo.1; omega)
  have i4 : vp_in (nI f.1) 48 := vp_in_nI (by have := fo.1; omega) (by decide)
  have eK2 : gw_K w (nI f.1).toNatClampNeg = 5 := by rw [ef]; exact hk
  refine nm_r (nI_1 sp) ⟨i1, nm_r eT ⟨i4, br_t eK2 ⟨i1, ?_⟩⟩⟩
  rw [eC]
  refine ⟨i4, nm_r eK2 ?_⟩
  repeat (refine br_f (by decide) ?_)
  have i6 : vp_in (nI F.2.2) 600 := vp_in_nI h6 (by decide)
  have e6 : (nI F.2.2).toNatClampNeg = F.2.2 := nI_clamp (by omega)
  refine br_t (by decide) ⟨i6, nm_r (by rw [e6]) ⟨i6, nm_r (by rw [e6]) ?_⟩⟩
  rw [nI_l (by omega)]
  refine xm_finish (d := A'.length) (a := a) (l := L.length) rfl B.2.1 B.2.2.2.2.1.1 B.1 (xo_cn B) (nm_r (nI_1 _) ?_)
  exact hp _ ⟨0, 3, lN F.2.2, ft, fs, fc, ke, ks, kn, _, ac, gs, rfl, fun _ => ⟨rfl, fun _ => ⟨rfl, rfl⟩⟩, B.2.2.2.2.1, xr_pop B.2.2.2.2.2.1 B.1 xo_lv B.2.2.1 B.2.2.2.1, B.2.2.2.2.2.2⟩
theorem xb_aw (hw : gw_S w) (hq : xq_S w q) (I : gk_I w M S (a :: A') V F G nc sp) (hR : xr_R w q M S (a :: A') V F G N sp u) (hSa : S a = f :: L) (hst : f.2.1 = 0) {k : Nat} (hk27 : k < 27) (hk : gw_K w f.1 = nI k) (h5 : nI k ≠ 5) (ho : 0 < gw_o w f.1) (hm : M'.1 = true)
    (hp : ∀ u', xr_R w q M' (gk_su S a ((gw_c w f.1 0, 0, f.2.2.1, e0, s0, n0) :: (f.1, 1, f.2.2.1, k1, k2, k3) :: L)) (a :: A') V F G N (sp + 1) u' → post u') : wpX_beginToken post u (nI (48 * a + L.length)) := by
  obtain ⟨en, vs, vn, ft, fs, fc, ke, ks, kn, cn, ac, gs, rfl, hP⟩ := hR
  have B := xo_mk hw I hSa hP
  have fo := xs_fo I hSa
  obtain ⟨i1, i2, eK, eS, eT, eC⟩ := xs_in hw B fo.1 hk hst
  have hn := hw.2.2.1
  have ef : (nI f.1).toNatClampNeg = f.1 := nI_clamp (by have := fo.1; omega)
  have i4 : vp_in (nI f.1) 48 := vp_in_nI (by have := fo.1; omega) (by decide)
  have eK2 : gw_K w (nI f.1).toNatClampNeg = nI k := by rw [ef]; exact hk
  have ho2 : gw_o w f.1 = gw_op (nI k) := by rw [hw.2.2.2.1 _ fo.1, hk]
  have h3 := gs_op3 (nI k)
  refine nm_r (nI_1 sp) ⟨i1, nm_r eT ⟨i4, br_f (by rw [eK2]; exact h5) ⟨i4, ?_⟩⟩⟩
  rw [eK2]
  refine xm_ops k hk27 (br_f (nI_ne0 (by omega) (by omega)) ⟨i1, ?_⟩)
  rw [eC]
  exact xs_wop (st := 1) B (xs_room hw I hSa ho) (fun z => absurd z (by decide)) hm rfl xs_c0 hp
end
section
variable {w : gw_T} {q : xq_T} {M M' : gm_T} {S : Nat → List gf_T} {a : Nat} {A' : List Nat} {V : gv_T} {F : gp_T} {G : gg_T} {N : gn_T} {nc sp : Nat} {u : SX} {post : SX → Prop}
theorem xr_Cm {K : Nat → Int32} {Z : Nat → gx_T} {cn : Nat → Int32} {P P' : Nat → Prop} {S : Nat → List gf_T} (h : xr_C K Z cn P S) (hP : ∀ s, P' s → P s) : xr_C K Z cn P' S :=
  fun s hs hp => h s hs (hP s hp)
theorem xe_lv {gc : Nat} : ∀ s, gk_lv A' gc s → gk_lv (a :: A') gc s := by
  intro s hs
  rcases hs with h | h
  · exact Or.inl (List.mem_cons_of_mem _ h)
  · exact Or.inr h
theorem xe_1 (I : gk_I w M S (a :: A') V F G nc sp) (hR : xr_R w q M S (a :: A') V F G N sp u) (hb : M.1 = false) (ha8 : a < 8) (hh : gk_hv M.2.1)
    (hp : ∀ u', xr_R w q (false, (if M.2.1 = 1 then 1 else 0), M.2.2) S A' V F G N sp u' → post u') : wpX_endActivation post u (nI a) := by
  obtain ⟨en, vs, vn, ft, fs, fc, ke, ks, kn, cn, ac, gs, rfl, hP⟩ := hR
  obtain ⟨hen, hv⟩ := hP.1 hb
  have ha := gk_Ia I
  have hvv := hv hh
  have hneg : nI a - 8 < 0 := pk_sneg (b := 8) (by decide) ha8
  refine nm_r (e' := nI A'.length) (nI_pred _) (br_c (fun z => nm_e (br_t hneg ?_)) (fun z => nm_e (br_t hneg ?_)))
  · rw [if_neg (by rw [← hen, z]; decide)] at hp
    exact hp _ ⟨0, vs, vn, ft, fs, fc, ke, ks, kn, cn, ac, gs, rfl, fun _ => ⟨rfl, fun _ => hvv⟩, hP.2.1.2, xr_Cm hP.2.2.1 xe_lv, hP.2.2.2⟩
  · have he : en = (if M.2.1 = 1 then 1 else 0) := by
      rcases hh with c | c | c
      · rw [hen, c]; rfl
      · rw [hen, c]; rfl
      · exact absurd (hen.trans c) z
    exact hp _ ⟨en, vs, vn, ft, fs, fc, ke, ks, kn, cn, ac, gs, rfl, fun _ => ⟨he, fun _ => hvv⟩, hP.2.1.2, xr_Cm hP.2.2.1 xe_lv, hP.2.2.2⟩
theorem xe_gs {g : Nat} {gs st cl : Nat → Int32} {gc : Nat} (h : ∀ g, g < gc → gs g = xr_g (st g) (cl g)) : ∀ i, i < gc → upd gs g 3 i = xr_g (upd st g 3 i) (cl i) := by
  intro i hi
  by_cases z : i = g
  · subst z
    rw [pk_us, pk_us, xr_g, if_neg (fun z => absurd z.1 (by decide))]
  · rw [pk_un z, pk_un z]
    exact h i hi
theorem xe_2 (I : gk_I w M S (a :: A') V F G nc sp) (hR : xr_R w q M S (a :: A') V F G N sp u) (hb : M.1 = false) {g : Nat} (hg : g < G.2.2.2) (hag : a = 8 + g) (h2 : G.1 g = 2) (hc : G.2.1 g = 0) (hh : gk_hv M.2.1)
    (hp : ∀ u', xr_R w q (false, (if M.2.1 = 1 then 1 else 0), M.2.2) S A' V F (upd G.1 g 3, G.2.1, G.2.2.1, G.2.2.2) N sp u' → post u') : wpX_endActivation post u (nI a) := by
  obtain ⟨en, vs, vn, ft, fs, fc, ke, ks, kn, cn, ac, gs, rfl, hP⟩ := hR
  obtain ⟨hen, hv⟩ := hP.1 hb
  have ha := gk_Ia I
  have hvc := I.2.2.2.2.1.2.2
  have egc : (nI g).toNatClampNeg = g := nI_clamp (by omega)
  have ig : vp_in (nI g) 8 := vp_in_nI (by omega) (by decide)
  have hng : ¬ nI g < 0 := nI_pos (by omega)
  have e8 : nI a - 8 = nI g := by rw [hag]; exact gk_g8
  have eg := hP.2.2.2 g hg
  have hvv := hv hh
  rw [xr_g, if_neg (fun z => absurd z.2 (by rw [hc]; decide)), h2] at eg
  refine nm_r (e' := nI A'.length) (nI_pred _) (br_c (fun z => nm_r e8 (br_f hng ⟨ig, br_f (by rw [egc, eg]; decide) ⟨ig, nm_r (e' := upd gs g 3) (by rw [egc]) ?_⟩⟩)) (fun z => nm_r e8 (br_f hng ⟨ig, br_f (by rw [egc, eg]; decide) ⟨ig, nm_r (e' := upd gs g 3) (by rw [egc]) ?_⟩⟩)))
  · rw [if_neg (by rw [← hen, z]; decide)] at hp
    exact hp _ ⟨0, vs, vn, ft, fs, fc, ke, ks, kn, cn, ac, upd gs g 3, rfl, fun _ => ⟨rfl, fun _ => hvv⟩, hP.2.1.2, xr_Cm hP.2.2.1 xe_lv, xe_gs hP.2.2.2⟩
  · have he : en = (if M.2.1 = 1 then 1 else 0) := by
      rcases hh with c | c | c
      · rw [hen, c]; rfl
      · rw [hen, c]; rfl
      · exact absurd (hen.trans c) z
    exact hp _ ⟨en, vs, vn, ft, fs, fc, ke, ks, kn, cn, ac, upd gs g 3, rfl, fun _ => ⟨he, fun _ => hvv⟩, hP.2.1.2, xr_Cm hP.2.2.1 xe_lv, xe_gs hP.2.2.2⟩
theorem xe_3 (I : gk_I w M S (a :: A') V F G nc sp) (hR : xr_R w q M S (a :: A') V F G N sp u) (hb : M.1 = false) {g : Nat} (hg : g < G.2.2.2) (hag : a = 8 + g) (h2 : G.1 g = 2) (hc : G.2.1 g = 1) (hh : M.2.1 = 1)
    (hp : ∀ u', xr_R w q (false, 1, M.2.2) S A' V F (upd G.1 g 3, G.2.1, G.2.2.1, G.2.2.2) N sp u' → post u') : wpX_endActivation post u (nI a) := by
  obtain ⟨en, vs, vn, ft, fs, fc, ke, ks, kn, cn, ac, gs, rfl, hP⟩ := hR
  obtain ⟨hen, hv⟩ := hP.1 hb
  have ha := gk_Ia I
  have hvc := I.2.2.2.2.1.2.2
  have egc : (nI g).toNatClampNeg = g := nI_clamp (by omega)
  have ig : vp_in (nI g) 8 := vp_in_nI (by omega) (by decide)
  have hng : ¬ nI g < 0 := nI_pos (by omega)
  have e8 : nI a - 8 = nI g := by rw [hag]; exact gk_g8
  have eg := hP.2.2.2 g hg
  have hvv := hv (Or.inr (Or.inl hh))
  rw [xr_g, if_pos ⟨h2, hc⟩] at eg
  refine nm_r (e' := nI A'.length) (nI_pred _) (br_f (by rw [hen, hh]; decide) (nm_r e8 (br_f hng ⟨ig, br_t (by rw [egc, eg]) (br_t (hen.trans hh) ⟨ig, nm_r (e' := upd gs g 3) (by rw [egc]) ?_⟩)⟩)))
  exact hp _ ⟨en, vs, vn, ft, fs, fc, ke, ks, kn, cn, ac, upd gs g 3, rfl, fun _ => ⟨hen.trans hh, fun _ => hvv⟩, hP.2.1.2, xr_Cm hP.2.2.1 xe_lv, xe_gs hP.2.2.2⟩
theorem xe_4 (I : gk_I w M S (a :: A') V F G nc sp) (hR : xr_R w q M S (a :: A') V F G N sp u) (hb : M.1 = false) {g : Nat} (hg : g < G.2.2.2) (hag : a = 8 + g) (h2 : G.1 g = 2) (hc : G.2.1 g = 1) (hh : M.2.1 ≠ 1)
    (hp : ∀ u', xr_R w q (false, 0, 0, 0) S A' V F (upd G.1 g 3, G.2.1, G.2.2.1, G.2.2.2) N sp u' → post u') : wpX_endActivation post u (nI a) := by
  obtain ⟨en, vs, vn, ft, fs, fc, ke, ks, kn, cn, ac, gs, rfl, hP⟩ := hR
  obtain ⟨hen, hv⟩ := hP.1 hb
  have ha := gk_Ia I
  have hvc := I.2.2.2.2.1.2.2
  have egc : (nI g).toNatClampNeg = g := nI_clamp (by omega)
  have ig : vp_in (nI g) 8 := vp_in_nI (by omega) (by decide)
  have hng : ¬ nI g < 0 := nI_pos (by omega)
  have e8 : nI a - 8 = nI g := by rw [hag]; exact gk_g8
  have eg := hP.2.2.2 g hg
  rw [xr_g, if_pos ⟨h2, hc⟩] at eg
  refine nm_r (e' := nI A'.length) (nI_pred _) (br_c (fun z => nm_r e8 (br_f hng ⟨ig, br_t (by rw [egc, eg]) (br_f (by decide) ⟨ig, nm_r (e' := upd gs g 3) (by rw [egc]) ?_⟩)⟩)) (fun z => nm_r e8 (br_f hng ⟨ig, br_t (by rw [egc, eg]) (br_f (by rw [hen]; exact hh) ⟨ig, nm_r (e' := upd gs g 3) (by rw [egc]) ?_⟩)⟩)))
  · exact hp _ ⟨0, 0, 0, ft, fs, fc, ke, ks, kn, cn, ac, upd gs g 3, rfl, fun _ => ⟨rfl, fun _ => ⟨rfl, rfl⟩⟩, hP.2.1.2, xr_Cm hP.2.2.1 xe_lv, xe_gs hP.2.2.2⟩
  · exact hp _ ⟨0, 0, 0, ft, fs, fc, ke, ks, kn, cn, ac, upd gs g 3, rfl, fun _ => ⟨rfl, fun _ => ⟨rfl, rfl⟩⟩, hP.2.1.2, xr_Cm hP.2.2.1 xe_lv, xe_gs hP.2.2.2⟩
end
