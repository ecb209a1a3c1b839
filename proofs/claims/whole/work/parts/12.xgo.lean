section
variable {w : gw_T} {q : xq_T} {M M' : gm_T} {S : Nat → List gf_T} {a : Nat} {A' : List Nat} {V : gv_T} {F : gp_T} {G : gg_T} {N : gn_T} {nc sp : Nat} {u : SX} {f : gf_T} {L : List gf_T} {post : SX → Prop}
variable {e0 s0 k1 k2 : Int32} {n0 k3 : Int64}
theorem xg_p3 (hw : gw_S w) (hq : xq_S w q) (I : gk_I w M S (a :: A') V F G nc sp) (hR : xr_R w q M S (a :: A') V F G N sp u) (hSa : S a = f :: L) (hb : M.1 = false) (hst : f.2.1 = 3) (hp : ∀ u', xr_R w q M (gk_su S a L) (a :: A') V F G N sp u' → post u') : wpX_goOn post u (nI (48 * a + L.length)) := by
  obtain ⟨en, vs, vn, ft, fs, fc, ke, ks, kn, cn, ac, gs, rfl, hP⟩ := hR
  have B := xo_mk hw I hSa hP
  have fo := xs_fo I hSa
  obtain ⟨hen, hv⟩ := hP.1 hb
  have hn := fo.2.2.2.2.2.1 hst
  obtain ⟨i1, i2, eK, eS, eT, eC⟩ := xs_in hw B fo.1 rfl hst
  refine ⟨i1, i2, nm_r eK ⟨i1, nm_r eS (br_f hn.1 (br_f hn.2 (br_c (fun c20 => br_f (by decide) ?_) (fun c20 => ?_))))⟩⟩
  · refine br_t c20 ?_
    exact xs_fas B (fun _ => ⟨hen, hv⟩) hp
  · refine br_f c20 (br_c (fun h0 => br_t (by decide) ?_) (fun h0 => ?_))
    · exact xs_fas B (fun _ => ⟨hen, hv⟩) hp
    · exact xs_fas B (fun _ => ⟨hen, hv⟩) hp
theorem xg_seq (hw : gw_S w) (hq : xq_S w q) (I : gk_I w M S (a :: A') V F G nc sp) (hR : xr_R w q M S (a :: A') V F G N sp u) (hSa : S a = f :: L) (hb : M.1 = false) (hh : M.2.1 = 0) (hst : f.2.1 = 1) (hk : gw_K w f.1 = 15) (hm : M'.1 = true)
    (hp : ∀ u', xr_R w q M' (gk_su S a ((gw_c w f.1 1, 0, f.2.2.1, e0, s0, n0) :: (f.1, 3, f.2.2.1, k1, k2, k3) :: L)) (a :: A') V F G N sp u' → post u') : wpX_goOn post u (nI (48 * a + L.length)) := by
  obtain ⟨en, vs, vn, ft, fs, fc, ke, ks, kn, cn, ac, gs, rfl, hP⟩ := hR
  have B := xo_mk hw I hSa hP
  have fo := xs_fo I hSa
  obtain ⟨hen, hv⟩ := hP.1 hb
  obtain ⟨i1, i2, eK, eS, eT, eC⟩ := xs_in hw B fo.1 hk hst
  have ho : gw_o w f.1 = 2 := by rw [hw.2.2.2.1 _ fo.1, hk]; decide
  have hc1 := xs_c1 hw hq fo.1 (by omega)
  refine ⟨i1, i2, nm_r eK ⟨i1, nm_r eS (br_f (by decide) (br_f (by decide) (br_f (by decide) (br_f (by decide) (br_t (hen.trans hh) (br_f (by decide) (br_t (by decide) ?_)))))))⟩⟩
  refine ⟨i1, nm_r eT ⟨i1, nm_r eC ?_⟩⟩
  repeat (refine br_f (by decide) ?_)
  refine br_t (by decide) ⟨hc1.1, ?_⟩
  exact xs_wop B (xs_room hw I hSa (by omega)) gk_32 hm rfl hc1.2 hp
theorem xg_ret (hw : gw_S w) (hq : xq_S w q) (I : gk_I w M S (a :: A') V F G nc sp) (hR : xr_R w q M S (a :: A') V F G N sp u) (hSa : S a = f :: L) (hb : M.1 = false) (hh : M.2.1 = 0) (hst : f.2.1 = 1) (hk : gw_K w f.1 = 18)
    (hp : ∀ u', xr_R w q (false, 4, M.2.2) (gk_su S a L) (a :: A') V F G N sp u' → post u') : wpX_goOn post u (nI (48 * a + L.length)) := by
  obtain ⟨en, vs, vn, ft, fs, fc, ke, ks, kn, cn, ac, gs, rfl, hP⟩ := hR
  have B := xo_mk hw I hSa hP
  have fo := xs_fo I hSa
  obtain ⟨hen, hv⟩ := hP.1 hb
  obtain ⟨i1, i2, eK, eS, eT, eC⟩ := xs_in hw B fo.1 hk hst
  refine ⟨i1, i2, nm_r eK ⟨i1, nm_r eS (br_f (by decide) (br_f (by decide) (br_f (by decide) (br_f (by decide) (br_t (hen.trans hh) (br_f (by decide) (br_t (by decide) ?_)))))))⟩⟩
  refine ⟨i1, nm_r eT ⟨i1, nm_r eC ?_⟩⟩
  repeat (refine br_f (by decide) ?_)
  refine br_t (by decide) ?_
  exact xs_fas (M' := (false, 4, M.2.2)) B (fun _ => ⟨rfl, fun _ => hv (Or.inl hh)⟩) hp
theorem xg_thr (hw : gw_S w) (hq : xq_S w q) (I : gk_I w M S (a :: A') V F G nc sp) (hR : xr_R w q M S (a :: A') V F G N sp u) (hSa : S a = f :: L) (hb : M.1 = false) (hh : M.2.1 = 0) (hst : f.2.1 = 1) (hk : gw_K w f.1 = 19)
    (hp : ∀ u', xr_R w q (false, 1, M.2.2) (gk_su S a L) (a :: A') V F G N sp u' → post u') : wpX_goOn post u (nI (48 * a + L.length)) := by
  obtain ⟨en, vs, vn, ft, fs, fc, ke, ks, kn, cn, ac, gs, rfl, hP⟩ := hR
  have B := xo_mk hw I hSa hP
  have fo := xs_fo I hSa
  obtain ⟨hen, hv⟩ := hP.1 hb
  obtain ⟨i1, i2, eK, eS, eT, eC⟩ := xs_in hw B fo.1 hk hst
  refine ⟨i1, i2, nm_r eK ⟨i1, nm_r eS (br_f (by decide) (br_f (by decide) (br_f (by decide) (br_f (by decide) (br_t (hen.trans hh) (br_f (by decide) (br_t (by decide) ?_)))))))⟩⟩
  refine ⟨i1, nm_r eT ⟨i1, nm_r eC ?_⟩⟩
  repeat (refine br_f (by decide) ?_)
  refine br_t (by decide) ?_
  exact xs_fas (M' := (false, 1, M.2.2)) B (fun _ => ⟨rfl, fun _ => hv (Or.inl hh)⟩) hp
theorem xg_pw1 (hw : gw_S w) (hq : xq_S w q) (I : gk_I w M S (a :: A') V F G nc sp) (hR : xr_R w q M S (a :: A') V F G N sp u) (hSa : S a = f :: L) (hb : M.1 = false) (hh : M.2.1 ≠ 0) (hst : f.2.1 = 1) (hk : gw_K w f.1 = 14)
    (hp : ∀ u', xr_R w q M (gk_su S a L) (a :: A') V F G N sp u' → post u') : wpX_goOn post u (nI (48 * a + L.length)) := by
  obtain ⟨en, vs, vn, ft, fs, fc, ke, ks, kn, cn, ac, gs, rfl, hP⟩ := hR
  have B := xo_mk hw I hSa hP
  have fo := xs_fo I hSa
  obtain ⟨hen, hv⟩ := hP.1 hb
  obtain ⟨i1, i2, eK, eS, eT, eC⟩ := xs_in hw B fo.1 hk hst
  refine ⟨i1, i2, nm_r eK ⟨i1, nm_r eS (br_t (by decide) ?_)⟩⟩
  refine ⟨i1, nm_r eT ⟨i1, nm_r eC (br_t (by decide) (br_f (by rw [hen]; exact hh) (br_f (by decide) (br_f (by decide) ?_))))⟩⟩
  exact xs_fas B (fun _ => ⟨hen, hv⟩) hp
theorem xg_pw2 (hw : gw_S w) (hq : xq_S w q) (I : gk_I w M S (a :: A') V F G nc sp) (hR : xr_R w q M S (a :: A') V F G N sp u) (hSa : S a = f :: L) (hb : M.1 = false) (h0 : M.2.1 ≠ 0) (h3 : M.2.1 ≠ 3) (h2 : M.2.1 ≠ 2) (hst : f.2.1 = 2) (hk : gw_K w f.1 = 14)
    (hp : ∀ u', xr_R w q M (gk_su S a L) (a :: A') V F G N sp u' → post u') : wpX_goOn post u (nI (48 * a + L.length)) := by
  obtain ⟨en, vs, vn, ft, fs, fc, ke, ks, kn, cn, ac, gs, rfl, hP⟩ := hR
  have B := xo_mk hw I hSa hP
  have fo := xs_fo I hSa
  obtain ⟨hen, hv⟩ := hP.1 hb
  obtain ⟨i1, i2, eK, eS, eT, eC⟩ := xs_in hw B fo.1 hk hst
  refine ⟨i1, i2, nm_r eK ⟨i1, nm_r eS (br_t (by decide) ?_)⟩⟩
  refine ⟨i1, nm_r eT ⟨i1, nm_r eC (br_f (by decide) (br_t (by decide) (br_f (by rw [hen]; exact h0) (br_f (by rw [hen]; exact h3) (br_t (by decide) (br_f (by rw [hen]; exact h2) ?_))))))⟩⟩
  exact xs_fas B (fun _ => ⟨hen, hv⟩) hp
theorem xg_w1t (hw : gw_S w) (hq : xq_S w q) (I : gk_I w M S (a :: A') V F G nc sp) (hR : xr_R w q M S (a :: A') V F G N sp u) (hSa : S a = f :: L) (hb : M.1 = false) (hh : M.2.1 = 0) (hst : f.2.1 = 1) (hk : gw_K w f.1 = 14) (ht : gk_tr M.2.2.1 M.2.2.2 = true) (hm : M'.1 = true)
    (hp : ∀ u', xr_R w q M' (gk_su S a ((gw_c w f.1 1, 0, f.2.2.1, e0, s0, n0) :: (f.1, 2, f.2.2.1, k1, k2, k3) :: L)) (a :: A') V F G N sp u' → post u') : wpX_goOn post u (nI (48 * a + L.length)) := by
  obtain ⟨en, vs, vn, ft, fs, fc, ke, ks, kn, cn, ac, gs, rfl, hP⟩ := hR
  have B := xo_mk hw I hSa hP
  have fo := xs_fo I hSa
  obtain ⟨hen, hv⟩ := hP.1 hb
  obtain ⟨i1, i2, eK, eS, eT, eC⟩ := xs_in hw B fo.1 hk hst
  have ho : gw_o w f.1 = 2 := by rw [hw.2.2.2.1 _ fo.1, hk]; decide
  have hc1 := xs_c1 hw hq fo.1 (by omega)
  have hvv := hv (Or.inl hh)
  refine ⟨i1, i2, nm_r eK ⟨i1, nm_r eS (br_t (by decide) ?_)⟩⟩
  refine ⟨i1, nm_r eT ⟨i1, nm_r eC (br_t (by decide) (br_t (hen.trans hh) ?_))⟩⟩
  refine xm_true hvv.1 hvv.2 ?_
  rw [if_pos ht]
  refine br_f (by decide) ⟨hc1.1, ?_⟩
  exact xs_wop B (xs_room hw I hSa (by omega)) (fun _ z => absurd hk z) hm rfl hc1.2 hp
theorem xg_w1f (hw : gw_S w) (hq : xq_S w q) (I : gk_I w M S (a :: A') V F G nc sp) (hR : xr_R w q M S (a :: A') V F G N sp u) (hSa : S a = f :: L) (hb : M.1 = false) (hh : M.2.1 = 0) (hst : f.2.1 = 1) (hk : gw_K w f.1 = 14) (ht : ¬ gk_tr M.2.2.1 M.2.2.2 = true)
    (hp : ∀ u', xr_R w q (false, 0, 0, 0) (gk_su S a L) (a :: A') V F G N sp u' → post u') : wpX_goOn post u (nI (48 * a + L.length)) := by
  obtain ⟨en, vs, vn, ft, fs, fc, ke, ks, kn, cn, ac, gs, rfl, hP⟩ := hR
  have B := xo_mk hw I hSa hP
  have fo := xs_fo I hSa
  obtain ⟨hen, hv⟩ := hP.1 hb
  obtain ⟨i1, i2, eK, eS, eT, eC⟩ := xs_in hw B fo.1 hk hst
  have hvv := hv (Or.inl hh)
  refine ⟨i1, i2, nm_r eK ⟨i1, nm_r eS (br_t (by decide) ?_)⟩⟩
  refine ⟨i1, nm_r eT ⟨i1, nm_r eC (br_t (by decide) (br_t (hen.trans hh) ?_))⟩⟩
  refine xm_true hvv.1 hvv.2 ?_
  rw [if_neg ht]
  refine br_t (by decide) ?_
  exact xs_fin B hp
theorem xg_w2 (hw : gw_S w) (hq : xq_S w q) (I : gk_I w M S (a :: A') V F G nc sp) (hR : xr_R w q M S (a :: A') V F G N sp u) (hSa : S a = f :: L) (hb : M.1 = false) (hh : M.2.1 = 0 ∨ M.2.1 = 3) (hst : f.2.1 = 2) (hk : gw_K w f.1 = 14) (hm : M'.1 = true)
    (hp : ∀ u', xr_R w q M' (gk_su S a ((gw_c w f.1 0, 0, f.2.2.1, e0, s0, n0) :: (f.1, 1, f.2.2.1, k1, k2, k3) :: L)) (a :: A') V F G N sp u' → post u') : wpX_goOn post u (nI (48 * a + L.length)) := by
  obtain ⟨en, vs, vn, ft, fs, fc, ke, ks, kn, cn, ac, gs, rfl, hP⟩ := hR
  have B := xo_mk hw I hSa hP
  have fo := xs_fo I hSa
  obtain ⟨hen, hv⟩ := hP.1 hb
  obtain ⟨i1, i2, eK, eS, eT, eC⟩ := xs_in hw B fo.1 hk hst
  have ho : gw_o w f.1 = 2 := by rw [hw.2.2.2.1 _ fo.1, hk]; decide
  have hc1 := xs_c1 hw hq fo.1 (by omega)
  refine ⟨i1, i2, nm_r eK ⟨i1, nm_r eS (br_t (by decide) ?_)⟩⟩
  refine ⟨i1, nm_r eT ⟨i1, nm_r eC (br_f (by decide) (br_t (by decide) ?_))⟩⟩
  rcases hh with hh | hh
  · refine br_t (hen.trans hh) ?_
    exact xs_wop B (xs_room hw I hSa (by omega)) (fun _ z => absurd hk z) hm rfl xs_c0 hp
  · refine br_f (by rw [hen, hh]; decide) (br_t (hen.trans hh) ?_)
    exact xs_wop B (xs_room hw I hSa (by omega)) (fun _ z => absurd hk z) hm rfl xs_c0 hp
theorem xg_w2b (hw : gw_S w) (hq : xq_S w q) (I : gk_I w M S (a :: A') V F G nc sp) (hR : xr_R w q M S (a :: A') V F G N sp u) (hSa : S a = f :: L) (hb : M.1 = false) (hh : M.2.1 = 2) (hst : f.2.1 = 2) (hk : gw_K w f.1 = 14)
    (hp : ∀ u', xr_R w q (false, 0, 0, 0) (gk_su S a L) (a :: A') V F G N sp u' → post u') : wpX_goOn post u (nI (48 * a + L.length)) := by
  obtain ⟨en, vs, vn, ft, fs, fc, ke, ks, kn, cn, ac, gs, rfl, hP⟩ := hR
  have B := xo_mk hw I hSa hP
  have fo := xs_fo I hSa
  obtain ⟨hen, hv⟩ := hP.1 hb
  obtain ⟨i1, i2, eK, eS, eT, eC⟩ := xs_in hw B fo.1 hk hst
  refine ⟨i1, i2, nm_r eK ⟨i1, nm_r eS (br_t (by decide) ?_)⟩⟩
  refine ⟨i1, nm_r eT ⟨i1, nm_r eC (br_f (by decide) (br_t (by decide) (br_f (by rw [hen, hh]; decide) (br_f (by rw [hen, hh]; decide) (br_t (by decide) (br_t (hen.trans hh) ?_))))))⟩⟩
  exact xs_fin B hp
theorem xg_f1 (hw : gw_S w) (hq : xq_S w q) (I : gk_I w M S (a :: A') V F G nc sp) (hR : xr_R w q M S (a :: A') V F G N sp u) (hSa : S a = f :: L) (hb : M.1 = false) (hst : f.2.1 = 1) (hk : gw_K w f.1 = 21) (hm : M'.1 = true)
    (hp : ∀ u', xr_R w q M' (gk_su S a ((gw_c w f.1 1, 0, f.2.2.1, e0, s0, n0) :: (f.1, 2, f.2.2.1, M.2) :: L)) (a :: A') V F G N sp u' → post u') : wpX_goOn post u (nI (48 * a + L.length)) := by
  obtain ⟨en, vs, vn, ft, fs, fc, ke, ks, kn, cn, ac, gs, rfl, hP⟩ := hR
  have B := xo_mk hw I hSa hP
  have fo := xs_fo I hSa
  obtain ⟨hen, hv⟩ := hP.1 hb
  obtain ⟨i1, i2, eK, eS, eT, eC⟩ := xs_in hw B fo.1 hk hst
  have ho : gw_o w f.1 = 2 := by rw [hw.2.2.2.1 _ fo.1, hk]; decide
  have hc1 := xs_c1 hw hq fo.1 (by omega)
  have hl := xo_l B
  have ha := B.1
  have ek : (nI (48 * a + L.length)).toNatClampNeg = 48 * a + L.length := nI_clamp (by omega)
  refine ⟨i1, i2, nm_r eK ⟨i1, nm_r eS (br_f (by decide) (br_t (by decide) (br_t (by decide) ⟨i1, nm_r (e' := upd ke (48 * a + L.length) en) (by rw [ek]) ?_⟩)))⟩⟩
  refine xm_keep (by omega) ⟨i1, ?_⟩
  have hc2 := hc1
  rw [← eT] at hc2
  refine ⟨hc2.1, i1, ?_⟩
  have B2 : xo_B w S A' a f L G ft fs fc (upd ke (48 * a + L.length) en) (upd ks (48 * a + L.length) vs) (vp_updL kn (48 * a + L.length) vn) cn ac gs :=
    ⟨B.1, B.2.1, B.2.2.1, B.2.2.2.1, B.2.2.2.2.1, xr_keep B.2.2.2.2.2.1 B.1 xo_lv B.2.2.1 B.2.2.2.1 hst _ (fun i hi => pk_un hi) hl, B.2.2.2.2.2.2⟩
  rw [eC]
  refine xs_wop B2 (xs_room hw I hSa (by omega)) (fun _ _ => ⟨fun _ => ?_, fun z => ⟨?_, ?_⟩⟩) hm rfl hc2.2 hp
  · rw [pk_us]; exact hen
  · rw [pk_us]; exact (hv z).1
  · rw [pk_uLs]; exact (hv z).2
theorem xg_f2 (hw : gw_S w) (hq : xq_S w q) (I : gk_I w M S (a :: A') V F G nc sp) (hR : xr_R w q M S (a :: A') V F G N sp u) (hSa : S a = f :: L) (hb : M.1 = false) (hh : M.2.1 = 0) (hst : f.2.1 = 2) (hk : gw_K w f.1 = 21)
    (hp : ∀ u', xr_R w q (false, f.2.2.2) (gk_su S a L) (a :: A') V F G N sp u' → post u') : wpX_goOn post u (nI (48 * a + L.length)) := by
  obtain ⟨en, vs, vn, ft, fs, fc, ke, ks, kn, cn, ac, gs, rfl, hP⟩ := hR
  have B := xo_mk hw I hSa hP
  have fo := xs_fo I hSa
  obtain ⟨hen, hv⟩ := hP.1 hb
  obtain ⟨i1, i2, eK, eS, eT, eC⟩ := xs_in hw B fo.1 hk hst
  have hl := xo_l B
  have ha := B.1
  have ek : (nI (48 * a + L.length)).toNatClampNeg = 48 * a + L.length := nI_clamp (by omega)
  have hx := (xo_f B).2.2.2 hst (by rw [hk]; decide)
  refine ⟨i1, i2, nm_r eK ⟨i1, nm_r eS (br_f (by decide) (br_t (by decide) (br_f (by decide) (br_t (hen.trans hh) ?_))))⟩⟩
  refine ⟨i1, nm_r (e' := ks (48 * a + L.length)) (by rw [ek]) ⟨i1, nm_r (e' := kn (48 * a + L.length)) (by rw [ek]) ⟨i1, ?_⟩⟩⟩
  rw [ek]
  exact xs_fas (M' := (false, f.2.2.2)) B (fun _ => ⟨hx.1 hk, fun z => hx.2 z⟩) hp
theorem xg_f2p (hw : gw_S w) (hq : xq_S w q) (I : gk_I w M S (a :: A') V F G nc sp) (hR : xr_R w q M S (a :: A') V F G N sp u) (hSa : S a = f :: L) (hb : M.1 = false) (hh : M.2.1 ≠ 0) (hst : f.2.1 = 2) (hk : gw_K w f.1 = 21)
    (hp : ∀ u', xr_R w q M (gk_su S a L) (a :: A') V F G N sp u' → post u') : wpX_goOn post u (nI (48 * a + L.length)) := by
  obtain ⟨en, vs, vn, ft, fs, fc, ke, ks, kn, cn, ac, gs, rfl, hP⟩ := hR
  have B := xo_mk hw I hSa hP
  have fo := xs_fo I hSa
  obtain ⟨hen, hv⟩ := hP.1 hb
  obtain ⟨i1, i2, eK, eS, eT, eC⟩ := xs_in hw B fo.1 hk hst
  refine ⟨i1, i2, nm_r eK ⟨i1, nm_r eS (br_f (by decide) (br_t (by decide) (br_f (by decide) (br_f (by rw [hen]; exact hh) ?_))))⟩⟩
  exact xs_fas B (fun _ => ⟨hen, hv⟩) hp
theorem xg_pt (hw : gw_S w) (hq : xq_S w q) (I : gk_I w M S (a :: A') V F G nc sp) (hR : xr_R w q M S (a :: A') V F G N sp u) (hSa : S a = f :: L) (hb : M.1 = false) (hh : M.2.1 ≠ 1) (hst : f.2.1 = 1) (hk : gw_K w f.1 = 20)
    (hp : ∀ u', xr_R w q M (gk_su S a L) (a :: A') V F G N sp u' → post u') : wpX_goOn post u (nI (48 * a + L.length)) := by
  obtain ⟨en, vs, vn, ft, fs, fc, ke, ks, kn, cn, ac, gs, rfl, hP⟩ := hR
  have B := xo_mk hw I hSa hP
  have fo := xs_fo I hSa
  obtain ⟨hen, hv⟩ := hP.1 hb
  obtain ⟨i1, i2, eK, eS, eT, eC⟩ := xs_in hw B fo.1 hk hst
  refine ⟨i1, i2, nm_r eK ⟨i1, nm_r eS (br_f (by decide) (br_f (by decide) (br_t (by decide) (br_t (by decide) (br_f (by rw [hen]; exact hh) (br_t (by decide) ?_))))))⟩⟩
  exact xs_fas B (fun _ => ⟨hen, hv⟩) hp
theorem xg_pn (hw : gw_S w) (hq : xq_S w q) (I : gk_I w M S (a :: A') V F G nc sp) (hR : xr_R w q M S (a :: A') V F G N sp u) (hSa : S a = f :: L) (hb : M.1 = false) (hh : M.2.1 ≠ 0) (h14 : gw_K w f.1 ≠ 14) (h21 : gw_K w f.1 ≠ 21) (h20 : gw_K w f.1 ≠ 20)
    (hp : ∀ u', xr_R w q M (gk_su S a L) (a :: A') V F G N sp u' → post u') : wpX_goOn post u (nI (48 * a + L.length)) := by
  obtain ⟨en, vs, vn, ft, fs, fc, ke, ks, kn, cn, ac, gs, rfl, hP⟩ := hR
  have B := xo_mk hw I hSa hP
  have fo := xs_fo I hSa
  obtain ⟨hen, hv⟩ := hP.1 hb
  obtain ⟨i1, i2, eK, eS, eT, eC⟩ := xs_in hw B fo.1 rfl rfl
  refine ⟨i1, i2, nm_r eK ⟨i1, nm_r eS (br_f h14 (br_f h21 (br_f h20 (br_f h20 (br_f (by rw [hen]; exact hh) ?_)))))⟩⟩
  exact xs_fas B (fun _ => ⟨hen, hv⟩) hp
theorem xg_bag (hw : gw_S w) (hq : xq_S w q) (I : gk_I w M S (a :: A') V F G nc sp) (hSa : S a = f :: L) {en vs : Int32} {vn : Int64} {ft fs fc ke ks : Nat → Int32} {kn : Nat → Int64} {cn ac gs : Nat → Int32}
    (B : xo_B w S A' a f L G ft fs fc ke ks kn cn ac gs) (ho : gw_o w f.1 = 2) (hst : f.2.1 = 1) (hm : M'.1 = true)
    (hp : ∀ u', xr_R w q M' (gk_su S a ((gw_c w f.1 1, 0, nI V.2.2.2.2, e0, s0, n0) :: (f.1, 3, f.2.2.1, k1, k2, k3) :: L)) (a :: A') (gk_bd V (nI f.1) f.2.2.1 vs vn) F G N sp u' → post u') :
    wpX_bindAndGoOn post (xr_t w q (a :: A') V F G.2.2.2 N sp en vs vn ft fs fc ke ks kn cn ac gs) (nI (48 * a + L.length)) := by
  have fo := xs_fo I hSa
  obtain ⟨i1, i2, eK, eS, eT, eC⟩ := xs_in hw B fo.1 rfl hst
  have hc1 := xs_c1 hw hq fo.1 (by omega)
  have h5 := I.2.2.2.2.1
  have hy : 0 < gk_sm gk_yl S 16 := by
    have h := gk_sms gk_yl S a [] 16 B.1
    have h2 : gk_yl (S a) = gk_yl L + 1 := by rw [hSa]; exact if_pos (Or.inl hst)
    have h3 : gk_yl [] = 0 := rfl
    omega
  refine ⟨i1, nm_r eT ⟨i1, ?_⟩⟩
  rw [eC]
  refine xm_newVar (v := V.2.2.2.2) rfl (by omega) ⟨hc1.1, ?_⟩
  exact xs_wop (V := gk_bd V (nI f.1) f.2.2.1 vs vn) B (xs_room hw I hSa (by omega)) gk_32 hm rfl hc1.2 hp
theorem xg_try (hw : gw_S w) (hq : xq_S w q) (I : gk_I w M S (a :: A') V F G nc sp) (hR : xr_R w q M S (a :: A') V F G N sp u) (hSa : S a = f :: L) (hb : M.1 = false) (hh : M.2.1 = 1) (hst : f.2.1 = 1) (hk : gw_K w f.1 = 20) (hm : M'.1 = true)
    (hp : ∀ u', xr_R w q M' (gk_su S a ((gw_c w f.1 1, 0, nI V.2.2.2.2, e0, s0, n0) :: (f.1, 3, f.2.2.1, k1, k2, k3) :: L)) (a :: A') (gk_bd V (nI f.1) f.2.2.1 M.2.2.1 M.2.2.2) F G N sp u' → post u') : wpX_goOn post u (nI (48 * a + L.length)) := by
  obtain ⟨en, vs, vn, ft, fs, fc, ke, ks, kn, cn, ac, gs, rfl, hP⟩ := hR
  have B := xo_mk hw I hSa hP
  have fo := xs_fo I hSa
  obtain ⟨hen, hv⟩ := hP.1 hb
  obtain ⟨i1, i2, eK, eS, eT, eC⟩ := xs_in hw B fo.1 hk hst
  have ho : gw_o w f.1 = 2 := by rw [hw.2.2.2.1 _ fo.1, hk]; decide
  obtain ⟨rfl, rfl⟩ := hv (Or.inr (Or.inl hh))
  refine ⟨i1, i2, nm_r eK ⟨i1, nm_r eS (br_f (by decide) (br_f (by decide) (br_t (by decide) (br_t (by decide) (br_t (hen.trans hh) ?_)))))⟩⟩
  exact xg_bag hw hq I hSa B ho hst hm hp
theorem xg_let (hw : gw_S w) (hq : xq_S w q) (I : gk_I w M S (a :: A') V F G nc sp) (hR : xr_R w q M S (a :: A') V F G N sp u) (hSa : S a = f :: L) (hb : M.1 = false) (hh : M.2.1 = 0) (hst : f.2.1 = 1) (hk : gw_K w f.1 = 4) (hm : M'.1 = true)
    (hp : ∀ u', xr_R w q M' (gk_su S a ((gw_c w f.1 1, 0, nI V.2.2.2.2, e0, s0, n0) :: (f.1, 3, f.2.2.1, k1, k2, k3) :: L)) (a :: A') (gk_bd V (nI f.1) f.2.2.1 M.2.2.1 M.2.2.2) F G N sp u' → post u') : wpX_goOn post u (nI (48 * a + L.length)) := by
  obtain ⟨en, vs, vn, ft, fs, fc, ke, ks, kn, cn, ac, gs, rfl, hP⟩ := hR
  have B := xo_mk hw I hSa hP
  have fo := xs_fo I hSa
  obtain ⟨hen, hv⟩ := hP.1 hb
  obtain ⟨i1, i2, eK, eS, eT, eC⟩ := xs_in hw B fo.1 hk hst
  have ho : gw_o w f.1 = 2 := by rw [hw.2.2.2.1 _ fo.1, hk]; decide
  obtain ⟨rfl, rfl⟩ := hv (Or.inl hh)
  refine ⟨i1, i2, nm_r eK ⟨i1, nm_r eS (br_f (by decide) (br_f (by decide) (br_f (by decide) (br_f (by decide) (br_t (hen.trans hh) (br_f (by decide) (br_t (by decide) ?_)))))))⟩⟩
  refine ⟨i1, nm_r eT ⟨i1, nm_r eC ?_⟩⟩
  repeat (refine br_f (by decide) ?_)
  refine br_t (by decide) ?_
  exact xg_bag hw hq I hSa B ho hst hm hp
theorem xg_if (hw : gw_S w) (hq : xq_S w q) (I : gk_I w M S (a :: A') V F G nc sp) (hR : xr_R w q M S (a :: A') V F G N sp u) (hSa : S a = f :: L) (hb : M.1 = false) (hh : M.2.1 = 0) (hst : f.2.1 = 1) (hk : gw_K w f.1 = 13) (hm : M'.1 = true)
    (hp : ∀ u', xr_R w q M' (gk_su S a ((gw_c w f.1 (if gk_tr M.2.2.1 M.2.2.2 = true then 1 else 2), 0, f.2.2.1, e0, s0, n0) :: (f.1, 3, f.2.2.1, k1, k2, k3) :: L)) (a :: A') V F G N sp u' → post u') : wpX_goOn post u (nI (48 * a + L.length)) := by
  obtain ⟨en, vs, vn, ft, fs, fc, ke, ks, kn, cn, ac, gs, rfl, hP⟩ := hR
  have B := xo_mk hw I hSa hP
  have fo := xs_fo I hSa
  obtain ⟨hen, hv⟩ := hP.1 hb
  obtain ⟨i1, i2, eK, eS, eT, eC⟩ := xs_in hw B fo.1 hk hst
  have ho : gw_o w f.1 = 3 := by rw [hw.2.2.2.1 _ fo.1, hk]; decide
  have hc1 := xs_c1 hw hq fo.1 (by omega)
  have hc2 := xs_c2 hw hq fo.1 (by omega)
  have hvv := hv (Or.inl hh)
  refine ⟨i1, i2, nm_r eK ⟨i1, nm_r eS (br_f (by decide) (br_f (by decide) (br_f (by decide) (br_f (by decide) (br_t (hen.trans hh) (br_f (by decide) (br_t (by decide) ?_)))))))⟩⟩
  refine ⟨i1, nm_r eT ⟨i1, nm_r eC ?_⟩⟩
  repeat (refine br_f (by decide) ?_)
  refine br_t (by decide) ⟨hc1.1, nm_r hc1.2 ?_⟩
  refine xm_true hvv.1 hvv.2 ?_
  by_cases ht : gk_tr M.2.2.1 M.2.2.2 = true
  · rw [if_pos ht] at hp ⊢
    refine br_f (by decide) ?_
    exact xs_wop B (xs_room hw I hSa (by omega)) gk_32 hm rfl rfl hp
  · rw [if_neg ht] at hp ⊢
    refine br_t (by decide) ⟨hc2.1, ?_⟩
    exact xs_wop B (xs_room hw I hSa (by omega)) gk_32 hm rfl hc2.2 hp
theorem xg_eag (hw : gw_S w) (hq : xq_S w q) (I : gk_I w M S (a :: A') V F G nc sp) (hR : xr_R w q M S (a :: A') V F G N sp u) (hSa : S a = f :: L) (hb : M.1 = false) (hh : M.2.1 = 0) (hst : f.2.1 = 1) (hk : gk_eag (gw_K w f.1)) (hm : M'.1 = true)
    (hp : ∀ u', xr_R w q M' (gk_su S a ((gw_c w f.1 1, 0, f.2.2.1, e0, s0, n0) :: (f.1, 2, f.2.2.1, M.2) :: L)) (a :: A') V F G N sp u' → post u') : wpX_goOn post u (nI (48 * a + L.length)) := by
  obtain ⟨en, vs, vn, ft, fs, fc, ke, ks, kn, cn, ac, gs, rfl, hP⟩ := hR
  have B := xo_mk hw I hSa hP
  have fo := xs_fo I hSa
  obtain ⟨hen, hv⟩ := hP.1 hb
  have hl := xo_l B
  have ha := B.1
  have hvv := hv (Or.inl hh)
  have B2 : xo_B w S A' a f L G ft fs fc ke (upd ks (48 * a + L.length) vs) (vp_updL kn (48 * a + L.length) vn) cn ac gs :=
    ⟨B.1, B.2.1, B.2.2.1, B.2.2.2.1, B.2.2.2.2.1, xr_keep B.2.2.2.2.2.1 B.1 xo_lv B.2.2.1 B.2.2.2.1 hst _ (fun i hi => rfl) hl, B.2.2.2.2.2.2⟩
  have n21 : gw_K w f.1 ≠ 21 := by
    intro z
    rw [z] at hk
    exact absurd hk (by unfold gk_eag; decide)
  have key : ∀ kd : Int32, gw_K w f.1 = kd → (kd = 6 ∨ kd = 7 ∨ kd = 8 ∨ kd = 9 ∨ kd = 10 ∨ kd = 11 ∨ kd = 12 ∨ kd = 23) → wpX_goOn post (xr_t w q (a :: A') V F G.2.2.2 N sp en vs vn ft fs fc ke ks kn cn ac gs) (nI (48 * a + L.length)) := by
    intro kd hk hd
    obtain ⟨i1, i2, eK, eS, eT, eC⟩ := xs_in hw B fo.1 hk hst
    have ho : gw_o w f.1 = 2 := by
      rw [hw.2.2.2.1 _ fo.1, hk]
      rcases hd with rfl | rfl | rfl | rfl | rfl | rfl | rfl | rfl <;> decide
    have hc1 := xs_c1 hw hq fo.1 (by omega)
    have fin : wX_goOnBehindFirst_255 post (nI (48 * a + L.length)) (nI f.1) f.2.2.1 q.1 q.2.1 q.2.2.1 (nI (a :: A').length) (nI V.2.2.2.2) (nI F.2.2) (nI G.2.2.2) en vs vn (nI N.2.2) (nI sp) q.2.2.2.1 q.2.2.2.2.1 q.2.2.2.2.2.1 (gw_K w) (gw_v w) q.2.2.2.2.2.2.1 q.2.2.2.2.2.2.2.1 q.2.2.2.2.2.2.2.2 (gw_mn w) (gw_gn w) ft fs fc ke ks kn cn ac V.1 V.2.1 V.2.2.1 V.2.2.2.1 F.1 F.2.1 gs N.1 N.2.1 := by
      refine xm_keep (by omega) ⟨hc1.1, ?_⟩
      refine xs_wop B2 (xs_room hw I hSa (by omega)) (fun _ _ => ⟨fun z => absurd z n21, fun _ => ⟨?_, ?_⟩⟩) hm rfl hc1.2 hp
      · rw [pk_us]; exact hvv.1
      · rw [pk_uLs]; exact hvv.2
    rcases hd with rfl | rfl | rfl | rfl | rfl | rfl | rfl | rfl
    all_goals
      refine ⟨i1, i2, nm_r eK ⟨i1, nm_r eS (br_f (by decide) (br_f (by decide) (br_f (by decide) (br_f (by decide) (br_t (hen.trans hh) (br_f (by decide) (br_t (by decide) ?_)))))))⟩⟩
      refine ⟨i1, nm_r eT ⟨i1, nm_r eC ?_⟩⟩
      repeat (refine br_f (by decide) ?_)
      exact br_t (by decide) fin
  exact key _ rfl hk
end
