section
variable {w : gw_T} {q : xq_T} {M M' : gm_T} {S : Nat → List gf_T} {a : Nat} {A' : List Nat} {V : gv_T} {F : gp_T} {G : gg_T} {N : gn_T} {nc sp : Nat} {u : SX} {f : gf_T} {L : List gf_T} {post : SX → Prop}
variable {e0 s0 k1 k2 : Int32} {n0 k3 : Int64}
theorem xg_cl3 (hw : gw_S w) (hq : xq_S w q) (I : gk_I w M S (a :: A') V F G nc sp) (hR : xr_R w q M S (a :: A') V F G N sp u) (hSa : S a = f :: L) (hb : M.1 = false) (hh : M.2.1 = 0) (hst : f.2.1 = 1) (hk : gw_K w f.1 = 25) (hs : M.2.2.1 ≠ 4)
    (hp : ∀ u', xr_R w q (false, 1, 1, (-3 : Int32).toInt64) (gk_su S a L) (a :: A') V F G N sp u' → post u') : wpX_goOn post u (nI (48 * a + L.length)) := by
  obtain ⟨en, vs, vn, ft, fs, fc, ke, ks, kn, cn, ac, gs, rfl, hP⟩ := hR
  have B := xo_mk hw I hSa hP
  have fo := xs_fo I hSa
  obtain ⟨hen, hv⟩ := hP.1 hb
  obtain ⟨i1, i2, eK, eS, eT, eC⟩ := xs_in hw B fo.1 hk hst
  have hvv := hv (Or.inl hh)
  refine ⟨i1, i2, nm_r eK ⟨i1, nm_r eS (br_f (by decide) (br_f (by decide) (br_f (by decide) (br_f (by decide) (br_t (hen.trans hh) (br_f (by decide) (br_t (by decide) ?_)))))))⟩⟩
  refine ⟨i1, nm_r eT ⟨i1, nm_r eC ?_⟩⟩
  repeat (refine br_f (by decide) ?_)
  refine br_t (by decide) (br_f (by rw [hvv.1]; exact hs) ?_)
  exact xs_thr B hp
theorem xg_clE (hw : gw_S w) (hq : xq_S w q) (I : gk_I w M S (a :: A') V F G nc sp) (hR : xr_R w q M S (a :: A') V F G N sp u) (hSa : S a = f :: L) (hb : M.1 = false) (hh : M.2.1 = 0) (hst : f.2.1 = 1) (hk : gw_K w f.1 = 25) {g : Nat} (hg : g < G.2.2.2) (hs : M.2.2.1 = 4) (hx : M.2.2.2 = lN g) (h03 : G.1 g = 0 ∨ G.1 g = 3)
    (hp : ∀ u', xr_R w q (false, 0, 0, 0) (gk_su S a L) (a :: A') V F (upd G.1 g 3, G.2.1, G.2.2.1, G.2.2.2) N sp u' → post u') : wpX_goOn post u (nI (48 * a + L.length)) := by
  obtain ⟨en, vs, vn, ft, fs, fc, ke, ks, kn, cn, ac, gs, rfl, hP⟩ := hR
  have B := xo_mk hw I hSa hP
  have fo := xs_fo I hSa
  obtain ⟨hen, hv⟩ := hP.1 hb
  obtain ⟨i1, i2, eK, eS, eT, eC⟩ := xs_in hw B fo.1 hk hst
  have hvc := xg_vc I
  have hvv := hv (Or.inl hh)
  have ev : vn.toInt32 = nI g := by rw [hvv.2, hx, lN_i]
  have egc : (nI g).toNatClampNeg = g := nI_clamp (by omega)
  have ig : vp_in vn.toInt32 8 := by rw [ev]; exact vp_in_nI (by omega) (by decide)
  have eg : gs (vn.toInt32).toNatClampNeg = xr_g (G.1 g) (G.2.1 g) := by rw [ev, egc]; exact B.2.2.2.2.2.2 g hg
  have B2 : xo_B w S A' a f L (upd G.1 g 3, G.2.1, G.2.2.1, G.2.2.2) ft fs fc ke ks kn cn ac (upd gs g 3) := by
    refine ⟨B.1, B.2.1, B.2.2.1, B.2.2.2.1, B.2.2.2.2.1, B.2.2.2.2.2.1, ?_⟩
    intro i hi
    show upd gs g 3 i = xr_g (upd G.1 g 3 i) (G.2.1 i)
    by_cases z : i = g
    · subst z
      rw [pk_us, pk_us, xr_g, if_neg (fun z => absurd z.1 (by decide))]
    · rw [pk_un z, pk_un z]
      exact B.2.2.2.2.2.2 i hi
  refine ⟨i1, i2, nm_r eK ⟨i1, nm_r eS (br_f (by decide) (br_f (by decide) (br_f (by decide) (br_f (by decide) (br_t (hen.trans hh) (br_f (by decide) (br_t (by decide) ?_)))))))⟩⟩
  refine ⟨i1, nm_r eT ⟨i1, nm_r eC ?_⟩⟩
  repeat (refine br_f (by decide) ?_)
  refine br_t (by decide) (br_t (by rw [hvv.1]; exact hs) ⟨ig, ?_⟩)
  rcases h03 with z | z
  · refine br_t (by rw [eg]; exact xr_g0.mpr z) ⟨ig, nm_r (e' := upd gs g 3) (by rw [ev, egc]) ?_⟩
    exact xs_fin (G := (upd G.1 g 3, G.2.1, G.2.2.1, G.2.2.2)) B2 hp
  · refine br_f (by rw [eg, xr_g0, z]; decide) ⟨ig, br_t (by rw [eg]; exact xr_g3.mpr z) ⟨ig, nm_r (e' := upd gs g 3) (by rw [ev, egc]) ?_⟩⟩
    exact xs_fin (G := (upd G.1 g 3, G.2.1, G.2.2.1, G.2.2.2)) B2 hp
theorem xg_clW (hw : gw_S w) (hq : xq_S w q) (I : gk_I w M S (a :: A') V F G nc sp) (hR : xr_R w q M S (a :: A') V F G N sp u) (hSa : S a = f :: L) (hb : M.1 = false) (hh : M.2.1 = 0) (hst : f.2.1 = 1) (hk : gw_K w f.1 = 25) {g : Nat} (hg : g < G.2.2.2) (hs : M.2.2.1 = 4) (hx : M.2.2.2 = lN g) (h2 : G.1 g = 2)
    (hp : ∀ u', xr_R w q (false, 1, 1, (-4 : Int32).toInt64) (gk_su S a L) (a :: A') V F G N sp u' → post u') : wpX_goOn post u (nI (48 * a + L.length)) := by
  obtain ⟨en, vs, vn, ft, fs, fc, ke, ks, kn, cn, ac, gs, rfl, hP⟩ := hR
  have B := xo_mk hw I hSa hP
  have fo := xs_fo I hSa
  obtain ⟨hen, hv⟩ := hP.1 hb
  obtain ⟨i1, i2, eK, eS, eT, eC⟩ := xs_in hw B fo.1 hk hst
  have hvc := xg_vc I
  have hvv := hv (Or.inl hh)
  have ev : vn.toInt32 = nI g := by rw [hvv.2, hx, lN_i]
  have egc : (nI g).toNatClampNeg = g := nI_clamp (by omega)
  have ig : vp_in vn.toInt32 8 := by rw [ev]; exact vp_in_nI (by omega) (by decide)
  have eg : gs (vn.toInt32).toNatClampNeg = xr_g (G.1 g) (G.2.1 g) := by rw [ev, egc]; exact B.2.2.2.2.2.2 g hg
  refine ⟨i1, i2, nm_r eK ⟨i1, nm_r eS (br_f (by decide) (br_f (by decide) (br_f (by decide) (br_f (by decide) (br_t (hen.trans hh) (br_f (by decide) (br_t (by decide) ?_)))))))⟩⟩
  refine ⟨i1, nm_r eT ⟨i1, nm_r eC ?_⟩⟩
  repeat (refine br_f (by decide) ?_)
  refine br_t (by decide) (br_t (by rw [hvv.1]; exact hs) ⟨ig, br_f (by rw [eg, xr_g0, h2]; decide) ⟨ig, br_f (by rw [eg, xr_g3, h2]; decide) ?_⟩⟩)
  rw [ev]
  exact xg_atw B hg hvc.2.2 h2 hp
theorem xg_clF (hw : gw_S w) (hq : xq_S w q) (I : gk_I w M S (a :: A') V F G nc sp) (hR : xr_R w q M S (a :: A') V F G N sp u) (hSa : S a = f :: L) (hb : M.1 = false) (hh : M.2.1 = 0) (hst : f.2.1 = 1) (hk : gw_K w f.1 = 25) {g : Nat} (hg : g < G.2.2.2) (hs : M.2.2.1 = 4) (hx : M.2.2.2 = lN g) (h2 : G.1 g = 1) (hd : ¬ A'.length + 1 < 8)
    (hp : ∀ u', xr_R w q (false, 1, 1, (-5 : Int32).toInt64) (gk_su S a L) (a :: A') V F G N sp u' → post u') : wpX_goOn post u (nI (48 * a + L.length)) := by
  obtain ⟨en, vs, vn, ft, fs, fc, ke, ks, kn, cn, ac, gs, rfl, hP⟩ := hR
  have B := xo_mk hw I hSa hP
  have fo := xs_fo I hSa
  obtain ⟨hen, hv⟩ := hP.1 hb
  obtain ⟨i1, i2, eK, eS, eT, eC⟩ := xs_in hw B fo.1 hk hst
  have hvc := xg_vc I
  have hvv := hv (Or.inl hh)
  have ev : vn.toInt32 = nI g := by rw [hvv.2, hx, lN_i]
  have egc : (nI g).toNatClampNeg = g := nI_clamp (by omega)
  have ig : vp_in vn.toInt32 8 := by rw [ev]; exact vp_in_nI (by omega) (by decide)
  have eg : gs (vn.toInt32).toNatClampNeg = xr_g (G.1 g) (G.2.1 g) := by rw [ev, egc]; exact B.2.2.2.2.2.2 g hg
  refine ⟨i1, i2, nm_r eK ⟨i1, nm_r eS (br_f (by decide) (br_f (by decide) (br_f (by decide) (br_f (by decide) (br_t (hen.trans hh) (br_f (by decide) (br_t (by decide) ?_)))))))⟩⟩
  refine ⟨i1, nm_r eT ⟨i1, nm_r eC ?_⟩⟩
  repeat (refine br_f (by decide) ?_)
  refine br_t (by decide) (br_t (by rw [hvv.1]; exact hs) ⟨ig, br_f (by rw [eg, xr_g0, h2]; decide) ⟨ig, br_f (by rw [eg, xr_g3, h2]; decide) ?_⟩⟩)
  rw [ev]
  exact xg_full I B hg (by rw [h2]; decide) hd hp
theorem xg_cl (hw : gw_S w) (hq : xq_S w q) (I : gk_I w M S (a :: A') V F G nc sp) (hR : xr_R w q M S (a :: A') V F G N sp u) (hSa : S a = f :: L) (hb : M.1 = false) (hh : M.2.1 = 0) (hst : f.2.1 = 1) (hk : gw_K w f.1 = 25) {g : Nat} (hg : g < G.2.2.2) (hs : M.2.2.1 = 4) (hx : M.2.2.2 = lN g) (h2 : G.1 g = 1) (hd : A'.length + 1 < 8)
    (hp : ∀ u', xr_R w q (false, 5, 0, 0) (gk_su S a ((f.1, 3, f.2.2) :: L)) ((8 + g) :: a :: A') V F (upd G.1 g 2, upd G.2.1 g 1, G.2.2.1, G.2.2.2) N sp u' → post u') : wpX_goOn post u (nI (48 * a + L.length)) := by
  obtain ⟨en, vs, vn, ft, fs, fc, ke, ks, kn, cn, ac, gs, rfl, hP⟩ := hR
  have B := xo_mk hw I hSa hP
  have fo := xs_fo I hSa
  obtain ⟨hen, hv⟩ := hP.1 hb
  obtain ⟨i1, i2, eK, eS, eT, eC⟩ := xs_in hw B fo.1 hk hst
  have hvc := xg_vc I
  have hvv := hv (Or.inl hh)
  have ev : vn.toInt32 = nI g := by rw [hvv.2, hx, lN_i]
  have egc : (nI g).toNatClampNeg = g := nI_clamp (by omega)
  have ig : vp_in vn.toInt32 8 := by rw [ev]; exact vp_in_nI (by omega) (by decide)
  have eg : gs (vn.toInt32).toNatClampNeg = xr_g (G.1 g) (G.2.1 g) := by rw [ev, egc]; exact B.2.2.2.2.2.2 g hg
  refine ⟨i1, i2, nm_r eK ⟨i1, nm_r eS (br_f (by decide) (br_f (by decide) (br_f (by decide) (br_f (by decide) (br_t (hen.trans hh) (br_f (by decide) (br_t (by decide) ?_)))))))⟩⟩
  refine ⟨i1, nm_r eT ⟨i1, nm_r eC ?_⟩⟩
  repeat (refine br_f (by decide) ?_)
  refine br_t (by decide) (br_t (by rw [hvv.1]; exact hs) ⟨ig, br_f (by rw [eg, xr_g0, h2]; decide) ⟨ig, br_f (by rw [eg, xr_g3, h2]; decide) ?_⟩⟩)
  rw [ev]
  exact xg_ent (M' := (false, 5, 0, 0)) (cl' := upd G.2.1 g 1) hw I B hg (by rw [h2]; decide) hd (fun i hi => pk_un hi) (Or.inl ⟨rfl, pk_us⟩) (fun _ => ⟨rfl, fun z => absurd z (by unfold gk_hv; decide)⟩) hp
theorem xg_shn {en vs : Int32} {vn : Int64} {ft fs fc ke ks : Nat → Int32} {kn : Nat → Int64} {cn ac gs : Nat → Int32} {A : List Nat} {gc : Nat} {post : Int64 → Prop} (hf : F.2.2 ≤ 600) (hvv : gk_VV F.2.2 gc vs vn) (hp : post (gk_sh F vs vn)) :
    wpX_shownNumber post (xr_t w q A V F G.2.2.2 N sp en vs vn ft fs fc ke ks kn cn ac gs) := by
  refine br_c (fun z => ?_) (fun z => ?_)
  · rw [gk_sh, if_pos z] at hp
    rcases hvv with h | ⟨_, i, hi, e⟩ | ⟨h, _⟩
    · rw [z] at h; exact absurd h (by decide)
    · refine ⟨?_, hp⟩
      rw [e, lN_i]
      exact vp_in_nI (by omega) (by decide)
    · rw [z] at h; exact absurd h (by decide)
  · rw [gk_sh, if_neg z] at hp
    exact hp
theorem xg_host (hw : gw_S w) (hq : xq_S w q) (I : gk_I w M S (a :: A') V F G nc sp) (hR : xr_R w q M S (a :: A') V F G N sp u) (hSa : S a = f :: L) (hb : M.1 = false) (hh : M.2.1 = 0) (hst : f.2.1 = 1) (hk : gw_K w f.1 = 26) (hnc : N.2.2 ≤ 600) (hvv : gk_VV F.2.2 G.2.2.2 M.2.2.1 M.2.2.2)
    (hp : ∀ u', xr_R w q (false, (if M.2.2.1 = 1 ∧ M.2.2.2 < 0 then 1 else 0), M.2.2) (gk_su S a L) (a :: A') V F G (gk_nt F N M.2.2.1 M.2.2.2) sp u' → post u') : wpX_goOn post u (nI (48 * a + L.length)) := by
  obtain ⟨en, vs, vn, ft, fs, fc, ke, ks, kn, cn, ac, gs, rfl, hP⟩ := hR
  have B := xo_mk hw I hSa hP
  have fo := xs_fo I hSa
  obtain ⟨hen, hv⟩ := hP.1 hb
  obtain ⟨i1, i2, eK, eS, eT, eC⟩ := xs_in hw B fo.1 hk hst
  have hvc := xg_vc I
  obtain ⟨rfl, rfl⟩ := hv (Or.inl hh)
  have fin : ∀ (ns : Nat → Int32) (nn : Nat → Int64), (ns, nn, N.2.2 + 1) = gk_nt F N M.2.2.1 M.2.2.2 →
      wX_noteValue_35 post q.1 q.2.1 q.2.2.1 (nI (a :: A').length) (nI V.2.2.2.2) (nI F.2.2) (nI G.2.2.2) en M.2.2.1 M.2.2.2 (nI N.2.2) (nI sp) q.2.2.2.1 q.2.2.2.2.1 q.2.2.2.2.2.1 (gw_K w) (gw_v w) q.2.2.2.2.2.2.1 q.2.2.2.2.2.2.2.1 q.2.2.2.2.2.2.2.2 (gw_mn w) (gw_gn w) ft fs fc ke ks kn cn ac V.1 V.2.1 V.2.2.1 V.2.2.2.1 F.1 F.2.1 gs ns nn := by
    intro ns nn e
    rw [← e] at hp
    refine nm_r (nI_1 N.2.2) (br_c (fun z => br_c (fun y => br_t (by decide) ?_) (fun y => br_f (by decide) ?_)) (fun z => br_t (by decide) ?_))
    · rw [if_neg (fun c => absurd c.2 (Int64.not_lt.mpr y))] at hp
      exact xs_fas (N := (ns, nn, N.2.2 + 1)) (M' := (false, 0, M.2.2)) B (fun _ => ⟨rfl, fun _ => ⟨rfl, rfl⟩⟩) hp
    · rw [if_pos ⟨z, Int64.not_le.mp y⟩] at hp
      exact xs_fas (N := (ns, nn, N.2.2 + 1)) (M' := (false, 1, M.2.2)) B (fun _ => ⟨rfl, fun _ => ⟨rfl, rfl⟩⟩) hp
    · rw [if_neg (fun c => z c.1)] at hp
      exact xs_fas (N := (ns, nn, N.2.2 + 1)) (M' := (false, 0, M.2.2)) B (fun _ => ⟨rfl, fun _ => ⟨rfl, rfl⟩⟩) hp
  refine ⟨i1, i2, nm_r eK ⟨i1, nm_r eS (br_f (by decide) (br_f (by decide) (br_f (by decide) (br_f (by decide) (br_t (hen.trans hh) (br_f (by decide) (br_t (by decide) ?_)))))))⟩⟩
  refine ⟨i1, nm_r eT ⟨i1, nm_r eC ?_⟩⟩
  repeat (refine br_f (by decide) ?_)
  refine br_t (by decide) ?_
  by_cases c : N.2.2 < 40
  · have i4 : vp_in (nI N.2.2) 40 := vp_in_nI c (by decide)
    have e4 : (nI N.2.2).toNatClampNeg = N.2.2 := nI_clamp (by omega)
    refine br_f (nI_ge (b := 40) c (by decide)) ⟨i4, nm_r (e' := upd N.1 N.2.2 M.2.2.1) (by rw [e4]) ?_⟩
    refine xg_shn (N := (upd N.1 N.2.2 M.2.2.1, N.2)) (gc := G.2.2.2) hvc.2.1 hvv ⟨i4, nm_r (e' := vp_updL N.2.1 N.2.2 (gk_sh F M.2.2.1 M.2.2.2)) (by rw [e4]) ?_⟩
    exact fin _ _ (by rw [gk_nt, if_pos c])
  · refine br_t (nI_le (a := 40) (by omega) (by omega)) ?_
    exact fin _ _ (by rw [gk_nt, if_neg c])
theorem xg_kp {cl : Prop} {ft fs fc ke ks : Nat → Int32} {kn : Nat → Int64} {cn ac gs : Nat → Int32} (fo : gk_FO w V F.2.2 G.2.2.2 cl f) (B : xo_B w S A' a f L G ft fs fc ke ks kn cn ac gs) (hst : f.2.1 = 2) (h14 : gw_K w f.1 ≠ 14) (h21 : gw_K w f.1 ≠ 21) :
    ks (nI (48 * a + L.length)).toNatClampNeg = f.2.2.2.2.1 ∧ kn (nI (48 * a + L.length)).toNatClampNeg = f.2.2.2.2.2 := by
  have hl := xo_l B
  have ha := B.1
  have ek : (nI (48 * a + L.length)).toNatClampNeg = 48 * a + L.length := nI_clamp (by omega)
  have h0 := (fo.2.2.2.2.2.2 hst h14).2.2.2.2 h21
  rw [ek]
  exact ((xo_f B).2.2.2 hst h14).2 (Or.inl h0)
theorem xg_ap3 (hw : gw_S w) (hq : xq_S w q) (I : gk_I w M S (a :: A') V F G nc sp) (hR : xr_R w q M S (a :: A') V F G N sp u) (hSa : S a = f :: L) (hb : M.1 = false) (hh : M.2.1 = 0) (hst : f.2.1 = 2) (hk : gw_K w f.1 = 6) (hs : f.2.2.2.2.1 ≠ 3)
    (hp : ∀ u', xr_R w q (false, 1, 1, (-3 : Int32).toInt64) (gk_su S a L) (a :: A') V F G N sp u' → post u') : wpX_goOn post u (nI (48 * a + L.length)) := by
  obtain ⟨en, vs, vn, ft, fs, fc, ke, ks, kn, cn, ac, gs, rfl, hP⟩ := hR
  have B := xo_mk hw I hSa hP
  have fo := xs_fo I hSa
  obtain ⟨hen, hv⟩ := hP.1 hb
  obtain ⟨i1, i2, eK, eS, eT, eC⟩ := xs_in hw B fo.1 hk hst
  have hkp := xg_kp fo B hst (by rw [hk]; decide) (by rw [hk]; decide)
  refine ⟨i1, i2, nm_r eK ⟨i1, nm_r eS (br_f (by decide) (br_f (by decide) (br_f (by decide) (br_f (by decide) (br_t (hen.trans hh) (br_f (by decide) (br_f (by decide) ⟨i1, nm_r hkp.1 ⟨i1, nm_r hkp.2 ?_⟩⟩)))))))⟩⟩
  refine br_t (by decide) ⟨i1, br_f (by rw [hkp.1]; exact hs) ?_⟩
  exact xs_thr B hp
theorem xg_apF (hw : gw_S w) (hq : xq_S w q) (I : gk_I w M S (a :: A') V F G nc sp) (hR : xr_R w q M S (a :: A') V F G N sp u) (hSa : S a = f :: L) (hb : M.1 = false) (hh : M.2.1 = 0) (hst : f.2.1 = 2) (hk : gw_K w f.1 = 6) (hs : f.2.2.2.2.1 = 3) {i t : Nat} (hx : f.2.2.2.2.2 = lN i) (hi : i < F.2.2) (ht : t < gw_n w) (hft : F.1 i = nI t) (hg : gw_gn w t = 0) (hd : ¬ A'.length + 1 < 8)
    (hp : ∀ u', xr_R w q (false, 1, 1, (-5 : Int32).toInt64) (gk_su S a L) (a :: A') V F G N sp u' → post u') : wpX_goOn post u (nI (48 * a + L.length)) := by
  obtain ⟨en, vs, vn, ft, fs, fc, ke, ks, kn, cn, ac, gs, rfl, hP⟩ := hR
  have B := xo_mk hw I hSa hP
  have fo := xs_fo I hSa
  obtain ⟨hen, hv⟩ := hP.1 hb
  obtain ⟨i1, i2, eK, eS, eT, eC⟩ := xs_in hw B fo.1 hk hst
  have hkp := xg_kp fo B hst (by rw [hk]; decide) (by rw [hk]; decide)
  have hvc := xg_vc I
  have hn := hw.2.2.1
  have ec : (nI i).toNatClampNeg = i := nI_clamp (by omega)
  have etc : (nI t).toNatClampNeg = t := nI_clamp (by omega)
  have i6 : vp_in (nI i) 600 := vp_in_nI (by omega) (by decide)
  have i4 : vp_in (nI t) 48 := vp_in_nI (by omega) (by decide)
  have ex : (kn (nI (48 * a + L.length)).toNatClampNeg).toInt32 = nI i := by rw [hkp.2, hx, lN_i]
  have eF : F.1 (nI i).toNatClampNeg = nI t := by rw [ec, hft]
  refine ⟨i1, i2, nm_r eK ⟨i1, nm_r eS (br_f (by decide) (br_f (by decide) (br_f (by decide) (br_f (by decide) (br_t (hen.trans hh) (br_f (by decide) (br_f (by decide) ⟨i1, nm_r hkp.1 ⟨i1, nm_r hkp.2 ?_⟩⟩)))))))⟩⟩
  refine br_t (by decide) ⟨i1, br_t (by rw [hkp.1]; exact hs) ⟨i1, nm_r ex ⟨i6, nm_r eF ⟨i4, ?_⟩⟩⟩⟩
  refine br_t (by rw [etc]; exact hg) (br_f (nI_nlt (a := A'.length + 1) (b := 8) (by omega) (by have := B.2.1; omega)) ?_)
  exact xs_thr B hp
theorem xg_vlt (I : gk_I w M S (a :: A') V F G nc sp) (hSa : S a = f :: L) (hst : f.2.1 = 1 ∨ f.2.1 = 2) : V.2.2.2.2 < 600 := by
  have h5 := I.2.2.2.2.1
  have h := gk_sms gk_yl S a [] 16 (gk_Ia I)
  have h2 : gk_yl (S a) = gk_yl L + 1 := by rw [hSa]; exact if_pos hst
  have h3 : gk_yl [] = 0 := rfl
  omega
theorem xg_ap (hw : gw_S w) (hq : xq_S w q) (I : gk_I w M S (a :: A') V F G nc sp) (hR : xr_R w q M S (a :: A') V F G N sp u) (hSa : S a = f :: L) (hb : M.1 = false) (hh : M.2.1 = 0) (hst : f.2.1 = 2) (hk : gw_K w f.1 = 6) (hs : f.2.2.2.2.1 = 3) {i t : Nat} (hx : f.2.2.2.2.2 = lN i) (hi : i < F.2.2) (ht : t < gw_n w) (hft : F.1 i = nI t) (hg : gw_gn w t = 0) (hd : A'.length + 1 < 8) (hm : M'.1 = true)
    (hp : ∀ u', xr_R w q M' (gk_su (gk_su S a ((f.1, 3, f.2.2) :: L)) (A'.length + 1) [(t + 1, 0, nI V.2.2.2.2, e0, s0, n0)]) ((A'.length + 1) :: a :: A') (gk_bd V (nI t) (F.2.1 i) M.2.2.1 M.2.2.2) F G N sp u' → post u') : wpX_goOn post u (nI (48 * a + L.length)) := by
  obtain ⟨en, vs, vn, ft, fs, fc, ke, ks, kn, cn, ac, gs, rfl, hP⟩ := hR
  have B := xo_mk hw I hSa hP
  have fo := xs_fo I hSa
  obtain ⟨hen, hv⟩ := hP.1 hb
  obtain ⟨i1, i2, eK, eS, eT, eC⟩ := xs_in hw B fo.1 hk hst
  have hkp := xg_kp fo B hst (by rw [hk]; decide) (by rw [hk]; decide)
  have hl := xo_l B
  have ha := B.1
  have ek : (nI (48 * a + L.length)).toNatClampNeg = 48 * a + L.length := nI_clamp (by omega)
  obtain ⟨rfl, rfl⟩ := hv (Or.inl hh)
  have hvc := xg_vc I
  have hn := hw.2.2.1
  have ec : (nI i).toNatClampNeg = i := nI_clamp (by omega)
  have etc : (nI t).toNatClampNeg = t := nI_clamp (by omega)
  have i6 : vp_in (nI i) 600 := vp_in_nI (by omega) (by decide)
  have i4 : vp_in (nI t) 48 := vp_in_nI (by omega) (by decide)
  have ex : (kn (nI (48 * a + L.length)).toNatClampNeg).toInt32 = nI i := by rw [hkp.2, hx, lN_i]
  have eF : F.1 (nI i).toNatClampNeg = nI t := by rw [ec, hft]
  refine ⟨i1, i2, nm_r eK ⟨i1, nm_r eS (br_f (by decide) (br_f (by decide) (br_f (by decide) (br_f (by decide) (br_t (hen.trans hh) (br_f (by decide) (br_f (by decide) ⟨i1, nm_r hkp.1 ⟨i1, nm_r hkp.2 ?_⟩⟩)))))))⟩⟩
  refine br_t (by decide) ⟨i1, br_t (by rw [hkp.1]; exact hs) ⟨i1, nm_r ex ⟨i6, nm_r eF ⟨i4, ?_⟩⟩⟩⟩
  refine br_t (by rw [etc]; exact hg) (br_t (nI_lt (b := 8) hd (by decide)) ⟨i6, ?_⟩)
  rw [ec]
  refine xm_newVar (v := V.2.2.2.2) rfl (xg_vlt I hSa (Or.inr hst)) ⟨i1, nm_r (e' := upd fs (48 * a + L.length) 3) (by rw [ek]) ?_⟩
  rw [nI_1 t]
  refine xm_start (d := A'.length + 1) rfl hd ?_
  have had : ∀ s, s ∈ a :: A' → s ≠ A'.length + 1 := by
    intro s hs
    rcases gk_AOm _ I.2.1.1 s hs with z | z
    · have z2 : s < A'.length + 1 := z
      omega
    · omega
  refine hp _ ⟨en, M.2.2.1, M.2.2.2, _, _, _, ke, ks, kn, _, _, gs, rfl, fun z => absurd (hm.symm.trans z) (by decide), ⟨pk_us, xr_Ac _ (fun j hj => pk_un (by have : j < A'.length + 1 := hj; omega)) B.2.2.2.2.1⟩, xr_lay (xr_st3 (P' := gk_lv (a :: A') G.2.2.2) B.2.2.2.2.2.1 B.1 xo_lv B.2.2.1 B.2.2.2.1 (fun s q _ => q) hl) ?_ ?_, B.2.2.2.2.2.2⟩
  · intro s h16 hs
    by_cases z : s = a
    · subst z
      rw [gk_sus]
      exact hl
    · rw [gk_sun z]
      exact B.2.2.1 s h16 hs
  · intro s hs hne
    rcases hs with h | h
    · rcases List.mem_cons.mp h with h | h
      · exact absurd h hne
      · exact Or.inl h
    · exact Or.inr h
theorem xg_apG (hw : gw_S w) (hq : xq_S w q) (I : gk_I w M S (a :: A') V F G nc sp) (hR : xr_R w q M S (a :: A') V F G N sp u) (hSa : S a = f :: L) (hb : M.1 = false) (hh : M.2.1 = 0) (hst : f.2.1 = 2) (hk : gw_K w f.1 = 6) (hs : f.2.2.2.2.1 = 3) {i t : Nat} (hx : f.2.2.2.2.2 = lN i) (hi : i < F.2.2) (ht : t < gw_n w) (hft : F.1 i = nI t) (hg : gw_gn w t = 1) (hd : ¬ G.2.2.2 < 8)
    (hp : ∀ u', xr_R w q (false, 1, 1, (-6 : Int32).toInt64) (gk_su S a L) (a :: A') V F G N sp u' → post u') : wpX_goOn post u (nI (48 * a + L.length)) := by
  obtain ⟨en, vs, vn, ft, fs, fc, ke, ks, kn, cn, ac, gs, rfl, hP⟩ := hR
  have B := xo_mk hw I hSa hP
  have fo := xs_fo I hSa
  obtain ⟨hen, hv⟩ := hP.1 hb
  obtain ⟨i1, i2, eK, eS, eT, eC⟩ := xs_in hw B fo.1 hk hst
  have hkp := xg_kp fo B hst (by rw [hk]; decide) (by rw [hk]; decide)
  have hvc := xg_vc I
  have hn := hw.2.2.1
  have ec : (nI i).toNatClampNeg = i := nI_clamp (by omega)
  have etc : (nI t).toNatClampNeg = t := nI_clamp (by omega)
  have i6 : vp_in (nI i) 600 := vp_in_nI (by omega) (by decide)
  have i4 : vp_in (nI t) 48 := vp_in_nI (by omega) (by decide)
  have ex : (kn (nI (48 * a + L.length)).toNatClampNeg).toInt32 = nI i := by rw [hkp.2, hx, lN_i]
  have eF : F.1 (nI i).toNatClampNeg = nI t := by rw [ec, hft]
  refine ⟨i1, i2, nm_r eK ⟨i1, nm_r eS (br_f (by decide) (br_f (by decide) (br_f (by decide) (br_f (by decide) (br_t (hen.trans hh) (br_f (by decide) (br_f (by decide) ⟨i1, nm_r hkp.1 ⟨i1, nm_r hkp.2 ?_⟩⟩)))))))⟩⟩
  refine br_t (by decide) ⟨i1, br_t (by rw [hkp.1]; exact hs) ⟨i1, nm_r ex ⟨i6, nm_r eF ⟨i4, ?_⟩⟩⟩⟩
  refine br_f (by rw [etc, hg]; decide) ⟨i6, br_f (nI_nlt (b := 8) (by omega) (by omega)) ?_⟩
  exact xs_thr B hp
theorem xg_apM (hw : gw_S w) (hq : xq_S w q) (I : gk_I w M S (a :: A') V F G nc sp) (hR : xr_R w q M S (a :: A') V F G N sp u) (hSa : S a = f :: L) (hb : M.1 = false) (hh : M.2.1 = 0) (hst : f.2.1 = 2) (hk : gw_K w f.1 = 6) (hs : f.2.2.2.2.1 = 3) {i t : Nat} (hx : f.2.2.2.2.2 = lN i) (hi : i < F.2.2) (ht : t < gw_n w) (hft : F.1 i = nI t) (hg : gw_gn w t = 1) (hd : G.2.2.2 < 8)
    (hp : ∀ u', xr_R w q (false, 0, 4, lN G.2.2.2) (gk_su (gk_su S (8 + G.2.2.2) [(t + 1, 0, nI V.2.2.2.2, e0, s0, n0)]) a L) (a :: A') (gk_bd V (nI t) (F.2.1 i) M.2.2.1 M.2.2.2) F (upd G.1 G.2.2.2 0, upd G.2.1 G.2.2.2 0, G.2.2.1, G.2.2.2 + 1) N sp u' → post u') : wpX_goOn post u (nI (48 * a + L.length)) := by
  obtain ⟨en, vs, vn, ft, fs, fc, ke, ks, kn, cn, ac, gs, rfl, hP⟩ := hR
  have B := xo_mk hw I hSa hP
  have fo := xs_fo I hSa
  obtain ⟨hen, hv⟩ := hP.1 hb
  obtain ⟨i1, i2, eK, eS, eT, eC⟩ := xs_in hw B fo.1 hk hst
  have hkp := xg_kp fo B hst (by rw [hk]; decide) (by rw [hk]; decide)
  have hl := xo_l B
  have ha := B.1
  have hag := gk_AOg _ I.2.1.1 I.2.1.2 a (List.mem_cons_self ..)
  obtain ⟨rfl, rfl⟩ := hv (Or.inl hh)
  have hvc := xg_vc I
  have hn := hw.2.2.1
  have ec : (nI i).toNatClampNeg = i := nI_clamp (by omega)
  have etc : (nI t).toNatClampNeg = t := nI_clamp (by omega)
  have i6 : vp_in (nI i) 600 := vp_in_nI (by omega) (by decide)
  have i4 : vp_in (nI t) 48 := vp_in_nI (by omega) (by decide)
  have ex : (kn (nI (48 * a + L.length)).toNatClampNeg).toInt32 = nI i := by rw [hkp.2, hx, lN_i]
  have eF : F.1 (nI i).toNatClampNeg = nI t := by rw [ec, hft]
  refine ⟨i1, i2, nm_r eK ⟨i1, nm_r eS (br_f (by decide) (br_f (by decide) (br_f (by decide) (br_f (by decide) (br_t (hen.trans hh) (br_f (by decide) (br_f (by decide) ⟨i1, nm_r hkp.1 ⟨i1, nm_r hkp.2 ?_⟩⟩)))))))⟩⟩
  refine br_t (by decide) ⟨i1, br_t (by rw [hkp.1]; exact hs) ⟨i1, nm_r ex ⟨i6, nm_r eF ⟨i4, ?_⟩⟩⟩⟩
  refine br_f (by rw [etc, hg]; decide) ⟨i6, br_t (nI_lt (b := 8) hd (by decide)) ?_⟩
  rw [ec]
  refine xm_newVar (v := V.2.2.2.2) rfl (xg_vlt I hSa (Or.inr hst)) ?_
  have e8 : (8 : Int32) + nI G.2.2.2 = nI (8 + G.2.2.2) := nI_add 8 _
  rw [nI_1 t, e8]
  refine xm_lay (by omega) ⟨vp_in_nI hd (by decide), nm_r (e' := upd gs G.2.2.2 0) (by rw [nI_clamp (by omega)]) (nm_r (nI_1 _) ?_)⟩
  rw [nI_l (by omega)]
  have B2 : xo_B w (gk_su S (8 + G.2.2.2) [(t + 1, 0, nI V.2.2.2.2, e0, s0, n0)]) A' a f L (upd G.1 G.2.2.2 0, upd G.2.1 G.2.2.2 0, G.2.2.1, G.2.2.2 + 1)
      (upd ft (48 * (8 + G.2.2.2)) (nI (t + 1))) (upd fs (48 * (8 + G.2.2.2)) 0) (upd fc (48 * (8 + G.2.2.2)) (nI V.2.2.2.2)) ke ks kn (upd cn (8 + G.2.2.2) 1) ac (upd gs G.2.2.2 0) := by
    have hlv : ∀ s, gk_lv (a :: A') (G.2.2.2 + 1) s → s ≠ 8 + G.2.2.2 → gk_lv (a :: A') G.2.2.2 s := by
      intro s hs hne
      rcases hs with h | h
      · exact Or.inl h
      · exact Or.inr (by omega)
    refine ⟨B.1, B.2.1, ?_, by rw [gk_sun (by omega)]; exact B.2.2.2.1, B.2.2.2.2.1, xr_lay B.2.2.2.2.2.1 B.2.2.1 hlv, ?_⟩
    · intro s h16 hs
      by_cases z : s = 8 + G.2.2.2
      · subst z
        rw [gk_sus]
        exact Nat.le_of_lt (by show 1 < 48; decide)
      · rw [gk_sun z]
        exact B.2.2.1 s h16 (hlv s hs z)
    · intro j hj
      have hj2 : j < G.2.2.2 + 1 := hj
      show upd gs G.2.2.2 0 j = xr_g (upd G.1 G.2.2.2 0 j) (upd G.2.1 G.2.2.2 0 j)
      by_cases z : j = G.2.2.2
      · subst z
        rw [pk_us, pk_us, pk_us]
        rfl
      · rw [pk_un z, pk_un z, pk_un z]
        exact B.2.2.2.2.2.2 j (by omega)
  exact xs_fin (V := gk_bd V (nI t) (F.2.1 i) M.2.2.1 M.2.2.2) B2 hp
theorem xg_rs3 (hw : gw_S w) (hq : xq_S w q) (I : gk_I w M S (a :: A') V F G nc sp) (hR : xr_R w q M S (a :: A') V F G N sp u) (hSa : S a = f :: L) (hb : M.1 = false) (hh : M.2.1 = 0) (hst : f.2.1 = 2) (hk : gw_K w f.1 = 23) (hs : f.2.2.2.2.1 ≠ 4)
    (hp : ∀ u', xr_R w q (false, 1, 1, (-3 : Int32).toInt64) (gk_su S a L) (a :: A') V F G N sp u' → post u') : wpX_goOn post u (nI (48 * a + L.length)) := by
  obtain ⟨en, vs, vn, ft, fs, fc, ke, ks, kn, cn, ac, gs, rfl, hP⟩ := hR
  have B := xo_mk hw I hSa hP
  have fo := xs_fo I hSa
  obtain ⟨hen, hv⟩ := hP.1 hb
  obtain ⟨i1, i2, eK, eS, eT, eC⟩ := xs_in hw B fo.1 hk hst
  have hkp := xg_kp fo B hst (by rw [hk]; decide) (by rw [hk]; decide)
  refine ⟨i1, i2, nm_r eK ⟨i1, nm_r eS (br_f (by decide) (br_f (by decide) (br_f (by decide) (br_f (by decide) (br_t (hen.trans hh) (br_f (by decide) (br_f (by decide) ⟨i1, nm_r hkp.1 ⟨i1, nm_r hkp.2 ?_⟩⟩)))))))⟩⟩
  refine br_f (by decide) (br_t (by decide) ⟨i1, nm_e ⟨i1, br_f (by rw [hkp.1]; exact hs) ?_⟩⟩)
  exact xs_thr B hp
theorem xg_rsE (hw : gw_S w) (hq : xq_S w q) (I : gk_I w M S (a :: A') V F G nc sp) (hR : xr_R w q M S (a :: A') V F G N sp u) (hSa : S a = f :: L) (hb : M.1 = false) (hh : M.2.1 = 0) (hst : f.2.1 = 2) (hk : gw_K w f.1 = 23) (hs : f.2.2.2.2.1 = 4) {g : Nat} (hx : f.2.2.2.2.2 = lN g) (hg : g < G.2.2.2) (h3 : G.1 g = 3)
    (hp : ∀ u', xr_R w q (false, 0, 0, 0) (gk_su S a L) (a :: A') V F G N sp u' → post u') : wpX_goOn post u (nI (48 * a + L.length)) := by
  obtain ⟨en, vs, vn, ft, fs, fc, ke, ks, kn, cn, ac, gs, rfl, hP⟩ := hR
  have B := xo_mk hw I hSa hP
  have fo := xs_fo I hSa
  obtain ⟨hen, hv⟩ := hP.1 hb
  obtain ⟨i1, i2, eK, eS, eT, eC⟩ := xs_in hw B fo.1 hk hst
  have hkp := xg_kp fo B hst (by rw [hk]; decide) (by rw [hk]; decide)
  have hvc := xg_vc I
  have egc : (nI g).toNatClampNeg = g := nI_clamp (by omega)
  have ig : vp_in (nI g) 8 := vp_in_nI (by omega) (by decide)
  have ex : (kn (nI (48 * a + L.length)).toNatClampNeg).toInt32 = nI g := by rw [hkp.2, hx, lN_i]
  have eg : gs (nI g).toNatClampNeg = xr_g (G.1 g) (G.2.1 g) := by rw [egc]; exact B.2.2.2.2.2.2 g hg
  refine ⟨i1, i2, nm_r eK ⟨i1, nm_r eS (br_f (by decide) (br_f (by decide) (br_f (by decide) (br_f (by decide) (br_t (hen.trans hh) (br_f (by decide) (br_f (by decide) ⟨i1, nm_r hkp.1 ⟨i1, nm_r hkp.2 ?_⟩⟩)))))))⟩⟩
  refine br_f (by decide) (br_t (by decide) ⟨i1, nm_r ex ⟨i1, br_t (by rw [hkp.1]; exact hs) ⟨ig, ?_⟩⟩⟩)
  refine br_t (by rw [eg]; exact xr_g3.mpr h3) ?_
  exact xs_fin B hp
theorem xg_rsW (hw : gw_S w) (hq : xq_S w q) (I : gk_I w M S (a :: A') V F G nc sp) (hR : xr_R w q M S (a :: A') V F G N sp u) (hSa : S a = f :: L) (hb : M.1 = false) (hh : M.2.1 = 0) (hst : f.2.1 = 2) (hk : gw_K w f.1 = 23) (hs : f.2.2.2.2.1 = 4) {g : Nat} (hx : f.2.2.2.2.2 = lN g) (hg : g < G.2.2.2) (h2 : G.1 g = 2)
    (hp : ∀ u', xr_R w q (false, 1, 1, (-4 : Int32).toInt64) (gk_su S a L) (a :: A') V F G N sp u' → post u') : wpX_goOn post u (nI (48 * a + L.length)) := by
  obtain ⟨en, vs, vn, ft, fs, fc, ke, ks, kn, cn, ac, gs, rfl, hP⟩ := hR
  have B := xo_mk hw I hSa hP
  have fo := xs_fo I hSa
  obtain ⟨hen, hv⟩ := hP.1 hb
  obtain ⟨i1, i2, eK, eS, eT, eC⟩ := xs_in hw B fo.1 hk hst
  have hkp := xg_kp fo B hst (by rw [hk]; decide) (by rw [hk]; decide)
  have hvc := xg_vc I
  have egc : (nI g).toNatClampNeg = g := nI_clamp (by omega)
  have ig : vp_in (nI g) 8 := vp_in_nI (by omega) (by decide)
  have ex : (kn (nI (48 * a + L.length)).toNatClampNeg).toInt32 = nI g := by rw [hkp.2, hx, lN_i]
  have eg : gs (nI g).toNatClampNeg = xr_g (G.1 g) (G.2.1 g) := by rw [egc]; exact B.2.2.2.2.2.2 g hg
  refine ⟨i1, i2, nm_r eK ⟨i1, nm_r eS (br_f (by decide) (br_f (by decide) (br_f (by decide) (br_f (by decide) (br_t (hen.trans hh) (br_f (by decide) (br_f (by decide) ⟨i1, nm_r hkp.1 ⟨i1, nm_r hkp.2 ?_⟩⟩)))))))⟩⟩
  refine br_f (by decide) (br_t (by decide) ⟨i1, nm_r ex ⟨i1, br_t (by rw [hkp.1]; exact hs) ⟨ig, ?_⟩⟩⟩)
  refine br_f (by rw [eg, xr_g3, h2]; decide) ?_
  exact xg_atw B hg hvc.2.2 h2 hp
theorem xg_rsF (hw : gw_S w) (hq : xq_S w q) (I : gk_I w M S (a :: A') V F G nc sp) (hR : xr_R w q M S (a :: A') V F G N sp u) (hSa : S a = f :: L) (hb : M.1 = false) (hh : M.2.1 = 0) (hst : f.2.1 = 2) (hk : gw_K w f.1 = 23) (hs : f.2.2.2.2.1 = 4) {g : Nat} (hx : f.2.2.2.2.2 = lN g) (hg : g < G.2.2.2) (h2 : G.1 g = 0 ∨ G.1 g = 1) (hd : ¬ A'.length + 1 < 8)
    (hp : ∀ u', xr_R w q (false, 1, 1, (-5 : Int32).toInt64) (gk_su S a L) (a :: A') V F G N sp u' → post u') : wpX_goOn post u (nI (48 * a + L.length)) := by
  obtain ⟨en, vs, vn, ft, fs, fc, ke, ks, kn, cn, ac, gs, rfl, hP⟩ := hR
  have B := xo_mk hw I hSa hP
  have fo := xs_fo I hSa
  obtain ⟨hen, hv⟩ := hP.1 hb
  obtain ⟨i1, i2, eK, eS, eT, eC⟩ := xs_in hw B fo.1 hk hst
  have hkp := xg_kp fo B hst (by rw [hk]; decide) (by rw [hk]; decide)
  have hvc := xg_vc I
  have egc : (nI g).toNatClampNeg = g := nI_clamp (by omega)
  have ig : vp_in (nI g) 8 := vp_in_nI (by omega) (by decide)
  have ex : (kn (nI (48 * a + L.length)).toNatClampNeg).toInt32 = nI g := by rw [hkp.2, hx, lN_i]
  have eg : gs (nI g).toNatClampNeg = xr_g (G.1 g) (G.2.1 g) := by rw [egc]; exact B.2.2.2.2.2.2 g hg
  refine ⟨i1, i2, nm_r eK ⟨i1, nm_r eS (br_f (by decide) (br_f (by decide) (br_f (by decide) (br_f (by decide) (br_t (hen.trans hh) (br_f (by decide) (br_f (by decide) ⟨i1, nm_r hkp.1 ⟨i1, nm_r hkp.2 ?_⟩⟩)))))))⟩⟩
  refine br_f (by decide) (br_t (by decide) ⟨i1, nm_r ex ⟨i1, br_t (by rw [hkp.1]; exact hs) ⟨ig, ?_⟩⟩⟩)
  refine br_f (by rw [eg, xr_g3]; rcases h2 with z | z <;> (rw [z]; decide)) ?_
  exact xg_full I B hg (by rcases h2 with z | z <;> (rw [z]; decide)) hd hp
theorem xg_rs (hw : gw_S w) (hq : xq_S w q) (I : gk_I w M S (a :: A') V F G nc sp) (hR : xr_R w q M S (a :: A') V F G N sp u) (hSa : S a = f :: L) (hb : M.1 = false) (hh : M.2.1 = 0) (hst : f.2.1 = 2) (hk : gw_K w f.1 = 23) (hs : f.2.2.2.2.1 = 4) {g : Nat} (hx : f.2.2.2.2.2 = lN g) (hg : g < G.2.2.2) (h2 : G.1 g = 0 ∨ G.1 g = 1) (hc : G.2.1 g = 0) (hd : A'.length + 1 < 8) (hm : M'.2 = M.2)
    (hp : ∀ u', xr_R w q M' (gk_su S a ((f.1, 3, f.2.2) :: L)) ((8 + g) :: a :: A') V F (upd G.1 g 2, G.2.1, G.2.2.1, G.2.2.2) N sp u' → post u') : wpX_goOn post u (nI (48 * a + L.length)) := by
  obtain ⟨en, vs, vn, ft, fs, fc, ke, ks, kn, cn, ac, gs, rfl, hP⟩ := hR
  have B := xo_mk hw I hSa hP
  have fo := xs_fo I hSa
  obtain ⟨hen, hv⟩ := hP.1 hb
  obtain ⟨i1, i2, eK, eS, eT, eC⟩ := xs_in hw B fo.1 hk hst
  have hkp := xg_kp fo B hst (by rw [hk]; decide) (by rw [hk]; decide)
  have hvc := xg_vc I
  have egc : (nI g).toNatClampNeg = g := nI_clamp (by omega)
  have ig : vp_in (nI g) 8 := vp_in_nI (by omega) (by decide)
  have ex : (kn (nI (48 * a + L.length)).toNatClampNeg).toInt32 = nI g := by rw [hkp.2, hx, lN_i]
  have eg : gs (nI g).toNatClampNeg = xr_g (G.1 g) (G.2.1 g) := by rw [egc]; exact B.2.2.2.2.2.2 g hg
  refine ⟨i1, i2, nm_r eK ⟨i1, nm_r eS (br_f (by decide) (br_f (by decide) (br_f (by decide) (br_f (by decide) (br_t (hen.trans hh) (br_f (by decide) (br_f (by decide) ⟨i1, nm_r hkp.1 ⟨i1, nm_r hkp.2 ?_⟩⟩)))))))⟩⟩
  refine br_f (by decide) (br_t (by decide) ⟨i1, nm_r ex ⟨i1, br_t (by rw [hkp.1]; exact hs) ⟨ig, ?_⟩⟩⟩)
  refine br_f (by rw [eg, xr_g3]; rcases h2 with z | z <;> (rw [z]; decide)) ?_
  exact xg_ent hw I B hg (by rcases h2 with z | z <;> (rw [z]; decide)) hd (fun _ _ => rfl) (Or.inr ⟨rfl, hc⟩) (fun _ => ⟨by rw [hm, hh]; rfl, fun z => by rw [hm] at z ⊢; exact hv z⟩) hp
end
