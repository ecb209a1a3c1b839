def gk_st (V : gv_T) (i : Nat) (s : Int32) (x : Int64) : gv_T := (V.1, V.2.1, upd V.2.2.1 i s, vp_updL V.2.2.2.1 i x, V.2.2.2.2)
def gk_sh (F : gp_T) (s : Int32) (x : Int64) : Int64 := if s = 3 then (F.1 x.toInt32.toNatClampNeg).toInt64 else x
def gk_nt (F : gp_T) (N : gn_T) (s : Int32) (x : Int64) : gn_T :=
  if N.2.2 < 40 then (upd N.1 N.2.2 s, vp_updL N.2.1 N.2.2 (gk_sh F s x), N.2.2 + 1) else (N.1, N.2.1, N.2.2 + 1)
theorem gk_g8 {g : Nat} : nI (8 + g) - 8 = nI g := by
  have h : nI (8 + g) - nI 8 = nI (8 + g - 8) := pk_sub (by omega)
  rw [Nat.add_sub_cancel_left] at h
  exact h
section
variable {w : gw_T} {q : xq_T} {M M' : gm_T} {S : Nat → List gf_T} {a : Nat} {A' : List Nat} {V : gv_T} {F : gp_T} {G : gg_T} {N : gn_T} {nc sp : Nat} {u : SX} {f : gf_T} {L : List gf_T} {post : SX → Prop}
variable {e0 s0 k1 k2 : Int32} {n0 k3 : Int64}
theorem xg_vc (I : gk_I w M S (a :: A') V F G nc sp) : V.2.2.2.2 ≤ 600 ∧ F.2.2 ≤ 600 ∧ G.2.2.2 ≤ 8 := by
  have h := I.2.2.2.2.1
  exact ⟨by omega, by omega, h.2.2⟩
theorem xg_set (hw : gw_S w) (hq : xq_S w q) (I : gk_I w M S (a :: A') V F G nc sp) (hR : xr_R w q M S (a :: A') V F G N sp u) (hSa : S a = f :: L) (hb : M.1 = false) (hh : M.2.1 = 0) (hst : f.2.1 = 1) (hk : gw_K w f.1 = 3) {b : Nat} (hbs : b ∈ gw_sc w f.1) (hmn : gw_mn w f.1 = nI b)
    (hp : ∀ u', xr_R w q (false, 0, M.2.2) (gk_su S a L) (a :: A') (gk_st V (gk_fi V b (gw_sc w f.1) f.2.2.1) M.2.2.1 M.2.2.2) F G N sp u' → post u') : wpX_goOn post u (nI (48 * a + L.length)) := by
  obtain ⟨en, vs, vn, ft, fs, fc, ke, ks, kn, cn, ac, gs, rfl, hP⟩ := hR
  have B := xo_mk hw I hSa hP
  have fo := xs_fo I hSa
  obtain ⟨hen, hv⟩ := hP.1 hb
  obtain ⟨i1, i2, eK, eS, eT, eC⟩ := xs_in hw B fo.1 hk hst
  have hn := hw.2.2.1
  have hvc := xg_vc I
  have hsc := hw.2.2.2.2.2.2.2.2.2.2.2 f.1 fo.1
  have hb48 : b < 48 := by have := hsc.2 b hbs; have := fo.1; omega
  have hfi := gk_fil (b := b) (by omega) _ _ fo.2.1 hbs
  obtain ⟨rfl, rfl⟩ := hv (Or.inl hh)
  refine ⟨i1, i2, nm_r eK ⟨i1, nm_r eS (br_f (by decide) (br_f (by decide) (br_f (by decide) (br_f (by decide) (br_t (hen.trans hh) (br_f (by decide) (br_t (by decide) ?_)))))))⟩⟩
  refine ⟨i1, nm_r eT ⟨i1, nm_r eC ?_⟩⟩
  repeat (refine br_f (by decide) ?_)
  refine br_t (by decide) ⟨vp_in_nI (by have := fo.1; omega) (by decide), ?_⟩
  rw [nI_clamp (by have := fo.1; omega), hmn]
  refine xm_find hvc.1 hb48 rfl rfl fo.2.1 hbs (fun x hx => by have := hsc.2 x hx; have := fo.1; omega) (by have := hsc.1; have := fo.1; omega) ?_
  have i6 : vp_in (nI (gk_fi V b (gw_sc w f.1) f.2.2.1)) 600 := vp_in_nI (by omega) (by decide)
  have e6 : (nI (gk_fi V b (gw_sc w f.1) f.2.2.1)).toNatClampNeg = gk_fi V b (gw_sc w f.1) f.2.2.1 := nI_clamp (by omega)
  refine ⟨i6, nm_r (by rw [e6]) ⟨i6, nm_r (by rw [e6]) ?_⟩⟩
  exact xs_fas (M' := (false, 0, M.2.2)) (V := gk_st V (gk_fi V b (gw_sc w f.1) f.2.2.1) M.2.2.1 M.2.2.2) B (fun _ => ⟨rfl, fun _ => ⟨rfl, rfl⟩⟩) hp
theorem xg_yt (hw : gw_S w) (hq : xq_S w q) (I : gk_I w M S (a :: A') V F G nc sp) (hR : xr_R w q M S (a :: A') V F G N sp u) (hSa : S a = f :: L) (hb : M.1 = false) (hh : M.2.1 = 0) (hst : f.2.1 = 1) (hk : gw_K w f.1 = 22) {g : Nat} (hag : a = 8 + g) (hg : g < G.2.2.2) (h2 : G.1 g = 2) (hc : G.2.1 g = 1)
    (hp : ∀ u', xr_R w q (false, 1, 1, (-4 : Int32).toInt64) (gk_su S a L) (a :: A') V F G N sp u' → post u') : wpX_goOn post u (nI (48 * a + L.length)) := by
  obtain ⟨en, vs, vn, ft, fs, fc, ke, ks, kn, cn, ac, gs, rfl, hP⟩ := hR
  have B := xo_mk hw I hSa hP
  have fo := xs_fo I hSa
  obtain ⟨hen, hv⟩ := hP.1 hb
  obtain ⟨i1, i2, eK, eS, eT, eC⟩ := xs_in hw B fo.1 hk hst
  have hvc := xg_vc I
  have et : ac (nI (a :: A').length - 1).toNatClampNeg = nI a := xm_tp (d := A'.length) rfl B.2.1 B.2.2.2.2.1.1
  have eg : gs g = 4 := by rw [B.2.2.2.2.2.2 g hg, xr_g, if_pos ⟨h2, hc⟩]
  refine ⟨i1, i2, nm_r eK ⟨i1, nm_r eS (br_f (by decide) (br_f (by decide) (br_f (by decide) (br_f (by decide) (br_t (hen.trans hh) (br_f (by decide) (br_t (by decide) ?_)))))))⟩⟩
  refine ⟨i1, nm_r eT ⟨i1, nm_r eC ?_⟩⟩
  repeat (refine br_f (by decide) ?_)
  refine br_t (by decide) ⟨xm_ti (d := A'.length) rfl B.2.1, nm_r (e' := nI g) (by rw [et, hag, gk_g8]) ⟨vp_in_nI (by omega) (by decide), br_t (by rw [nI_clamp (by omega)]; exact eg) ?_⟩⟩
  exact xs_thr B hp
theorem xg_yw (hw : gw_S w) (hq : xq_S w q) (I : gk_I w M S (a :: A') V F G nc sp) (hR : xr_R w q M S (a :: A') V F G N sp u) (hSa : S a = f :: L) (hb : M.1 = false) (hh : M.2.1 = 0) (hst : f.2.1 = 1) (hk : gw_K w f.1 = 22) {g : Nat} (hag : a = 8 + g) (hg : g < G.2.2.2) (h2 : G.1 g = 2) (hc : G.2.1 g = 0)
    (hp : ∀ u', xr_R w q M (gk_su S a ((f.1, 3, f.2.2) :: L)) A' V F (upd G.1 g 1, G.2.1, upd G.2.2.1 g (nI f.1), G.2.2.2) N sp u' → post u') : wpX_goOn post u (nI (48 * a + L.length)) := by
  obtain ⟨en, vs, vn, ft, fs, fc, ke, ks, kn, cn, ac, gs, rfl, hP⟩ := hR
  have B := xo_mk hw I hSa hP
  have fo := xs_fo I hSa
  obtain ⟨hen, hv⟩ := hP.1 hb
  obtain ⟨i1, i2, eK, eS, eT, eC⟩ := xs_in hw B fo.1 hk hst
  have hvc := xg_vc I
  have hl := xo_l B
  have ha := B.1
  have ek : (nI (48 * a + L.length)).toNatClampNeg = 48 * a + L.length := nI_clamp (by omega)
  have et : ac (nI (a :: A').length - 1).toNatClampNeg = nI a := xm_tp (d := A'.length) rfl B.2.1 B.2.2.2.2.1.1
  have eg : gs g = 2 := by rw [B.2.2.2.2.2.2 g hg, xr_g, if_neg (fun z => absurd z.2 (by rw [hc]; decide)), h2]
  have egc : (nI g).toNatClampNeg = g := nI_clamp (by omega)
  refine ⟨i1, i2, nm_r eK ⟨i1, nm_r eS (br_f (by decide) (br_f (by decide) (br_f (by decide) (br_f (by decide) (br_t (hen.trans hh) (br_f (by decide) (br_t (by decide) ?_)))))))⟩⟩
  refine ⟨i1, nm_r eT ⟨i1, nm_r eC ?_⟩⟩
  repeat (refine br_f (by decide) ?_)
  refine br_t (by decide) ⟨xm_ti (d := A'.length) rfl B.2.1, nm_r (e' := nI g) (by rw [et, hag, gk_g8]) ⟨vp_in_nI (by omega) (by decide), br_f (by rw [egc, eg]; decide) ⟨vp_in_nI (by omega) (by decide), nm_r (e' := upd gs g 1) (by rw [egc]) ⟨i1, nm_r (e' := upd fs (48 * a + L.length) 3) (by rw [ek]) (nm_r (e' := nI A'.length) (nI_pred _) ?_)⟩⟩⟩⟩
  refine hp _ ⟨en, vs, vn, ft, _, fc, ke, ks, kn, cn, ac, _, rfl, fun _ => ⟨hen, hv⟩, B.2.2.2.2.1.2, xr_st3 B.2.2.2.2.2.1 B.1 xo_lv B.2.2.1 B.2.2.2.1 ?_ hl, ?_⟩
  · intro s hs _
    rcases hs with h | h
    · exact Or.inl (List.mem_cons_of_mem _ h)
    · exact Or.inr h
  · intro i hi
    show upd gs g 1 i = xr_g (upd G.1 g 1 i) (G.2.1 i)
    by_cases z : i = g
    · subst z
      rw [pk_us, pk_us, xr_g, if_neg (fun z => absurd z.1 (by decide))]
    · rw [pk_un z, pk_un z]
      exact B.2.2.2.2.2.2 i hi
theorem xg_done3 (hw : gw_S w) (hq : xq_S w q) (I : gk_I w M S (a :: A') V F G nc sp) (hR : xr_R w q M S (a :: A') V F G N sp u) (hSa : S a = f :: L) (hb : M.1 = false) (hh : M.2.1 = 0) (hst : f.2.1 = 1) (hk : gw_K w f.1 = 24) (hs : M.2.2.1 ≠ 4)
    (hp : ∀ u', xr_R w q (false, 1, 1, (-3 : Int32).toInt64) (gk_su S a L) (a :: A') V F G N sp u' → post u') : wpX_goOn post u (nI (48 * a + L.length)) := by
  obtain ⟨en, vs, vn, ft, fs, fc, ke, ks, kn, cn, ac, gs, rfl, hP⟩ := hR
  have B := xo_mk hw I hSa hP
  have fo := xs_fo I hSa
  obtain ⟨hen, hv⟩ := hP.1 hb
  obtain ⟨i1, i2, eK, eS, eT, eC⟩ := xs_in hw B fo.1 hk hst
  have hvv := hv (Or.inl hh)
  refine ⟨i1, i2, nm_r eK ⟨i1, nm_r eS (br_f (by decide) (br_f (by decide) (br_f (by decide) (br_f (by decide) (br_t (hen.trans hh) (br_f (by decide) (br_t (by decide) ?_)))))))⟩⟩
  refine ⟨i1, nm_r eT ⟨i1, nm_r eC ?_⟩⟩
  repeat (refine br_f (by decide) ?_)
  refine br_t (by decide) (br_f (by rw [hvv.1]; exact hs) ?_)
  exact xs_thr B hp
theorem xr_g3 {s c : Int32} : xr_g s c = 3 ↔ s = 3 := by
  unfold xr_g
  split
  · rename_i h
    rw [h.1]
    decide
  · exact Iff.rfl
theorem xr_g0 {s c : Int32} : xr_g s c = 0 ↔ s = 0 := by
  unfold xr_g
  split
  · rename_i h
    rw [h.1]
    decide
  · exact Iff.rfl
theorem xg_done (hw : gw_S w) (hq : xq_S w q) (I : gk_I w M S (a :: A') V F G nc sp) (hR : xr_R w q M S (a :: A') V F G N sp u) (hSa : S a = f :: L) (hb : M.1 = false) (hh : M.2.1 = 0) (hst : f.2.1 = 1) (hk : gw_K w f.1 = 24) {g : Nat} (hg : g < G.2.2.2) (hs : M.2.2.1 = 4) (hx : M.2.2.2 = lN g)
    (hp : ∀ u', xr_R w q (false, 0, 1, (if G.1 g = 3 then 1 else 0)) (gk_su S a L) (a :: A') V F G N sp u' → post u') : wpX_goOn post u (nI (48 * a + L.length)) := by
  obtain ⟨en, vs, vn, ft, fs, fc, ke, ks, kn, cn, ac, gs, rfl, hP⟩ := hR
  have B := xo_mk hw I hSa hP
  have fo := xs_fo I hSa
  obtain ⟨hen, hv⟩ := hP.1 hb
  obtain ⟨i1, i2, eK, eS, eT, eC⟩ := xs_in hw B fo.1 hk hst
  have hvc := xg_vc I
  have hvv := hv (Or.inl hh)
  have ev : vn.toInt32 = nI g := by rw [hvv.2, hx, lN_i]
  have eg : gs (vn.toInt32).toNatClampNeg = xr_g (G.1 g) (G.2.1 g) := by rw [ev, nI_clamp (by omega)]; exact B.2.2.2.2.2.2 g hg
  refine ⟨i1, i2, nm_r eK ⟨i1, nm_r eS (br_f (by decide) (br_f (by decide) (br_f (by decide) (br_f (by decide) (br_t (hen.trans hh) (br_f (by decide) (br_t (by decide) ?_)))))))⟩⟩
  refine ⟨i1, nm_r eT ⟨i1, nm_r eC ?_⟩⟩
  repeat (refine br_f (by decide) ?_)
  refine br_t (by decide) (br_t (by rw [hvv.1]; exact hs) ⟨by rw [ev]; exact vp_in_nI (by omega) (by decide), ?_⟩)
  rw [eg]
  by_cases z : G.1 g = 3
  · rw [if_pos z] at hp
    refine br_t (xr_g3.mpr z) ?_
    exact xs_fin B hp
  · rw [if_neg z] at hp
    refine br_f (fun y => z (xr_g3.mp y)) ?_
    exact xs_fin B hp
theorem xg_ent (hw : gw_S w) (I : gk_I w M S (a :: A') V F G nc sp) {en vs : Int32} {vn : Int64} {ft fs fc ke ks : Nat → Int32} {kn : Nat → Int64} {cn ac gs : Nat → Int32}
    (B : xo_B w S A' a f L G ft fs fc ke ks kn cn ac gs) {g : Nat} (hg : g < G.2.2.2) (h1 : G.1 g ≠ 2) (hd : A'.length + 1 < 8) {ns : Int32} {cl' : Nat → Int32}
    (hcl : ∀ i, i ≠ g → cl' i = G.2.1 i) (hns : (ns = 4 ∧ cl' g = 1) ∨ (ns = 2 ∧ cl' g = 0)) (hm : M'.1 = false → (if ns = 4 then 5 else 0) = M'.2.1 ∧ (gk_hv M'.2.1 → vs = M'.2.2.1 ∧ vn = M'.2.2.2))
    (hp : ∀ u', xr_R w q M' (gk_su S a ((f.1, 3, f.2.2) :: L)) ((8 + g) :: a :: A') V F (upd G.1 g 2, cl', G.2.2.1, G.2.2.2) N sp u' → post u') :
    wpX_setToWork post (xr_t w q (a :: A') V F G.2.2.2 N sp en vs vn ft fs fc ke ks kn cn ac gs) (nI (48 * a + L.length)) (nI g) ns := by
  have hvc := xg_vc I
  have hl := xo_l B
  have ha := B.1
  have hgn := I.2.2.1 g hg
  have ek : (nI (48 * a + L.length)).toNatClampNeg = 48 * a + L.length := nI_clamp (by omega)
  have i1 : vp_in (nI (48 * a + L.length)) 768 := vp_in_nI (by omega) (by decide)
  have ig : vp_in (nI g) 8 := vp_in_nI (by omega) (by decide)
  have egc : (nI g).toNatClampNeg = g := nI_clamp (by omega)
  have eg : gs g = G.1 g := by rw [B.2.2.2.2.2.2 g hg, xr_g, if_neg (fun z => h1 z.1)]
  have n4 : gs (nI g).toNatClampNeg ≠ 4 := by
    rw [egc, eg]
    rcases hgn.1 with z | z | z | z <;> (rw [z]; decide)
  have fin : ∀ u', u' = xr_t w q ((8 + g) :: a :: A') V F G.2.2.2 N sp (if ns = 4 then 5 else 0) vs vn ft (upd fs (48 * a + L.length) 3) fc ke ks kn cn (upd ac (A'.length + 1) (nI (8 + g))) (upd gs g ns) → post u' := by
    intro u' e
    refine hp u' ⟨_, _, _, _, _, _, _, _, _, _, _, _, e, hm, ⟨pk_us, xr_Ac _ (fun j hj => pk_un (by have : j < A'.length + 1 := hj; omega)) B.2.2.2.2.1⟩, xr_st3 B.2.2.2.2.2.1 B.1 xo_lv B.2.2.1 B.2.2.2.1 ?_ hl, ?_⟩
    · intro s hs _
      rcases hs with h | h
      · rcases List.mem_cons.mp h with h | h
        · exact Or.inr (by omega)
        · exact Or.inl h
      · exact Or.inr h
    · intro i hi
      show upd gs g ns i = xr_g (upd G.1 g 2 i) (cl' i)
      by_cases z : i = g
      · subst z
        rw [pk_us, pk_us]
        rcases hns with ⟨e1, e2⟩ | ⟨e1, e2⟩
        · rw [e1, e2]; rfl
        · rw [e1, e2]; rfl
      · rw [pk_un z, pk_un z, hcl i z]
        exact B.2.2.2.2.2.2 i hi
  refine ⟨ig, br_f (by rw [egc, eg]; exact h1) ⟨ig, br_f n4 (br_t (nI_lt (b := 8) hd (by decide)) ⟨i1, nm_r (e' := upd fs (48 * a + L.length) 3) (by rw [ek]) ⟨ig, nm_r (e' := upd gs g ns) (by rw [egc]) (br_c (fun z => ?_) (fun z => ?_))⟩⟩)⟩⟩
  · have e8 : (8 : Int32) + nI g = nI (8 + g) := nI_add 8 g
    refine xm_enter (d := A'.length + 1) rfl hd ?_
    rw [if_pos z, ← e8] at fin
    exact fin _ rfl
  · have e8 : (8 : Int32) + nI g = nI (8 + g) := nI_add 8 g
    refine xm_enter (d := A'.length + 1) rfl hd ?_
    rw [if_neg z, ← e8] at fin
    exact fin _ rfl
theorem xg_atw {en vs : Int32} {vn : Int64} {ft fs fc ke ks : Nat → Int32} {kn : Nat → Int64} {cn ac gs : Nat → Int32}
    (B : xo_B w S A' a f L G ft fs fc ke ks kn cn ac gs) {g : Nat} (hg : g < G.2.2.2) (hg8 : G.2.2.2 ≤ 8) (h2 : G.1 g = 2) {ns : Int32}
    (hp : ∀ u', xr_R w q (false, 1, 1, (-4 : Int32).toInt64) (gk_su S a L) (a :: A') V F G N sp u' → post u') :
    wpX_setToWork post (xr_t w q (a :: A') V F G.2.2.2 N sp en vs vn ft fs fc ke ks kn cn ac gs) (nI (48 * a + L.length)) (nI g) ns := by
  have ig : vp_in (nI g) 8 := vp_in_nI (by omega) (by decide)
  have egc : (nI g).toNatClampNeg = g := nI_clamp (by omega)
  have eg := B.2.2.2.2.2.2 g hg
  by_cases z : G.2.1 g = 1
  · rw [xr_g, if_pos ⟨h2, z⟩] at eg
    refine ⟨ig, br_f (by rw [egc, eg]; decide) ⟨ig, br_t (by rw [egc, eg]) ?_⟩⟩
    exact xs_thr B hp
  · rw [xr_g, if_neg (fun y => z y.2), h2] at eg
    refine ⟨ig, br_t (by rw [egc, eg]) ?_⟩
    exact xs_thr B hp
theorem xg_full (I : gk_I w M S (a :: A') V F G nc sp) {en vs : Int32} {vn : Int64} {ft fs fc ke ks : Nat → Int32} {kn : Nat → Int64} {cn ac gs : Nat → Int32}
    (B : xo_B w S A' a f L G ft fs fc ke ks kn cn ac gs) {g : Nat} (hg : g < G.2.2.2) (h2 : G.1 g ≠ 2) (hd : ¬ A'.length + 1 < 8) {ns : Int32}
    (hp : ∀ u', xr_R w q (false, 1, 1, (-5 : Int32).toInt64) (gk_su S a L) (a :: A') V F G N sp u' → post u') :
    wpX_setToWork post (xr_t w q (a :: A') V F G.2.2.2 N sp en vs vn ft fs fc ke ks kn cn ac gs) (nI (48 * a + L.length)) (nI g) ns := by
  have hvc := xg_vc I
  have hgn := I.2.2.1 g hg
  have ig : vp_in (nI g) 8 := vp_in_nI (by omega) (by decide)
  have egc : (nI g).toNatClampNeg = g := nI_clamp (by omega)
  have eg : gs g = G.1 g := by rw [B.2.2.2.2.2.2 g hg, xr_g, if_neg (fun z => h2 z.1)]
  have n4 : gs (nI g).toNatClampNeg ≠ 4 := by
    rw [egc, eg]
    rcases hgn.1 with z | z | z | z <;> (rw [z]; decide)
  refine ⟨ig, br_f (by rw [egc, eg]; exact h2) ⟨ig, br_f n4 (br_f (nI_nlt (a := A'.length + 1) (b := 8) (by omega) (by have := B.2.1; omega)) ?_)⟩⟩
  exact xs_thr B hp
end
