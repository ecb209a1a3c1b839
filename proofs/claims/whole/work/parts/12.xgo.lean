/-! the class goes on with a frame: the cases -/
section
variable {w : gw_T} {q : xq_T} {M M' : gm_T} {S : Nat → List gf_T} {a : Nat} {A' : List Nat} {V : gv_T} {F : gp_T} {G : gg_T} {N : gn_T} {nc sp : Nat} {u : SX} {f : gf_T} {L : List gf_T} {post : SX → Prop}
variable {e0 s0 k1 k2 : Int32} {n0 k3 : Int64}
theorem xg_p3 (hw : gw_S w) (hq : xq_S w q) (I : gk_I w M S (a :: A') V F G nc sp) (hR : xr_R w q M S (a :: A') V F G N sp u) (hSa : S a = f :: L) (hb : M.1 = false) (hst : f.2.1 = 3) (hp : ∀ u', xr_R w q M (gk_su S a L) (a :: A') V F G N sp u' → post u') : wpX_goOn post u (nI (48 * a + L.length)) := by
  obtain ⟨en, vs, vn, ft, fs, fc, ke, ks, kn, cn, ac, gs, rfl, hP⟩ := hR
  have B := xo_mk hw I hSa hP
  have fo := xs_fo I hSa
  obtain ⟨hen, hv⟩ := hP.1 hb
  have hn := fo.2.2.2.2.2.1 hst
  obtain ⟨i1, i2, eK, eS, eT, eC⟩ := xs_in hw B fo.1 rfl hst
  refine ⟨i1, i2, nm_r eK ⟨i1, nm_r eS (br_f hn.1 (br_f hn.2 (br_c (fun c20 => br_f (by decide) ?_) (fun c20 => ?_))))⟩⟩
  · refine br_t c20 ?_
    exact xs_fas B (fun _ => ⟨hen, hv⟩) hp
  · refine br_f c20 (br_c (fun h0 => br_t (by decide) ?_) (fun h0 => ?_))
    · exact xs_fas B (fun _ => ⟨hen, hv⟩) hp
    · exact xs_fas B (fun _ => ⟨hen, hv⟩) hp
theorem xg_seq (hw : gw_S w) (hq : xq_S w q) (I : gk_I w M S (a :: A') V F G nc sp) (hR : xr_R w q M S (a :: A') V F G N sp u) (hSa : S a = f :: L) (hb : M.1 = false) (hh : M.2.1 = 0) (hst : f.2.1 = 1) (hk : gw_K w f.1 = 15) (hm : M'.1 = true)
    (hp : ∀ u', xr_R w q M' (gk_su S a ((gw_c w f.1 1, 0, f.2.2.1, e0, s0, n0) :: (f.1, 3, f.2.2.1, k1, k2, k3) :: L)) (a :: A') V F G N sp u' → post u') : wpX_goOn post u (nI (48 * a + L.length)) := by
  obtain ⟨en, vs, vn, ft, fs, fc, ke, ks, kn, cn, ac, gs, rfl, hP⟩ := hR
  have B := xo_mk hw I hSa hP
  have fo := xs_fo I hSa
  obtain ⟨hen, hv⟩ := hP.1 hb
  obtain ⟨i1, i2, eK, eS, eT, eC⟩ := xs_in hw B fo.1 hk hst
  have ho : gw_o w f.1 = 2 := by rw [hw.2.2.2.1 _ fo.1, hk]; decide
  have hc1 := xs_c1 hw hq fo.1 (by omega)
  refine ⟨i1, i2, nm_r eK ⟨i1, nm_r eS (br_f (by decide) (br_f (by decide) (br_f (by decide) (br_f (by decide) (br_t (hen.trans hh) (br_f (by decide) (br_t (by decide) ?_))))))⟩⟩
  refine ⟨i1, nm_r eT ⟨i1, nm_r eC ?_⟩⟩
  repeat (refine br_f (by decide) ?_)
  refine br_t (by decide) ⟨hc1.1, ?_⟩
  exact xs_wop B (xs_room hw I hSa (by omega)) gk_32 hm rfl hc1.2 hp
theorem xg_ret (hw : gw_S w) (hq : xq_S w q) (I : gk_I w M S (a :: A') V F G nc sp) (hR : xr_R w q M S (a :: A') V F G N sp u) (hSa : S a = f :: L) (hb : M.1 = false) (hh : M.2.1 = 0) (hst : f.2.1 = 1) (hk : gw_K w f.1 = 18)
    (hp : ∀ u', xr_R w q (false, 4, M.2.2) (gk_su S a L) (a :: A') V F G N sp u' → post u') : wpX_goOn post u (nI (48 * a + L.length)) := by
  obtain ⟨en, vs, vn, ft, fs, fc, ke, ks, kn, cn, ac, gs, rfl, hP⟩ := hR
  have B := xo_mk hw I hSa hP
  have fo := xs_fo I hSa
  obtain ⟨hen, hv⟩ := hP.1 hb
  obtain ⟨i1, i2, eK, eS, eT, eC⟩ := xs_in hw B fo.1 hk hst
  refine ⟨i1, i2, nm_r eK ⟨i1, nm_r eS (br_f (by decide) (br_f (by decide) (br_f (by decide) (br_f (by decide) (br_t (hen.trans hh) (br_f (by decide) (br_t (by decide) ?_))))))⟩⟩
  refine ⟨i1, nm_r eT ⟨i1, nm_r eC ?_⟩⟩
  repeat (refine br_f (by decide) ?_)
  refine br_t (by decide) ?_
  exact xs_fas B (fun _ => ⟨rfl, fun _ => hv (Or.inl hh)⟩) hp
end
