theorem gk_0y {P : Prop} : (0 : Nat) = 1 ∨ (0 : Nat) = 2 → P := fun z => absurd z (by decide)
theorem gk_3y {P : Prop} : (3 : Nat) = 1 ∨ (3 : Nat) = 2 → P := fun z => absurd z (by decide)
section
variable {w : gw_T} {q : yq_T} {E : ye_T} {M M' : gm_T} {S : Nat → List gf_T} {a : Nat} {A' : List Nat} {V : gv_T} {F : gp_T} {G : gg_T} {N : gn_T} {nc sp : Nat} {v : SY} {f : gf_T} {L : List gf_T} {post : SY → Prop}
variable {e0 s0 k1 k2 : Int32} {n0 k3 : Int64}
theorem yf_ms {A : List Nat} {bg tk ch hw so : Int32} {va : Int64} {S' : Nat → List gf_T} (hb : M.1 = false) (h : bg = 0 ∧ hw = M.2.1 ∧ (gk_hv M.2.1 → so = M.2.2.1 ∧ va = M.2.2.2)) : yr_M M S' A bg tk ch hw so va :=
  ⟨fun z => absurd (hb.symm.trans z) (by decide), fun _ => h⟩
theorem yf_await (hw0 : gw_S w) (hq : yq_S w q) {bg tk ch hw so c : Int32} {va : Int64} {gb gh ro mn mn0 wt wo wc wh ws : Nat → Int32} {wv : Nat → Int64} (B : yo_B w S A' a f L G gb gh ro mn wt wo wc wh ws wv) (hn : f.1 < gw_n w)
    {o : Nat} (ho : o < gw_o w f.1) (ho2 : o < 2) (h1 : mn0 (yr_row a) = nI (gk_yl L)) (h2 : ∀ r, r ≠ yr_row a → mn0 r = mn r)
    (hk : o + 1 = 2 → gw_K w f.1 ≠ 14 → hw = k1 ∧ (gk_hv k1 → so = k2 ∧ va = k3)) {pi po : Int32} (hpi : pi = nI f.1) (hpo : po = nI o) (hm : M'.1 = true)
    (hp : ∀ v', yr_R w q E M' (gk_su S a ((gw_c w f.1 o, 0, c, e0, s0, n0) :: (f.1, o + 1, c, k1, k2, k3) :: L)) (a :: A') V F G N sp v' → post v') :
    wpY_await post (yr_t q E (a :: A') V F G N sp bg tk ch hw so va gb gh ro mn0 wt wo wc wh ws wv) pi po c := by
  have hn2 := hw0.2.2.1
  refine ym_await (d := A'.length) (r := yr_row a) (y := gk_yl L) (i := f.1) (o := o) rfl B.2.1 B.2.2.2.2.1.1 (yo_r B) h1 (yo_y B) (by omega) (by omega) hpi hpo (hq.2 f.1 o hn ho) ?_
  exact hp _ ⟨_, _, _, _, _, _, gb, gh, ro, _, _, _, _, _, _, _, rfl, yf_mb hm, B.2.2.2.2.1,
    yr_push (st := o + 1) B.2.2.2.2.2.1 B.1 (Or.inl (List.mem_cons_self ..)) B.2.2.1 (fun s q _ => q) B.2.2.2.1 (by omega) pk_us (fun r h => by rw [pk_un h]; exact h2 r h) hk, yo_g B (fun _ _ z => z)⟩
theorem yp_p1 (hw0 : gw_S w) (hq : yq_S w q) {t : Nat} (ht : t < gw_n w) (ho : 1 < gw_o w t) : vp_in ((3 : Int32) * nI t + 1) 144 ∧ q.2.2.2.2.2.2.2.2.2.2.1 ((3 : Int32) * nI t + 1).toNatClampNeg = nI (gw_c w t 1) := by
  have hn := hw0.2.2.1
  have e : (3 : Int32) * nI t + 1 = nI (3 * t + 1) := by rw [show (3 : Int32) = nI 3 from rfl, pk_mul, nI_1]
  rw [e, nI_clamp (by omega)]
  exact ⟨vp_in_nI (by omega) (by decide), hq.2 t 1 ht ho⟩
theorem yp_p2 (hw0 : gw_S w) (hq : yq_S w q) {t : Nat} (ht : t < gw_n w) (ho : 2 < gw_o w t) : vp_in ((3 : Int32) * nI t + 2) 144 ∧ q.2.2.2.2.2.2.2.2.2.2.1 ((3 : Int32) * nI t + 2).toNatClampNeg = nI (gw_c w t 2) := by
  have hn := hw0.2.2.1
  have e : (3 : Int32) * nI t + 2 = nI (3 * t + 2) := by rw [show (3 : Int32) = nI 3 from rfl, show (2 : Int32) = nI 2 from rfl, pk_mul, nI_add]
  rw [e, nI_clamp (by omega)]
  exact ⟨vp_in_nI (by omega) (by decide), hq.2 t 2 ht ho⟩
theorem yp_p0 (hw0 : gw_S w) (hq : yq_S w q) {t : Nat} (ht : t < gw_n w) (ho : 0 < gw_o w t) : vp_in ((3 : Int32) * nI t) 144 ∧ q.2.2.2.2.2.2.2.2.2.2.1 ((3 : Int32) * nI t).toNatClampNeg = nI (t + 1) := by
  have hn := hw0.2.2.1
  have e : (3 : Int32) * nI t = nI (3 * t) := by rw [show (3 : Int32) = nI 3 from rfl, pk_mul]
  rw [e, nI_clamp (by omega)]
  exact ⟨vp_in_nI (by omega) (by decide), hq.2 t 0 ht ho⟩
theorem yg_f1 (hw0 : gw_S w) (hq : yq_S w q) (I : gk_I w M S (a :: A') V F G nc sp) (hR : yr_R w q E M S (a :: A') V F G N sp v) (hSa : S a = f :: L) (hb : M.1 = false) (hst : f.2.1 = 1) (hk : gw_K w f.1 = 21) (hm : M'.1 = true)
    (hp : ∀ v', yr_R w q E M' (gk_su S a ((gw_c w f.1 1, 0, f.2.2.1, e0, s0, n0) :: (f.1, 2, f.2.2.1, M.2) :: L)) (a :: A') V F G N sp v' → post v') : wpY_pass post v := by
  obtain ⟨bg, tk, ch, hw, so, va, gb, gh, ro, mn, wt, wo, wc, wh, ws, wv, rfl, hP⟩ := hR
  have B := yo_mk hw0 I hSa hP
  have fo := xs_fo I hSa
  obtain ⟨hbg, hhw, hv⟩ := hP.1.2 hb
  obtain ⟨j1, jr, j2, jn, jm, jk, j3, jt, jo, j4, jc, jK, jW⟩ := yp_in hw0 hq B fo.1 (Or.inl hst) hk (sg := 0) (by rw [hst])
  have ho : gw_o w f.1 = 2 := by rw [hw0.2.2.2.1 _ fo.1, hk]; decide
  refine ⟨j1, nm_r jr ⟨j2, br_f jn ⟨j2, j2, nm_r jm ⟨j2, nm_r jk ⟨j3, nm_r jt ⟨j3, nm_r jo ⟨j4, ?_⟩⟩⟩⟩⟩⟩⟩
  rw [jK]
  refine br_t (by decide) (br_t (by decide) ⟨j3, ?_⟩)
  rw [jc]
  exact yf_await (o := 1) hw0 hq B fo.1 (by omega) (by decide) pk_us (fun r h => pk_un h) (fun _ _ => ⟨hhw, hv⟩) rfl rfl hm hp
theorem yg_f2 (hw0 : gw_S w) (hq : yq_S w q) (I : gk_I w M S (a :: A') V F G nc sp) (hR : yr_R w q E M S (a :: A') V F G N sp v) (hSa : S a = f :: L) (hb : M.1 = false) (hh : M.2.1 = 0) (hst : f.2.1 = 2) (hk : gw_K w f.1 = 21)
    (hp : ∀ v', yr_R w q E (false, f.2.2.2) (gk_su S a L) (a :: A') V F G N sp v' → post v') : wpY_pass post v := by
  obtain ⟨bg, tk, ch, hw, so, va, gb, gh, ro, mn, wt, wo, wc, wh, ws, wv, rfl, hP⟩ := hR
  have B := yo_mk hw0 I hSa hP
  have fo := xs_fo I hSa
  obtain ⟨hbg, hhw, hv⟩ := hP.1.2 hb
  obtain ⟨j1, jr, j2, jn, jm, jk, j3, jt, jo, j4, jc, jK, jW⟩ := yp_in hw0 hq B fo.1 (Or.inr hst) hk (sg := 1) (by rw [hst])
  have hW := jW hst (by rw [hk]; decide)
  refine ⟨j1, nm_r jr ⟨j2, br_f jn ⟨j2, j2, nm_r jm ⟨j2, nm_r jk ⟨j3, nm_r jt ⟨j3, nm_r jo ⟨j4, ?_⟩⟩⟩⟩⟩⟩⟩
  rw [jK]
  refine br_t (by decide) (br_f (by decide) (br_t (hhw.trans hh) ⟨j3, j3, j3, ?_⟩))
  exact yf_top (M' := (false, f.2.2.2)) (L2 := L) (post := post) (V' := V) (F' := F) (N' := N) (sp' := sp) (st' := G.1) (cl' := G.2.1) (gy' := G.2.2.1) B (fun _ _ z => z) pk_us (fun r h => pk_un h) (fun z => z) ⟨fun z => (by cases z), fun _ => ⟨rfl, hW.1, hW.2⟩⟩ hp
theorem yg_f2p (hw0 : gw_S w) (hq : yq_S w q) (I : gk_I w M S (a :: A') V F G nc sp) (hR : yr_R w q E M S (a :: A') V F G N sp v) (hSa : S a = f :: L) (hb : M.1 = false) (hh : M.2.1 ≠ 0) (hst : f.2.1 = 2) (hk : gw_K w f.1 = 21)
    (hp : ∀ v', yr_R w q E M (gk_su S a L) (a :: A') V F G N sp v' → post v') : wpY_pass post v := by
  obtain ⟨bg, tk, ch, hw, so, va, gb, gh, ro, mn, wt, wo, wc, wh, ws, wv, rfl, hP⟩ := hR
  have B := yo_mk hw0 I hSa hP
  have fo := xs_fo I hSa
  obtain ⟨hbg, hhw, hv⟩ := hP.1.2 hb
  obtain ⟨j1, jr, j2, jn, jm, jk, j3, jt, jo, j4, jc, jK, jW⟩ := yp_in hw0 hq B fo.1 (Or.inr hst) hk (sg := 1) (by rw [hst])
  refine ⟨j1, nm_r jr ⟨j2, br_f jn ⟨j2, j2, nm_r jm ⟨j2, nm_r jk ⟨j3, nm_r jt ⟨j3, nm_r jo ⟨j4, ?_⟩⟩⟩⟩⟩⟩⟩
  rw [jK]
  refine br_t (by decide) (br_f (by decide) (br_f (by rw [hhw]; exact hh) ?_))
  exact yf_top (M' := M) (L2 := L) (post := post) (V' := V) (F' := F) (N' := N) (sp' := sp) (st' := G.1) (cl' := G.2.1) (gy' := G.2.2.1) B (fun _ _ z => z) pk_us (fun r h => pk_un h) (fun z => z) (yf_ms hb ⟨hbg, hhw, hv⟩) hp
theorem yg_pw1 (hw0 : gw_S w) (hq : yq_S w q) (I : gk_I w M S (a :: A') V F G nc sp) (hR : yr_R w q E M S (a :: A') V F G N sp v) (hSa : S a = f :: L) (hb : M.1 = false) (hh : M.2.1 ≠ 0) (hst : f.2.1 = 1) (hk : gw_K w f.1 = 14)
    (hp : ∀ v', yr_R w q E M (gk_su S a L) (a :: A') V F G N sp v' → post v') : wpY_pass post v := by
  obtain ⟨bg, tk, ch, hw, so, va, gb, gh, ro, mn, wt, wo, wc, wh, ws, wv, rfl, hP⟩ := hR
  have B := yo_mk hw0 I hSa hP
  have fo := xs_fo I hSa
  obtain ⟨hbg, hhw, hv⟩ := hP.1.2 hb
  obtain ⟨j1, jr, j2, jn, jm, jk, j3, jt, jo, j4, jc, jK, jW⟩ := yp_in hw0 hq B fo.1 (Or.inl hst) hk (sg := 0) (by rw [hst])
  refine ⟨j1, nm_r jr ⟨j2, br_f jn ⟨j2, j2, nm_r jm ⟨j2, nm_r jk ⟨j3, nm_r jt ⟨j3, nm_r jo ⟨j4, ?_⟩⟩⟩⟩⟩⟩⟩
  rw [jK]
  refine br_f (by decide) ⟨j4, br_t (by decide) (br_t (by decide) (br_f (by rw [hhw]; exact hh) (br_f (by decide) (br_f (by decide) ?_))))⟩
  exact yf_top (M' := M) (L2 := L) (post := post) (V' := V) (F' := F) (N' := N) (sp' := sp) (st' := G.1) (cl' := G.2.1) (gy' := G.2.2.1) B (fun _ _ z => z) pk_us (fun r h => pk_un h) (fun z => z) (yf_ms hb ⟨hbg, hhw, hv⟩) hp
theorem yg_pw2 (hw0 : gw_S w) (hq : yq_S w q) (I : gk_I w M S (a :: A') V F G nc sp) (hR : yr_R w q E M S (a :: A') V F G N sp v) (hSa : S a = f :: L) (hb : M.1 = false) (h0 : M.2.1 ≠ 0) (h3 : M.2.1 ≠ 3) (h2 : M.2.1 ≠ 2) (hst : f.2.1 = 2) (hk : gw_K w f.1 = 14)
    (hp : ∀ v', yr_R w q E M (gk_su S a L) (a :: A') V F G N sp v' → post v') : wpY_pass post v := by
  obtain ⟨bg, tk, ch, hw, so, va, gb, gh, ro, mn, wt, wo, wc, wh, ws, wv, rfl, hP⟩ := hR
  have B := yo_mk hw0 I hSa hP
  have fo := xs_fo I hSa
  obtain ⟨hbg, hhw, hv⟩ := hP.1.2 hb
  obtain ⟨j1, jr, j2, jn, jm, jk, j3, jt, jo, j4, jc, jK, jW⟩ := yp_in hw0 hq B fo.1 (Or.inr hst) hk (sg := 1) (by rw [hst])
  refine ⟨j1, nm_r jr ⟨j2, br_f jn ⟨j2, j2, nm_r jm ⟨j2, nm_r jk ⟨j3, nm_r jt ⟨j3, nm_r jo ⟨j4, ?_⟩⟩⟩⟩⟩⟩⟩
  rw [jK]
  refine br_f (by decide) ⟨j4, br_t (by decide) (br_f (by decide) (br_t (by decide) (br_f (by rw [hhw]; exact h0) (br_f (by rw [hhw]; exact h3) (br_t (by decide) (br_f (by rw [hhw]; exact h2) ?_))))))⟩
  exact yf_top (M' := M) (L2 := L) (post := post) (V' := V) (F' := F) (N' := N) (sp' := sp) (st' := G.1) (cl' := G.2.1) (gy' := G.2.2.1) B (fun _ _ z => z) pk_us (fun r h => pk_un h) (fun z => z) (yf_ms hb ⟨hbg, hhw, hv⟩) hp
theorem yg_w1t (hw0 : gw_S w) (hq : yq_S w q) (I : gk_I w M S (a :: A') V F G nc sp) (hR : yr_R w q E M S (a :: A') V F G N sp v) (hSa : S a = f :: L) (hb : M.1 = false) (hh : M.2.1 = 0) (hst : f.2.1 = 1) (hk : gw_K w f.1 = 14) (h5 : M.2.2.1 = 0 ∨ M.2.2.1 = 1 ∨ M.2.2.1 = 2 ∨ M.2.2.1 = 3 ∨ M.2.2.1 = 4) (ht : gk_tr M.2.2.1 M.2.2.2 = true) (hm : M'.1 = true)
    (hp : ∀ v', yr_R w q E M' (gk_su S a ((gw_c w f.1 1, 0, f.2.2.1, e0, s0, n0) :: (f.1, 2, f.2.2.1, k1, k2, k3) :: L)) (a :: A') V F G N sp v' → post v') : wpY_pass post v := by
  obtain ⟨bg, tk, ch, hw, so, va, gb, gh, ro, mn, wt, wo, wc, wh, ws, wv, rfl, hP⟩ := hR
  have B := yo_mk hw0 I hSa hP
  have fo := xs_fo I hSa
  obtain ⟨hbg, hhw, hv⟩ := hP.1.2 hb
  obtain ⟨j1, jr, j2, jn, jm, jk, j3, jt, jo, j4, jc, jK, jW⟩ := yp_in hw0 hq B fo.1 (Or.inl hst) hk (sg := 0) (by rw [hst])
  have ho : gw_o w f.1 = 2 := by rw [hw0.2.2.2.1 _ fo.1, hk]; decide
  have hvv := hv (Or.inl hh)
  refine ⟨j1, nm_r jr ⟨j2, br_f jn ⟨j2, j2, nm_r jm ⟨j2, nm_r jk ⟨j3, nm_r jt ⟨j3, nm_r jo ⟨j4, ?_⟩⟩⟩⟩⟩⟩⟩
  rw [jK]
  refine br_f (by decide) ⟨j4, br_t (by decide) (br_t (by decide) (br_t (hhw.trans hh) ?_))⟩
  refine ym_true hvv.1 hvv.2 h5 ?_
  rw [if_pos ht]
  refine br_f (by decide) ⟨j3, ?_⟩
  rw [jc]
  exact yf_await (o := 1) hw0 hq B fo.1 (by omega) (by decide) pk_us (fun r h => pk_un h) (fun _ z => absurd hk z) rfl rfl hm hp
theorem yg_w1f (hw0 : gw_S w) (hq : yq_S w q) (I : gk_I w M S (a :: A') V F G nc sp) (hR : yr_R w q E M S (a :: A') V F G N sp v) (hSa : S a = f :: L) (hb : M.1 = false) (hh : M.2.1 = 0) (hst : f.2.1 = 1) (hk : gw_K w f.1 = 14) (h5 : M.2.2.1 = 0 ∨ M.2.2.1 = 1 ∨ M.2.2.1 = 2 ∨ M.2.2.1 = 3 ∨ M.2.2.1 = 4) (ht : ¬ gk_tr M.2.2.1 M.2.2.2 = true)
    (hp : ∀ v', yr_R w q E (false, 0, 0, 0) (gk_su S a L) (a :: A') V F G N sp v' → post v') : wpY_pass post v := by
  obtain ⟨bg, tk, ch, hw, so, va, gb, gh, ro, mn, wt, wo, wc, wh, ws, wv, rfl, hP⟩ := hR
  have B := yo_mk hw0 I hSa hP
  have fo := xs_fo I hSa
  obtain ⟨hbg, hhw, hv⟩ := hP.1.2 hb
  obtain ⟨j1, jr, j2, jn, jm, jk, j3, jt, jo, j4, jc, jK, jW⟩ := yp_in hw0 hq B fo.1 (Or.inl hst) hk (sg := 0) (by rw [hst])
  have hvv := hv (Or.inl hh)
  refine ⟨j1, nm_r jr ⟨j2, br_f jn ⟨j2, j2, nm_r jm ⟨j2, nm_r jk ⟨j3, nm_r jt ⟨j3, nm_r jo ⟨j4, ?_⟩⟩⟩⟩⟩⟩⟩
  rw [jK]
  refine br_f (by decide) ⟨j4, br_t (by decide) (br_t (by decide) (br_t (hhw.trans hh) ?_))⟩
  refine ym_true hvv.1 hvv.2 h5 ?_
  rw [if_neg ht]
  refine br_t (by decide) ?_
  exact yf_top (M' := (false, 0, 0, 0)) (L2 := L) (post := post) (V' := V) (F' := F) (N' := N) (sp' := sp) (st' := G.1) (cl' := G.2.1) (gy' := G.2.2.1) B (fun _ _ z => z) pk_us (fun r h => pk_un h) (fun z => z) yf_me hp
theorem yg_w2 (hw0 : gw_S w) (hq : yq_S w q) (I : gk_I w M S (a :: A') V F G nc sp) (hR : yr_R w q E M S (a :: A') V F G N sp v) (hSa : S a = f :: L) (hb : M.1 = false) (hh : M.2.1 = 0 ∨ M.2.1 = 3) (hst : f.2.1 = 2) (hk : gw_K w f.1 = 14) (hm : M'.1 = true)
    (hp : ∀ v', yr_R w q E M' (gk_su S a ((gw_c w f.1 0, 0, f.2.2.1, e0, s0, n0) :: (f.1, 1, f.2.2.1, k1, k2, k3) :: L)) (a :: A') V F G N sp v' → post v') : wpY_pass post v := by
  obtain ⟨bg, tk, ch, hw, so, va, gb, gh, ro, mn, wt, wo, wc, wh, ws, wv, rfl, hP⟩ := hR
  have B := yo_mk hw0 I hSa hP
  have fo := xs_fo I hSa
  obtain ⟨hbg, hhw, hv⟩ := hP.1.2 hb
  obtain ⟨j1, jr, j2, jn, jm, jk, j3, jt, jo, j4, jc, jK, jW⟩ := yp_in hw0 hq B fo.1 (Or.inr hst) hk (sg := 1) (by rw [hst])
  have ho : gw_o w f.1 = 2 := by rw [hw0.2.2.2.1 _ fo.1, hk]; decide
  refine ⟨j1, nm_r jr ⟨j2, br_f jn ⟨j2, j2, nm_r jm ⟨j2, nm_r jk ⟨j3, nm_r jt ⟨j3, nm_r jo ⟨j4, ?_⟩⟩⟩⟩⟩⟩⟩
  rw [jK]
  refine br_f (by decide) ⟨j4, br_t (by decide) (br_f (by decide) (br_t (by decide) ?_))⟩
  rcases hh with hh | hh
  · refine br_t (hhw.trans hh) ⟨j3, ?_⟩
    rw [jc]
    exact yf_await (o := 0) hw0 hq B fo.1 (by omega) (by decide) pk_us (fun r h => pk_un h) (fun _ z => absurd hk z) rfl rfl hm hp
  · refine br_f (by rw [hhw, hh]; decide) (br_t (hhw.trans hh) ⟨j3, ?_⟩)
    rw [jc]
    exact yf_await (o := 0) hw0 hq B fo.1 (by omega) (by decide) pk_us (fun r h => pk_un h) (fun _ z => absurd hk z) rfl rfl hm hp
theorem yg_w2b (hw0 : gw_S w) (hq : yq_S w q) (I : gk_I w M S (a :: A') V F G nc sp) (hR : yr_R w q E M S (a :: A') V F G N sp v) (hSa : S a = f :: L) (hb : M.1 = false) (hh : M.2.1 = 2) (hst : f.2.1 = 2) (hk : gw_K w f.1 = 14)
    (hp : ∀ v', yr_R w q E (false, 0, 0, 0) (gk_su S a L) (a :: A') V F G N sp v' → post v') : wpY_pass post v := by
  obtain ⟨bg, tk, ch, hw, so, va, gb, gh, ro, mn, wt, wo, wc, wh, ws, wv, rfl, hP⟩ := hR
  have B := yo_mk hw0 I hSa hP
  have fo := xs_fo I hSa
  obtain ⟨hbg, hhw, hv⟩ := hP.1.2 hb
  obtain ⟨j1, jr, j2, jn, jm, jk, j3, jt, jo, j4, jc, jK, jW⟩ := yp_in hw0 hq B fo.1 (Or.inr hst) hk (sg := 1) (by rw [hst])
  refine ⟨j1, nm_r jr ⟨j2, br_f jn ⟨j2, j2, nm_r jm ⟨j2, nm_r jk ⟨j3, nm_r jt ⟨j3, nm_r jo ⟨j4, ?_⟩⟩⟩⟩⟩⟩⟩
  rw [jK]
  refine br_f (by decide) ⟨j4, br_t (by decide) (br_f (by decide) (br_t (by decide) (br_f (by rw [hhw, hh]; decide) (br_f (by rw [hhw, hh]; decide) (br_t (by decide) (br_t (hhw.trans hh) ?_))))))⟩
  exact yf_top (M' := (false, 0, 0, 0)) (L2 := L) (post := post) (V' := V) (F' := F) (N' := N) (sp' := sp) (st' := G.1) (cl' := G.2.1) (gy' := G.2.2.1) B (fun _ _ z => z) pk_us (fun r h => pk_un h) (fun z => z) yf_me hp
theorem yg_pn (hw0 : gw_S w) (hq : yq_S w q) (I : gk_I w M S (a :: A') V F G nc sp) (hR : yr_R w q E M S (a :: A') V F G N sp v) (hSa : S a = f :: L) (hb : M.1 = false) (hh : M.2.1 ≠ 0) (hst : f.2.1 = 1 ∨ f.2.1 = 2) (h14 : gw_K w f.1 ≠ 14) (h21 : gw_K w f.1 ≠ 21) (h20 : M.2.1 = 1 → gw_K w f.1 ≠ 20)
    (hp : ∀ v', yr_R w q E M (gk_su S a L) (a :: A') V F G N sp v' → post v') : wpY_pass post v := by
  obtain ⟨bg, tk, ch, hw, so, va, gb, gh, ro, mn, wt, wo, wc, wh, ws, wv, rfl, hP⟩ := hR
  have B := yo_mk hw0 I hSa hP
  have fo := xs_fo I hSa
  obtain ⟨hbg, hhw, hv⟩ := hP.1.2 hb
  obtain ⟨j1, jr, j2, jn, jm, jk, j3, jt, jo, j4, jc, jK, jW⟩ := yp_in hw0 hq B fo.1 hst rfl rfl
  refine ⟨j1, nm_r jr ⟨j2, br_f jn ⟨j2, j2, nm_r jm ⟨j2, nm_r jk ⟨j3, nm_r jt ⟨j3, nm_r jo ⟨j4, ?_⟩⟩⟩⟩⟩⟩⟩
  rw [jK]
  refine br_f h21 ⟨j4, br_f h14 (br_c (fun z => ⟨j4, br_f (h20 (hhw.symm.trans z)) (br_f (by rw [hhw]; exact hh) ?_)⟩) (fun z => br_f (by rw [hhw]; exact hh) ?_))⟩
  · exact yf_top (M' := M) (L2 := L) (post := post) (V' := V) (F' := F) (N' := N) (sp' := sp) (st' := G.1) (cl' := G.2.1) (gy' := G.2.2.1) B (fun _ _ z => z) pk_us (fun r h => pk_un h) (fun z => z) (yf_ms hb ⟨hbg, hhw, hv⟩) hp
  · exact yf_top (M' := M) (L2 := L) (post := post) (V' := V) (F' := F) (N' := N) (sp' := sp) (st' := G.1) (cl' := G.2.1) (gy' := G.2.2.1) B (fun _ _ z => z) pk_us (fun r h => pk_un h) (fun z => z) (yf_ms hb ⟨hbg, hhw, hv⟩) hp
theorem yg_vc (I : gk_I w M S (a :: A') V F G nc sp) : V.2.2.2.2 ≤ 600 ∧ F.2.2 ≤ 600 ∧ G.2.2.2 ≤ 8 := xg_vc I
theorem yg_try (hw0 : gw_S w) (hq : yq_S w q) (I : gk_I w M S (a :: A') V F G nc sp) (hR : yr_R w q E M S (a :: A') V F G N sp v) (hSa : S a = f :: L) (hb : M.1 = false) (hh : M.2.1 = 1) (hst : f.2.1 = 1) (hk : gw_K w f.1 = 20) (hm : M'.1 = true)
    (hp : ∀ v', yr_R w q E M' (gk_su S a ((gw_c w f.1 1, 0, nI V.2.2.2.2, e0, s0, n0) :: (f.1, 3, f.2.2.1, k1, k2, k3) :: L)) (a :: A') (gk_bd V (nI f.1) f.2.2.1 M.2.2.1 M.2.2.2) F G N sp v' → post v') : wpY_pass post v := by
  obtain ⟨bg, tk, ch, hw, so, va, gb, gh, ro, mn, wt, wo, wc, wh, ws, wv, rfl, hP⟩ := hR
  have B := yo_mk hw0 I hSa hP
  have fo := xs_fo I hSa
  obtain ⟨hbg, hhw, hv⟩ := hP.1.2 hb
  obtain ⟨j1, jr, j2, jn, jm, jk, j3, jt, jo, j4, jc, jK, jW⟩ := yp_in hw0 hq B fo.1 (Or.inl hst) hk (sg := 0) (by rw [hst])
  have ho : gw_o w f.1 = 2 := by rw [hw0.2.2.2.1 _ fo.1, hk]; decide
  obtain ⟨rfl, rfl⟩ := hv (Or.inr (Or.inl hh))
  have hp1 := yp_p1 hw0 hq fo.1 (by omega)
  refine ⟨j1, nm_r jr ⟨j2, br_f jn ⟨j2, j2, nm_r jm ⟨j2, nm_r jk ⟨j3, nm_r jt ⟨j3, nm_r jo ⟨j4, ?_⟩⟩⟩⟩⟩⟩⟩
  rw [jK]
  refine br_f (by decide) ⟨j4, br_f (by decide) (br_t (hhw.trans hh) ⟨j4, br_t (by decide) ⟨j3, ?_⟩⟩)⟩
  rw [jc]
  refine ym_bind (v := V.2.2.2.2) rfl (xg_vlt I hSa (Or.inl hst)) ⟨hp1.1, ?_⟩
  rw [hp1.2]
  exact yf_top (M' := M') (L2 := (gw_c w f.1 1, 0, nI V.2.2.2.2, e0, s0, n0) :: (f.1, 3, f.2.2.1, k1, k2, k3) :: L) (post := post) (V' := gk_bd V (nI f.1) f.2.2.1 M.2.2.1 M.2.2.2) (F' := F) (N' := N) (sp' := sp) (st' := G.1) (cl' := G.2.1) (gy' := G.2.2.1) B (fun _ _ z => z) pk_us (fun r h => pk_un h) (fun z => ⟨gk_0y, gk_3y, z⟩) (yf_mb hm) hp
end
