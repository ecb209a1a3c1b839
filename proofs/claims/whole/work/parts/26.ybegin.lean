section
variable {w : gw_T} {q : yq_T} {E : ye_T} {M M' : gm_T} {S : Nat → List gf_T} {a : Nat} {A' : List Nat} {V : gv_T} {F : gp_T} {G : gg_T} {N : gn_T} {nc sp sp2 : Nat} {v : SY} {f : gf_T} {L : List gf_T} {post : SY → Prop}
variable {e0 s0 k1 k2 : Int32} {n0 k3 : Int64}
theorem yb_num (hw0 : gw_S w) (hq : yq_S w q) (I : gk_I w M S (a :: A') V F G nc sp) (hR : yr_R w q E M S (a :: A') V F G N sp2 v) (hSa : S a = f :: L) (hst : f.2.1 = 0) (hb : M.1 = true) (hk : gw_K w f.1 = 0) (hp : ∀ v', yr_R w q E (false, 0, 1, (gw_v w f.1).toInt64) (gk_su S a L) (a :: A') V F G N sp2 v' → post v') : wpY_begin post v := by
  obtain ⟨bg, tk, ch, hw, so, va, gb, gh, ro, mn, wt, wo, wc, wh, ws, wv, rfl, hP⟩ := hR
  have B := yo_mk hw0 I hSa hP
  have fo := xs_fo I hSa
  obtain ⟨rfl, hmt⟩ := hP.1.1 hb
  obtain ⟨rfl, rfl⟩ := hmt a A' f L rfl hSa
  have hmn0 := yo_mn B
  rw [gk_yln (by omega)] at hmn0
  have hn := hw0.2.2.1
  have ef : (nI f.1).toNatClampNeg = f.1 := nI_clamp (by have := fo.1; omega)
  have j4 : vp_in (nI f.1) 48 := vp_in_nI (by have := fo.1; omega) (by decide)
  have jK : q.2.2.2.2.2.2.1 (nI f.1).toNatClampNeg = gw_K w f.1 := by rw [ef]; exact (hq.1 f.1 fo.1).1
  rw [hk] at jK
  have jV : q.2.2.2.2.2.2.2.1 (nI f.1).toNatClampNeg = gw_v w f.1 := by rw [ef]; exact (hq.1 f.1 fo.1).2.1
  refine ⟨j4, nm_r jK ?_⟩
  repeat (refine br_f (by decide) ?_)
  refine br_t (by decide) ⟨j4, ?_⟩
  rw [jV]
  exact yf_top (M' := (false, 0, 1, (gw_v w f.1).toInt64)) (L2 := L) (post := post) (V' := V) (F' := F) (N' := N) (sp' := sp2) (st' := G.1) (cl' := G.2.1) (gy' := G.2.2.1) B (fun _ _ z => z) hmn0 (fun _ _ => rfl) (fun z => z) yf_me hp
theorem yb_nil (hw0 : gw_S w) (hq : yq_S w q) (I : gk_I w M S (a :: A') V F G nc sp) (hR : yr_R w q E M S (a :: A') V F G N sp2 v) (hSa : S a = f :: L) (hst : f.2.1 = 0) (hb : M.1 = true) (hk : gw_K w f.1 = 1) (hp : ∀ v', yr_R w q E (false, 0, 0, 0) (gk_su S a L) (a :: A') V F G N sp2 v' → post v') : wpY_begin post v := by
  obtain ⟨bg, tk, ch, hw, so, va, gb, gh, ro, mn, wt, wo, wc, wh, ws, wv, rfl, hP⟩ := hR
  have B := yo_mk hw0 I hSa hP
  have fo := xs_fo I hSa
  obtain ⟨rfl, hmt⟩ := hP.1.1 hb
  obtain ⟨rfl, rfl⟩ := hmt a A' f L rfl hSa
  have hmn0 := yo_mn B
  rw [gk_yln (by omega)] at hmn0
  have hn := hw0.2.2.1
  have ef : (nI f.1).toNatClampNeg = f.1 := nI_clamp (by have := fo.1; omega)
  have j4 : vp_in (nI f.1) 48 := vp_in_nI (by have := fo.1; omega) (by decide)
  have jK : q.2.2.2.2.2.2.1 (nI f.1).toNatClampNeg = gw_K w f.1 := by rw [ef]; exact (hq.1 f.1 fo.1).1
  rw [hk] at jK
  refine ⟨j4, nm_r jK ?_⟩
  repeat (refine br_f (by decide) ?_)
  refine br_t (by decide) ?_
  exact yf_top (M' := (false, 0, 0, 0)) (L2 := L) (post := post) (V' := V) (F' := F) (N' := N) (sp' := sp2) (st' := G.1) (cl' := G.2.1) (gy' := G.2.2.1) B (fun _ _ z => z) hmn0 (fun _ _ => rfl) (fun z => z) yf_me hp
theorem yb_brk (hw0 : gw_S w) (hq : yq_S w q) (I : gk_I w M S (a :: A') V F G nc sp) (hR : yr_R w q E M S (a :: A') V F G N sp2 v) (hSa : S a = f :: L) (hst : f.2.1 = 0) (hb : M.1 = true) (hk : gw_K w f.1 = 16) (hp : ∀ v', yr_R w q E (false, 2, 0, 0) (gk_su S a L) (a :: A') V F G N sp2 v' → post v') : wpY_begin post v := by
  obtain ⟨bg, tk, ch, hw, so, va, gb, gh, ro, mn, wt, wo, wc, wh, ws, wv, rfl, hP⟩ := hR
  have B := yo_mk hw0 I hSa hP
  have fo := xs_fo I hSa
  obtain ⟨rfl, hmt⟩ := hP.1.1 hb
  obtain ⟨rfl, rfl⟩ := hmt a A' f L rfl hSa
  have hmn0 := yo_mn B
  rw [gk_yln (by omega)] at hmn0
  have hn := hw0.2.2.1
  have ef : (nI f.1).toNatClampNeg = f.1 := nI_clamp (by have := fo.1; omega)
  have j4 : vp_in (nI f.1) 48 := vp_in_nI (by have := fo.1; omega) (by decide)
  have jK : q.2.2.2.2.2.2.1 (nI f.1).toNatClampNeg = gw_K w f.1 := by rw [ef]; exact (hq.1 f.1 fo.1).1
  rw [hk] at jK
  refine ⟨j4, nm_r jK ?_⟩
  repeat (refine br_f (by decide) ?_)
  refine br_t (by decide) ?_
  exact yf_top (M' := (false, 2, 0, 0)) (L2 := L) (post := post) (V' := V) (F' := F) (N' := N) (sp' := sp2) (st' := G.1) (cl' := G.2.1) (gy' := G.2.2.1) B (fun _ _ z => z) hmn0 (fun _ _ => rfl) (fun z => z) yf_me hp
theorem yb_nxt (hw0 : gw_S w) (hq : yq_S w q) (I : gk_I w M S (a :: A') V F G nc sp) (hR : yr_R w q E M S (a :: A') V F G N sp2 v) (hSa : S a = f :: L) (hst : f.2.1 = 0) (hb : M.1 = true) (hk : gw_K w f.1 = 17) (hp : ∀ v', yr_R w q E (false, 3, 0, 0) (gk_su S a L) (a :: A') V F G N sp2 v' → post v') : wpY_begin post v := by
  obtain ⟨bg, tk, ch, hw, so, va, gb, gh, ro, mn, wt, wo, wc, wh, ws, wv, rfl, hP⟩ := hR
  have B := yo_mk hw0 I hSa hP
  have fo := xs_fo I hSa
  obtain ⟨rfl, hmt⟩ := hP.1.1 hb
  obtain ⟨rfl, rfl⟩ := hmt a A' f L rfl hSa
  have hmn0 := yo_mn B
  rw [gk_yln (by omega)] at hmn0
  have hn := hw0.2.2.1
  have ef : (nI f.1).toNatClampNeg = f.1 := nI_clamp (by have := fo.1; omega)
  have j4 : vp_in (nI f.1) 48 := vp_in_nI (by have := fo.1; omega) (by decide)
  have jK : q.2.2.2.2.2.2.1 (nI f.1).toNatClampNeg = gw_K w f.1 := by rw [ef]; exact (hq.1 f.1 fo.1).1
  rw [hk] at jK
  refine ⟨j4, nm_r jK ?_⟩
  repeat (refine br_f (by decide) ?_)
  refine br_t (by decide) ?_
  exact yf_top (M' := (false, 3, 0, 0)) (L2 := L) (post := post) (V' := V) (F' := F) (N' := N) (sp' := sp2) (st' := G.1) (cl' := G.2.1) (gy' := G.2.2.1) B (fun _ _ z => z) hmn0 (fun _ _ => rfl) (fun z => z) yf_me hp
theorem yb_var (hw0 : gw_S w) (hq : yq_S w q) (I : gk_I w M S (a :: A') V F G nc sp) (hR : yr_R w q E M S (a :: A') V F G N sp2 v) (hSa : S a = f :: L) (hst : f.2.1 = 0) (hb : M.1 = true) (hk : gw_K w f.1 = 2) {b : Nat} (hbs : b ∈ gw_sc w f.1) (hmn : gw_mn w f.1 = nI b)
    (hp : ∀ v', yr_R w q E (false, 0, V.2.2.1 (gk_fi V b (gw_sc w f.1) f.2.2.1), V.2.2.2.1 (gk_fi V b (gw_sc w f.1) f.2.2.1)) (gk_su S a L) (a :: A') V F G N sp2 v' → post v') : wpY_begin post v := by
  obtain ⟨bg, tk, ch, hw, so, va, gb, gh, ro, mn, wt, wo, wc, wh, ws, wv, rfl, hP⟩ := hR
  have B := yo_mk hw0 I hSa hP
  have fo := xs_fo I hSa
  obtain ⟨rfl, hmt⟩ := hP.1.1 hb
  obtain ⟨rfl, rfl⟩ := hmt a A' f L rfl hSa
  have hmn0 := yo_mn B
  rw [gk_yln (by omega)] at hmn0
  have hn := hw0.2.2.1
  have ef : (nI f.1).toNatClampNeg = f.1 := nI_clamp (by have := fo.1; omega)
  have j4 : vp_in (nI f.1) 48 := vp_in_nI (by have := fo.1; omega) (by decide)
  have jK : q.2.2.2.2.2.2.1 (nI f.1).toNatClampNeg = gw_K w f.1 := by rw [ef]; exact (hq.1 f.1 fo.1).1
  rw [hk] at jK
  have hvc := xg_vc I
  have hsc := hw0.2.2.2.2.2.2.2.2.2.2.2 f.1 fo.1
  have hb48 : b < 48 := by have := hsc.2 b hbs; have := fo.1; omega
  have hfi := gk_fil (b := b) (by omega) _ _ fo.2.1 hbs
  have jM : q.2.2.2.2.2.2.2.2.2.2.2.2.1 (nI f.1).toNatClampNeg = nI b := by
    rw [ef, ← hmn]
    exact (hq.1 f.1 fo.1).2.2.1
  refine ⟨j4, nm_r jK ?_⟩
  repeat (refine br_f (by decide) ?_)
  refine br_t (by decide) ⟨j4, ?_⟩
  rw [jM]
  refine ym_find hvc.1 hb48 rfl rfl fo.2.1 hbs (fun x hx => by have := hsc.2 x hx; have := fo.1; omega) ?_
  have i7 : vp_in (nI (gk_fi V b (gw_sc w f.1) f.2.2.1)) 700 := vp_in_nI (by omega) (by decide)
  have e6 : (nI (gk_fi V b (gw_sc w f.1) f.2.2.1)).toNatClampNeg = gk_fi V b (gw_sc w f.1) f.2.2.1 := nI_clamp (by omega)
  refine ⟨i7, i7, ?_⟩
  rw [e6]
  exact yf_top (M' := (false, 0, V.2.2.1 (gk_fi V b (gw_sc w f.1) f.2.2.1), V.2.2.2.1 (gk_fi V b (gw_sc w f.1) f.2.2.1))) (L2 := L) (post := post) (V' := V) (F' := F) (N' := N) (sp' := sp2) (st' := G.1) (cl' := G.2.1) (gy' := G.2.2.1) B (fun _ _ z => z) hmn0 (fun _ _ => rfl) (fun z => z) yf_me hp
theorem yb_fn (hw0 : gw_S w) (hq : yq_S w q) (I : gk_I w M S (a :: A') V F G nc sp) (hR : yr_R w q E M S (a :: A') V F G N sp2 v) (hSa : S a = f :: L) (hst : f.2.1 = 0) (hb : M.1 = true) (hk : gw_K w f.1 = 5) (h6 : F.2.2 < 600)
    (hp : ∀ v', yr_R w q E (false, 0, 3, lN F.2.2) (gk_su S a L) (a :: A') V (upd F.1 F.2.2 (nI f.1), upd F.2.1 F.2.2 f.2.2.1, F.2.2 + 1) G N sp2 v' → post v') : wpY_begin post v := by
  obtain ⟨bg, tk, ch, hw, so, va, gb, gh, ro, mn, wt, wo, wc, wh, ws, wv, rfl, hP⟩ := hR
  have B := yo_mk hw0 I hSa hP
  have fo := xs_fo I hSa
  obtain ⟨rfl, hmt⟩ := hP.1.1 hb
  obtain ⟨rfl, rfl⟩ := hmt a A' f L rfl hSa
  have hmn0 := yo_mn B
  rw [gk_yln (by omega)] at hmn0
  have hn := hw0.2.2.1
  have ef : (nI f.1).toNatClampNeg = f.1 := nI_clamp (by have := fo.1; omega)
  have j4 : vp_in (nI f.1) 48 := vp_in_nI (by have := fo.1; omega) (by decide)
  have jK : q.2.2.2.2.2.2.1 (nI f.1).toNatClampNeg = gw_K w f.1 := by rw [ef]; exact (hq.1 f.1 fo.1).1
  rw [hk] at jK
  have i7 : vp_in (nI F.2.2) 700 := vp_in_nI (by omega) (by decide)
  have e6 : (nI F.2.2).toNatClampNeg = F.2.2 := nI_clamp (by omega)
  refine ⟨j4, nm_r jK ?_⟩
  repeat (refine br_f (by decide) ?_)
  refine br_t (by decide) ⟨i7, nm_r (e' := upd F.1 F.2.2 (nI f.1)) (by rw [e6]) ⟨i7, nm_r (e' := upd F.2.1 F.2.2 f.2.2.1) (by rw [e6]) (nm_r (nI_1 F.2.2) ?_)⟩⟩
  rw [nI_pred, nI_l (by omega)]
  exact yf_top (M' := (false, 0, 3, lN F.2.2)) (L2 := L) (post := post) (V' := V) (F' := (upd F.1 F.2.2 (nI f.1), upd F.2.1 F.2.2 f.2.2.1, F.2.2 + 1)) (N' := N) (sp' := sp2) (st' := G.1) (cl' := G.2.1) (gy' := G.2.2.1) B (fun _ _ z => z) hmn0 (fun _ _ => rfl) (fun z => z) yf_me hp
theorem yb_aw (hw0 : gw_S w) (hq : yq_S w q) (I : gk_I w M S (a :: A') V F G nc sp) (hR : yr_R w q E M S (a :: A') V F G N sp2 v) (hSa : S a = f :: L) (hst : f.2.1 = 0) (hb : M.1 = true) {k : Nat} (hk27 : k < 27) (hk : gw_K w f.1 = nI k) (h5 : nI k ≠ 5) (ho : 0 < gw_o w f.1) (hm : M'.1 = true)
    (hp : ∀ v', yr_R w q E M' (gk_su S a ((gw_c w f.1 0, 0, f.2.2.1, e0, s0, n0) :: (f.1, 1, f.2.2.1, k1, k2, k3) :: L)) (a :: A') V F G N sp2 v' → post v') : wpY_begin post v := by
  obtain ⟨bg, tk, ch, hw, so, va, gb, gh, ro, mn, wt, wo, wc, wh, ws, wv, rfl, hP⟩ := hR
  have B := yo_mk hw0 I hSa hP
  have fo := xs_fo I hSa
  obtain ⟨rfl, hmt⟩ := hP.1.1 hb
  obtain ⟨rfl, rfl⟩ := hmt a A' f L rfl hSa
  have hmn0 := yo_mn B
  rw [gk_yln (by omega)] at hmn0
  have hn := hw0.2.2.1
  have ef : (nI f.1).toNatClampNeg = f.1 := nI_clamp (by have := fo.1; omega)
  have j4 : vp_in (nI f.1) 48 := vp_in_nI (by have := fo.1; omega) (by decide)
  have jK : q.2.2.2.2.2.2.1 (nI f.1).toNatClampNeg = gw_K w f.1 := by rw [ef]; exact (hq.1 f.1 fo.1).1
  rw [hk] at jK
  have ho2 : gw_o w f.1 = gw_op (nI k) := by rw [hw0.2.2.2.1 _ fo.1, hk]
  rw [ho2] at ho
  have fin : wY_begin_208 post (nI f.1) q.1 q.2.1 q.2.2.1 q.2.2.2.1 (nI V.2.2.2.2) (nI F.2.2) (nI G.2.2.2) (nI (a :: A').length) 1 (nI f.1) f.2.2.1 hw so va (nI sp2) E.1 E.2.1 E.2.2.1 E.2.2.2 (nI N.2.2) q.2.2.2.2.1 q.2.2.2.2.2.1 q.2.2.2.2.2.2.1 q.2.2.2.2.2.2.2.1 q.2.2.2.2.2.2.2.2.1 q.2.2.2.2.2.2.2.2.2.1 q.2.2.2.2.2.2.2.2.2.2.1 q.2.2.2.2.2.2.2.2.2.2.2.1 q.2.2.2.2.2.2.2.2.2.2.2.2.1 q.2.2.2.2.2.2.2.2.2.2.2.2.2.1 q.2.2.2.2.2.2.2.2.2.2.2.2.2.2 V.1 V.2.1 V.2.2.1 V.2.2.2.1 F.1 F.2.1 G.1 gb gh G.2.2.1 G.2.1 ro mn wt wo wc ws wh wv N.1 N.2.1 :=
    yf_await (o := 0) hw0 hq B fo.1 (by rw [ho2]; exact ho) (by decide) hmn0 (fun _ _ => rfl) (fun z => absurd z (by decide)) rfl rfl hm hp
  refine ⟨j4, nm_r jK ?_⟩
  clear hp B fo hP jK hmn0 hmt hq I ho2 hk
  have c : k = 0 ∨ k = 1 ∨ k = 2 ∨ k = 3 ∨ k = 4 ∨ k = 5 ∨ k = 6 ∨ k = 7 ∨ k = 8 ∨ k = 9 ∨ k = 10 ∨ k = 11 ∨ k = 12 ∨ k = 13 ∨ k = 14 ∨ k = 15 ∨ k = 16 ∨ k = 17 ∨ k = 18 ∨ k = 19 ∨ k = 20 ∨ k = 21 ∨ k = 22 ∨ k = 23 ∨ k = 24 ∨ k = 25 ∨ k = 26 := by omega
  rcases c with rfl | rfl | rfl | rfl | rfl | rfl | rfl | rfl | rfl | rfl | rfl | rfl | rfl | rfl | rfl | rfl | rfl | rfl | rfl | rfl | rfl | rfl | rfl | rfl | rfl | rfl | rfl
  all_goals
    first
    | exact absurd ho (by decide)
    | exact absurd rfl h5
    | (repeat (refine br_f (by decide) ?_)
       exact br_t (by decide) fin)
end
section
variable {w : gw_T} {q : yq_T} {E : ye_T} {M M' : gm_T} {S : Nat → List gf_T} {a : Nat} {A' : List Nat} {V : gv_T} {F : gp_T} {G : gg_T} {N : gn_T} {nc sp : Nat} {v : SY} {post : SY → Prop}
theorem yr_Cm {K : Nat → Int32} {Z : Nat → gx_T} {mn : Nat → Int32} {P P' : Nat → Prop} {S : Nat → List gf_T} (h : yr_C K Z mn P S) (hP : ∀ s, P' s → P s) : yr_C K Z mn P' S :=
  fun s hs hp => h s hs (hP s hp)
def ye_E (F : gp_T) (h s : Int32) (x : Int64) : ye_T := (s, (if h = 1 then 1 else 0), gk_sh F s x, 1)
theorem ye_66 {tk ch h s : Int32} {x : Int64} {gb gh ro mn wt wo wc wh ws : Nat → Int32} {wv : Nat → Int64} (hf : F.2.2 ≤ 600) (hl : A'.length < 8) (hh : h = 0 ∨ h = 1) (hv : gk_VV F.2.2 G.2.2.2 s x)
    (hA : xr_A ro yr_row A') (hC : yr_C (gw_K w) (yr_Z wt wo wc wh ws wv) mn (gk_lv A' G.2.2.2) S) (hg : ∀ g, g < G.2.2.2 → G.1 g = 0 → ∀ f, S (8 + g) = [f] → gb g = nI f.1 ∧ gh g = f.2.2.1)
    (hp1 : A' ≠ [] → ∀ v', yr_R w q E (false, h, s, x) S A' V F G N sp v' → post v')
    (hp0 : A' = [] → ∀ v', yr_R w q (ye_E F h s x) (false, h, s, x) S A' V F G N sp v' → post v') : wY_bodyEnds_66 post q.1 q.2.1 q.2.2.1 q.2.2.2.1 (nI V.2.2.2.2) (nI F.2.2) (nI G.2.2.2) (nI A'.length) 0 tk ch h s x (nI sp) E.1 E.2.1 E.2.2.1 E.2.2.2 (nI N.2.2) q.2.2.2.2.1 q.2.2.2.2.2.1 q.2.2.2.2.2.2.1 q.2.2.2.2.2.2.2.1 q.2.2.2.2.2.2.2.2.1 q.2.2.2.2.2.2.2.2.2.1 q.2.2.2.2.2.2.2.2.2.2.1 q.2.2.2.2.2.2.2.2.2.2.2.1 q.2.2.2.2.2.2.2.2.2.2.2.2.1 q.2.2.2.2.2.2.2.2.2.2.2.2.2.1 q.2.2.2.2.2.2.2.2.2.2.2.2.2.2 V.1 V.2.1 V.2.2.1 V.2.2.2.1 F.1 F.2.1 G.1 gb gh G.2.2.1 G.2.1 ro mn wt wo wc ws wh wv N.1 N.2.1 := by
  cases A' with
  | nil =>
    have hp := hp0 rfl
    refine br_t (by decide) ?_
    rcases hh with rfl | rfl
    · refine br_f (by decide) ?_
      refine yg_shn (E := (s, 0, E.2.2.1, 1)) (gc := G.2.2.2) hf hv ?_
      exact hp _ ⟨0, tk, ch, 0, s, x, gb, gh, ro, mn, wt, wo, wc, wh, ws, wv, rfl, ⟨fun z => (by cases z), fun _ => ⟨rfl, rfl, fun _ => ⟨rfl, rfl⟩⟩⟩, hA, hC, hg⟩
    · refine br_t (by decide) ?_
      refine yg_shn (E := (s, 1, E.2.2.1, 1)) (gc := G.2.2.2) hf hv ?_
      exact hp _ ⟨0, tk, ch, 1, s, x, gb, gh, ro, mn, wt, wo, wc, wh, ws, wv, rfl, ⟨fun z => (by cases z), fun _ => ⟨rfl, rfl, fun _ => ⟨rfl, rfl⟩⟩⟩, hA, hC, hg⟩
  | cons b B' =>
    have hl2 : B'.length + 1 < 8 := hl
    refine br_f (nI_nle (n := B'.length + 1) (by omega) (by omega)) ?_
    exact hp1 (fun z => nomatch z) _ ⟨0, tk, ch, h, s, x, gb, gh, ro, mn, wt, wo, wc, wh, ws, wv, rfl, ⟨fun z => (by cases z), fun _ => ⟨rfl, rfl, fun _ => ⟨rfl, rfl⟩⟩⟩, hA, hC, hg⟩
theorem ye_1 (hw0 : gw_S w) (I : gk_I w M S (a :: A') V F G nc sp) (hR : yr_R w q E M S (a :: A') V F G N sp v) (hSa : S a = []) (hb : M.1 = false) (ha8 : a < 8) (hh : gk_hv M.2.1) (hvv : gk_VV F.2.2 G.2.2.2 M.2.2.1 M.2.2.2)
    (hp1 : A' ≠ [] → ∀ v', yr_R w q E (false, (if M.2.1 = 1 then 1 else 0), M.2.2) S A' V F G N sp v' → post v')
    (hp0 : A' = [] → ∀ v', yr_R w q (ye_E F (if M.2.1 = 1 then 1 else 0) M.2.2.1 M.2.2.2) (false, (if M.2.1 = 1 then 1 else 0), M.2.2) S A' V F G N sp v' → post v') : wpY_pass post v := by
  obtain ⟨bg, tk, ch, hw, so, va, gb, gh, ro, mn, wt, wo, wc, wh, ws, wv, rfl, hP⟩ := hR
  obtain ⟨rfl, hhw, hv⟩ := hP.1.2 hb
  have ha := gk_Ia I
  have hvc := xg_vc I
  have hl8 : A'.length < 8 := I.2.1.2
  have hr := yr_rl ha
  have er : (nI (yr_row a)).toNatClampNeg = yr_row a := nI_clamp (by omega)
  have hmn := (hP.2.2.1 a ha (Or.inl (List.mem_cons_self ..))).1
  rw [hSa] at hmn
  have hA := hP.2.1.2
  have hC := yr_Cm hP.2.2.1 (P' := gk_lv A' G.2.2.2) xe_lv
  refine ⟨ym_ti (d := A'.length) rfl hl8, nm_r (ym_tp (d := A'.length) rfl hl8 hP.2.1.1) ⟨vp_in_nI (by omega) (by decide), br_t (by rw [er, hmn]; rfl) ?_⟩⟩
  refine nm_r (e' := nI A'.length) (nI_pred _) ?_
  obtain ⟨rfl, rfl⟩ := hv hh
  have e8 : yr_row a = 8 + a := yr_rd ha8
  have h8 : (8 : Int32) ≤ nI (yr_row a) := by rw [e8]; exact nI_le (a := 8) (by omega) (by omega)
  refine br_t h8 (br_t h8 (br_c (fun z => ?_) (fun z => ?_)))
  · have z2 : M.2.1 = 1 := hhw.symm.trans z
    rw [if_pos z2] at hp1 hp0
    subst z
    exact ye_66 hvc.2.1 hl8 (Or.inr rfl) hvv hA hC hP.2.2.2 hp1 hp0
  · have z2 : ¬ M.2.1 = 1 := fun e => z (hhw.trans e)
    rw [if_neg z2] at hp1 hp0
    exact ye_66 hvc.2.1 hl8 (Or.inl rfl) hvv hA hC hP.2.2.2 hp1 hp0
theorem ye_2 (hw0 : gw_S w) (I : gk_I w M S (a :: A') V F G nc sp) (hR : yr_R w q E M S (a :: A') V F G N sp v) (hSa : S a = []) (hb : M.1 = false) {g : Nat} (hg : g < G.2.2.2) (hag : a = 8 + g) (hc : G.2.1 g = 0) (hh : gk_hv M.2.1) (hvv : gk_VV F.2.2 G.2.2.2 M.2.2.1 M.2.2.2)
    (hp1 : A' ≠ [] → ∀ v', yr_R w q E (false, (if M.2.1 = 1 then 1 else 0), M.2.2) S A' V F (upd G.1 g 3, G.2.1, G.2.2.1, G.2.2.2) N sp v' → post v')
    (hp0 : A' = [] → ∀ v', yr_R w q (ye_E F (if M.2.1 = 1 then 1 else 0) M.2.2.1 M.2.2.2) (false, (if M.2.1 = 1 then 1 else 0), M.2.2) S A' V F (upd G.1 g 3, G.2.1, G.2.2.1, G.2.2.2) N sp v' → post v') : wpY_pass post v := by
  obtain ⟨bg, tk, ch, hw, so, va, gb, gh, ro, mn, wt, wo, wc, wh, ws, wv, rfl, hP⟩ := hR
  obtain ⟨rfl, hhw, hv⟩ := hP.1.2 hb
  have ha := gk_Ia I
  have hvc := xg_vc I
  have hl8 : A'.length < 8 := I.2.1.2
  have hr := yr_rl ha
  have er : (nI (yr_row a)).toNatClampNeg = yr_row a := nI_clamp (by omega)
  have hmn := (hP.2.2.1 a ha (Or.inl (List.mem_cons_self ..))).1
  rw [hSa] at hmn
  have hA := hP.2.1.2
  have hC := yr_Cm hP.2.2.1 (P' := gk_lv A' G.2.2.2) xe_lv
  refine ⟨ym_ti (d := A'.length) rfl hl8, nm_r (ym_tp (d := A'.length) rfl hl8 hP.2.1.1) ⟨vp_in_nI (by omega) (by decide), br_t (by rw [er, hmn]; rfl) ?_⟩⟩
  refine nm_r (e' := nI A'.length) (nI_pred _) ?_
  obtain ⟨rfl, rfl⟩ := hv hh
  have egc : (nI g).toNatClampNeg = g := nI_clamp (by omega)
  have ig : vp_in (nI g) 8 := vp_in_nI (by omega) (by decide)
  have e8 : yr_row a = g := by rw [hag]; exact yr_rg g
  rw [e8]
  have n8 : ¬ (8 : Int32) ≤ nI g := nI_ge (b := 8) (by omega) (by decide)
  refine br_f n8 ⟨ig, nm_r (e' := upd G.1 g 3) (by rw [egc]) (br_f n8 ⟨ig, ?_⟩)⟩
  rw [egc]
  have hgg : ∀ i, i < G.2.2.2 → upd G.1 g 3 i = 0 → ∀ f, S (8 + i) = [f] → gb i = nI f.1 ∧ gh i = f.2.2.1 := fun i hi h0 => hP.2.2.2 i hi (yo_u3 (by decide) i hi h0)
  refine br_t hc (br_c (fun z => ?_) (fun z => ?_))
  · have z2 : M.2.1 = 1 := hhw.symm.trans z
    rw [if_pos z2] at hp1 hp0
    subst z
    exact ye_66 (G := (upd G.1 g 3, G.2.1, G.2.2.1, G.2.2.2)) hvc.2.1 hl8 (Or.inr rfl) hvv hA hC hgg hp1 hp0
  · have z2 : ¬ M.2.1 = 1 := fun e => z (hhw.trans e)
    rw [if_neg z2] at hp1 hp0
    exact ye_66 (G := (upd G.1 g 3, G.2.1, G.2.2.1, G.2.2.2)) hvc.2.1 hl8 (Or.inl rfl) hvv hA hC hgg hp1 hp0
theorem ye_3 (hw0 : gw_S w) (I : gk_I w M S (a :: A') V F G nc sp) (hR : yr_R w q E M S (a :: A') V F G N sp v) (hSa : S a = []) (hb : M.1 = false) {g : Nat} (hg : g < G.2.2.2) (hag : a = 8 + g) (hc : G.2.1 g = 1) (hh : M.2.1 = 1) (hvv : gk_VV F.2.2 G.2.2.2 M.2.2.1 M.2.2.2)
    (hp1 : A' ≠ [] → ∀ v', yr_R w q E (false, 1, M.2.2) S A' V F (upd G.1 g 3, G.2.1, G.2.2.1, G.2.2.2) N sp v' → post v')
    (hp0 : A' = [] → ∀ v', yr_R w q (ye_E F 1 M.2.2.1 M.2.2.2) (false, 1, M.2.2) S A' V F (upd G.1 g 3, G.2.1, G.2.2.1, G.2.2.2) N sp v' → post v') : wpY_pass post v := by
  obtain ⟨bg, tk, ch, hw, so, va, gb, gh, ro, mn, wt, wo, wc, wh, ws, wv, rfl, hP⟩ := hR
  obtain ⟨rfl, hhw, hv⟩ := hP.1.2 hb
  have ha := gk_Ia I
  have hvc := xg_vc I
  have hl8 : A'.length < 8 := I.2.1.2
  have hr := yr_rl ha
  have er : (nI (yr_row a)).toNatClampNeg = yr_row a := nI_clamp (by omega)
  have hmn := (hP.2.2.1 a ha (Or.inl (List.mem_cons_self ..))).1
  rw [hSa] at hmn
  have hA := hP.2.1.2
  have hC := yr_Cm hP.2.2.1 (P' := gk_lv A' G.2.2.2) xe_lv
  refine ⟨ym_ti (d := A'.length) rfl hl8, nm_r (ym_tp (d := A'.length) rfl hl8 hP.2.1.1) ⟨vp_in_nI (by omega) (by decide), br_t (by rw [er, hmn]; rfl) ?_⟩⟩
  refine nm_r (e' := nI A'.length) (nI_pred _) ?_
  obtain ⟨rfl, rfl⟩ := hv (Or.inr (Or.inl hh))
  have egc : (nI g).toNatClampNeg = g := nI_clamp (by omega)
  have ig : vp_in (nI g) 8 := vp_in_nI (by omega) (by decide)
  have e8 : yr_row a = g := by rw [hag]; exact yr_rg g
  rw [e8]
  have n8 : ¬ (8 : Int32) ≤ nI g := nI_ge (b := 8) (by omega) (by decide)
  refine br_f n8 ⟨ig, nm_r (e' := upd G.1 g 3) (by rw [egc]) (br_f n8 ⟨ig, ?_⟩)⟩
  rw [egc]
  have hgg : ∀ i, i < G.2.2.2 → upd G.1 g 3 i = 0 → ∀ f, S (8 + i) = [f] → gb i = nI f.1 ∧ gh i = f.2.2.1 := fun i hi h0 => hP.2.2.2 i hi (yo_u3 (by decide) i hi h0)
  have z : hw = 1 := hhw.trans hh
  refine br_f (by rw [hc]; decide) (br_t z (br_t z ?_))
  subst z
  exact ye_66 (G := (upd G.1 g 3, G.2.1, G.2.2.1, G.2.2.2)) hvc.2.1 hl8 (Or.inr rfl) hvv hA hC hgg hp1 hp0
theorem ye_4 (hw0 : gw_S w) (I : gk_I w M S (a :: A') V F G nc sp) (hR : yr_R w q E M S (a :: A') V F G N sp v) (hSa : S a = []) (hb : M.1 = false) {g : Nat} (hg : g < G.2.2.2) (hag : a = 8 + g) (hc : G.2.1 g = 1) (hh : M.2.1 ≠ 1)
    (hp1 : A' ≠ [] → ∀ v', yr_R w q E (false, 0, 0, 0) S A' V F (upd G.1 g 3, G.2.1, G.2.2.1, G.2.2.2) N sp v' → post v')
    (hp0 : A' = [] → ∀ v', yr_R w q (ye_E F 0 0 0) (false, 0, 0, 0) S A' V F (upd G.1 g 3, G.2.1, G.2.2.1, G.2.2.2) N sp v' → post v') : wpY_pass post v := by
  obtain ⟨bg, tk, ch, hw, so, va, gb, gh, ro, mn, wt, wo, wc, wh, ws, wv, rfl, hP⟩ := hR
  obtain ⟨rfl, hhw, hv⟩ := hP.1.2 hb
  have ha := gk_Ia I
  have hvc := xg_vc I
  have hl8 : A'.length < 8 := I.2.1.2
  have hr := yr_rl ha
  have er : (nI (yr_row a)).toNatClampNeg = yr_row a := nI_clamp (by omega)
  have hmn := (hP.2.2.1 a ha (Or.inl (List.mem_cons_self ..))).1
  rw [hSa] at hmn
  have hA := hP.2.1.2
  have hC := yr_Cm hP.2.2.1 (P' := gk_lv A' G.2.2.2) xe_lv
  refine ⟨ym_ti (d := A'.length) rfl hl8, nm_r (ym_tp (d := A'.length) rfl hl8 hP.2.1.1) ⟨vp_in_nI (by omega) (by decide), br_t (by rw [er, hmn]; rfl) ?_⟩⟩
  refine nm_r (e' := nI A'.length) (nI_pred _) ?_
  have egc : (nI g).toNatClampNeg = g := nI_clamp (by omega)
  have ig : vp_in (nI g) 8 := vp_in_nI (by omega) (by decide)
  have e8 : yr_row a = g := by rw [hag]; exact yr_rg g
  rw [e8]
  have n8 : ¬ (8 : Int32) ≤ nI g := nI_ge (b := 8) (by omega) (by decide)
  refine br_f n8 ⟨ig, nm_r (e' := upd G.1 g 3) (by rw [egc]) (br_f n8 ⟨ig, ?_⟩)⟩
  rw [egc]
  have hgg : ∀ i, i < G.2.2.2 → upd G.1 g 3 i = 0 → ∀ f, S (8 + i) = [f] → gb i = nI f.1 ∧ gh i = f.2.2.1 := fun i hi h0 => hP.2.2.2 i hi (yo_u3 (by decide) i hi h0)
  have z : ¬ hw = 1 := fun e => hh (hhw.symm.trans e)
  refine br_f (by rw [hc]; decide) (br_f z ?_)
  exact ye_66 (G := (upd G.1 g 3, G.2.1, G.2.2.1, G.2.2.2)) hvc.2.1 hl8 (Or.inl rfl) (Or.inl (Or.inl rfl)) hA hC hgg hp1 hp0
end
