theorem ym_eag0 {posti : Int32 → Prop} : ∀ k, k < 27 → ¬ gk_eag (nI k) → posti 0 → wpY_isEager posti (nI k) := by
  intro k hk hn h
  have c : k = 0 ∨ k = 1 ∨ k = 2 ∨ k = 3 ∨ k = 4 ∨ k = 5 ∨ k = 6 ∨ k = 7 ∨ k = 8 ∨ k = 9 ∨ k = 10 ∨ k = 11 ∨ k = 12 ∨ k = 13 ∨ k = 14 ∨ k = 15 ∨ k = 16 ∨ k = 17 ∨ k = 18 ∨ k = 19 ∨ k = 20 ∨ k = 21 ∨ k = 22 ∨ k = 23 ∨ k = 24 ∨ k = 25 ∨ k = 26 := by omega
  rcases c with rfl | rfl | rfl | rfl | rfl | rfl | rfl | rfl | rfl | rfl | rfl | rfl | rfl | rfl | rfl | rfl | rfl | rfl | rfl | rfl | rfl | rfl | rfl | rfl | rfl | rfl | rfl
  all_goals
    first
    | exact absurd (show gk_eag _ by unfold gk_eag; decide) hn
    | (unfold wpY_isEager wY_isEager_12
       repeat (first | (refine br_f (by decide) ?_) | (refine br_t (by decide) ?_))
       exact h)
theorem yo_u3 {G : gg_T} {g : Nat} {s : Int32} (hs : s ≠ 0) : ∀ i, i < G.2.2.2 → upd G.1 g s i = 0 → G.1 i = 0 := by
  intro i _ z
  by_cases e : i = g
  · subst e
    rw [pk_us] at z
    exact absurd z hs
  · rw [pk_un e] at z
    exact z
theorem yo_lv {g gc a : Nat} {A' : List Nat} (hg : g < gc) : ∀ s, gk_lv ((8 + g) :: a :: A') gc s → s ≠ a → gk_lv (a :: A') gc s := by
  intro s hs _
  rcases hs with h | h
  · rcases List.mem_cons.mp h with h | h
    · exact Or.inr (by omega)
    · exact Or.inl h
  · exact Or.inr h
theorem ym_eag1 {posti : Int32 → Prop} {k : Int32} (hk : gk_eag k) (h : posti 1) : wpY_isEager posti k := by
  rcases hk with rfl | rfl | rfl | rfl | rfl | rfl | rfl | rfl
  all_goals
    unfold wpY_isEager wY_isEager_12
    repeat (first | (refine br_f (by decide) ?_) | (refine br_t (by decide) ?_))
    exact h
section
variable {w : gw_T} {q : yq_T} {E : ye_T} {M M' : gm_T} {S : Nat → List gf_T} {a : Nat} {A' : List Nat} {V : gv_T} {F : gp_T} {G : gg_T} {N : gn_T} {nc sp : Nat} {v : SY} {f : gf_T} {L : List gf_T} {post : SY → Prop}
variable {e0 s0 k1 k2 : Int32} {n0 k3 : Int64}
theorem yg_pt0 (hw0 : gw_S w) (hq : yq_S w q) (I : gk_I w M S (a :: A') V F G nc sp) (hR : yr_R w q E M S (a :: A') V F G N sp v) (hSa : S a = f :: L) (hb : M.1 = false) (hh : M.2.1 = 0) (hst : f.2.1 = 1) (hk : gw_K w f.1 = 20) (hp : ∀ v', yr_R w q E M (gk_su S a L) (a :: A') V F G N sp v' → post v') : wpY_pass post v := by
  obtain ⟨bg, tk, ch, hw, so, va, gb, gh, ro, mn, wt, wo, wc, wh, ws, wv, rfl, hP⟩ := hR
  have B := yo_mk hw0 I hSa hP
  have fo := xs_fo I hSa
  obtain ⟨hbg, hhw, hv⟩ := hP.1.2 hb
  obtain ⟨j1, jr, j2, jn, jm, jk, j3, jt, jo, j4, jc, jK, jW⟩ := yp_in hw0 hq B fo.1 (Or.inl hst) hk (sg := 0) (by rw [hst])
  refine ⟨j1, nm_r jr ⟨j2, br_f jn ⟨j2, j2, nm_r jm ⟨j2, nm_r jk ⟨j3, nm_r jt ⟨j3, nm_r jo ⟨j4, ?_⟩⟩⟩⟩⟩⟩⟩
  rw [jK]
  refine br_f (by decide) ⟨j4, br_f (by decide) (br_f (by rw [hhw, hh]; decide) (br_t (hhw.trans hh) (br_t (by decide) ⟨j4, ?_⟩)))⟩
  rw [jK]
  refine ym_eag0 20 (by decide) (by unfold gk_eag; decide) (br_t (by decide) (br_t (by decide) ?_))
  refine ⟨j3, nm_r jc ⟨j4, nm_r jK ?_⟩⟩
  repeat (refine br_f (by decide) ?_)
  refine br_t (by decide) ?_
  exact yf_top (M' := M) (L2 := L) (post := post) (V' := V) (F' := F) (N' := N) (sp' := sp) (st' := G.1) (cl' := G.2.1) (gy' := G.2.2.1) B (fun _ _ z => z) pk_us (fun r h => pk_un h) (fun z => z) (yf_ms hb ⟨hbg, hhw, hv⟩) hp
theorem yg_eag (hw0 : gw_S w) (hq : yq_S w q) (I : gk_I w M S (a :: A') V F G nc sp) (hR : yr_R w q E M S (a :: A') V F G N sp v) (hSa : S a = f :: L) (hb : M.1 = false) (hh : M.2.1 = 0) (hst : f.2.1 = 1) (hk0 : gk_eag (gw_K w f.1)) (hm : M'.1 = true)
    (hp : ∀ v', yr_R w q E M' (gk_su S a ((gw_c w f.1 1, 0, f.2.2.1, e0, s0, n0) :: (f.1, 2, f.2.2.1, M.2) :: L)) (a :: A') V F G N sp v' → post v') : wpY_pass post v := by
  obtain ⟨bg, tk, ch, hw, so, va, gb, gh, ro, mn, wt, wo, wc, wh, ws, wv, rfl, hP⟩ := hR
  have B := yo_mk hw0 I hSa hP
  have fo := xs_fo I hSa
  obtain ⟨hbg, hhw, hv⟩ := hP.1.2 hb
  have h14 : gw_K w f.1 ≠ 14 := by
    intro z; rw [z] at hk0; exact absurd hk0 (by unfold gk_eag; decide)
  have h21 : gw_K w f.1 ≠ 21 := by
    intro z; rw [z] at hk0; exact absurd hk0 (by unfold gk_eag; decide)
  have ho : gw_o w f.1 = 2 := by
    rw [hw0.2.2.2.1 _ fo.1]
    rcases hk0 with z | z | z | z | z | z | z | z <;> (rw [z]; decide)
  obtain ⟨j1, jr, j2, jn, jm, jk, j3, jt, jo, j4, jc, jK, jW⟩ := yp_in hw0 hq B fo.1 (Or.inl hst) rfl (sg := 0) (by rw [hst])
  refine ⟨j1, nm_r jr ⟨j2, br_f jn ⟨j2, j2, nm_r jm ⟨j2, nm_r jk ⟨j3, nm_r jt ⟨j3, nm_r jo ⟨j4, ?_⟩⟩⟩⟩⟩⟩⟩
  rw [jK]
  refine br_f h21 ⟨j4, br_f h14 (br_f (by rw [hhw, hh]; decide) (br_t (hhw.trans hh) (br_t (by decide) ⟨j4, ?_⟩)))⟩
  rw [jK]
  refine ym_eag1 hk0 (br_f (by decide) ⟨j3, ?_⟩)
  rw [jc]
  exact yf_await (o := 1) hw0 hq B fo.1 (by omega) (by decide) pk_us (fun r h => pk_un h) (fun _ _ => ⟨hhw, hv⟩) rfl rfl hm hp
theorem yg_set (hw0 : gw_S w) (hq : yq_S w q) (I : gk_I w M S (a :: A') V F G nc sp) (hR : yr_R w q E M S (a :: A') V F G N sp v) (hSa : S a = f :: L) (hb : M.1 = false) (hh : M.2.1 = 0) (hst : f.2.1 = 1) (hk : gw_K w f.1 = 3) {b : Nat} (hbs : b ∈ gw_sc w f.1) (hmn : gw_mn w f.1 = nI b)
    (hp : ∀ v', yr_R w q E (false, 0, M.2.2) (gk_su S a L) (a :: A') (gk_st V (gk_fi V b (gw_sc w f.1) f.2.2.1) M.2.2.1 M.2.2.2) F G N sp v' → post v') : wpY_pass post v := by
  obtain ⟨bg, tk, ch, hw, so, va, gb, gh, ro, mn, wt, wo, wc, wh, ws, wv, rfl, hP⟩ := hR
  have B := yo_mk hw0 I hSa hP
  have fo := xs_fo I hSa
  obtain ⟨hbg, hhw, hv⟩ := hP.1.2 hb
  obtain ⟨j1, jr, j2, jn, jm, jk, j3, jt, jo, j4, jc, jK, jW⟩ := yp_in hw0 hq B fo.1 (Or.inl hst) hk (sg := 0) (by rw [hst])
  have hvc := xg_vc I
  have hn := hw0.2.2.1
  have hsc := hw0.2.2.2.2.2.2.2.2.2.2.2 f.1 fo.1
  have hb48 : b < 48 := by have := hsc.2 b hbs; have := fo.1; omega
  have hfi := gk_fil (b := b) (by omega) _ _ fo.2.1 hbs
  have jM : q.2.2.2.2.2.2.2.2.2.2.2.2.1 (nI f.1).toNatClampNeg = nI b := by
    rw [nI_clamp (by have := fo.1; omega), ← hmn]
    exact (hq.1 f.1 fo.1).2.2.1
  obtain ⟨rfl, rfl⟩ := hv (Or.inl hh)
  refine ⟨j1, nm_r jr ⟨j2, br_f jn ⟨j2, j2, nm_r jm ⟨j2, nm_r jk ⟨j3, nm_r jt ⟨j3, nm_r jo ⟨j4, ?_⟩⟩⟩⟩⟩⟩⟩
  rw [jK]
  refine br_f (by decide) ⟨j4, br_f (by decide) (br_f (by rw [hhw, hh]; decide) (br_t (hhw.trans hh) (br_t (by decide) ⟨j4, ?_⟩)))⟩
  rw [jK]
  refine ym_eag0 3 (by decide) (by unfold gk_eag; decide) (br_t (by decide) (br_t (by decide) ?_))
  refine ⟨j3, nm_r jc ⟨j4, nm_r jK ?_⟩⟩
  repeat (refine br_f (by decide) ?_)
  refine br_t (by decide) ⟨j4, ?_⟩
  rw [jM]
  refine ym_find hvc.1 hb48 rfl rfl fo.2.1 hbs (fun x hx => by have := hsc.2 x hx; have := fo.1; omega) ?_
  have i7 : vp_in (nI (gk_fi V b (gw_sc w f.1) f.2.2.1)) 700 := vp_in_nI (by omega) (by decide)
  have e6 : (nI (gk_fi V b (gw_sc w f.1) f.2.2.1)).toNatClampNeg = gk_fi V b (gw_sc w f.1) f.2.2.1 := nI_clamp (by omega)
  refine ⟨i7, nm_r (by rw [e6]) ⟨i7, nm_r (by rw [e6]) ?_⟩⟩
  exact yf_top (M' := (false, 0, M.2.2)) (L2 := L) (post := post) (V' := gk_st V (gk_fi V b (gw_sc w f.1) f.2.2.1) M.2.2.1 M.2.2.2) (F' := F) (N' := N) (sp' := sp) (st' := G.1) (cl' := G.2.1) (gy' := G.2.2.1) B (fun _ _ z => z) pk_us (fun r h => pk_un h) (fun z => z) ⟨fun z => (by cases z), fun _ => ⟨hbg, hhw.trans hh, fun _ => ⟨rfl, rfl⟩⟩⟩ hp
theorem yg_let (hw0 : gw_S w) (hq : yq_S w q) (I : gk_I w M S (a :: A') V F G nc sp) (hR : yr_R w q E M S (a :: A') V F G N sp v) (hSa : S a = f :: L) (hb : M.1 = false) (hh : M.2.1 = 0) (hst : f.2.1 = 1) (hk : gw_K w f.1 = 4) (hm : M'.1 = true)
    (hp : ∀ v', yr_R w q E M' (gk_su S a ((gw_c w f.1 1, 0, nI V.2.2.2.2, e0, s0, n0) :: (f.1, 3, f.2.2.1, k1, k2, k3) :: L)) (a :: A') (gk_bd V (nI f.1) f.2.2.1 M.2.2.1 M.2.2.2) F G N sp v' → post v') : wpY_pass post v := by
  obtain ⟨bg, tk, ch, hw, so, va, gb, gh, ro, mn, wt, wo, wc, wh, ws, wv, rfl, hP⟩ := hR
  have B := yo_mk hw0 I hSa hP
  have fo := xs_fo I hSa
  obtain ⟨hbg, hhw, hv⟩ := hP.1.2 hb
  obtain ⟨j1, jr, j2, jn, jm, jk, j3, jt, jo, j4, jc, jK, jW⟩ := yp_in hw0 hq B fo.1 (Or.inl hst) hk (sg := 0) (by rw [hst])
  have ho : gw_o w f.1 = 2 := by rw [hw0.2.2.2.1 _ fo.1, hk]; decide
  obtain ⟨rfl, rfl⟩ := hv (Or.inl hh)
  have hp1 := yp_p1 hw0 hq fo.1 (by omega)
  refine ⟨j1, nm_r jr ⟨j2, br_f jn ⟨j2, j2, nm_r jm ⟨j2, nm_r jk ⟨j3, nm_r jt ⟨j3, nm_r jo ⟨j4, ?_⟩⟩⟩⟩⟩⟩⟩
  rw [jK]
  refine br_f (by decide) ⟨j4, br_f (by decide) (br_f (by rw [hhw, hh]; decide) (br_t (hhw.trans hh) (br_t (by decide) ⟨j4, ?_⟩)))⟩
  rw [jK]
  refine ym_eag0 4 (by decide) (by unfold gk_eag; decide) (br_t (by decide) (br_t (by decide) ?_))
  refine ⟨j3, nm_r jc ⟨j4, nm_r jK ?_⟩⟩
  repeat (refine br_f (by decide) ?_)
  refine br_t (by decide) ?_
  refine ym_bind (v := V.2.2.2.2) rfl (xg_vlt I hSa (Or.inl hst)) ⟨hp1.1, ?_⟩
  rw [hp1.2]
  exact yf_top (M' := M') (L2 := (gw_c w f.1 1, 0, nI V.2.2.2.2, e0, s0, n0) :: (f.1, 3, f.2.2.1, k1, k2, k3) :: L) (post := post) (V' := gk_bd V (nI f.1) f.2.2.1 M.2.2.1 M.2.2.2) (F' := F) (N' := N) (sp' := sp) (st' := G.1) (cl' := G.2.1) (gy' := G.2.2.1) B (fun _ _ z => z) pk_us (fun r h => pk_un h) (fun z => ⟨gk_0y, gk_3y, z⟩) (yf_mb hm) hp
theorem yg_if (hw0 : gw_S w) (hq : yq_S w q) (I : gk_I w M S (a :: A') V F G nc sp) (hR : yr_R w q E M S (a :: A') V F G N sp v) (hSa : S a = f :: L) (hb : M.1 = false) (hh : M.2.1 = 0) (hst : f.2.1 = 1) (hk : gw_K w f.1 = 13) (h5 : M.2.2.1 = 0 ∨ M.2.2.1 = 1 ∨ M.2.2.1 = 2 ∨ M.2.2.1 = 3 ∨ M.2.2.1 = 4) (hm : M'.1 = true)
    (hp : ∀ v', yr_R w q E M' (gk_su S a ((gw_c w f.1 (if gk_tr M.2.2.1 M.2.2.2 = true then 1 else 2), 0, f.2.2.1, e0, s0, n0) :: (f.1, 3, f.2.2.1, k1, k2, k3) :: L)) (a :: A') V F G N sp v' → post v') : wpY_pass post v := by
  obtain ⟨bg, tk, ch, hw, so, va, gb, gh, ro, mn, wt, wo, wc, wh, ws, wv, rfl, hP⟩ := hR
  have B := yo_mk hw0 I hSa hP
  have fo := xs_fo I hSa
  obtain ⟨hbg, hhw, hv⟩ := hP.1.2 hb
  obtain ⟨j1, jr, j2, jn, jm, jk, j3, jt, jo, j4, jc, jK, jW⟩ := yp_in hw0 hq B fo.1 (Or.inl hst) hk (sg := 0) (by rw [hst])
  have ho : gw_o w f.1 = 3 := by rw [hw0.2.2.2.1 _ fo.1, hk]; decide
  have hvv := hv (Or.inl hh)
  have hp1 := yp_p1 hw0 hq fo.1 (by omega)
  have hp2 := yp_p2 hw0 hq fo.1 (by omega)
  refine ⟨j1, nm_r jr ⟨j2, br_f jn ⟨j2, j2, nm_r jm ⟨j2, nm_r jk ⟨j3, nm_r jt ⟨j3, nm_r jo ⟨j4, ?_⟩⟩⟩⟩⟩⟩⟩
  rw [jK]
  refine br_f (by decide) ⟨j4, br_f (by decide) (br_f (by rw [hhw, hh]; decide) (br_t (hhw.trans hh) (br_t (by decide) ⟨j4, ?_⟩)))⟩
  rw [jK]
  refine ym_eag0 13 (by decide) (by unfold gk_eag; decide) (br_t (by decide) (br_t (by decide) ?_))
  refine ⟨j3, nm_r jc ⟨j4, nm_r jK ?_⟩⟩
  repeat (refine br_f (by decide) ?_)
  refine br_t (by decide) ?_
  refine ym_true hvv.1 hvv.2 h5 ?_
  by_cases ht : gk_tr M.2.2.1 M.2.2.2 = true
  · rw [if_pos ht] at hp ⊢
    refine br_f (by decide) ⟨hp1.1, ?_⟩
    rw [hp1.2]
    exact yf_top (M' := M') (L2 := (gw_c w f.1 1, 0, f.2.2.1, e0, s0, n0) :: (f.1, 3, f.2.2.1, k1, k2, k3) :: L) (post := post) (V' := V) (F' := F) (N' := N) (sp' := sp) (st' := G.1) (cl' := G.2.1) (gy' := G.2.2.1) B (fun _ _ z => z) pk_us (fun r h => pk_un h) (fun z => ⟨gk_0y, gk_3y, z⟩) (yf_mb hm) hp
  · rw [if_neg ht] at hp ⊢
    refine br_t (by decide) ⟨hp2.1, ?_⟩
    rw [hp2.2]
    exact yf_top (M' := M') (L2 := (gw_c w f.1 2, 0, f.2.2.1, e0, s0, n0) :: (f.1, 3, f.2.2.1, k1, k2, k3) :: L) (post := post) (V' := V) (F' := F) (N' := N) (sp' := sp) (st' := G.1) (cl' := G.2.1) (gy' := G.2.2.1) B (fun _ _ z => z) pk_us (fun r h => pk_un h) (fun z => ⟨gk_0y, gk_3y, z⟩) (yf_mb hm) hp
theorem yg_seq (hw0 : gw_S w) (hq : yq_S w q) (I : gk_I w M S (a :: A') V F G nc sp) (hR : yr_R w q E M S (a :: A') V F G N sp v) (hSa : S a = f :: L) (hb : M.1 = false) (hh : M.2.1 = 0) (hst : f.2.1 = 1) (hk : gw_K w f.1 = 15) (hm : M'.1 = true)
    (hp : ∀ v', yr_R w q E M' (gk_su S a ((gw_c w f.1 1, 0, f.2.2.1, e0, s0, n0) :: (f.1, 3, f.2.2.1, k1, k2, k3) :: L)) (a :: A') V F G N sp v' → post v') : wpY_pass post v := by
  obtain ⟨bg, tk, ch, hw, so, va, gb, gh, ro, mn, wt, wo, wc, wh, ws, wv, rfl, hP⟩ := hR
  have B := yo_mk hw0 I hSa hP
  have fo := xs_fo I hSa
  obtain ⟨hbg, hhw, hv⟩ := hP.1.2 hb
  obtain ⟨j1, jr, j2, jn, jm, jk, j3, jt, jo, j4, jc, jK, jW⟩ := yp_in hw0 hq B fo.1 (Or.inl hst) hk (sg := 0) (by rw [hst])
  have ho : gw_o w f.1 = 2 := by rw [hw0.2.2.2.1 _ fo.1, hk]; decide
  have hp1 := yp_p1 hw0 hq fo.1 (by omega)
  refine ⟨j1, nm_r jr ⟨j2, br_f jn ⟨j2, j2, nm_r jm ⟨j2, nm_r jk ⟨j3, nm_r jt ⟨j3, nm_r jo ⟨j4, ?_⟩⟩⟩⟩⟩⟩⟩
  rw [jK]
  refine br_f (by decide) ⟨j4, br_f (by decide) (br_f (by rw [hhw, hh]; decide) (br_t (hhw.trans hh) (br_t (by decide) ⟨j4, ?_⟩)))⟩
  rw [jK]
  refine ym_eag0 15 (by decide) (by unfold gk_eag; decide) (br_t (by decide) (br_t (by decide) ?_))
  refine ⟨j3, nm_r jc ⟨j4, nm_r jK ?_⟩⟩
  repeat (refine br_f (by decide) ?_)
  refine br_t (by decide) ⟨hp1.1, ?_⟩
  rw [hp1.2]
  exact yf_top (M' := M') (L2 := (gw_c w f.1 1, 0, f.2.2.1, e0, s0, n0) :: (f.1, 3, f.2.2.1, k1, k2, k3) :: L) (post := post) (V' := V) (F' := F) (N' := N) (sp' := sp) (st' := G.1) (cl' := G.2.1) (gy' := G.2.2.1) B (fun _ _ z => z) pk_us (fun r h => pk_un h) (fun z => ⟨gk_0y, gk_3y, z⟩) (yf_mb hm) hp
theorem yg_ret (hw0 : gw_S w) (hq : yq_S w q) (I : gk_I w M S (a :: A') V F G nc sp) (hR : yr_R w q E M S (a :: A') V F G N sp v) (hSa : S a = f :: L) (hb : M.1 = false) (hh : M.2.1 = 0) (hst : f.2.1 = 1) (hk : gw_K w f.1 = 18)
    (hp : ∀ v', yr_R w q E (false, 4, M.2.2) (gk_su S a L) (a :: A') V F G N sp v' → post v') : wpY_pass post v := by
  obtain ⟨bg, tk, ch, hw, so, va, gb, gh, ro, mn, wt, wo, wc, wh, ws, wv, rfl, hP⟩ := hR
  have B := yo_mk hw0 I hSa hP
  have fo := xs_fo I hSa
  obtain ⟨hbg, hhw, hv⟩ := hP.1.2 hb
  obtain ⟨j1, jr, j2, jn, jm, jk, j3, jt, jo, j4, jc, jK, jW⟩ := yp_in hw0 hq B fo.1 (Or.inl hst) hk (sg := 0) (by rw [hst])
  have hvv := hv (Or.inl hh)
  refine ⟨j1, nm_r jr ⟨j2, br_f jn ⟨j2, j2, nm_r jm ⟨j2, nm_r jk ⟨j3, nm_r jt ⟨j3, nm_r jo ⟨j4, ?_⟩⟩⟩⟩⟩⟩⟩
  rw [jK]
  refine br_f (by decide) ⟨j4, br_f (by decide) (br_f (by rw [hhw, hh]; decide) (br_t (hhw.trans hh) (br_t (by decide) ⟨j4, ?_⟩)))⟩
  rw [jK]
  refine ym_eag0 18 (by decide) (by unfold gk_eag; decide) (br_t (by decide) (br_t (by decide) ?_))
  refine ⟨j3, nm_r jc ⟨j4, nm_r jK ?_⟩⟩
  repeat (refine br_f (by decide) ?_)
  refine br_t (by decide) ?_
  exact yf_top (M' := (false, 4, M.2.2)) (L2 := L) (post := post) (V' := V) (F' := F) (N' := N) (sp' := sp) (st' := G.1) (cl' := G.2.1) (gy' := G.2.2.1) B (fun _ _ z => z) pk_us (fun r h => pk_un h) (fun z => z) ⟨fun z => (by cases z), fun _ => ⟨hbg, rfl, fun _ => hvv⟩⟩ hp
theorem yg_thr (hw0 : gw_S w) (hq : yq_S w q) (I : gk_I w M S (a :: A') V F G nc sp) (hR : yr_R w q E M S (a :: A') V F G N sp v) (hSa : S a = f :: L) (hb : M.1 = false) (hh : M.2.1 = 0) (hst : f.2.1 = 1) (hk : gw_K w f.1 = 19)
    (hp : ∀ v', yr_R w q E (false, 1, M.2.2) (gk_su S a L) (a :: A') V F G N sp v' → post v') : wpY_pass post v := by
  obtain ⟨bg, tk, ch, hw, so, va, gb, gh, ro, mn, wt, wo, wc, wh, ws, wv, rfl, hP⟩ := hR
  have B := yo_mk hw0 I hSa hP
  have fo := xs_fo I hSa
  obtain ⟨hbg, hhw, hv⟩ := hP.1.2 hb
  obtain ⟨j1, jr, j2, jn, jm, jk, j3, jt, jo, j4, jc, jK, jW⟩ := yp_in hw0 hq B fo.1 (Or.inl hst) hk (sg := 0) (by rw [hst])
  have hvv := hv (Or.inl hh)
  refine ⟨j1, nm_r jr ⟨j2, br_f jn ⟨j2, j2, nm_r jm ⟨j2, nm_r jk ⟨j3, nm_r jt ⟨j3, nm_r jo ⟨j4, ?_⟩⟩⟩⟩⟩⟩⟩
  rw [jK]
  refine br_f (by decide) ⟨j4, br_f (by decide) (br_f (by rw [hhw, hh]; decide) (br_t (hhw.trans hh) (br_t (by decide) ⟨j4, ?_⟩)))⟩
  rw [jK]
  refine ym_eag0 19 (by decide) (by unfold gk_eag; decide) (br_t (by decide) (br_t (by decide) ?_))
  refine ⟨j3, nm_r jc ⟨j4, nm_r jK ?_⟩⟩
  repeat (refine br_f (by decide) ?_)
  refine br_t (by decide) ?_
  exact yf_top (M' := (false, 1, M.2.2)) (L2 := L) (post := post) (V' := V) (F' := F) (N' := N) (sp' := sp) (st' := G.1) (cl' := G.2.1) (gy' := G.2.2.1) B (fun _ _ z => z) pk_us (fun r h => pk_un h) (fun z => z) ⟨fun z => (by cases z), fun _ => ⟨hbg, rfl, fun _ => hvv⟩⟩ hp
theorem yg_yt (hw0 : gw_S w) (hq : yq_S w q) (I : gk_I w M S (a :: A') V F G nc sp) (hR : yr_R w q E M S (a :: A') V F G N sp v) (hSa : S a = f :: L) (hb : M.1 = false) (hh : M.2.1 = 0) (hst : f.2.1 = 1) (hk : gw_K w f.1 = 22) {g : Nat} (hag : a = 8 + g) (hg : g < G.2.2.2) (hc : G.2.1 g = 1)
    (hp : ∀ v', yr_R w q E (false, 1, 1, (-4 : Int32).toInt64) (gk_su S a L) (a :: A') V F G N sp v' → post v') : wpY_pass post v := by
  obtain ⟨bg, tk, ch, hw, so, va, gb, gh, ro, mn, wt, wo, wc, wh, ws, wv, rfl, hP⟩ := hR
  have B := yo_mk hw0 I hSa hP
  have fo := xs_fo I hSa
  obtain ⟨hbg, hhw, hv⟩ := hP.1.2 hb
  obtain ⟨j1, jr, j2, jn, jm, jk, j3, jt, jo, j4, jc, jK, jW⟩ := yp_in hw0 hq B fo.1 (Or.inl hst) hk (sg := 0) (by rw [hst])
  have hvc := xg_vc I
  have er : nI (yr_row a) = nI g := by rw [hag, yr_rg]
  have egc : (nI g).toNatClampNeg = g := nI_clamp (by omega)
  have ig : vp_in (nI g) 8 := vp_in_nI (by omega) (by decide)
  refine ⟨j1, nm_r jr ⟨j2, br_f jn ⟨j2, j2, nm_r jm ⟨j2, nm_r jk ⟨j3, nm_r jt ⟨j3, nm_r jo ⟨j4, ?_⟩⟩⟩⟩⟩⟩⟩
  rw [jK]
  refine br_f (by decide) ⟨j4, br_f (by decide) (br_f (by rw [hhw, hh]; decide) (br_t (hhw.trans hh) (br_t (by decide) ⟨j4, ?_⟩)))⟩
  rw [jK]
  refine ym_eag0 22 (by decide) (by unfold gk_eag; decide) (br_t (by decide) (br_t (by decide) ?_))
  refine ⟨j3, nm_r jc ⟨j4, nm_r jK ?_⟩⟩
  repeat (refine br_f (by decide) ?_)
  refine br_t (by decide) ⟨j1, nm_r (jr.trans er) ⟨ig, br_f (by rw [egc, hc]; decide) ?_⟩⟩
  exact yf_top (M' := (false, 1, 1, (-4 : Int32).toInt64)) (L2 := L) (post := post) (V' := V) (F' := F) (N' := N) (sp' := sp) (st' := G.1) (cl' := G.2.1) (gy' := G.2.2.1) B (fun _ _ z => z) pk_us (fun r h => pk_un h) (fun z => z) yf_me hp
theorem yg_yw (hw0 : gw_S w) (hq : yq_S w q) (I : gk_I w M S (a :: A') V F G nc sp) (hR : yr_R w q E M S (a :: A') V F G N sp v) (hSa : S a = f :: L) (hb : M.1 = false) (hh : M.2.1 = 0) (hst : f.2.1 = 1) (hk : gw_K w f.1 = 22) {g : Nat} (hag : a = 8 + g) (hg : g < G.2.2.2) (hc : G.2.1 g = 0)
    (hp : ∀ v', yr_R w q E M (gk_su S a ((f.1, 3, f.2.2) :: L)) A' V F (upd G.1 g 1, G.2.1, upd G.2.2.1 g (nI f.1), G.2.2.2) N sp v' → post v') : wpY_pass post v := by
  obtain ⟨bg, tk, ch, hw, so, va, gb, gh, ro, mn, wt, wo, wc, wh, ws, wv, rfl, hP⟩ := hR
  have B := yo_mk hw0 I hSa hP
  have fo := xs_fo I hSa
  obtain ⟨hbg, hhw, hv⟩ := hP.1.2 hb
  obtain ⟨j1, jr, j2, jn, jm, jk, j3, jt, jo, j4, jc, jK, jW⟩ := yp_in hw0 hq B fo.1 (Or.inl hst) hk (sg := 0) (by rw [hst])
  have hvc := xg_vc I
  have er : nI (yr_row a) = nI g := by rw [hag, yr_rg]
  have egc : (nI g).toNatClampNeg = g := nI_clamp (by omega)
  have ig : vp_in (nI g) 8 := vp_in_nI (by omega) (by decide)
  refine ⟨j1, nm_r jr ⟨j2, br_f jn ⟨j2, j2, nm_r jm ⟨j2, nm_r jk ⟨j3, nm_r jt ⟨j3, nm_r jo ⟨j4, ?_⟩⟩⟩⟩⟩⟩⟩
  rw [jK]
  refine br_f (by decide) ⟨j4, br_f (by decide) (br_f (by rw [hhw, hh]; decide) (br_t (hhw.trans hh) (br_t (by decide) ⟨j4, ?_⟩)))⟩
  rw [jK]
  refine ym_eag0 22 (by decide) (by unfold gk_eag; decide) (br_t (by decide) (br_t (by decide) ?_))
  refine ⟨j3, nm_r jc ⟨j4, nm_r jK ?_⟩⟩
  repeat (refine br_f (by decide) ?_)
  refine br_t (by decide) ⟨j1, nm_r (jr.trans er) ⟨ig, br_t (by rw [egc, hc]) ⟨ig, nm_r (e' := upd G.1 g 1) (by rw [egc]) ⟨ig, nm_r (e' := upd G.2.2.1 g (nI f.1)) (by rw [egc]) (nm_r (e' := nI A'.length) (nI_pred _) ?_)⟩⟩⟩⟩
  refine hp _ ⟨bg, tk, ch, hw, so, va, gb, gh, ro, _, wt, wo, wc, wh, ws, wv, rfl, yf_ms hb ⟨hbg, hhw, hv⟩, B.2.2.2.2.1.2, yr_flat (mn' := upd mn (yr_row a) (nI (gk_yl L))) B.2.2.2.2.2.1 B.1 (Or.inl (List.mem_cons_self ..)) B.2.2.1 (fun s h _ => xe_lv s h) B.2.2.2.1 pk_us (fun r h => pk_un h) (fun z => ⟨gk_3y, z⟩), yo_g B ?_⟩
  intro i hi z
  have z2 : upd G.1 g 1 i = 0 := z
  by_cases e : i = g
  · subst e
    rw [pk_us] at z2
    exact absurd z2 (by decide)
  · rw [pk_un e] at z2
    exact z2
theorem yg_done3 (hw0 : gw_S w) (hq : yq_S w q) (I : gk_I w M S (a :: A') V F G nc sp) (hR : yr_R w q E M S (a :: A') V F G N sp v) (hSa : S a = f :: L) (hb : M.1 = false) (hh : M.2.1 = 0) (hst : f.2.1 = 1) (hk : gw_K w f.1 = 24) (hs : M.2.2.1 ≠ 4)
    (hp : ∀ v', yr_R w q E (false, 1, 1, (-3 : Int32).toInt64) (gk_su S a L) (a :: A') V F G N sp v' → post v') : wpY_pass post v := by
  obtain ⟨bg, tk, ch, hw, so, va, gb, gh, ro, mn, wt, wo, wc, wh, ws, wv, rfl, hP⟩ := hR
  have B := yo_mk hw0 I hSa hP
  have fo := xs_fo I hSa
  obtain ⟨hbg, hhw, hv⟩ := hP.1.2 hb
  obtain ⟨j1, jr, j2, jn, jm, jk, j3, jt, jo, j4, jc, jK, jW⟩ := yp_in hw0 hq B fo.1 (Or.inl hst) hk (sg := 0) (by rw [hst])
  have hvv := hv (Or.inl hh)
  refine ⟨j1, nm_r jr ⟨j2, br_f jn ⟨j2, j2, nm_r jm ⟨j2, nm_r jk ⟨j3, nm_r jt ⟨j3, nm_r jo ⟨j4, ?_⟩⟩⟩⟩⟩⟩⟩
  rw [jK]
  refine br_f (by decide) ⟨j4, br_f (by decide) (br_f (by rw [hhw, hh]; decide) (br_t (hhw.trans hh) (br_t (by decide) ⟨j4, ?_⟩)))⟩
  rw [jK]
  refine ym_eag0 24 (by decide) (by unfold gk_eag; decide) (br_t (by decide) (br_t (by decide) ?_))
  refine ⟨j3, nm_r jc ⟨j4, nm_r jK ?_⟩⟩
  repeat (refine br_f (by decide) ?_)
  refine br_t (by decide) (br_f (by rw [hvv.1]; exact hs) ?_)
  exact yf_top (M' := (false, 1, 1, (-3 : Int32).toInt64)) (L2 := L) (post := post) (V' := V) (F' := F) (N' := N) (sp' := sp) (st' := G.1) (cl' := G.2.1) (gy' := G.2.2.1) B (fun _ _ z => z) pk_us (fun r h => pk_un h) (fun z => z) yf_me hp
theorem yg_done (hw0 : gw_S w) (hq : yq_S w q) (I : gk_I w M S (a :: A') V F G nc sp) (hR : yr_R w q E M S (a :: A') V F G N sp v) (hSa : S a = f :: L) (hb : M.1 = false) (hh : M.2.1 = 0) (hst : f.2.1 = 1) (hk : gw_K w f.1 = 24) {g : Nat} (hg : g < G.2.2.2) (hs : M.2.2.1 = 4) (hx : M.2.2.2 = lN g)
    (hp : ∀ v', yr_R w q E (false, 0, 1, (if G.1 g = 3 then 1 else 0)) (gk_su S a L) (a :: A') V F G N sp v' → post v') : wpY_pass post v := by
  obtain ⟨bg, tk, ch, hw, so, va, gb, gh, ro, mn, wt, wo, wc, wh, ws, wv, rfl, hP⟩ := hR
  have B := yo_mk hw0 I hSa hP
  have fo := xs_fo I hSa
  obtain ⟨hbg, hhw, hv⟩ := hP.1.2 hb
  obtain ⟨j1, jr, j2, jn, jm, jk, j3, jt, jo, j4, jc, jK, jW⟩ := yp_in hw0 hq B fo.1 (Or.inl hst) hk (sg := 0) (by rw [hst])
  have hvc := xg_vc I
  have hvv := hv (Or.inl hh)
  have ev : va.toInt32 = nI g := by rw [hvv.2, hx, lN_i]
  have egc : (nI g).toNatClampNeg = g := nI_clamp (by omega)
  have ig : vp_in va.toInt32 8 := by rw [ev]; exact vp_in_nI (by omega) (by decide)
  refine ⟨j1, nm_r jr ⟨j2, br_f jn ⟨j2, j2, nm_r jm ⟨j2, nm_r jk ⟨j3, nm_r jt ⟨j3, nm_r jo ⟨j4, ?_⟩⟩⟩⟩⟩⟩⟩
  rw [jK]
  refine br_f (by decide) ⟨j4, br_f (by decide) (br_f (by rw [hhw, hh]; decide) (br_t (hhw.trans hh) (br_t (by decide) ⟨j4, ?_⟩)))⟩
  rw [jK]
  refine ym_eag0 24 (by decide) (by unfold gk_eag; decide) (br_t (by decide) (br_t (by decide) ?_))
  refine ⟨j3, nm_r jc ⟨j4, nm_r jK ?_⟩⟩
  repeat (refine br_f (by decide) ?_)
  refine br_t (by decide) (br_t (by rw [hvv.1]; exact hs) ⟨j4, br_f (by rw [jK]; decide) ⟨ig, ?_⟩⟩)
  rw [ev, egc]
  by_cases z : G.1 g = 3
  · rw [if_pos z] at hp
    refine br_t z ?_
    exact yf_top (M' := (false, 0, 1, 1)) (L2 := L) (post := post) (V' := V) (F' := F) (N' := N) (sp' := sp) (st' := G.1) (cl' := G.2.1) (gy' := G.2.2.1) B (fun _ _ z => z) pk_us (fun r h => pk_un h) (fun z => z) yf_me hp
  · rw [if_neg z] at hp
    refine br_f z ?_
    exact yf_top (M' := (false, 0, 1, 0)) (L2 := L) (post := post) (V' := V) (F' := F) (N' := N) (sp' := sp) (st' := G.1) (cl' := G.2.1) (gy' := G.2.2.1) B (fun _ _ z => z) pk_us (fun r h => pk_un h) (fun z => z) yf_me hp
theorem yg_cl3 (hw0 : gw_S w) (hq : yq_S w q) (I : gk_I w M S (a :: A') V F G nc sp) (hR : yr_R w q E M S (a :: A') V F G N sp v) (hSa : S a = f :: L) (hb : M.1 = false) (hh : M.2.1 = 0) (hst : f.2.1 = 1) (hk : gw_K w f.1 = 25) (hs : M.2.2.1 ≠ 4)
    (hp : ∀ v', yr_R w q E (false, 1, 1, (-3 : Int32).toInt64) (gk_su S a L) (a :: A') V F G N sp v' → post v') : wpY_pass post v := by
  obtain ⟨bg, tk, ch, hw, so, va, gb, gh, ro, mn, wt, wo, wc, wh, ws, wv, rfl, hP⟩ := hR
  have B := yo_mk hw0 I hSa hP
  have fo := xs_fo I hSa
  obtain ⟨hbg, hhw, hv⟩ := hP.1.2 hb
  obtain ⟨j1, jr, j2, jn, jm, jk, j3, jt, jo, j4, jc, jK, jW⟩ := yp_in hw0 hq B fo.1 (Or.inl hst) hk (sg := 0) (by rw [hst])
  have hvv := hv (Or.inl hh)
  refine ⟨j1, nm_r jr ⟨j2, br_f jn ⟨j2, j2, nm_r jm ⟨j2, nm_r jk ⟨j3, nm_r jt ⟨j3, nm_r jo ⟨j4, ?_⟩⟩⟩⟩⟩⟩⟩
  rw [jK]
  refine br_f (by decide) ⟨j4, br_f (by decide) (br_f (by rw [hhw, hh]; decide) (br_t (hhw.trans hh) (br_t (by decide) ⟨j4, ?_⟩)))⟩
  rw [jK]
  refine ym_eag0 25 (by decide) (by unfold gk_eag; decide) (br_t (by decide) (br_t (by decide) ?_))
  refine ⟨j3, nm_r jc ⟨j4, nm_r jK ?_⟩⟩
  repeat (refine br_f (by decide) ?_)
  refine br_t (by decide) (br_f (by rw [hvv.1]; exact hs) ?_)
  exact yf_top (M' := (false, 1, 1, (-3 : Int32).toInt64)) (L2 := L) (post := post) (V' := V) (F' := F) (N' := N) (sp' := sp) (st' := G.1) (cl' := G.2.1) (gy' := G.2.2.1) B (fun _ _ z => z) pk_us (fun r h => pk_un h) (fun z => z) yf_me hp
theorem yg_clE (hw0 : gw_S w) (hq : yq_S w q) (I : gk_I w M S (a :: A') V F G nc sp) (hR : yr_R w q E M S (a :: A') V F G N sp v) (hSa : S a = f :: L) (hb : M.1 = false) (hh : M.2.1 = 0) (hst : f.2.1 = 1) (hk : gw_K w f.1 = 25) {g : Nat} (hg : g < G.2.2.2) (hs : M.2.2.1 = 4) (hx : M.2.2.2 = lN g) (h03 : G.1 g = 0 ∨ G.1 g = 3)
    (hp : ∀ v', yr_R w q E (false, 0, 0, 0) (gk_su S a L) (a :: A') V F (upd G.1 g 3, G.2.1, G.2.2.1, G.2.2.2) N sp v' → post v') : wpY_pass post v := by
  obtain ⟨bg, tk, ch, hw, so, va, gb, gh, ro, mn, wt, wo, wc, wh, ws, wv, rfl, hP⟩ := hR
  have B := yo_mk hw0 I hSa hP
  have fo := xs_fo I hSa
  obtain ⟨hbg, hhw, hv⟩ := hP.1.2 hb
  obtain ⟨j1, jr, j2, jn, jm, jk, j3, jt, jo, j4, jc, jK, jW⟩ := yp_in hw0 hq B fo.1 (Or.inl hst) hk (sg := 0) (by rw [hst])
  have hvc := xg_vc I
  have hvv := hv (Or.inl hh)
  have ev : va.toInt32 = nI g := by rw [hvv.2, hx, lN_i]
  have egc : (nI g).toNatClampNeg = g := nI_clamp (by omega)
  have ig : vp_in (nI g) 8 := vp_in_nI (by omega) (by decide)
  refine ⟨j1, nm_r jr ⟨j2, br_f jn ⟨j2, j2, nm_r jm ⟨j2, nm_r jk ⟨j3, nm_r jt ⟨j3, nm_r jo ⟨j4, ?_⟩⟩⟩⟩⟩⟩⟩
  rw [jK]
  refine br_f (by decide) ⟨j4, br_f (by decide) (br_f (by rw [hhw, hh]; decide) (br_t (hhw.trans hh) (br_t (by decide) ⟨j4, ?_⟩)))⟩
  rw [jK]
  refine ym_eag0 25 (by decide) (by unfold gk_eag; decide) (br_t (by decide) (br_t (by decide) ?_))
  refine ⟨j3, nm_r jc ⟨j4, nm_r jK ?_⟩⟩
  repeat (refine br_f (by decide) ?_)
  refine br_t (by decide) (br_t (by rw [hvv.1]; exact hs) ⟨j4, br_t jK ?_⟩)
  rw [ev]
  have n2 : ¬ G.1 (nI g).toNatClampNeg = 2 := by
    rw [egc]; rcases h03 with z | z <;> (rw [z]; decide)
  have n1 : ¬ G.1 (nI g).toNatClampNeg = 1 := by
    rw [egc]; rcases h03 with z | z <;> (rw [z]; decide)
  refine ⟨ig, br_f n2 ⟨ig, br_f n1 ⟨ig, br_f n1 ⟨ig, nm_r (e' := upd G.1 g 3) (by rw [egc]) ?_⟩⟩⟩⟩
  exact yf_top (M' := (false, 0, 0, 0)) (L2 := L) (post := post) (V' := V) (F' := F) (N' := N) (sp' := sp) (st' := upd G.1 g 3) (cl' := G.2.1) (gy' := G.2.2.1) B (yo_u3 (by decide)) pk_us (fun r h => pk_un h) (fun z => z) yf_me hp
theorem yg_clW (hw0 : gw_S w) (hq : yq_S w q) (I : gk_I w M S (a :: A') V F G nc sp) (hR : yr_R w q E M S (a :: A') V F G N sp v) (hSa : S a = f :: L) (hb : M.1 = false) (hh : M.2.1 = 0) (hst : f.2.1 = 1) (hk : gw_K w f.1 = 25) {g : Nat} (hg : g < G.2.2.2) (hs : M.2.2.1 = 4) (hx : M.2.2.2 = lN g) (h2 : G.1 g = 2)
    (hp : ∀ v', yr_R w q E (false, 1, 1, (-4 : Int32).toInt64) (gk_su S a L) (a :: A') V F G N sp v' → post v') : wpY_pass post v := by
  obtain ⟨bg, tk, ch, hw, so, va, gb, gh, ro, mn, wt, wo, wc, wh, ws, wv, rfl, hP⟩ := hR
  have B := yo_mk hw0 I hSa hP
  have fo := xs_fo I hSa
  obtain ⟨hbg, hhw, hv⟩ := hP.1.2 hb
  obtain ⟨j1, jr, j2, jn, jm, jk, j3, jt, jo, j4, jc, jK, jW⟩ := yp_in hw0 hq B fo.1 (Or.inl hst) hk (sg := 0) (by rw [hst])
  have hvc := xg_vc I
  have hvv := hv (Or.inl hh)
  have ev : va.toInt32 = nI g := by rw [hvv.2, hx, lN_i]
  have egc : (nI g).toNatClampNeg = g := nI_clamp (by omega)
  have ig : vp_in (nI g) 8 := vp_in_nI (by omega) (by decide)
  refine ⟨j1, nm_r jr ⟨j2, br_f jn ⟨j2, j2, nm_r jm ⟨j2, nm_r jk ⟨j3, nm_r jt ⟨j3, nm_r jo ⟨j4, ?_⟩⟩⟩⟩⟩⟩⟩
  rw [jK]
  refine br_f (by decide) ⟨j4, br_f (by decide) (br_f (by rw [hhw, hh]; decide) (br_t (hhw.trans hh) (br_t (by decide) ⟨j4, ?_⟩)))⟩
  rw [jK]
  refine ym_eag0 25 (by decide) (by unfold gk_eag; decide) (br_t (by decide) (br_t (by decide) ?_))
  refine ⟨j3, nm_r jc ⟨j4, nm_r jK ?_⟩⟩
  repeat (refine br_f (by decide) ?_)
  refine br_t (by decide) (br_t (by rw [hvv.1]; exact hs) ⟨j4, br_t jK ?_⟩)
  rw [ev]
  refine ⟨ig, br_t (by rw [egc, h2]) ?_⟩
  exact yf_top (M' := (false, 1, 1, (-4 : Int32).toInt64)) (L2 := L) (post := post) (V' := V) (F' := F) (N' := N) (sp' := sp) (st' := G.1) (cl' := G.2.1) (gy' := G.2.2.1) B (fun _ _ z => z) pk_us (fun r h => pk_un h) (fun z => z) yf_me hp
theorem yg_clF (hw0 : gw_S w) (hq : yq_S w q) (I : gk_I w M S (a :: A') V F G nc sp) (hR : yr_R w q E M S (a :: A') V F G N sp v) (hSa : S a = f :: L) (hb : M.1 = false) (hh : M.2.1 = 0) (hst : f.2.1 = 1) (hk : gw_K w f.1 = 25) {g : Nat} (hg : g < G.2.2.2) (hs : M.2.2.1 = 4) (hx : M.2.2.2 = lN g) (h2 : G.1 g = 1) (hd : ¬ A'.length + 1 < 8)
    (hp : ∀ v', yr_R w q E (false, 1, 1, (-5 : Int32).toInt64) (gk_su S a L) (a :: A') V F G N sp v' → post v') : wpY_pass post v := by
  obtain ⟨bg, tk, ch, hw, so, va, gb, gh, ro, mn, wt, wo, wc, wh, ws, wv, rfl, hP⟩ := hR
  have B := yo_mk hw0 I hSa hP
  have fo := xs_fo I hSa
  obtain ⟨hbg, hhw, hv⟩ := hP.1.2 hb
  obtain ⟨j1, jr, j2, jn, jm, jk, j3, jt, jo, j4, jc, jK, jW⟩ := yp_in hw0 hq B fo.1 (Or.inl hst) hk (sg := 0) (by rw [hst])
  have hvc := xg_vc I
  have hvv := hv (Or.inl hh)
  have ev : va.toInt32 = nI g := by rw [hvv.2, hx, lN_i]
  have egc : (nI g).toNatClampNeg = g := nI_clamp (by omega)
  have ig : vp_in (nI g) 8 := vp_in_nI (by omega) (by decide)
  refine ⟨j1, nm_r jr ⟨j2, br_f jn ⟨j2, j2, nm_r jm ⟨j2, nm_r jk ⟨j3, nm_r jt ⟨j3, nm_r jo ⟨j4, ?_⟩⟩⟩⟩⟩⟩⟩
  rw [jK]
  refine br_f (by decide) ⟨j4, br_f (by decide) (br_f (by rw [hhw, hh]; decide) (br_t (hhw.trans hh) (br_t (by decide) ⟨j4, ?_⟩)))⟩
  rw [jK]
  refine ym_eag0 25 (by decide) (by unfold gk_eag; decide) (br_t (by decide) (br_t (by decide) ?_))
  refine ⟨j3, nm_r jc ⟨j4, nm_r jK ?_⟩⟩
  repeat (refine br_f (by decide) ?_)
  refine br_t (by decide) (br_t (by rw [hvv.1]; exact hs) ⟨j4, br_t jK ?_⟩)
  rw [ev]
  have e8 : A'.length + 1 = 8 := by have := B.2.1; omega
  have h8 : nI (a :: A').length = 8 := by
    show nI (A'.length + 1) = 8
    rw [e8]
    rfl
  refine ⟨ig, br_f (by rw [egc, h2]; decide) ⟨ig, br_t (by rw [egc, h2]) (br_t h8 ?_)⟩⟩
  exact yf_top (M' := (false, 1, 1, (-5 : Int32).toInt64)) (L2 := L) (post := post) (V' := V) (F' := F) (N' := N) (sp' := sp) (st' := G.1) (cl' := G.2.1) (gy' := G.2.2.1) B (fun _ _ z => z) pk_us (fun r h => pk_un h) (fun z => z) yf_me hp
theorem yg_cl (hw0 : gw_S w) (hq : yq_S w q) (I : gk_I w M S (a :: A') V F G nc sp) (hR : yr_R w q E M S (a :: A') V F G N sp v) (hSa : S a = f :: L) (hb : M.1 = false) (hh : M.2.1 = 0) (hst : f.2.1 = 1) (hk : gw_K w f.1 = 25) {g : Nat} (hg : g < G.2.2.2) (hs : M.2.2.1 = 4) (hx : M.2.2.2 = lN g) (h2 : G.1 g = 1) (hd : A'.length + 1 < 8)
    (hp : ∀ v', yr_R w q E (false, 5, 0, 0) (gk_su S a ((f.1, 3, f.2.2) :: L)) ((8 + g) :: a :: A') V F (upd G.1 g 2, upd G.2.1 g 1, G.2.2.1, G.2.2.2) N sp v' → post v') : wpY_pass post v := by
  obtain ⟨bg, tk, ch, hw, so, va, gb, gh, ro, mn, wt, wo, wc, wh, ws, wv, rfl, hP⟩ := hR
  have B := yo_mk hw0 I hSa hP
  have fo := xs_fo I hSa
  obtain ⟨hbg, hhw, hv⟩ := hP.1.2 hb
  obtain ⟨j1, jr, j2, jn, jm, jk, j3, jt, jo, j4, jc, jK, jW⟩ := yp_in hw0 hq B fo.1 (Or.inl hst) hk (sg := 0) (by rw [hst])
  have hvc := xg_vc I
  have hvv := hv (Or.inl hh)
  have ev : va.toInt32 = nI g := by rw [hvv.2, hx, lN_i]
  have egc : (nI g).toNatClampNeg = g := nI_clamp (by omega)
  have ig : vp_in (nI g) 8 := vp_in_nI (by omega) (by decide)
  refine ⟨j1, nm_r jr ⟨j2, br_f jn ⟨j2, j2, nm_r jm ⟨j2, nm_r jk ⟨j3, nm_r jt ⟨j3, nm_r jo ⟨j4, ?_⟩⟩⟩⟩⟩⟩⟩
  rw [jK]
  refine br_f (by decide) ⟨j4, br_f (by decide) (br_f (by rw [hhw, hh]; decide) (br_t (hhw.trans hh) (br_t (by decide) ⟨j4, ?_⟩)))⟩
  rw [jK]
  refine ym_eag0 25 (by decide) (by unfold gk_eag; decide) (br_t (by decide) (br_t (by decide) ?_))
  refine ⟨j3, nm_r jc ⟨j4, nm_r jK ?_⟩⟩
  repeat (refine br_f (by decide) ?_)
  refine br_t (by decide) (br_t (by rw [hvv.1]; exact hs) ⟨j4, br_t jK ?_⟩)
  rw [ev]
  have h8 : ¬ nI (a :: A').length = 8 := by
    show ¬ nI (A'.length + 1) = nI 8
    rw [nI_eq (by omega) (by decide)]
    omega
  refine ⟨ig, br_f (by rw [egc, h2]; decide) ⟨ig, br_t (by rw [egc, h2]) (br_f h8 ⟨ig, br_t (by rw [egc, h2]) ⟨ig, nm_r (e' := upd G.1 g 2) (by rw [egc]) ⟨ig, nm_r (e' := upd G.2.1 g 1) (by rw [egc, ym_b1]) ?_⟩⟩⟩)⟩⟩
  refine ym_enterG (d := A'.length + 1) rfl (by omega) (by omega) ?_
  refine hp _ ⟨0, tk, ch, 5, 0, 0, gb, gh, _, _, wt, wo, wc, wh, ws, wv, rfl, yf_me, ⟨by rw [yr_rg]; exact pk_us, xr_Ac _ (fun j hj => pk_un (by have : j < A'.length + 1 := hj; omega)) B.2.2.2.2.1⟩, yr_flat (mn' := upd mn (yr_row a) (nI (gk_yl L))) B.2.2.2.2.2.1 B.1 (Or.inl (List.mem_cons_self ..)) B.2.2.1 (yo_lv hg) B.2.2.2.1 pk_us (fun r h => pk_un h) (fun z => ⟨gk_3y, z⟩), yo_g B (yo_u3 (by decide))⟩
theorem yg_shn {bg tk ch hw so : Int32} {va : Int64} {gb gh ro mn wt wo wc wh ws : Nat → Int32} {wv : Nat → Int64} {A : List Nat} {gc : Nat} {post : Int64 → Prop} {s : Int32} {x : Int64} (hf : F.2.2 ≤ 600) (hvv : gk_VV F.2.2 gc s x) (hp : post (gk_sh F s x)) :
    wpY_shown post (yr_t q E A V F G N sp bg tk ch hw so va gb gh ro mn wt wo wc wh ws wv) s x := by
  refine br_c (fun z => ?_) (fun z => ?_)
  · rw [gk_sh, if_pos z] at hp
    rcases hvv with h | ⟨_, i, hi, e⟩ | ⟨h, _⟩
    · rw [z] at h; exact absurd h (by decide)
    · refine ⟨?_, hp⟩
      rw [e, lN_i]
      exact vp_in_nI (by omega) (by decide)
    · rw [z] at h; exact absurd h (by decide)
  · rw [gk_sh, if_neg z] at hp
    exact hp
theorem yg_host (hw0 : gw_S w) (hq : yq_S w q) (I : gk_I w M S (a :: A') V F G nc sp) (hR : yr_R w q E M S (a :: A') V F G N sp v) (hSa : S a = f :: L) (hb : M.1 = false) (hh : M.2.1 = 0) (hst : f.2.1 = 1) (hk : gw_K w f.1 = 26) (hnc : N.2.2 ≤ 600) (hvv : gk_VV F.2.2 G.2.2.2 M.2.2.1 M.2.2.2)
    (hp : ∀ v', yr_R w q E (false, (if M.2.2.1 = 1 ∧ M.2.2.2 < 0 then 1 else 0), M.2.2) (gk_su S a L) (a :: A') V F G (gk_nt F N M.2.2.1 M.2.2.2) sp v' → post v') : wpY_pass post v := by
  obtain ⟨bg, tk, ch, hw, so, va, gb, gh, ro, mn, wt, wo, wc, wh, ws, wv, rfl, hP⟩ := hR
  have B := yo_mk hw0 I hSa hP
  have fo := xs_fo I hSa
  obtain ⟨hbg, hhw, hv⟩ := hP.1.2 hb
  obtain ⟨j1, jr, j2, jn, jm, jk, j3, jt, jo, j4, jc, jK, jW⟩ := yp_in hw0 hq B fo.1 (Or.inl hst) hk (sg := 0) (by rw [hst])
  have hvc := xg_vc I
  obtain ⟨rfl, rfl⟩ := hv (Or.inl hh)
  have fin : ∀ (ns : Nat → Int32) (nn : Nat → Int64), (ns, nn, N.2.2 + 1) = gk_nt F N M.2.2.1 M.2.2.2 →
      wY_note_43 post q.1 q.2.1 q.2.2.1 q.2.2.2.1 (nI V.2.2.2.2) (nI F.2.2) (nI G.2.2.2) (nI (a :: A').length) bg tk ch hw M.2.2.1 M.2.2.2 (nI sp) E.1 E.2.1 E.2.2.1 E.2.2.2 (nI N.2.2) q.2.2.2.2.1 q.2.2.2.2.2.1 q.2.2.2.2.2.2.1 q.2.2.2.2.2.2.2.1 q.2.2.2.2.2.2.2.2.1 q.2.2.2.2.2.2.2.2.2.1 q.2.2.2.2.2.2.2.2.2.2.1 q.2.2.2.2.2.2.2.2.2.2.2.1 q.2.2.2.2.2.2.2.2.2.2.2.2.1 q.2.2.2.2.2.2.2.2.2.2.2.2.2.1 q.2.2.2.2.2.2.2.2.2.2.2.2.2.2 V.1 V.2.1 V.2.2.1 V.2.2.2.1 F.1 F.2.1 G.1 gb gh G.2.2.1 G.2.1 ro (upd mn (yr_row a) (nI (gk_yl L))) wt wo wc ws wh wv ns nn := by
    intro ns nn e
    rw [← e] at hp
    refine nm_r (nI_1 N.2.2) (br_c (fun z => br_c (fun y => ?_) (fun y => ?_)) (fun z => ?_))
    · rw [if_neg (fun c => absurd c.2 (Int64.not_lt.mpr y))] at hp
      exact yf_top (M' := (false, 0, M.2.2)) (L2 := L) (post := post) (V' := V) (F' := F) (N' := (ns, nn, N.2.2 + 1)) (sp' := sp) (st' := G.1) (cl' := G.2.1) (gy' := G.2.2.1) B (fun _ _ z => z) pk_us (fun r h => pk_un h) (fun z => z) ⟨fun z => (by cases z), fun _ => ⟨hbg, hhw.trans hh, fun _ => ⟨rfl, rfl⟩⟩⟩ hp
    · rw [if_pos ⟨z, Int64.not_le.mp y⟩] at hp
      exact yf_top (M' := (false, 1, M.2.2)) (L2 := L) (post := post) (V' := V) (F' := F) (N' := (ns, nn, N.2.2 + 1)) (sp' := sp) (st' := G.1) (cl' := G.2.1) (gy' := G.2.2.1) B (fun _ _ z => z) pk_us (fun r h => pk_un h) (fun z => z) ⟨fun z => (by cases z), fun _ => ⟨hbg, rfl, fun _ => ⟨rfl, rfl⟩⟩⟩ hp
    · rw [if_neg (fun c => z c.1)] at hp
      exact yf_top (M' := (false, 0, M.2.2)) (L2 := L) (post := post) (V' := V) (F' := F) (N' := (ns, nn, N.2.2 + 1)) (sp' := sp) (st' := G.1) (cl' := G.2.1) (gy' := G.2.2.1) B (fun _ _ z => z) pk_us (fun r h => pk_un h) (fun z => z) ⟨fun z => (by cases z), fun _ => ⟨hbg, hhw.trans hh, fun _ => ⟨rfl, rfl⟩⟩⟩ hp
  refine ⟨j1, nm_r jr ⟨j2, br_f jn ⟨j2, j2, nm_r jm ⟨j2, nm_r jk ⟨j3, nm_r jt ⟨j3, nm_r jo ⟨j4, ?_⟩⟩⟩⟩⟩⟩⟩
  rw [jK]
  refine br_f (by decide) ⟨j4, br_f (by decide) (br_f (by rw [hhw, hh]; decide) (br_t (hhw.trans hh) (br_t (by decide) ⟨j4, ?_⟩)))⟩
  rw [jK]
  refine ym_eag0 26 (by decide) (by unfold gk_eag; decide) (br_t (by decide) (br_t (by decide) ?_))
  refine ⟨j3, nm_r jc ⟨j4, nm_r jK ?_⟩⟩
  repeat (refine br_f (by decide) ?_)
  refine br_t (by decide) ?_
  by_cases c : N.2.2 < 40
  · have i4 : vp_in (nI N.2.2) 40 := vp_in_nI c (by decide)
    have e4 : (nI N.2.2).toNatClampNeg = N.2.2 := nI_clamp (by omega)
    refine br_f (nI_ge (b := 40) c (by decide)) ⟨i4, nm_r (e' := upd N.1 N.2.2 M.2.2.1) (by rw [e4]) ?_⟩
    refine yg_shn (N := (upd N.1 N.2.2 M.2.2.1, N.2)) (gc := G.2.2.2) hvc.2.1 hvv ⟨i4, nm_r (e' := vp_updL N.2.1 N.2.2 (gk_sh F M.2.2.1 M.2.2.2)) (by rw [e4]) ?_⟩
    exact fin _ _ (by rw [gk_nt, if_pos c])
  · refine br_t (nI_le (a := 40) (by omega) (by omega)) ?_
    exact fin _ _ (by rw [gk_nt, if_neg c])
end
