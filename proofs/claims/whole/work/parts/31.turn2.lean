section
variable {w : gw_T} {qx : xq_T} {qy : yq_T} {E : ye_T} {S : Nat → List gf_T} {a : Nat} {A' : List Nat} {V : gv_T} {F : gp_T} {G : gg_T} {N : gn_T} {nc sp : Nat} {f : gf_T} {L : List gf_T} {h s : Int32} {x : Int64}
theorem rt_md (I : gk_I w (false, h, s, x) S (a :: A') V F G nc sp) (hSa : S a = f :: L) :
    f.2.1 ≠ 0 ∧ gk_HW h ∧ (gk_hv h → gk_VV F.2.2 G.2.2.2 s x) ∧ (h = 2 ∨ h = 3 → (gw_K w f.1 = 14 ∧ f.2.1 = 2) ∨ gw_il w f.1 = true) ∧ (h = 5 → gk_cl G a) := by
  obtain ⟨m1, m2, m3, m4, m5⟩ := (I.2.2.2.2.2.1 a A' rfl).2.2 rfl
  rw [hSa] at m1 m4
  refine ⟨m1 f (List.mem_cons_self ..), m2, m3, ?_, m5⟩
  intro z
  obtain ⟨g, L', e, r⟩ := m4 z
  cases e
  exact r
theorem rt_v4 {fc gc : Nat} (h : gk_VV fc gc s x) (h4 : s = 4) : ∃ g, g < gc ∧ x = lN g := by
  rcases h with z | z | z
  · rw [h4] at z; exact absurd z (by decide)
  · rw [h4] at z; exact absurd z.1 (by decide)
  · exact z.2
theorem rt_kk {k : Int32} (hk : gw_K w f.1 = k) (h1 : k ≠ 14) (h2 : k ≠ 21) : gw_K w f.1 ≠ 14 ∧ gw_K w f.1 ≠ 21 := by
  rw [hk]
  exact ⟨h1, h2⟩
theorem rt_er (hw : gw_S w) (I : gk_I w (false, h, s, x) S (a :: A') V F G nc sp) (hSa : S a = f :: L) (h0 : f.2.1 ≠ 0) (h3 : f.2.1 ≤ 3) (e : Int64) :
    gk_I w (false, 1, 1, e) (gk_su S a L) (a :: A') V F G nc sp ∧ gk_mu (false, 1, 1, e) (gk_su S a L) (a :: A') sp < gk_mu (false, h, s, x) S (a :: A') sp :=
  rt_pop hw I hSa h0 h3 (Or.inr (Or.inl rfl)) (fun _ => Or.inl (Or.inr (Or.inl rfl))) (fun z => absurd z (by decide)) (fun z => absurd z (by decide))
theorem rt_vl (hw : gw_S w) (I : gk_I w (false, h, s, x) S (a :: A') V F G nc sp) (hSa : S a = f :: L) (h0 : f.2.1 ≠ 0) (h3 : f.2.1 ≤ 3) {s' : Int32} {x' : Int64} (hv : gk_VV F.2.2 G.2.2.2 s' x') :
    gk_I w (false, 0, s', x') (gk_su S a L) (a :: A') V F G nc sp ∧ gk_mu (false, 0, s', x') (gk_su S a L) (a :: A') sp < gk_mu (false, h, s, x) S (a :: A') sp :=
  rt_pop hw I hSa h0 h3 (Or.inl rfl) (fun _ => hv) (fun z => absurd z (by decide)) (fun z => absurd z (by decide))
theorem rt_sm (hw : gw_S w) (I : gk_I w (false, h, s, x) S (a :: A') V F G nc sp) (hSa : S a = f :: L) (hc : ¬ (gw_K w f.1 = 14 ∧ f.2.1 = 2 ∧ (h = 2 ∨ h = 3))) :
    gk_I w (false, h, s, x) (gk_su S a L) (a :: A') V F G nc sp ∧ gk_mu (false, h, s, x) (gk_su S a L) (a :: A') sp < gk_mu (false, h, s, x) S (a :: A') sp := by
  have fo := xs_fo I hSa
  have md := rt_md I hSa
  refine rt_pop hw I hSa md.1 fo.2.2.1 md.2.1 md.2.2.1 ?_ md.2.2.2.2
  intro z
  rcases md.2.2.2.1 z with c | c
  · exact absurd ⟨c.1, c.2, z⟩ hc
  · exact c
theorem rt_l3 (hw : gw_S w) (hx : xq_S w qx) (hy : yq_S w qy) (I : gk_I w (false, h, s, x) S (a :: A') V F G N.2.2 sp) (hSa : S a = f :: L) (hst : f.2.1 = 3) : rt_T w qx qy E (false, h, s, x) S a A' V F G N sp (48 * a + L.length) := by
  have r := rt_sm hw I hSa (fun z => by omega)
  exact ⟨_, _, _, _, _, _, N, r.1, r.2, List.cons_ne_nil _ _, fun u post hR hp => xg_p3 hw hx I hR hSa rfl hst hp, Or.inl (fun v hR => ys_skip hw I hR hSa rfl hst)⟩
theorem rt_while (hw : gw_S w) (hx : xq_S w qx) (hy : yq_S w qy) (I : gk_I w (false, h, s, x) S (a :: A') V F G N.2.2 sp) (hSa : S a = f :: L) (hk : gw_K w f.1 = 14) (hst : f.2.1 = 1 ∨ f.2.1 = 2) : rt_T w qx qy E (false, h, s, x) S a A' V F G N sp (48 * a + L.length) := by
  have fo := xs_fo I hSa
  have md := rt_md I hSa
  have ho : gw_o w f.1 = 2 := by rw [hw.2.2.2.1 _ fo.1, hk]; decide
  have hsc := fun j (hj : j < 2) => (hw.2.2.2.2.2.2.1 f.1 j fo.1 (by omega)).2.1 (by rw [hk]; intro z; rcases z with z | z; exact absurd z (by decide); exact absurd z.1 (by decide))
  rcases hst with hst | hst
  · by_cases h0 : h = 0
    · have hvv := md.2.2.1 (Or.inl h0)
      by_cases ht : gk_tr s x = true
      · have r := rt_push (j := 1) (st := 2) (c' := f.2.2.1) (ke := 0) (ks := 0) (kn := 0) hw I hSa (Or.inl hst) (gk_Xr V) I.2.2.2.1 (Or.inr (Or.inl rfl)) (by omega) (fun z => absurd z (by decide)) (fun _ => rfl) (by rw [hsc 1 (by decide)]; exact fo.2.1) (by rw [if_neg (by decide)]; omega) (fun _ => Or.inl hk) (fun z => absurd z (by decide)) (fun _ z => absurd hk z)
        exact ⟨_, _, _, _, _, _, N, r.1, r.2, List.cons_ne_nil _ _, fun u post hR hp => xg_w1t hw hx I hR hSa rfl h0 hst hk ht rfl hp, Or.inr (fun v post hR hp => yg_w1t hw hy I hR hSa rfl h0 hst hk (rt_v5 hvv) ht rfl hp)⟩
      · have r := rt_vl (s' := 0) (x' := 0) hw I hSa md.1 fo.2.2.1 (Or.inl (Or.inl rfl))
        exact ⟨_, _, _, _, _, _, N, r.1, r.2, List.cons_ne_nil _ _, fun u post hR hp => xg_w1f hw hx I hR hSa rfl h0 hst hk ht hp, Or.inr (fun v post hR hp => yg_w1f hw hy I hR hSa rfl h0 hst hk (rt_v5 hvv) ht hp)⟩
    · have r := rt_sm hw I hSa (fun z => by omega)
      exact ⟨_, _, _, _, _, _, N, r.1, r.2, List.cons_ne_nil _ _, fun u post hR hp => xg_pw1 hw hx I hR hSa rfl h0 hst hk hp, Or.inr (fun v post hR hp => yg_pw1 hw hy I hR hSa rfl h0 hst hk hp)⟩
  · by_cases h03 : h = 0 ∨ h = 3
    · have r := rt_push (j := 0) (st := 1) (c' := f.2.2.1) (ke := 0) (ks := 0) (kn := 0) hw I hSa (Or.inr hst) (gk_Xr V) I.2.2.2.1 (Or.inl rfl) (by omega) (fun _ => rfl) (fun z => absurd z (by decide)) (by rw [hsc 0 (by decide)]; exact fo.2.1) (by rw [if_neg (by decide)]; omega) (fun z => absurd z (by decide)) (fun z => absurd z (by decide)) (fun z => absurd z (by decide))
      exact ⟨_, _, _, _, _, _, N, r.1, r.2, List.cons_ne_nil _ _, fun u post hR hp => xg_w2 hw hx I hR hSa rfl h03 hst hk rfl hp, Or.inr (fun v post hR hp => yg_w2 hw hy I hR hSa rfl h03 hst hk rfl hp)⟩
    · by_cases h2 : h = 2
      · have r := rt_vl (s' := 0) (x' := 0) hw I hSa md.1 fo.2.2.1 (Or.inl (Or.inl rfl))
        exact ⟨_, _, _, _, _, _, N, r.1, r.2, List.cons_ne_nil _ _, fun u post hR hp => xg_w2b hw hx I hR hSa rfl h2 hst hk hp, Or.inr (fun v post hR hp => yg_w2b hw hy I hR hSa rfl h2 hst hk hp)⟩
      · have n0 : h ≠ 0 := fun z => h03 (Or.inl z)
        have n3 : h ≠ 3 := fun z => h03 (Or.inr z)
        have r := rt_sm hw I hSa (fun z => by rcases z.2.2 with c | c; exact h2 c; exact n3 c)
        exact ⟨_, _, _, _, _, _, N, r.1, r.2, List.cons_ne_nil _ _, fun u post hR hp => xg_pw2 hw hx I hR hSa rfl n0 n3 h2 hst hk hp, Or.inr (fun v post hR hp => yg_pw2 hw hy I hR hSa rfl n0 n3 h2 hst hk hp)⟩
theorem rt_fin (hw : gw_S w) (hx : xq_S w qx) (hy : yq_S w qy) (I : gk_I w (false, h, s, x) S (a :: A') V F G N.2.2 sp) (hSa : S a = f :: L) (hk : gw_K w f.1 = 21) (hst : f.2.1 = 1 ∨ f.2.1 = 2) : rt_T w qx qy E (false, h, s, x) S a A' V F G N sp (48 * a + L.length) := by
  have fo := xs_fo I hSa
  have md := rt_md I hSa
  have ho : gw_o w f.1 = 2 := by rw [hw.2.2.2.1 _ fo.1, hk]; decide
  have n14 : gw_K w f.1 ≠ 14 := by rw [hk]; decide
  rcases hst with hst | hst
  · have hsc := (hw.2.2.2.2.2.2.1 f.1 1 fo.1 (by omega)).2.1 (by rw [hk]; intro z; rcases z with z | z; exact absurd z (by decide); exact absurd z.1 (by decide))
    have r := rt_push (j := 1) (st := 2) (c' := f.2.2.1) (ke := h) (ks := s) (kn := x) hw I hSa (Or.inl hst) (gk_Xr V) I.2.2.2.1 (Or.inr (Or.inl rfl)) (by omega) (fun z => absurd z (by decide)) (fun _ => rfl) (by rw [hsc]; exact fo.2.1) (by rw [if_neg (by decide)]; omega) (fun _ => Or.inr (Or.inl hk)) (fun z => absurd z (by decide))
      (fun _ _ => ⟨md.2.1, md.2.2.1, fun z => by rcases md.2.2.2.1 z with c | c; exact absurd c.1 n14; exact c, md.2.2.2.2, fun z => absurd hk z⟩)
    exact ⟨_, _, _, _, _, _, N, r.1, r.2, List.cons_ne_nil _ _, fun u post hR hp => xg_f1 hw hx I hR hSa rfl hst hk rfl hp, Or.inr (fun v post hR hp => yg_f1 hw hy I hR hSa rfl hst hk rfl hp)⟩
  · by_cases h0 : h = 0
    · have kp := fo.2.2.2.2.2.2 hst n14
      have r := rt_pop (h' := f.2.2.2.1) (s' := f.2.2.2.2.1) (x' := f.2.2.2.2.2) hw I hSa md.1 fo.2.2.1 kp.1 kp.2.1 kp.2.2.1 kp.2.2.2.1
      exact ⟨_, _, _, _, _, _, N, r.1, r.2, List.cons_ne_nil _ _, fun u post hR hp => xg_f2 hw hx I hR hSa rfl h0 hst hk hp, Or.inr (fun v post hR hp => yg_f2 hw hy I hR hSa rfl h0 hst hk hp)⟩
    · have r := rt_sm hw I hSa (fun z => n14 z.1)
      exact ⟨_, _, _, _, _, _, N, r.1, r.2, List.cons_ne_nil _ _, fun u post hR hp => xg_f2p hw hx I hR hSa rfl h0 hst hk hp, Or.inr (fun v post hR hp => yg_f2p hw hy I hR hSa rfl h0 hst hk hp)⟩
theorem rt_bd (hw : gw_S w) (I : gk_I w (false, h, s, x) S (a :: A') V F G nc sp) (hSa : S a = f :: L) (hk : gw_K w f.1 = 4 ∨ gw_K w f.1 = 20) (hst : f.2.1 = 1) (hv : gk_VV F.2.2 G.2.2.2 s x) :
    gk_I w (true, h, s, x) (gk_su S a ((gw_c w f.1 1, 0, nI V.2.2.2.2, 0, 0, 0) :: (f.1, 3, f.2.2.1, 0, 0, 0) :: L)) (a :: A') (gk_bd V (nI f.1) f.2.2.1 s x) F G nc sp ∧
    gk_mu (true, h, s, x) (gk_su S a ((gw_c w f.1 1, 0, nI V.2.2.2.2, 0, 0, 0) :: (f.1, 3, f.2.2.1, 0, 0, 0) :: L)) (a :: A') sp < gk_mu (false, h, s, x) S (a :: A') sp := by
  have fo := xs_fo I hSa
  have ho : gw_o w f.1 = 2 := by rw [hw.2.2.2.1 _ fo.1]; rcases hk with z | z <;> (rw [z]; decide)
  have hsc := (hw.2.2.2.2.2.2.1 f.1 1 fo.1 (by omega)).1 (Or.inr ⟨hk, rfl⟩)
  refine rt_push (j := 1) (st := 3) hw I hSa (Or.inl hst) (gk_bdX V (nI f.1) f.2.2.1 s x) (gk_bdV I.2.2.2.1 (Nat.le_refl _) hv) (Or.inr (Or.inr rfl)) (by omega) (fun z => absurd z (by decide)) (fun z => absurd z (by decide)) ?_ ?_ (fun z => absurd z (by decide)) (fun _ => ?_) (fun z => absurd z (by decide))
  · rw [hsc]
    exact gk_bdC fo.2.1
  · rw [if_pos rfl]
    exact Nat.le_refl _
  · rcases hk with z | z <;> (rw [z]; decide)
theorem rt_try (hw : gw_S w) (hx : xq_S w qx) (hy : yq_S w qy) (I : gk_I w (false, h, s, x) S (a :: A') V F G N.2.2 sp) (hSa : S a = f :: L) (hk : gw_K w f.1 = 20) (hst : f.2.1 = 1) : rt_T w qx qy E (false, h, s, x) S a A' V F G N sp (48 * a + L.length) := by
  have fo := xs_fo I hSa
  have md := rt_md I hSa
  have n14 : gw_K w f.1 ≠ 14 := by rw [hk]; decide
  have n21 : gw_K w f.1 ≠ 21 := by rw [hk]; decide
  by_cases h1 : h = 1
  · have r := rt_bd hw I hSa (Or.inr hk) hst (md.2.2.1 (Or.inr (Or.inl h1)))
    exact ⟨_, _, _, _, _, _, N, r.1, r.2, List.cons_ne_nil _ _, fun u post hR hp => xg_try hw hx I hR hSa rfl h1 hst hk rfl hp, Or.inr (fun v post hR hp => yg_try hw hy I hR hSa rfl h1 hst hk rfl hp)⟩
  · have r := rt_sm hw I hSa (fun z => n14 z.1)
    by_cases h0 : h = 0
    · exact ⟨_, _, _, _, _, _, N, r.1, r.2, List.cons_ne_nil _ _, fun u post hR hp => xg_pt hw hx I hR hSa rfl h1 hst hk hp, Or.inr (fun v post hR hp => yg_pt0 hw hy I hR hSa rfl h0 hst hk hp)⟩
    · exact ⟨_, _, _, _, _, _, N, r.1, r.2, List.cons_ne_nil _ _, fun u post hR hp => xg_pt hw hx I hR hSa rfl h1 hst hk hp, Or.inr (fun v post hR hp => yg_pn hw hy I hR hSa rfl h0 (Or.inl hst) n14 n21 (fun z => absurd z h1) hp)⟩
theorem rt_nv (hw : gw_S w) (hx : xq_S w qx) (hy : yq_S w qy) (I : gk_I w (false, h, s, x) S (a :: A') V F G N.2.2 sp) (hSa : S a = f :: L) (n14 : gw_K w f.1 ≠ 14) (n21 : gw_K w f.1 ≠ 21) (n20 : gw_K w f.1 ≠ 20) (hst : f.2.1 = 1 ∨ f.2.1 = 2) (h0 : h ≠ 0) : rt_T w qx qy E (false, h, s, x) S a A' V F G N sp (48 * a + L.length) := by
  have r := rt_sm hw I hSa (fun z => n14 z.1)
  exact ⟨_, _, _, _, _, _, N, r.1, r.2, List.cons_ne_nil _ _, fun u post hR hp => xg_pn hw hx I hR hSa rfl h0 n14 n21 n20 hp, Or.inr (fun v post hR hp => yg_pn hw hy I hR hSa rfl h0 hst n14 n21 (fun _ => n20) hp)⟩
theorem rt_set (hw : gw_S w) (hx : xq_S w qx) (hy : yq_S w qy) (I : gk_I w (false, h, s, x) S (a :: A') V F G N.2.2 sp) (hSa : S a = f :: L) (h0 : h = 0) (hst : f.2.1 = 1) (hk : gw_K w f.1 = 3) : rt_T w qx qy E (false, h, s, x) S a A' V F G N sp (48 * a + L.length) := by
  have fo := xs_fo I hSa
  have md := rt_md I hSa
  have hvv := md.2.2.1 (Or.inl h0)
  obtain ⟨b, hbs, hmn⟩ := hw.2.2.2.2.2.2.2.1 f.1 fo.1 (Or.inr hk)
  have hvc := xg_vc I
  have hfi := gk_fil (b := b) (by omega) _ _ fo.2.1 hbs
  have hVF : gk_VF w (gk_st V (gk_fi V b (gw_sc w f.1) f.2.2.1) s x) F G.2.2.2 := by
    refine gk_VFm (gk_Xr V) I.2.2.2.1 (Nat.le_refl _) ?_
    intro i hi
    show gk_VV _ _ (upd V.2.2.1 _ s i) (vp_updL V.2.2.2.1 _ x i)
    by_cases z : i = gk_fi V b (gw_sc w f.1) f.2.2.1
    · subst z
      rw [pk_us, pk_uLs]
      exact hvv
    · rw [pk_un z, pk_uLn z]
      exact I.2.2.2.1.1 i hi
  have r := rt_pop2 (h' := 0) (s' := s) (x' := x) (V' := gk_st V (gk_fi V b (gw_sc w f.1) f.2.2.1) s x) hw I hSa (Or.inl hst) (gk_Xr V) hVF rfl (Nat.le_succ _) (Or.inl rfl) (fun _ => hvv) (fun z => absurd z (by decide)) (fun z => absurd z (by decide))
  exact ⟨_, _, _, _, _, _, N, r.1, r.2, List.cons_ne_nil _ _, fun u post hR hp => xg_set hw hx I hR hSa rfl h0 hst hk hbs hmn hp, Or.inr (fun v post hR hp => yg_set hw hy I hR hSa rfl h0 hst hk hbs hmn hp)⟩
theorem rt_let (hw : gw_S w) (hx : xq_S w qx) (hy : yq_S w qy) (I : gk_I w (false, h, s, x) S (a :: A') V F G N.2.2 sp) (hSa : S a = f :: L) (h0 : h = 0) (hst : f.2.1 = 1) (hk : gw_K w f.1 = 4) : rt_T w qx qy E (false, h, s, x) S a A' V F G N sp (48 * a + L.length) := by
  have fo := xs_fo I hSa
  have md := rt_md I hSa
  have hvv := md.2.2.1 (Or.inl h0)
  have r := rt_bd hw I hSa (Or.inl hk) hst hvv
  exact ⟨_, _, _, _, _, _, N, r.1, r.2, List.cons_ne_nil _ _, fun u post hR hp => xg_let hw hx I hR hSa rfl h0 hst hk rfl hp, Or.inr (fun v post hR hp => yg_let hw hy I hR hSa rfl h0 hst hk rfl hp)⟩
theorem rt_if (hw : gw_S w) (hx : xq_S w qx) (hy : yq_S w qy) (I : gk_I w (false, h, s, x) S (a :: A') V F G N.2.2 sp) (hSa : S a = f :: L) (h0 : h = 0) (hst : f.2.1 = 1) (hk : gw_K w f.1 = 13) : rt_T w qx qy E (false, h, s, x) S a A' V F G N sp (48 * a + L.length) := by
  have fo := xs_fo I hSa
  have md := rt_md I hSa
  have hvv := md.2.2.1 (Or.inl h0)
  have ho : gw_o w f.1 = 3 := by rw [hw.2.2.2.1 _ fo.1, hk]; decide
  have hj : (if gk_tr s x = true then 1 else 2) < gw_o w f.1 := by split <;> omega
  have hsc := (hw.2.2.2.2.2.2.1 f.1 _ fo.1 hj).2.1 (by rw [hk]; intro z; rcases z with z | z; exact absurd z (by decide); exact absurd z.1 (by decide))
  have r := rt_push (j := if gk_tr s x = true then 1 else 2) (st := 3) (c' := f.2.2.1) (ke := 0) (ks := 0) (kn := 0) hw I hSa (Or.inl hst) (gk_Xr V) I.2.2.2.1 (Or.inr (Or.inr rfl)) hj (fun z => absurd z (by decide)) (fun z => absurd z (by decide)) (by rw [hsc]; exact fo.2.1) (by rw [if_pos rfl]; omega) (fun z => absurd z (by decide)) (fun _ => by rw [hk]; decide) (fun z => absurd z (by decide))
  exact ⟨_, _, _, _, _, _, N, r.1, r.2, List.cons_ne_nil _ _, fun u post hR hp => xg_if hw hx I hR hSa rfl h0 hst hk rfl hp, Or.inr (fun v post hR hp => yg_if hw hy I hR hSa rfl h0 hst hk (rt_v5 hvv) rfl hp)⟩
theorem rt_seq (hw : gw_S w) (hx : xq_S w qx) (hy : yq_S w qy) (I : gk_I w (false, h, s, x) S (a :: A') V F G N.2.2 sp) (hSa : S a = f :: L) (h0 : h = 0) (hst : f.2.1 = 1) (hk : gw_K w f.1 = 15) : rt_T w qx qy E (false, h, s, x) S a A' V F G N sp (48 * a + L.length) := by
  have fo := xs_fo I hSa
  have md := rt_md I hSa
  have hvv := md.2.2.1 (Or.inl h0)
  have ho : gw_o w f.1 = 2 := by rw [hw.2.2.2.1 _ fo.1, hk]; decide
  have hsc := (hw.2.2.2.2.2.2.1 f.1 1 fo.1 (by omega)).2.1 (by rw [hk]; intro z; rcases z with z | z; exact absurd z (by decide); exact absurd z.1 (by decide))
  have r := rt_push (j := 1) (st := 3) (c' := f.2.2.1) (ke := 0) (ks := 0) (kn := 0) hw I hSa (Or.inl hst) (gk_Xr V) I.2.2.2.1 (Or.inr (Or.inr rfl)) (by omega) (fun z => absurd z (by decide)) (fun z => absurd z (by decide)) (by rw [hsc]; exact fo.2.1) (by rw [if_pos rfl]; omega) (fun z => absurd z (by decide)) (fun _ => by rw [hk]; decide) (fun z => absurd z (by decide))
  exact ⟨_, _, _, _, _, _, N, r.1, r.2, List.cons_ne_nil _ _, fun u post hR hp => xg_seq hw hx I hR hSa rfl h0 hst hk rfl hp, Or.inr (fun v post hR hp => yg_seq hw hy I hR hSa rfl h0 hst hk rfl hp)⟩
theorem rt_eag (hw : gw_S w) (hx : xq_S w qx) (hy : yq_S w qy) (I : gk_I w (false, h, s, x) S (a :: A') V F G N.2.2 sp) (hSa : S a = f :: L) (h0 : h = 0) (hst : f.2.1 = 1) (hk : gk_eag (gw_K w f.1)) : rt_T w qx qy E (false, h, s, x) S a A' V F G N sp (48 * a + L.length) := by
  have fo := xs_fo I hSa
  have md := rt_md I hSa
  have hvv := md.2.2.1 (Or.inl h0)
  have ho : gw_o w f.1 = 2 := by
    rw [hw.2.2.2.1 _ fo.1]
    rcases hk with z | z | z | z | z | z | z | z <;> (rw [z]; decide)
  have nb : ¬ gw_bd (gw_K w f.1) 1 := by
    rcases hk with z | z | z | z | z | z | z | z <;> (rw [z]; decide)
  have n21 : gw_K w f.1 ≠ 21 := by
    rcases hk with z | z | z | z | z | z | z | z <;> (rw [z]; decide)
  have hsc := (hw.2.2.2.2.2.2.1 f.1 1 fo.1 (by omega)).2.1 nb
  have r := rt_push (j := 1) (st := 2) (c' := f.2.2.1) (ke := h) (ks := s) (kn := x) hw I hSa (Or.inl hst) (gk_Xr V) I.2.2.2.1 (Or.inr (Or.inl rfl)) (by omega) (fun z => absurd z (by decide)) (fun _ => rfl) (by rw [hsc]; exact fo.2.1) (by rw [if_neg (by decide)]; omega) (fun _ => Or.inr (Or.inr hk)) (fun z => absurd z (by decide))
    (fun _ _ => ⟨md.2.1, md.2.2.1, fun z => by have z2 : h = 2 ∨ h = 3 := z; rw [h0] at z2; exact absurd z2 (by decide), md.2.2.2.2, fun _ => h0⟩)
  exact ⟨_, _, _, _, _, _, N, r.1, r.2, List.cons_ne_nil _ _, fun u post hR hp => xg_eag hw hx I hR hSa rfl h0 hst hk rfl hp, Or.inr (fun v post hR hp => yg_eag hw hy I hR hSa rfl h0 hst hk rfl hp)⟩
theorem rt_ret (hw : gw_S w) (hx : xq_S w qx) (hy : yq_S w qy) (I : gk_I w (false, h, s, x) S (a :: A') V F G N.2.2 sp) (hSa : S a = f :: L) (h0 : h = 0) (hst : f.2.1 = 1) (hk : gw_K w f.1 = 18) : rt_T w qx qy E (false, h, s, x) S a A' V F G N sp (48 * a + L.length) := by
  have fo := xs_fo I hSa
  have md := rt_md I hSa
  have hvv := md.2.2.1 (Or.inl h0)
  have r := rt_pop (h' := 4) (s' := s) (x' := x) hw I hSa md.1 fo.2.2.1 (Or.inr (Or.inr (Or.inr (Or.inr (Or.inl rfl))))) (fun _ => hvv) (fun z => absurd z (by decide)) (fun z => absurd z (by decide))
  exact ⟨_, _, _, _, _, _, N, r.1, r.2, List.cons_ne_nil _ _, fun u post hR hp => xg_ret hw hx I hR hSa rfl h0 hst hk hp, Or.inr (fun v post hR hp => yg_ret hw hy I hR hSa rfl h0 hst hk hp)⟩
theorem rt_thr (hw : gw_S w) (hx : xq_S w qx) (hy : yq_S w qy) (I : gk_I w (false, h, s, x) S (a :: A') V F G N.2.2 sp) (hSa : S a = f :: L) (h0 : h = 0) (hst : f.2.1 = 1) (hk : gw_K w f.1 = 19) : rt_T w qx qy E (false, h, s, x) S a A' V F G N sp (48 * a + L.length) := by
  have fo := xs_fo I hSa
  have md := rt_md I hSa
  have hvv := md.2.2.1 (Or.inl h0)
  have r := rt_pop (h' := 1) (s' := s) (x' := x) hw I hSa md.1 fo.2.2.1 (Or.inr (Or.inl rfl)) (fun _ => hvv) (fun z => absurd z (by decide)) (fun z => absurd z (by decide))
  exact ⟨_, _, _, _, _, _, N, r.1, r.2, List.cons_ne_nil _ _, fun u post hR hp => xg_thr hw hx I hR hSa rfl h0 hst hk hp, Or.inr (fun v post hR hp => yg_thr hw hy I hR hSa rfl h0 hst hk hp)⟩
theorem rt_host (hw : gw_S w) (hx : xq_S w qx) (hy : yq_S w qy) (I : gk_I w (false, h, s, x) S (a :: A') V F G N.2.2 sp) (hSa : S a = f :: L) (h0 : h = 0) (hst : f.2.1 = 1) (hk : gw_K w f.1 = 26) : rt_T w qx qy E (false, h, s, x) S a A' V F G N sp (48 * a + L.length) := by
  have fo := xs_fo I hSa
  have md := rt_md I hSa
  have hvv := md.2.2.1 (Or.inl h0)
  have hnc : N.2.2 ≤ 600 := by have := I.2.2.2.2.1; omega
  have e : (gk_nt F N s x).2.2 = N.2.2 + 1 := by unfold gk_nt; split <;> rfl
  have r := rt_pop2 (V' := V) (nc' := (gk_nt F N s x).2.2) (h' := (if s = 1 ∧ x < 0 then 1 else 0)) (s' := s) (x' := x) hw I hSa (Or.inl hst) (gk_Xr V) I.2.2.2.1 rfl (by rw [e]; exact Nat.le_refl _) (by split; exact Or.inr (Or.inl rfl); exact Or.inl rfl) (fun _ => hvv) (by split <;> (intro z; exact absurd z (by decide))) (by split <;> (intro z; exact absurd z (by decide)))
  exact ⟨_, _, _, _, _, _, gk_nt F N s x, r.1, r.2, List.cons_ne_nil _ _, fun u post hR hp => xg_host hw hx I hR hSa rfl h0 hst hk hnc hvv hp, Or.inr (fun v post hR hp => yg_host hw hy I hR hSa rfl h0 hst hk hnc hvv hp)⟩
theorem rt_yield (hw : gw_S w) (hx : xq_S w qx) (hy : yq_S w qy) (I : gk_I w (false, h, s, x) S (a :: A') V F G N.2.2 sp) (hSa : S a = f :: L) (h0 : h = 0) (hst : f.2.1 = 1) (hk : gw_K w f.1 = 22) : rt_T w qx qy E (false, h, s, x) S a A' V F G N sp (48 * a + L.length) := by
  have fo := xs_fo I hSa
  have md := rt_md I hSa
  have hvv := md.2.2.1 (Or.inl h0)
  obtain ⟨g, hag, hg, h2⟩ := rt_yd hw I hSa hk
  rcases (I.2.2.1 g hg).2.1 with hc | hc
  · have r := rt_kk (k := 22) hk (by decide) (by decide)
    obtain ⟨r1, r2, r3⟩ := gk_yld I rfl hSa hst r hg hag hc h0
    exact ⟨_, _, _, _, _, _, N, r2, r3, r1, fun u post hR hp => xg_yw hw hx I hR hSa rfl h0 hst hk hag hg h2 hc hp, Or.inr (fun v post hR hp => yg_yw hw hy I hR hSa rfl h0 hst hk hag hg hc hp)⟩
  · have r := rt_er hw I hSa md.1 fo.2.2.1 (-4 : Int32).toInt64
    exact ⟨_, _, _, _, _, _, N, r.1, r.2, List.cons_ne_nil _ _, fun u post hR hp => xg_yt hw hx I hR hSa rfl h0 hst hk hag hg h2 hc hp, Or.inr (fun v post hR hp => yg_yt hw hy I hR hSa rfl h0 hst hk hag hg hc hp)⟩
theorem rt_done (hw : gw_S w) (hx : xq_S w qx) (hy : yq_S w qy) (I : gk_I w (false, h, s, x) S (a :: A') V F G N.2.2 sp) (hSa : S a = f :: L) (h0 : h = 0) (hst : f.2.1 = 1) (hk : gw_K w f.1 = 24) : rt_T w qx qy E (false, h, s, x) S a A' V F G N sp (48 * a + L.length) := by
  have fo := xs_fo I hSa
  have md := rt_md I hSa
  have hvv := md.2.2.1 (Or.inl h0)
  by_cases hs : s = 4
  · obtain ⟨g, hg, hx4⟩ := rt_v4 hvv hs
    have r := rt_vl (s' := 1) (x' := (if G.1 g = 3 then 1 else 0)) hw I hSa md.1 fo.2.2.1 (Or.inl (Or.inr (Or.inl rfl)))
    exact ⟨_, _, _, _, _, _, N, r.1, r.2, List.cons_ne_nil _ _, fun u post hR hp => xg_done hw hx I hR hSa rfl h0 hst hk hg hs hx4 hp, Or.inr (fun v post hR hp => yg_done hw hy I hR hSa rfl h0 hst hk hg hs hx4 hp)⟩
  · have r := rt_er hw I hSa md.1 fo.2.2.1 (-3 : Int32).toInt64
    exact ⟨_, _, _, _, _, _, N, r.1, r.2, List.cons_ne_nil _ _, fun u post hR hp => xg_done3 hw hx I hR hSa rfl h0 hst hk hs hp, Or.inr (fun v post hR hp => yg_done3 hw hy I hR hSa rfl h0 hst hk hs hp)⟩
theorem rt_close (hw : gw_S w) (hx : xq_S w qx) (hy : yq_S w qy) (I : gk_I w (false, h, s, x) S (a :: A') V F G N.2.2 sp) (hSa : S a = f :: L) (h0 : h = 0) (hst : f.2.1 = 1) (hk : gw_K w f.1 = 25) : rt_T w qx qy E (false, h, s, x) S a A' V F G N sp (48 * a + L.length) := by
  have fo := xs_fo I hSa
  have md := rt_md I hSa
  have hvv := md.2.2.1 (Or.inl h0)
  by_cases hs : s = 4
  · obtain ⟨g, hg, hx4⟩ := rt_v4 hvv hs
    have gn := I.2.2.1 g hg
    have close03 : G.1 g = 0 ∨ G.1 g = 3 → rt_T w qx qy E (false, h, s, x) S a A' V F G N sp (48 * a + L.length) := by
      intro h03
      have I2 := gk_gs I (g := g) (by rcases h03 with z | z <;> (rw [z]; decide))
      have r := rt_vl (s' := 0) (x' := 0) hw I2 hSa md.1 fo.2.2.1 (Or.inl (Or.inl rfl))
      exact ⟨_, _, _, _, _, _, N, r.1, r.2, List.cons_ne_nil _ _, fun u post hR hp => xg_clE hw hx I hR hSa rfl h0 hst hk hg hs hx4 h03 hp, Or.inr (fun v post hR hp => yg_clE hw hy I hR hSa rfl h0 hst hk hg hs hx4 h03 hp)⟩
    rcases gn.1 with z | z | z | z
    · exact close03 (Or.inl z)
    · by_cases hd : A'.length + 1 < 8
      · obtain ⟨hc, y, L', e1, e2, e3, _⟩ := gn.2.2.2.2 z
        have r := gk_ent (M' := (false, 5, 0, 0)) (cl' := upd G.2.1 g 1) I rfl hSa (Or.inl hst) (rt_kk (k := 25) hk (by decide) (by decide)) hd hg (by rw [z]; decide) (fun i hi => pk_un hi) (fun _ => pk_us) (Or.inr pk_us)
          ⟨fun c => (by cases c), fun _ => ⟨by rw [e1]; exact gk_NHc (by rw [e2]; decide) e3, Or.inr (Or.inr (Or.inr (Or.inr (Or.inr rfl)))), fun c => absurd c (by unfold gk_hv; decide), fun c => absurd c (by decide), fun _ => pk_us⟩⟩
        exact ⟨_, _, _, _, _, _, N, r.1, r.2, List.cons_ne_nil _ _, fun u post hR hp => xg_cl hw hx I hR hSa rfl h0 hst hk hg hs hx4 z hd hp, Or.inr (fun v post hR hp => yg_cl hw hy I hR hSa rfl h0 hst hk hg hs hx4 z hd hp)⟩
      · have r := rt_er hw I hSa md.1 fo.2.2.1 (-5 : Int32).toInt64
        exact ⟨_, _, _, _, _, _, N, r.1, r.2, List.cons_ne_nil _ _, fun u post hR hp => xg_clF hw hx I hR hSa rfl h0 hst hk hg hs hx4 z hd hp, Or.inr (fun v post hR hp => yg_clF hw hy I hR hSa rfl h0 hst hk hg hs hx4 z hd hp)⟩
    · have r := rt_er hw I hSa md.1 fo.2.2.1 (-4 : Int32).toInt64
      exact ⟨_, _, _, _, _, _, N, r.1, r.2, List.cons_ne_nil _ _, fun u post hR hp => xg_clW hw hx I hR hSa rfl h0 hst hk hg hs hx4 z hp, Or.inr (fun v post hR hp => yg_clW hw hy I hR hSa rfl h0 hst hk hg hs hx4 z hp)⟩
    · exact close03 (Or.inr z)
  · have r := rt_er hw I hSa md.1 fo.2.2.1 (-3 : Int32).toInt64
    exact ⟨_, _, _, _, _, _, N, r.1, r.2, List.cons_ne_nil _ _, fun u post hR hp => xg_cl3 hw hx I hR hSa rfl h0 hst hk hs hp, Or.inr (fun v post hR hp => yg_cl3 hw hy I hR hSa rfl h0 hst hk hs hp)⟩
end
