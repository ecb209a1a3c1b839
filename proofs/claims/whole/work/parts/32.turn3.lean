section
variable {w : gw_T} {qx : xq_T} {qy : yq_T} {E : ye_T} {S : Nat → List gf_T} {a : Nat} {A' : List Nat} {V : gv_T} {F : gp_T} {G : gg_T} {N : gn_T} {nc sp : Nat} {f : gf_T} {L : List gf_T} {h s : Int32} {x : Int64}
theorem rt_kp {cl : Prop} (fo : gk_FO w V F.2.2 G.2.2.2 cl f) (hst : f.2.1 = 2) (h14 : gw_K w f.1 ≠ 14) (h21 : gw_K w f.1 ≠ 21) : gk_VV F.2.2 G.2.2.2 f.2.2.2.2.1 f.2.2.2.2.2 := by
  have kp := fo.2.2.2.2.2.2 hst h14
  exact kp.2.1 (Or.inl (kp.2.2.2.2 h21))
theorem rt_app (hw : gw_S w) (hx : xq_S w qx) (hy : yq_S w qy) (I : gk_I w (false, h, s, x) S (a :: A') V F G N.2.2 sp) (hSa : S a = f :: L) (h0 : h = 0) (hst : f.2.1 = 2) (hk : gw_K w f.1 = 6) : rt_T w qx qy E (false, h, s, x) S a A' V F G N sp (48 * a + L.length) := by
  have fo := xs_fo I hSa
  have md := rt_md I hSa
  have hvv := md.2.2.1 (Or.inl h0)
  have kk := rt_kk (k := 6) hk (by decide) (by decide)
  have kv := rt_kp fo hst kk.1 kk.2
  by_cases hs : f.2.2.2.2.1 = 3
  · obtain ⟨i, hi, hxi⟩ : ∃ i, i < F.2.2 ∧ f.2.2.2.2.2 = lN i := by
      rcases kv with z | z | z
      · rw [hs] at z; exact absurd z (by decide)
      · exact z.2
      · rw [hs] at z; exact absurd z.1 (by decide)
    obtain ⟨t, ht, hft, hkt, hch⟩ := I.2.2.2.1.2 i hi
    rcases hw.2.2.2.2.2.2.2.2.2.2.1 t ht with hg | hg
    · by_cases hd : A'.length + 1 < 8
      · have r := gk_call (h2 := h) (s2 := s) (x2 := x) (e0 := 0) (s0 := 0) (n0 := 0) hw I rfl hSa hst kk hd ht hkt hg hch hvv
        exact ⟨_, _, _, _, _, _, N, r.1, r.2, List.cons_ne_nil _ _, fun u post hR hp => xg_ap hw hx I hR hSa rfl h0 hst hk hs hxi hi ht hft hg hd rfl hp, Or.inr (fun v post hR hp => yg_ap hw hy I hR hSa rfl h0 hst hk hs hxi hi ht hft hkt hg hd rfl hp)⟩
      · have r := rt_er hw I hSa md.1 fo.2.2.1 (-5 : Int32).toInt64
        exact ⟨_, _, _, _, _, _, N, r.1, r.2, List.cons_ne_nil _ _, fun u post hR hp => xg_apF hw hx I hR hSa rfl h0 hst hk hs hxi hi ht hft hg hd hp, Or.inr (fun v post hR hp => yg_apF hw hy I hR hSa rfl h0 hst hk hs hxi hi ht hft hg hd hp)⟩
    · by_cases hd : G.2.2.2 < 8
      · have r := gk_mkg (e0 := 0) (s0 := 0) (n0 := 0) hw I rfl hSa hst hd ht hkt hg hch hvv
        have hag := gk_AOg _ I.2.1.1 I.2.1.2 a (List.mem_cons_self ..)
        have e := gk_suc (S := S) (a := a) (b := 8 + G.2.2.2) (L := L) (L' := [(t + 1, 0, nI V.2.2.2.2, 0, 0, 0)]) (by omega)
        exact ⟨_, _, _, _, _, _, N, r.1, r.2, List.cons_ne_nil _ _, fun u post hR hp => xg_apM hw hx I hR hSa rfl h0 hst hk hs hxi hi ht hft hg hd (by rw [e]; exact hp), Or.inr (fun v post hR hp => yg_apM hw hy I hR hSa rfl h0 hst hk hs hxi hi ht hft hkt hg hd hp)⟩
      · have r := rt_er hw I hSa md.1 fo.2.2.1 (-6 : Int32).toInt64
        exact ⟨_, _, _, _, _, _, N, r.1, r.2, List.cons_ne_nil _ _, fun u post hR hp => xg_apG hw hx I hR hSa rfl h0 hst hk hs hxi hi ht hft hg hd hp, Or.inr (fun v post hR hp => yg_apG hw hy I hR hSa rfl h0 hst hk hs hxi hi ht hft hg hd hp)⟩
  · have r := rt_er hw I hSa md.1 fo.2.2.1 (-3 : Int32).toInt64
    exact ⟨_, _, _, _, _, _, N, r.1, r.2, List.cons_ne_nil _ _, fun u post hR hp => xg_ap3 hw hx I hR hSa rfl h0 hst hk hs hp, Or.inr (fun v post hR hp => yg_ap3 hw hy I hR hSa rfl h0 hst hk hs hp)⟩
theorem rt_res (hw : gw_S w) (hx : xq_S w qx) (hy : yq_S w qy) (I : gk_I w (false, h, s, x) S (a :: A') V F G N.2.2 sp) (hSa : S a = f :: L) (h0 : h = 0) (hst : f.2.1 = 2) (hk : gw_K w f.1 = 23) : rt_T w qx qy E (false, h, s, x) S a A' V F G N sp (48 * a + L.length) := by
  have fo := xs_fo I hSa
  have md := rt_md I hSa
  have hvv := md.2.2.1 (Or.inl h0)
  have kk := rt_kk (k := 23) hk (by decide) (by decide)
  have kv := rt_kp fo hst kk.1 kk.2
  by_cases hs : f.2.2.2.2.1 = 4
  · obtain ⟨g, hg, hxg⟩ := rt_v4 kv hs
    have gn := I.2.2.1 g hg
    rcases gn.1 with z | z | z | z
    · by_cases hd : A'.length + 1 < 8
      · obtain ⟨hc, y, e1, e2⟩ := gn.2.2.2.1 z
        have r := gk_ent (M' := (true, h, s, x)) (cl' := G.2.1) I rfl hSa (Or.inr hst) kk hd hg (by rw [z]; decide) (fun _ _ => rfl) (fun c => c) (Or.inl hc)
          ⟨fun _ => ⟨y, [], e1, e2⟩, fun c => (by cases c)⟩
        exact ⟨_, _, _, _, _, _, N, r.1, r.2, List.cons_ne_nil _ _, fun u post hR hp => xg_rs (M' := (true, h, s, x)) hw hx I hR hSa rfl h0 hst hk hs hxg hg (Or.inl z) hc hd rfl hp, Or.inr (fun v post hR hp => yg_rs0 hw hy I hR hSa rfl h0 hst hk hs hxg hg z hd rfl hp)⟩
      · have r := rt_er hw I hSa md.1 fo.2.2.1 (-5 : Int32).toInt64
        exact ⟨_, _, _, _, _, _, N, r.1, r.2, List.cons_ne_nil _ _, fun u post hR hp => xg_rsF hw hx I hR hSa rfl h0 hst hk hs hxg hg (Or.inl z) hd hp, Or.inr (fun v post hR hp => yg_rsF hw hy I hR hSa rfl h0 hst hk hs hxg hg (Or.inl z) hd hp)⟩
    · by_cases hd : A'.length + 1 < 8
      · obtain ⟨hc, y, L', e1, e2, e3, _⟩ := gn.2.2.2.2 z
        have r := gk_ent (M' := (false, h, s, x)) (cl' := G.2.1) I rfl hSa (Or.inr hst) kk hd hg (by rw [z]; decide) (fun _ _ => rfl) (fun c => c) (Or.inl hc)
          ⟨fun c => (by cases c), fun _ => ⟨by rw [e1]; exact gk_NHc (by rw [e2]; decide) e3, md.2.1, md.2.2.1, fun c => absurd c (by show ¬ (h = 2 ∨ h = 3); rw [h0]; decide), fun c => absurd c (by show ¬ (h = 5); rw [h0]; decide)⟩⟩
        exact ⟨_, _, _, _, _, _, N, r.1, r.2, List.cons_ne_nil _ _, fun u post hR hp => xg_rs (M' := (false, h, s, x)) hw hx I hR hSa rfl h0 hst hk hs hxg hg (Or.inr z) hc hd rfl hp, Or.inr (fun v post hR hp => yg_rs1 hw hy I hR hSa rfl h0 hst hk hs hxg hg z hd hp)⟩
      · have r := rt_er hw I hSa md.1 fo.2.2.1 (-5 : Int32).toInt64
        exact ⟨_, _, _, _, _, _, N, r.1, r.2, List.cons_ne_nil _ _, fun u post hR hp => xg_rsF hw hx I hR hSa rfl h0 hst hk hs hxg hg (Or.inr z) hd hp, Or.inr (fun v post hR hp => yg_rsF hw hy I hR hSa rfl h0 hst hk hs hxg hg (Or.inr z) hd hp)⟩
    · have r := rt_er hw I hSa md.1 fo.2.2.1 (-4 : Int32).toInt64
      exact ⟨_, _, _, _, _, _, N, r.1, r.2, List.cons_ne_nil _ _, fun u post hR hp => xg_rsW hw hx I hR hSa rfl h0 hst hk hs hxg hg z hp, Or.inr (fun v post hR hp => yg_rsW hw hy I hR hSa rfl h0 hst hk hs hxg hg z hp)⟩
    · have r := rt_vl (s' := 0) (x' := 0) hw I hSa md.1 fo.2.2.1 (Or.inl (Or.inl rfl))
      exact ⟨_, _, _, _, _, _, N, r.1, r.2, List.cons_ne_nil _ _, fun u post hR hp => xg_rsE hw hx I hR hSa rfl h0 hst hk hs hxg hg z hp, Or.inr (fun v post hR hp => yg_rsE hw hy I hR hSa rfl h0 hst hk hs hxg hg z hp)⟩
  · have r := rt_er hw I hSa md.1 fo.2.2.1 (-3 : Int32).toInt64
    exact ⟨_, _, _, _, _, _, N, r.1, r.2, List.cons_ne_nil _ _, fun u post hR hp => xg_rs3 hw hx I hR hSa rfl h0 hst hk hs hp, Or.inr (fun v post hR hp => yg_rs3 hw hy I hR hSa rfl h0 hst hk hs hp)⟩
theorem rt_same (hw : gw_S w) (hx : xq_S w qx) (hy : yq_S w qy) (I : gk_I w (false, h, s, x) S (a :: A') V F G N.2.2 sp) (hSa : S a = f :: L) (h0 : h = 0) (hst : f.2.1 = 2) (hk : gw_K w f.1 = 12) : rt_T w qx qy E (false, h, s, x) S a A' V F G N sp (48 * a + L.length) := by
  have fo := xs_fo I hSa
  have md := rt_md I hSa
  have hvv := md.2.2.1 (Or.inl h0)
  have r := rt_vl (s' := 1) (x' := gk_same f.2.2.2.2.1 f.2.2.2.2.2 s x) hw I hSa md.1 fo.2.2.1 (Or.inl (Or.inr (Or.inl rfl)))
  exact ⟨_, _, _, _, _, _, N, r.1, r.2, List.cons_ne_nil _ _, fun u post hR hp => xg_same hw hx I hR hSa rfl h0 hst hk hp, Or.inr (fun v post hR hp => yg_same hw hy I hR hSa rfl h0 hst hk hp)⟩
theorem rt_num (hw : gw_S w) (hx : xq_S w qx) (hy : yq_S w qy) (I : gk_I w (false, h, s, x) S (a :: A') V F G N.2.2 sp) (hSa : S a = f :: L) (h0 : h = 0) (hst : f.2.1 = 2) {kd : Int32} (hk : gw_K w f.1 = kd) (hd : kd = 7 ∨ kd = 8 ∨ kd = 9 ∨ kd = 10 ∨ kd = 11) : rt_T w qx qy E (false, h, s, x) S a A' V F G N sp (48 * a + L.length) := by
  have fo := xs_fo I hSa
  have md := rt_md I hSa
  have hvv := md.2.2.1 (Or.inl h0)
  by_cases hn : gk_nu f.2.2.2.2.1 ∧ gk_nu s
  · by_cases h11 : kd = 11
    · have hk := hk.trans h11
      have r := rt_vl (s' := 1) (x' := (if f.2.2.2.2.2 < x then 1 else 0)) hw I hSa md.1 fo.2.2.1 (Or.inl (Or.inr (Or.inl rfl)))
      exact ⟨_, _, _, _, _, _, N, r.1, r.2, List.cons_ne_nil _ _, fun u post hR hp => xg_less hw hx I hR hSa rfl h0 hst hk hn hp, Or.inr (fun v post hR hp => yg_less hw hy I hR hSa rfl h0 hst hk hn hp)⟩
    · have hop : gk_op4 kd := by
        rcases hd with z | z | z | z | z
        · exact Or.inl z
        · exact Or.inr (Or.inl z)
        · exact Or.inr (Or.inr (Or.inl z))
        · exact Or.inr (Or.inr (Or.inr z))
        · exact absurd z h11
      by_cases hz : kd = 10 ∧ x = 0
      · have hk := hk.trans hz.1
        have r := rt_er hw I hSa md.1 fo.2.2.1 (-1 : Int32).toInt64
        exact ⟨_, _, _, _, _, _, N, r.1, r.2, List.cons_ne_nil _ _, fun u post hR hp => xg_div0 hw hx I hR hSa rfl h0 hst hk hn hz.2 hp, Or.inr (fun v post hR hp => yg_div0 hw hy I hR hSa rfl h0 hst hk hn hz.2 hp)⟩
      · have h10 : kd = 10 → x ≠ 0 := fun z y => hz ⟨z, y⟩
        by_cases ho : gk_ov kd f.2.2.2.2.2 x
        · have r := rt_er hw I hSa md.1 fo.2.2.1 (-2 : Int32).toInt64
          exact ⟨_, _, _, _, _, _, N, r.1, r.2, List.cons_ne_nil _ _, fun u post hR hp => xg_calc hw hx I hR hSa rfl h0 hst hk hop h10 hn (fun _ => hp) (fun z => absurd ho z), Or.inr (fun v post hR hp => yg_calc hw hy I hR hSa rfl h0 hst hk hop h10 hn (fun _ => hp) (fun z => absurd ho z))⟩
        · have r := rt_vl (s' := gk_rs f.2.2.2.2.1 s (gk_res kd f.2.2.2.2.2 x)) (x' := gk_res kd f.2.2.2.2.2 x) hw I hSa md.1 fo.2.2.1 (by unfold gk_rs; split; exact Or.inl (Or.inr (Or.inl rfl)); exact Or.inl (Or.inr (Or.inr rfl)))
          exact ⟨_, _, _, _, _, _, N, r.1, r.2, List.cons_ne_nil _ _, fun u post hR hp => xg_calc hw hx I hR hSa rfl h0 hst hk hop h10 hn (fun z => absurd z ho) (fun _ => hp), Or.inr (fun v post hR hp => yg_calc hw hy I hR hSa rfl h0 hst hk hop h10 hn (fun z => absurd z ho) (fun _ => hp))⟩
  · have r := rt_er hw I hSa md.1 fo.2.2.1 (-3 : Int32).toInt64
    exact ⟨_, _, _, _, _, _, N, r.1, r.2, List.cons_ne_nil _ _, fun u post hR hp => xg_ca3 hw hx I hR hSa rfl h0 hst hk hd hn hp, Or.inr (fun v post hR hp => yg_ca3 hw hy I hR hSa rfl h0 hst hk hd hn hp)⟩
theorem rt_go (hw : gw_S w) (hx : xq_S w qx) (hy : yq_S w qy) (I : gk_I w (false, h, s, x) S (a :: A') V F G N.2.2 sp) (hSa : S a = f :: L) : rt_T w qx qy E (false, h, s, x) S a A' V F G N sp (48 * a + L.length) := by
  have fo := xs_fo I hSa
  have md := rt_md I hSa
  have h0 := md.1
  have h3 := fo.2.2.1
  by_cases st3 : f.2.1 = 3
  · exact rt_l3 hw hx hy I hSa st3
  · have hst : f.2.1 = 1 ∨ f.2.1 = 2 := by omega
    have h4 := fo.2.2.2.1 h0
    obtain ⟨k, hk27, hk⟩ := hw.2.2.2.2.1 f.1 fo.1
    have ho := hw.2.2.2.1 f.1 fo.1
    rw [hk] at ho
    have kc := rt_kinds k hk27 (by rw [← ho]; exact h4.1) (by rw [← hk]; exact h4.2)
    rw [← hk] at kc
    by_cases n14 : gw_K w f.1 = 14
    · exact rt_while hw hx hy I hSa n14 hst
    by_cases n21 : gw_K w f.1 = 21
    · exact rt_fin hw hx hy I hSa n21 hst
    have nE : f.2.1 = 2 → gk_eag (gw_K w f.1) := by
      intro z
      rcases fo.2.2.2.2.1 z with c | c | c
      · exact absurd c n14
      · exact absurd c n21
      · exact c
    by_cases n20 : gw_K w f.1 = 20
    · refine rt_try hw hx hy I hSa n20 ?_
      rcases hst with z | z
      · exact z
      · have := nE z
        rw [n20] at this
        exact absurd this (by unfold gk_eag; decide)
    by_cases hh : h = 0
    · rcases hst with hst | hst
      · rcases kc with c | c | c | c | c | c | c | c | c | c | c | c | c | c
        · exact rt_set hw hx hy I hSa hh hst c
        · exact rt_let hw hx hy I hSa hh hst c
        · exact rt_if hw hx hy I hSa hh hst c
        · exact absurd c n14
        · exact rt_seq hw hx hy I hSa hh hst c
        · exact rt_ret hw hx hy I hSa hh hst c
        · exact rt_thr hw hx hy I hSa hh hst c
        · exact absurd c n20
        · exact absurd c n21
        · exact rt_yield hw hx hy I hSa hh hst c
        · exact rt_done hw hx hy I hSa hh hst c
        · exact rt_close hw hx hy I hSa hh hst c
        · exact rt_host hw hx hy I hSa hh hst c
        · exact rt_eag hw hx hy I hSa hh hst c
      · rcases nE hst with c | c | c | c | c | c | c | c
        · exact rt_app hw hx hy I hSa hh hst c
        · exact rt_num hw hx hy I hSa hh hst c (by decide)
        · exact rt_num hw hx hy I hSa hh hst c (by decide)
        · exact rt_num hw hx hy I hSa hh hst c (by decide)
        · exact rt_num hw hx hy I hSa hh hst c (by decide)
        · exact rt_num hw hx hy I hSa hh hst c (by decide)
        · exact rt_same hw hx hy I hSa hh hst c
        · exact rt_res hw hx hy I hSa hh hst c
    · exact rt_nv hw hx hy I hSa n14 n21 n20 hst hh
end
