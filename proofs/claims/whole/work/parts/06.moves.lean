def gk_bd (V : gv_T) (b c s : Int32) (x : Int64) : gv_T := (upd V.1 V.2.2.2.2 b, upd V.2.1 V.2.2.2.2 c, upd V.2.2.1 V.2.2.2.2 s, vp_updL V.2.2.2.1 V.2.2.2.2 x, V.2.2.2.2 + 1)
theorem gk_bdX (V : gv_T) (b c s : Int32) (x : Int64) : gk_X V (gk_bd V b c s x) :=
  ⟨Nat.le_succ _, fun i hi => ⟨pk_un (by omega), pk_un (by omega)⟩⟩
theorem gk_bdC {V : gv_T} {b : Nat} {l : List Nat} {c s : Int32} {x : Int64} (h : gk_CH V l c) : gk_CH (gk_bd V (nI b) c s x) (b :: l) (nI V.2.2.2.2) := by
  refine ⟨V.2.2.2.2, Nat.lt_succ_self _, rfl, pk_us, ?_⟩
  have e : (gk_bd V (nI b) c s x).2.1 V.2.2.2.2 = c := pk_us
  rw [e]
  exact gk_CHm (gk_bdX V (nI b) c s x) _ _ h
theorem gk_VFm {w : gw_T} {V V' : gv_T} {F : gp_T} {gc gc' : Nat} (hX : gk_X V V') (h : gk_VF w V F gc) (hg : gc ≤ gc')
    (hv : ∀ i, i < V'.2.2.2.2 → gk_VV F.2.2 gc' (V'.2.2.1 i) (V'.2.2.2.1 i)) : gk_VF w V' F gc' := by
  refine ⟨hv, ?_⟩
  intro i hi
  obtain ⟨t, h1, h2, h3, h4⟩ := h.2 i hi
  exact ⟨t, h1, h2, h3, gk_CHm hX _ _ h4⟩
theorem gk_bdV {w : gw_T} {V : gv_T} {F : gp_T} {gc gc' : Nat} {b c s : Int32} {x : Int64} (h : gk_VF w V F gc) (hg : gc ≤ gc') (hv : gk_VV F.2.2 gc s x) : gk_VF w (gk_bd V b c s x) F gc' := by
  refine gk_VFm (gk_bdX V b c s x) h hg ?_
  intro i hi
  have hi2 : i < V.2.2.2.2 + 1 := hi
  by_cases z : i = V.2.2.2.2
  · subst z
    have e1 : (gk_bd V b c s x).2.2.1 V.2.2.2.2 = s := pk_us
    have e2 : (gk_bd V b c s x).2.2.2.1 V.2.2.2.2 = x := pk_uLs
    rw [e1, e2]
    exact gk_VVm (Nat.le_refl _) hg hv
  · have e1 : (gk_bd V b c s x).2.2.1 i = V.2.2.1 i := pk_un z
    have e2 : (gk_bd V b c s x).2.2.2.1 i = V.2.2.2.1 i := pk_uLn z
    rw [e1, e2]
    exact gk_VVm (Nat.le_refl _) hg (h.1 i (by omega))
theorem gk_NHc {f : gf_T} {L : List gf_T} (h1 : f.2.1 ≠ 0) (h2 : gk_NH L) : gk_NH (f :: L) := by
  intro g hg
  rcases List.mem_cons.mp hg with e | e
  · subst e; exact h1
  · exact h2 g e
theorem gk_NHt {f : gf_T} {L : List gf_T} (h : gk_NH (f :: L)) : gk_NH L := fun g hg => h g (List.mem_cons_of_mem _ hg)
theorem gk_SL3 {w : gw_T} {V V' : gv_T} {fc fc' gc gc' r : Nat} {cl cl' : Prop} {f : gf_T} {L : List gf_T} (hX : gk_X V V') (h1 : fc ≤ fc') (h2 : gc ≤ gc') (hc : cl → cl') (h : gk_SL w V fc gc r cl (f :: L)) (h0 : f.2.1 ≠ 0) (hk : gw_K w f.1 ≠ 14 ∧ gw_K w f.1 ≠ 21) : gk_SL w V' fc' gc' r cl' ((f.1, 3, f.2.2) :: L) := by
  refine ⟨?_, ?_⟩
  · intro g L' e
    cases e
    exact h.1 f L rfl
  · intro g hg
    rcases List.mem_cons.mp hg with e | hg
    · subst e
      have hf := h.2 f (List.mem_cons_self ..)
      exact ⟨hf.1, gk_CHm hX _ _ hf.2.1, Nat.le_refl _, fun _ => hf.2.2.2.1 h0, gk_32, fun _ => hk, gk_32⟩
    · exact gk_FOm hX h1 h2 hc (h.2 g (List.mem_cons_of_mem _ hg))
theorem gk_SL1 {w : gw_T} {V : gv_T} {fc gc r t : Nat} {cl : Prop} {c e0 s0 : Int32} {n0 : Int64} (ht : t < gw_n w) (hr : t = r) (hc : gk_CH V (gw_sc w t) c) : gk_SL w V fc gc r cl [(t, 0, c, e0, s0, n0)] := by
  refine ⟨?_, ?_⟩
  · intro g L' e
    cases e
    exact hr
  · intro g hg
    rcases List.mem_cons.mp hg with e | hg
    · subst e
      exact ⟨ht, hc, Nat.zero_le _, fun z => absurd rfl z, gk_02, gk_03, gk_02⟩
    · cases hg
section
variable {w : gw_T} {M : gm_T} {S : Nat → List gf_T} {a : Nat} {A' : List Nat} {V : gv_T} {F : gp_T} {G : gg_T} {nc sp : Nat}
theorem gk_scf (hw : gw_S w) {t : Nat} (ht : t < gw_n w) (hk : gw_K w t = 5) : t + 1 < gw_n w ∧ gw_sc w (t + 1) = t :: gw_sc w t := by
  have ho : gw_o w t = 1 := by rw [hw.2.2.2.1 t ht, hk]; decide
  have h1 := gw_cl hw ht (show 0 < gw_o w t by omega)
  exact ⟨h1.2, (hw.2.2.2.2.2.2.1 t 0 ht (by omega)).1 (Or.inl hk)⟩
theorem gk_call (hw : gw_S w) (I : gk_I w M S (a :: A') V F G nc sp) (hb : M.1 = false) {f : gf_T} {L : List gf_T} (hSa : S a = f :: L) (hf : f.2.1 = 2)
    (hk : gw_K w f.1 ≠ 14 ∧ gw_K w f.1 ≠ 21) (hd : A'.length + 1 < 8) {t : Nat} {c s : Int32} {x : Int64} (ht : t < gw_n w) (hkt : gw_K w t = 5) (hg : gw_gn w t = 0)
    (hc : gk_CH V (gw_sc w t) c) (hv : gk_VV F.2.2 G.2.2.2 s x) {h2 s2 e0 s0 : Int32} {x2 n0 : Int64} :
    gk_I w (true, h2, s2, x2) (gk_su (gk_su S a ((f.1, 3, f.2.2) :: L)) (A'.length + 1) [(t + 1, 0, nI V.2.2.2.2, e0, s0, n0)]) ((A'.length + 1) :: a :: A') (gk_bd V (nI t) c s x) F G nc sp ∧
    gk_mu (true, h2, s2, x2) (gk_su (gk_su S a ((f.1, 3, f.2.2) :: L)) (A'.length + 1) [(t + 1, 0, nI V.2.2.2.2, e0, s0, n0)]) ((A'.length + 1) :: a :: A') sp < gk_mu M S (a :: A') sp := by
  have ha := gk_Ia I
  have hx := gk_bdX V (nI t) c s x
  obtain ⟨i1, i2, i3, i4, i5, i6, i7⟩ := I
  obtain ⟨j1, j2⟩ := i6 a A' rfl
  have hnh := (j2.2 hb).1
  rw [hSa] at hnh
  have hsc := gk_scf hw ht hkt
  have had : a ≠ A'.length + 1 := by
    rcases gk_AOm _ i2.1 a (List.mem_cons_self ..) with z | z
    · have z2 : a < A'.length + 1 := z
      omega
    · omega
  have hAd : ∀ s, s ∈ a :: A' → s ≠ A'.length + 1 := by
    intro s hs
    rcases gk_AOm _ i2.1 s hs with z | z
    · have z2 : s < A'.length + 1 := z
      omega
    · omega
  have e1 := gk_sms gk_yl S a ((f.1, 3, f.2.2) :: L) 16 ha
  have e2 := gk_sms gk_yl (gk_su S a ((f.1, 3, f.2.2) :: L)) (A'.length + 1) [(t + 1, 0, nI V.2.2.2.2, e0, s0, n0)] 16 (by omega)
  have e3 := gk_sms gk_wt S a ((f.1, 3, f.2.2) :: L) 16 ha
  have e4 := gk_sms gk_wt (gk_su S a ((f.1, 3, f.2.2) :: L)) (A'.length + 1) [(t + 1, 0, nI V.2.2.2.2, e0, s0, n0)] 16 (by omega)
  have y1 : gk_yl ((f.1, 3, f.2.2) :: L) = gk_yl L := rfl
  have y2 : gk_yl (S a) = gk_yl L + 1 := by rw [hSa]; exact if_pos (Or.inr hf)
  have y3 : gk_yl [(t + 1, 0, nI V.2.2.2.2, e0, s0, n0)] = 0 := rfl
  have y4 : gk_wt ((f.1, 3, f.2.2) :: L) = gk_wt L + 1 := rfl
  have y5 : gk_wt (S a) = gk_wt L + 3 := by
    rw [hSa]
    show gk_wt L + _ = _
    rw [if_pos (Or.inr hf)]
  have y6 : gk_wt [(t + 1, 0, nI V.2.2.2.2, e0, s0, n0)] = 0 := rfl
  refine ⟨⟨?_, ⟨⟨Or.inl rfl, i2.1⟩, by show A'.length + 1 + 1 ≤ 8; omega⟩, ?_, gk_bdV i4 (Nat.le_refl _) hv, ⟨?_, i5.2.1, i5.2.2⟩, ?_, (fun z => nomatch z)⟩, ?_⟩
  · intro s h16 hl
    by_cases z : s = A'.length + 1
    · subst z
      rw [gk_sus]
      refine ⟨t + 1, Or.inr ⟨t, ht, hkt, rfl, fun _ => hg, fun z => by omega⟩, gk_SL1 hsc.1 rfl ?_⟩
      rw [hsc.2]
      exact gk_bdC hc
    · rw [gk_sun z]
      have hl2 : gk_lv (a :: A') G.2.2.2 s := by
        rcases hl with h | h
        · rcases List.mem_cons.mp h with h | h
          · exact absurd h z
          · exact Or.inl h
        · exact Or.inr h
      obtain ⟨r, hr, hs⟩ := i1 s h16 hl2
      refine ⟨r, hr, ?_⟩
      by_cases z2 : s = a
      · subst z2
        rw [gk_sus]
        rw [hSa] at hs
        exact gk_SL3 hx (Nat.le_refl _) (Nat.le_refl _) id hs (by omega) hk
      · rw [gk_sun z2]
        exact gk_SLm hx (Nat.le_refl _) (Nat.le_refl _) id hs
  · intro g hg
    obtain ⟨g1, g2, g3, g4, g5⟩ := i3 g hg
    have hne : G.1 g ≠ 2 → 8 + g ≠ a := by
      intro z e
      exact z (g3.mpr (by rw [e]; exact List.mem_cons_self ..))
    refine ⟨g1, g2, ⟨fun z => List.mem_cons_of_mem _ (g3.mp z), fun z => ?_⟩, ?_, ?_⟩
    · rcases List.mem_cons.mp z with z | z
      · omega
      · exact g3.mpr z
    · intro z
      rw [gk_sun (by omega), gk_sun (hne (by rw [z]; decide))]
      exact g4 z
    · intro z
      rw [gk_sun (by omega), gk_sun (hne (by rw [z]; decide))]
      exact g5 z
  · show V.2.2.2.2 + 1 + F.2.2 + nc + _ ≤ sp
    omega
  · intro b B e
    cases e
    refine ⟨?_, ?_⟩
    · intro s hs
      rw [gk_sun (hAd s hs)]
      rcases List.mem_cons.mp hs with z | z
      · subst z
        rw [gk_sus]
        exact gk_NHc (by show (3 : Nat) ≠ 0; decide) (gk_NHt hnh)
      · have : s ≠ a := fun e => gk_AOn i2.1 i2.2 (e ▸ z)
        rw [gk_sun this]
        exact j1 s z
    · rw [gk_sus]
      exact ⟨fun _ => ⟨_, _, rfl, rfl⟩, fun z => (by cases z)⟩
  · show 4 * (600 - sp) + _ + (A'.length + 1 + 1) + (if true = true then 0 else 1) < 4 * (600 - sp) + _ + (A'.length + 1) + (if M.1 = true then 0 else 1)
    rw [if_pos rfl, if_neg (by rw [hb]; decide)]
    omega
end
