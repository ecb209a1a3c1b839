theorem gk_n23 : ¬ ((0 : Int32) = 2 ∨ (0 : Int32) = 3) := by decide
theorem gk_n5 : ¬ (0 : Int32) = 5 := by decide
theorem gk_AOc {gc gc' : Nat} (hg : gc ≤ gc') : ∀ A, gk_AO gc A → gk_AO gc' A := by
  intro A
  induction A with
  | nil => exact fun h => h
  | cons a A ih =>
    intro h
    refine ⟨?_, ih h.2⟩
    rcases h.1 with e | e
    · exact Or.inl e
    · exact Or.inr ⟨e.1, by omega, e.2.2⟩
theorem gk_AOg {gc : Nat} : ∀ A, gk_AO gc A → A.length ≤ 8 → ∀ s, s ∈ A → s < 8 + gc := by
  intro A
  induction A with
  | nil => intro _ _ s hs; cases hs
  | cons a A ih =>
    intro h hl s hs
    have hl2 : A.length + 1 ≤ 8 := hl
    rcases List.mem_cons.mp hs with e | e
    · subst e
      rcases h.1 with e | e <;> omega
    · exact ih h.2 (by omega) s e
section
variable {w : gw_T} {M : gm_T} {S : Nat → List gf_T} {a : Nat} {A' : List Nat} {V : gv_T} {F : gp_T} {G : gg_T} {nc sp : Nat}
theorem gk_mkg (hw : gw_S w) (I : gk_I w M S (a :: A') V F G nc sp) (hb : M.1 = false) {f : gf_T} {L : List gf_T} (hSa : S a = f :: L) (hf : f.2.1 = 2)
    (hgc : G.2.2.2 < 8) {t : Nat} {c s : Int32} {x : Int64} (ht : t < gw_n w) (hkt : gw_K w t = 5) (hg : gw_gn w t = 1)
    (hc : gk_CH V (gw_sc w t) c) (hv : gk_VV F.2.2 G.2.2.2 s x) {e0 s0 : Int32} {n0 : Int64} :
    gk_I w (false, 0, 4, lN G.2.2.2) (gk_su (gk_su S a L) (8 + G.2.2.2) [(t + 1, 0, nI V.2.2.2.2, e0, s0, n0)]) (a :: A') (gk_bd V (nI t) c s x) F (upd G.1 G.2.2.2 0, upd G.2.1 G.2.2.2 0, G.2.2.1, G.2.2.2 + 1) nc sp ∧
    gk_mu (false, 0, 4, lN G.2.2.2) (gk_su (gk_su S a L) (8 + G.2.2.2) [(t + 1, 0, nI V.2.2.2.2, e0, s0, n0)]) (a :: A') sp < gk_mu M S (a :: A') sp := by
  have ha := gk_Ia I
  have hx := gk_bdX V (nI t) c s x
  obtain ⟨i1, i2, i3, i4, i5, i6, i7⟩ := I
  obtain ⟨j1, j2⟩ := i6 a A' rfl
  have hnh := (j2.2 hb).1
  rw [hSa] at hnh
  have hsc := gk_scf hw ht hkt
  have hAg := gk_AOg _ i2.1 i2.2
  have hag := hAg a (List.mem_cons_self ..)
  have e1 := gk_sms gk_yl S a L 16 ha
  have e2 := gk_sms gk_yl (gk_su S a L) (8 + G.2.2.2) [(t + 1, 0, nI V.2.2.2.2, e0, s0, n0)] 16 (by omega)
  have e3 := gk_sms gk_wt S a L 16 ha
  have e4 := gk_sms gk_wt (gk_su S a L) (8 + G.2.2.2) [(t + 1, 0, nI V.2.2.2.2, e0, s0, n0)] 16 (by omega)
  have y2 : gk_yl (S a) = gk_yl L + 1 := by rw [hSa]; exact if_pos (Or.inr hf)
  have y3 : gk_yl [(t + 1, 0, nI V.2.2.2.2, e0, s0, n0)] = 0 := rfl
  have y5 : gk_wt (S a) = gk_wt L + 3 := by
    rw [hSa]
    show gk_wt L + _ = _
    rw [if_pos (Or.inr hf)]
  have y6 : gk_wt [(t + 1, 0, nI V.2.2.2.2, e0, s0, n0)] = 0 := rfl
  refine ⟨⟨?_, ⟨gk_AOc (Nat.le_succ _) _ i2.1, i2.2⟩, ?_, gk_bdV i4 (Nat.le_succ _) hv, ⟨?_, i5.2.1, by show G.2.2.2 + 1 ≤ 8; omega⟩, ?_, (fun z => nomatch z)⟩, ?_⟩
  · intro s h16 hl
    by_cases z : s = 8 + G.2.2.2
    · subst z
      rw [gk_sus]
      refine ⟨t + 1, Or.inr ⟨t, ht, hkt, rfl, fun z => by omega, fun _ => hg⟩, gk_SL1 hsc.1 rfl ?_⟩
      rw [hsc.2]
      exact gk_bdC hc
    · rw [gk_sun z]
      have hl2 : gk_lv (a :: A') G.2.2.2 s := by
        rcases hl with h | h
        · exact Or.inl h
        · have h2 : s < 8 + (G.2.2.2 + 1) := h.2
          exact Or.inr ⟨h.1, by omega⟩
      obtain ⟨r, hr, hs⟩ := i1 s h16 hl2
      refine ⟨r, hr, ?_⟩
      have hcl : gk_cl G s → gk_cl (upd G.1 G.2.2.2 0, upd G.2.1 G.2.2.2 0, G.2.2.1, G.2.2.2 + 1) s := by
        intro q
        refine ⟨q.1, ?_⟩
        show upd G.2.1 G.2.2.2 0 (s - 8) = 1
        rw [pk_un (by have := q.1; omega)]
        exact q.2
      by_cases z2 : s = a
      · subst z2
        rw [gk_sus]
        rw [hSa] at hs
        exact gk_SLm hx (Nat.le_refl _) (Nat.le_succ _) hcl (gk_SLt hs)
      · rw [gk_sun z2]
        exact gk_SLm hx (Nat.le_refl _) (Nat.le_succ _) hcl hs
  · intro g hg
    have hg2 : g < G.2.2.2 + 1 := hg
    by_cases z : g = G.2.2.2
    · subst z
      have u1 : upd G.1 G.2.2.2 0 G.2.2.2 = 0 := pk_us
      have u2 : upd G.2.1 G.2.2.2 0 G.2.2.2 = 0 := pk_us
      refine ⟨Or.inl u1, Or.inl u2, ⟨fun z => ?_, fun z => ?_⟩, fun _ => ⟨u2, _, gk_sus, rfl⟩, fun z => ?_⟩
      · have z2 : upd G.1 G.2.2.2 0 G.2.2.2 = 2 := z
        rw [u1] at z2
        exact absurd z2 (by decide)
      · have := hAg _ z
        omega
      · have z2 : upd G.1 G.2.2.2 0 G.2.2.2 = 1 := z
        rw [u1] at z2
        exact absurd z2 (by decide)
    · obtain ⟨g1, g2, g3, g4, g5⟩ := i3 g (by omega)
      have hne : G.1 g ≠ 2 → 8 + g ≠ a := by
        intro z e
        exact z (g3.mpr (by rw [e]; exact List.mem_cons_self ..))
      have u1 : upd G.1 G.2.2.2 0 g = G.1 g := pk_un z
      have u2 : upd G.2.1 G.2.2.2 0 g = G.2.1 g := pk_un z
      unfold gk_GN
      simp only [u1, u2]
      refine ⟨g1, g2, g3, ?_, ?_⟩
      · intro z
        rw [gk_sun (by omega), gk_sun (hne (by rw [z]; decide))]
        exact g4 z
      · intro z
        rw [gk_sun (by omega), gk_sun (hne (by rw [z]; decide))]
        exact g5 z
  · show V.2.2.2.2 + 1 + F.2.2 + nc + _ ≤ sp
    omega
  · intro b B e
    cases e
    refine ⟨?_, ?_⟩
    · intro s hs
      have h1 := hAg s (List.mem_cons_of_mem _ hs)
      have h2 : s ≠ a := fun e => gk_AOn i2.1 i2.2 (e ▸ hs)
      rw [gk_sun (by omega), gk_sun h2]
      exact j1 s hs
    · rw [gk_sun (by omega), gk_sus]
      exact ⟨fun z => (by cases z), fun _ => ⟨gk_NHt hnh, Or.inl rfl, fun _ => Or.inr (Or.inr ⟨rfl, _, Nat.lt_succ_self _, rfl⟩), fun z => absurd z gk_n23, fun z => absurd z gk_n5⟩⟩
  · show 4 * (600 - sp) + _ + (A'.length + 1) + (if false = true then 0 else 1) < 4 * (600 - sp) + _ + (A'.length + 1) + (if M.1 = true then 0 else 1)
    rw [if_neg (by decide), if_neg (by rw [hb]; decide)]
    omega
theorem gk_ent (I : gk_I w M S (a :: A') V F G nc sp) (hb : M.1 = false) {f : gf_T} {L : List gf_T} (hSa : S a = f :: L) (hf : f.2.1 = 1 ∨ f.2.1 = 2)
    (hk : gw_K w f.1 ≠ 14 ∧ gw_K w f.1 ≠ 21) (hd : A'.length + 1 < 8) {g : Nat} (hg : g < G.2.2.2) (hst : G.1 g ≠ 2) {cl' : Nat → Int32}
    (hcl : ∀ i, i ≠ g → cl' i = G.2.1 i) (hcg : G.2.1 g = 1 → cl' g = 1) (h01 : cl' g = 0 ∨ cl' g = 1) {M' : gm_T}
    (hM : gk_MD w F.2.2 G.2.2.2 (cl' g = 1) M' (S (8 + g))) :
    gk_I w M' (gk_su S a ((f.1, 3, f.2.2) :: L)) ((8 + g) :: a :: A') V F (upd G.1 g 2, cl', G.2.2.1, G.2.2.2) nc sp ∧
    gk_mu M' (gk_su S a ((f.1, 3, f.2.2) :: L)) ((8 + g) :: a :: A') sp < gk_mu M S (a :: A') sp := by
  have ha := gk_Ia I
  obtain ⟨i1, i2, i3, i4, i5, i6, i7⟩ := I
  obtain ⟨j1, j2⟩ := i6 a A' rfl
  have hnh := (j2.2 hb).1
  rw [hSa] at hnh
  have hf0 : f.2.1 ≠ 0 := by omega
  have hgA : ¬ 8 + g ∈ a :: A' := fun z => hst ((i3 g hg).2.2.1.mpr z)
  have hga : 8 + g ≠ a := fun z => hgA (by rw [z]; exact List.mem_cons_self ..)
  have e1 := gk_sms gk_yl S a ((f.1, 3, f.2.2) :: L) 16 ha
  have e3 := gk_sms gk_wt S a ((f.1, 3, f.2.2) :: L) 16 ha
  have y1 : gk_yl ((f.1, 3, f.2.2) :: L) = gk_yl L := rfl
  have y2 : gk_yl (S a) = gk_yl L + 1 := by rw [hSa]; exact if_pos hf
  have y4 : gk_wt ((f.1, 3, f.2.2) :: L) = gk_wt L + 1 := rfl
  have y5 : gk_wt (S a) = gk_wt L + 3 := by
    rw [hSa]
    show gk_wt L + _ = _
    rw [if_pos hf]
  have hcls : ∀ s, gk_cl G s → gk_cl (upd G.1 g 2, cl', G.2.2.1, G.2.2.2) s := by
    intro s q
    refine ⟨q.1, ?_⟩
    show cl' (s - 8) = 1
    by_cases z : s - 8 = g
    · rw [z]
      exact hcg (by rw [← z]; exact q.2)
    · rw [hcl _ z]
      exact q.2
  refine ⟨⟨?_, ⟨⟨Or.inr ⟨by omega, by show 8 + g < 8 + G.2.2.2; omega, hgA, (fun z => nomatch z)⟩, i2.1⟩, by show A'.length + 1 + 1 ≤ 8; omega⟩, ?_, i4, ⟨?_, i5.2.1, i5.2.2⟩, ?_, (fun z => nomatch z)⟩, ?_⟩
  · intro s h16 hl
    have hl2 : gk_lv (a :: A') G.2.2.2 s := by
      rcases hl with h | h
      · rcases List.mem_cons.mp h with h | h
        · exact Or.inr (by omega)
        · exact Or.inl h
      · exact Or.inr h
    obtain ⟨r, hr, hs⟩ := i1 s h16 hl2
    refine ⟨r, hr, ?_⟩
    by_cases z2 : s = a
    · subst z2
      rw [gk_sus]
      rw [hSa] at hs
      exact gk_SL3 (gk_Xr V) (Nat.le_refl _) (Nat.le_refl _) (hcls _) hs hf0 hk
    · rw [gk_sun z2]
      exact gk_SLm (gk_Xr V) (Nat.le_refl _) (Nat.le_refl _) (hcls _) hs
  · intro i hi
    by_cases z : i = g
    · subst z
      have u1 : upd G.1 i 2 i = 2 := pk_us
      unfold gk_GN
      simp only [u1]
      refine ⟨Or.inr (Or.inr (Or.inl (by trivial))), h01, ⟨fun _ => List.mem_cons_self .., fun _ => by trivial⟩, fun z => absurd z (by decide), fun z => absurd z (by decide)⟩
    · obtain ⟨g1, g2, g3, g4, g5⟩ := i3 i hi
      have hne : G.1 i ≠ 2 → 8 + i ≠ a := by
        intro z e
        exact z (g3.mpr (by rw [e]; exact List.mem_cons_self ..))
      have u1 : upd G.1 g 2 i = G.1 i := pk_un z
      have u2 : cl' i = G.2.1 i := hcl i z
      unfold gk_GN
      simp only [u1, u2]
      refine ⟨g1, g2, ⟨fun z => List.mem_cons_of_mem _ (g3.mp z), fun y => ?_⟩, ?_, ?_⟩
      · rcases List.mem_cons.mp y with y | y
        · omega
        · exact g3.mpr y
      · intro z
        rw [gk_sun (hne (by rw [z]; decide))]
        exact g4 z
      · intro z
        rw [gk_sun (hne (by rw [z]; decide))]
        exact g5 z
  · show V.2.2.2.2 + F.2.2 + nc + _ ≤ sp
    omega
  · intro b B e
    cases e
    refine ⟨?_, ?_⟩
    · intro s hs
      rcases List.mem_cons.mp hs with z | z
      · subst z
        rw [gk_sus]
        exact gk_NHc (by show (3 : Nat) ≠ 0; decide) (gk_NHt hnh)
      · have : s ≠ a := fun e => gk_AOn i2.1 i2.2 (e ▸ z)
        rw [gk_sun this]
        exact j1 s z
    · rw [gk_sun hga]
      have hq : cl' g = 1 → gk_cl (upd G.1 g 2, cl', G.2.2.1, G.2.2.2) (8 + g) := by
        intro q
        refine ⟨by omega, ?_⟩
        show cl' (8 + g - 8) = 1
        rw [Nat.add_sub_cancel_left]
        exact q
      exact ⟨hM.1, fun z => ⟨(hM.2 z).1, (hM.2 z).2.1, (hM.2 z).2.2.1, (hM.2 z).2.2.2.1, fun y => hq ((hM.2 z).2.2.2.2 y)⟩⟩
  · show 4 * (600 - sp) + _ + (A'.length + 1 + 1) + (if M'.1 = true then 0 else 1) < 4 * (600 - sp) + _ + (A'.length + 1) + (if M.1 = true then 0 else 1)
    rw [if_neg (show ¬ M.1 = true by rw [hb]; decide)]
    split <;> omega
theorem gk_yld (I : gk_I w M S (a :: A') V F G nc sp) (hb : M.1 = false) {f : gf_T} {L : List gf_T} (hSa : S a = f :: L) (hf : f.2.1 = 1)
    (hk : gw_K w f.1 ≠ 14 ∧ gw_K w f.1 ≠ 21) {g : Nat} (hg : g < G.2.2.2) (hag : a = 8 + g) (hcl : G.2.1 g = 0) (hh : M.2.1 = 0) :
    A' ≠ [] ∧ gk_I w M (gk_su S a ((f.1, 3, f.2.2) :: L)) A' V F (upd G.1 g 1, G.2.1, upd G.2.2.1 g (nI f.1), G.2.2.2) nc sp ∧
    gk_mu M (gk_su S a ((f.1, 3, f.2.2) :: L)) A' sp < gk_mu M S (a :: A') sp := by
  have ha := gk_Ia I
  obtain ⟨i1, i2, i3, i4, i5, i6, i7⟩ := I
  obtain ⟨j1, j2⟩ := i6 a A' rfl
  obtain ⟨m1, m2, m3, m4, m5⟩ := j2.2 hb
  rw [hSa] at m1
  have hl8 : A'.length + 1 ≤ 8 := i2.2
  have hA' : A' ≠ [] := by
    rcases i2.1.1 with e | e
    · omega
    · exact e.2.2.2
  have hnA := gk_AOn i2.1 i2.2
  have hf0 : f.2.1 ≠ 0 := by omega
  have e1 := gk_sms gk_yl S a ((f.1, 3, f.2.2) :: L) 16 ha
  have e3 := gk_sms gk_wt S a ((f.1, 3, f.2.2) :: L) 16 ha
  have y1 : gk_yl ((f.1, 3, f.2.2) :: L) = gk_yl L := rfl
  have y2 : gk_yl (S a) = gk_yl L + 1 := by rw [hSa]; exact if_pos (Or.inl hf)
  have y4 : gk_wt ((f.1, 3, f.2.2) :: L) = gk_wt L + 1 := rfl
  have y5 : gk_wt (S a) = gk_wt L + 3 := by
    rw [hSa]
    show gk_wt L + _ = _
    rw [if_pos (Or.inl hf)]
  refine ⟨hA', ⟨?_, ⟨i2.1.2, by omega⟩, ?_, i4, ⟨?_, i5.2.1, i5.2.2⟩, ?_, fun z => absurd z hA'⟩, ?_⟩
  · intro s h16 hl
    have hl2 : gk_lv (a :: A') G.2.2.2 s := by
      rcases hl with h | h
      · exact Or.inl (List.mem_cons_of_mem _ h)
      · exact Or.inr h
    obtain ⟨r, hr, hs⟩ := i1 s h16 hl2
    refine ⟨r, hr, ?_⟩
    by_cases z2 : s = a
    · subst z2
      rw [gk_sus]
      rw [hSa] at hs
      exact gk_SL3 (gk_Xr V) (Nat.le_refl _) (Nat.le_refl _) id hs hf0 hk
    · rw [gk_sun z2]
      exact gk_SLm (gk_Xr V) (Nat.le_refl _) (Nat.le_refl _) id hs
  · intro i hi
    by_cases z : i = g
    · subst z
      have u1 : upd G.1 i 1 i = 1 := pk_us
      have u2 : upd G.2.2.1 i (nI f.1) i = nI f.1 := pk_us
      unfold gk_GN
      simp only [u1, u2]
      refine ⟨Or.inr (Or.inl (by trivial)), Or.inl hcl, ⟨fun z => absurd z (by decide), fun z => absurd z (by rw [← hag]; exact hnA)⟩, fun z => absurd z (by decide), fun _ => ⟨hcl, (f.1, 3, f.2.2), L, ?_, by trivial, gk_NHt m1, by trivial⟩⟩
      rw [← hag, gk_sus]
    · obtain ⟨g1, g2, g3, g4, g5⟩ := i3 i hi
      have hne : 8 + i ≠ a := by omega
      have u1 : upd G.1 g 1 i = G.1 i := pk_un z
      have u2 : upd G.2.2.1 g (nI f.1) i = G.2.2.1 i := pk_un z
      unfold gk_GN
      simp only [u1, u2]
      refine ⟨g1, g2, ⟨fun z => ?_, fun y => g3.mpr (List.mem_cons_of_mem _ y)⟩, ?_, ?_⟩
      · rcases List.mem_cons.mp (g3.mp z) with y | y
        · exact absurd y hne
        · exact y
      · intro z
        rw [gk_sun hne]
        exact g4 z
      · intro z
        rw [gk_sun hne]
        exact g5 z
  · show V.2.2.2.2 + F.2.2 + nc + _ ≤ sp
    omega
  · intro b B e
    subst e
    have hsa : ∀ s, s ∈ b :: B → s ≠ a := fun s hs e => hnA (e ▸ hs)
    refine ⟨?_, ?_⟩
    · intro s hs
      rw [gk_sun (hsa s (List.mem_cons_of_mem _ hs))]
      exact j1 s (List.mem_cons_of_mem _ hs)
    · rw [gk_sun (hsa b (List.mem_cons_self ..))]
      refine ⟨fun z => absurd z (by rw [hb]; decide), fun _ => ⟨j1 b (List.mem_cons_self ..), m2, m3, ?_, ?_⟩⟩
      · intro z
        rw [hh] at z
        exact absurd z (by decide)
      · intro z
        rw [hh] at z
        exact absurd z (by decide)
  · show 4 * (600 - sp) + _ + A'.length + (if M.1 = true then 0 else 1) < 4 * (600 - sp) + _ + (A'.length + 1) + (if M.1 = true then 0 else 1)
    omega
theorem gk_end (I : gk_I w M S (a :: A') V F G nc sp) (hb : M.1 = false) {st' : Nat → Int32} (h1 : ∀ i, 8 + i ≠ a → st' i = G.1 i) (h2 : ∀ i, 8 + i = a → st' i = 3)
    {h' s' : Int32} {x' : Int64} (hh : h' = 0 ∨ h' = 1) (hv : gk_VV F.2.2 G.2.2.2 s' x') :
    gk_I w (false, h', s', x') S A' V F (st', G.2.1, G.2.2.1, G.2.2.2) nc sp ∧ gk_mu (false, h', s', x') S A' sp < gk_mu M S (a :: A') sp := by
  obtain ⟨i1, i2, i3, i4, i5, i6, i7⟩ := I
  obtain ⟨j1, j2⟩ := i6 a A' rfl
  have hl8 : A'.length + 1 ≤ 8 := i2.2
  have hnA := gk_AOn i2.1 i2.2
  refine ⟨⟨?_, ⟨i2.1.2, by omega⟩, ?_, i4, i5, ?_, fun _ => ⟨rfl, hh, hv⟩⟩, ?_⟩
  · intro s h16 hl
    have hl2 : gk_lv (a :: A') G.2.2.2 s := by
      rcases hl with h | h
      · exact Or.inl (List.mem_cons_of_mem _ h)
      · exact Or.inr h
    exact i1 s h16 hl2
  · intro i hi
    by_cases z : 8 + i = a
    · have u1 := h2 i z
      unfold gk_GN
      simp only [u1]
      obtain ⟨g1, g2, g3, g4, g5⟩ := i3 i hi
      exact ⟨Or.inr (Or.inr (Or.inr (by trivial))), g2, ⟨fun z => absurd z (by decide), fun y => absurd y (by rw [z]; exact hnA)⟩, fun z => absurd z (by decide), fun z => absurd z (by decide)⟩
    · obtain ⟨g1, g2, g3, g4, g5⟩ := i3 i hi
      have u1 := h1 i z
      unfold gk_GN
      simp only [u1]
      refine ⟨g1, g2, ⟨fun y => ?_, fun y => g3.mpr (List.mem_cons_of_mem _ y)⟩, g4, g5⟩
      rcases List.mem_cons.mp (g3.mp y) with y | y
      · exact absurd y z
      · exact y
  · intro b B e
    subst e
    refine ⟨fun s hs => j1 s (List.mem_cons_of_mem _ hs), fun z => (by cases z), fun _ => ⟨j1 b (List.mem_cons_self ..), ?_, fun _ => hv, ?_, ?_⟩⟩
    · rcases hh with e | e
      · exact Or.inl e
      · exact Or.inr (Or.inl e)
    · intro z
      have z2 : h' = 2 ∨ h' = 3 := z
      rcases hh with e | e <;> (rw [e] at z2; exact absurd z2 (by decide))
    · intro z
      have z2 : h' = 5 := z
      rcases hh with e | e <;> (rw [e] at z2; exact absurd z2 (by decide))
  · show 4 * (600 - sp) + _ + A'.length + (if false = true then 0 else 1) < 4 * (600 - sp) + _ + (A'.length + 1) + (if M.1 = true then 0 else 1)
    rw [if_neg (by decide), if_neg (show ¬ M.1 = true by rw [hb]; decide)]
    omega
theorem gk_gs {A : List Nat} (I : gk_I w M S A V F G nc sp) {g : Nat} (hst : G.1 g ≠ 2) : gk_I w M S A V F (upd G.1 g 3, G.2.1, G.2.2.1, G.2.2.2) nc sp := by
  obtain ⟨i1, i2, i3, i4, i5, i6, i7⟩ := I
  refine ⟨i1, i2, ?_, i4, i5, i6, i7⟩
  intro i hi
  obtain ⟨g1, g2, g3, g4, g5⟩ := i3 i hi
  by_cases z : i = g
  · subst z
    have u1 : upd G.1 i 3 i = 3 := pk_us
    unfold gk_GN
    simp only [u1]
    exact ⟨Or.inr (Or.inr (Or.inr (by trivial))), g2, ⟨fun z => absurd z (by decide), fun y => absurd (g3.mpr y) hst⟩, fun z => absurd z (by decide), fun z => absurd z (by decide)⟩
  · have u1 : upd G.1 g 3 i = G.1 i := pk_un z
    unfold gk_GN
    simp only [u1]
    exact ⟨g1, g2, g3, g4, g5⟩
end
