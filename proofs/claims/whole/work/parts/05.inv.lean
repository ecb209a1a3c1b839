theorem gk_AOm {gc : Nat} : ∀ A, gk_AO gc A → ∀ s, s ∈ A → s < A.length ∨ 8 ≤ s := by
  intro A
  induction A with
  | nil => intro _ s hs; cases hs
  | cons a A ih =>
    intro h s hs
    rcases List.mem_cons.mp hs with e | e
    · subst e
      rcases h.1 with e | e
      · exact Or.inl (by show s < A.length + 1; omega)
      · exact Or.inr e.1
    · rcases ih h.2 s e with z | z
      · exact Or.inl (by show s < A.length + 1; omega)
      · exact Or.inr z
theorem gk_AOn {gc a : Nat} {A : List Nat} (h : gk_AO gc (a :: A)) (hl : (a :: A).length ≤ 8) : ¬ a ∈ A := by
  intro hm
  have hl2 : A.length + 1 ≤ 8 := hl
  rcases h.1 with e | e
  · rcases gk_AOm A h.2 a hm with z | z <;> omega
  · exact e.2.2.1 hm
theorem gk_AO16 {gc a : Nat} {A : List Nat} (h : gk_AO gc (a :: A)) (hl : (a :: A).length ≤ 8) (hg : gc ≤ 8) : a < 16 := by
  have hl2 : A.length + 1 ≤ 8 := hl
  rcases h.1 with e | e <;> omega
theorem gk_PTn {w : gw_T} {r : Nat} : ∀ L t, gk_PT w r L t → gk_NH L := by
  intro L
  induction L with
  | nil => intro t _ f hf; cases hf
  | cons g L ih =>
    intro t h f hf
    rcases List.mem_cons.mp hf with e | e
    · subst e; exact h.1
    · exact ih _ h.2.2 f e
theorem gk_SLt {w : gw_T} {V : gv_T} {fc gc r : Nat} {cl : Prop} {f : gf_T} {L : List gf_T} (h : gk_SL w V fc gc r cl (f :: L)) : gk_SL w V fc gc r cl L := by
  refine ⟨?_, fun g hg => h.2 g (List.mem_cons_of_mem _ hg)⟩
  intro g L' e
  subst e
  exact (h.1 f _ rfl).2.2
theorem gk_SLl {w : gw_T} (hw : gw_S w) {V : gv_T} {fc gc r : Nat} {cl : Prop} {L : List gf_T} (h : gk_SL w V fc gc r cl L) : L.length ≤ 48 := by
  cases L with
  | nil => exact Nat.zero_le _
  | cons f L =>
    have h1 := gk_PTl hw L f.1 (h.1 f L rfl)
    have h2 := (h.2 f (List.mem_cons_self ..)).1
    have h3 := hw.2.2.1
    show L.length + 1 ≤ 48
    omega
section
variable {w : gw_T} {M : gm_T} {S : Nat → List gf_T} {a : Nat} {A' : List Nat} {V : gv_T} {F : gp_T} {G : gg_T} {nc sp : Nat}
theorem gk_Ia (I : gk_I w M S (a :: A') V F G nc sp) : a < 16 := gk_AO16 I.2.1.1 I.2.1.2 I.2.2.2.2.1.2.2
theorem gk_Is (I : gk_I w M S (a :: A') V F G nc sp) : ∃ r, gk_RT w a r ∧ gk_SL w V F.2.2 G.2.2.2 r (gk_cl G a) (S a) :=
  I.1 a (gk_Ia I) (Or.inl (List.mem_cons_self ..))
theorem gk_top (I : gk_I w M S (a :: A') V F G nc sp) {M' : gm_T} {L2 : List gf_T} {V' : gv_T} {F' : gp_T} {nc' sp' : Nat}
    (hX : gk_X V V') (hF : F.2.2 ≤ F'.2.2) (hVF : gk_VF w V' F' G.2.2.2)
    (hS : ∀ r, gk_RT w a r → gk_SL w V F.2.2 G.2.2.2 r (gk_cl G a) (S a) → gk_SL w V' F'.2.2 G.2.2.2 r (gk_cl G a) L2)
    (hs : V'.2.2.2.2 + F'.2.2 + nc' + gk_yl L2 + sp ≤ V.2.2.2.2 + F.2.2 + nc + gk_yl (S a) + sp') (hsp : sp' ≤ 600)
    (hM : gk_MD w F'.2.2 G.2.2.2 (gk_cl G a) M' L2) : gk_I w M' (gk_su S a L2) (a :: A') V' F' G nc' sp' := by
  have ha := gk_Ia I
  obtain ⟨r, hr, hsl⟩ := gk_Is I
  obtain ⟨i1, i2, i3, i4, i5, i6, i7⟩ := I
  refine ⟨?_, i2, ?_, hVF, ?_, ?_, fun z => nomatch z⟩
  · intro s h16 hl
    by_cases z : s = a
    · subst z
      rw [gk_sus]
      exact ⟨r, hr, hS r hr hsl⟩
    · rw [gk_sun z]
      obtain ⟨r', h1, h2⟩ := i1 s h16 hl
      exact ⟨r', h1, gk_SLm hX hF (Nat.le_refl _) id h2⟩
  · intro g hg
    obtain ⟨g1, g2, g3, g4, g5⟩ := i3 g hg
    have hne : G.1 g ≠ 2 → 8 + g ≠ a := by
      intro z e
      exact z (g3.mpr (by rw [e]; exact List.mem_cons_self ..))
    refine ⟨g1, g2, g3, ?_, ?_⟩
    · intro z
      rw [gk_sun (hne (by rw [z]; decide))]
      exact g4 z
    · intro z
      rw [gk_sun (hne (by rw [z]; decide))]
      exact g5 z
  · have := gk_sms gk_yl S a L2 16 ha
    exact ⟨by omega, hsp, i5.2.2⟩
  · intro b B e
    cases e
    obtain ⟨j1, j2⟩ := i6 a A' rfl
    refine ⟨?_, by rw [gk_sus]; exact hM⟩
    intro s hs
    have : s ≠ a := fun e => gk_AOn i2.1 i2.2 (e ▸ hs)
    rw [gk_sun this]
    exact j1 s hs
theorem gk_mut (ha : a < 16) {M' : gm_T} {L2 : List gf_T} {sp' : Nat} (h : 4 * (600 - sp') + gk_wt L2 + (if M'.1 = true then 0 else 1) < 4 * (600 - sp) + gk_wt (S a) + (if M.1 = true then 0 else 1)) : gk_mu M' (gk_su S a L2) (a :: A') sp' < gk_mu M S (a :: A') sp := by
  have := gk_sms gk_wt S a L2 16 ha
  unfold gk_mu
  omega
theorem gk_pop (hw : gw_S w) (I : gk_I w M S (a :: A') V F G nc sp) {f : gf_T} {L : List gf_T} (hSa : S a = f :: L) {h s : Int32} {x : Int64} {V' : gv_T} {F' : gp_T} {nc' sp' : Nat}
    (hX : gk_X V V') (hF : F.2.2 ≤ F'.2.2) (hVF : gk_VF w V' F' G.2.2.2)
    (hs : V'.2.2.2.2 + F'.2.2 + nc' + gk_yl L + sp ≤ V.2.2.2.2 + F.2.2 + nc + gk_yl (f :: L) + sp') (hsp : sp' ≤ 600)
    (hh : gk_HW h) (hv : gk_hv h → gk_VV F'.2.2 G.2.2.2 s x) (hb : h = 2 ∨ h = 3 → gw_il w f.1 = true) (h5 : h = 5 → gk_cl G a)
    (hm : 4 * (600 - sp') + gk_wt L + 1 < 4 * (600 - sp) + gk_wt (f :: L) + (if M.1 = true then 0 else 1)) :
    gk_I w (false, h, s, x) (gk_su S a L) (a :: A') V' F' G nc' sp' ∧ gk_mu (false, h, s, x) (gk_su S a L) (a :: A') sp' < gk_mu M S (a :: A') sp := by
  have ha := gk_Ia I
  obtain ⟨r, hr, hsl⟩ := gk_Is I
  rw [hSa] at hsl
  constructor
  · refine gk_top I hX hF hVF ?_ (by rw [hSa]; exact hs) hsp ?_
    · intro r' _ hs'
      rw [hSa] at hs'
      exact gk_SLm hX hF (Nat.le_refl _) id (gk_SLt hs')
    · refine ⟨fun z => (by cases z), fun _ => ⟨gk_PTn L _ (hsl.1 f L rfl), hh, hv, ?_, h5⟩⟩
      exact gk_BKp hw hr (hsl.1 f L rfl) (fun g hg => hsl.2 g (List.mem_cons_of_mem _ hg)) hb
  · refine gk_mut ha ?_
    rw [hSa]
    show 4 * (600 - sp') + gk_wt L + (if false = true then 0 else 1) < _
    rw [if_neg (by decide)]
    exact hm
theorem gk_push (hw : gw_S w) (I : gk_I w M S (a :: A') V F G nc sp) {f : gf_T} {L : List gf_T} (hSa : S a = f :: L) {h s : Int32} {x : Int64} {V' : gv_T} {F' : gp_T} {nc' sp' : Nat}
    {st j : Nat} {ke ks c' e0 s0 : Int32} {kn n0 : Int64}
    (hX : gk_X V V') (hF : F.2.2 ≤ F'.2.2) (hVF : gk_VF w V' F' G.2.2.2)
    (hst : st ≠ 0) (hf : gk_FO w V' F'.2.2 G.2.2.2 (gk_cl G a) (f.1, st, f.2.2.1, ke, ks, kn))
    (hj : j < gw_o w f.1) (h1 : st = 1 → j = 0) (h2 : st = 2 → j = 1) (hc : gk_CH V' (gw_sc w (gw_c w f.1 j)) c')
    (hs : V'.2.2.2.2 + F'.2.2 + nc' + (if st = 1 ∨ st = 2 then gk_yl L + 1 else gk_yl L) + sp ≤ V.2.2.2.2 + F.2.2 + nc + gk_yl (f :: L) + sp') (hsp : sp' ≤ 600)
    (hm : 4 * (600 - sp') + (gk_wt L + (if st = 1 ∨ st = 2 then 3 else if st = 3 then 1 else 0)) < 4 * (600 - sp) + gk_wt (f :: L) + (if M.1 = true then 0 else 1)) :
    gk_I w (true, h, s, x) (gk_su S a ((gw_c w f.1 j, 0, c', e0, s0, n0) :: (f.1, st, f.2.2.1, ke, ks, kn) :: L)) (a :: A') V' F' G nc' sp' ∧
    gk_mu (true, h, s, x) (gk_su S a ((gw_c w f.1 j, 0, c', e0, s0, n0) :: (f.1, st, f.2.2.1, ke, ks, kn) :: L)) (a :: A') sp' < gk_mu M S (a :: A') sp := by
  have ha := gk_Ia I
  obtain ⟨r, hr, hsl⟩ := gk_Is I
  rw [hSa] at hsl
  constructor
  · refine gk_top I hX hF hVF ?_ (by rw [hSa]; exact hs) hsp ?_
    · intro r' _ hs'
      rw [hSa] at hs'
      refine ⟨?_, ?_⟩
      · intro g L' e
        cases e
        exact ⟨hst, ⟨j, hj, rfl, h1, h2⟩, hs'.1 f L rfl⟩
      · intro g hg
        rcases List.mem_cons.mp hg with e | hg
        · subst e
          exact ⟨(gw_cl hw hf.1 hj).2, hc, by show (0 : Nat) ≤ 3; omega, fun z => absurd rfl z, gk_02, gk_03, gk_02⟩
        · rcases List.mem_cons.mp hg with e | hg
          · subst e
            exact hf
          · exact gk_FOm hX hF (Nat.le_refl _) id (hs'.2 g (List.mem_cons_of_mem _ hg))
    · exact ⟨fun _ => ⟨_, _, rfl, rfl⟩, fun z => (by cases z)⟩
  · refine gk_mut ha ?_
    rw [hSa]
    show 4 * (600 - sp') + (gk_wt L + (if st = 1 ∨ st = 2 then 3 else if st = 3 then 1 else 0) + 0) + (if true = true then 0 else 1) < _
    rw [if_pos rfl]
    omega
end
