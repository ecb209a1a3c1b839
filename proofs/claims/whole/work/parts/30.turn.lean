def rt_T (w : gw_T) (qx : xq_T) (qy : yq_T) (E : ye_T) (M : gm_T) (S : Nat → List gf_T) (a : Nat) (A' : List Nat) (V : gv_T) (F : gp_T) (G : gg_T) (N : gn_T) (sp k : Nat) : Prop :=
  ∃ M' S' A2 V' F' G' N', gk_I w M' S' A2 V' F' G' N'.2.2 sp ∧ gk_mu M' S' A2 sp < gk_mu M S (a :: A') sp ∧ A2 ≠ [] ∧
    (∀ u post, xr_R w qx M S (a :: A') V F G N sp u → (∀ u', xr_R w qx M' S' A2 V' F' G' N' sp u' → post u') → wpX_goOn post u (nI k)) ∧
    ((∀ v, yr_R w qy E M S (a :: A') V F G N sp v → yr_R w qy E M' S' A2 V' F' G' N' sp v) ∨
     (∀ v post, yr_R w qy E M S (a :: A') V F G N sp v → (∀ v', yr_R w qy E M' S' A2 V' F' G' N' sp v' → post v') → wpY_pass post v))
theorem rt_kinds : ∀ k, k < 27 → 0 < gw_op (nI k) → nI k ≠ 5 →
    (nI k = 3 ∨ nI k = 4 ∨ nI k = 13 ∨ nI k = 14 ∨ nI k = 15 ∨ nI k = 18 ∨ nI k = 19 ∨ nI k = 20 ∨ nI k = 21 ∨ nI k = 22 ∨ nI k = 24 ∨ nI k = 25 ∨ nI k = 26 ∨
      nI k = 6 ∨ nI k = 7 ∨ nI k = 8 ∨ nI k = 9 ∨ nI k = 10 ∨ nI k = 11 ∨ nI k = 12 ∨ nI k = 23) := by
  intro k hk h h5
  have c : k = 0 ∨ k = 1 ∨ k = 2 ∨ k = 3 ∨ k = 4 ∨ k = 5 ∨ k = 6 ∨ k = 7 ∨ k = 8 ∨ k = 9 ∨ k = 10 ∨ k = 11 ∨ k = 12 ∨ k = 13 ∨ k = 14 ∨ k = 15 ∨ k = 16 ∨ k = 17 ∨ k = 18 ∨ k = 19 ∨ k = 20 ∨ k = 21 ∨ k = 22 ∨ k = 23 ∨ k = 24 ∨ k = 25 ∨ k = 26 := by omega
  rcases c with rfl | rfl | rfl | rfl | rfl | rfl | rfl | rfl | rfl | rfl | rfl | rfl | rfl | rfl | rfl | rfl | rfl | rfl | rfl | rfl | rfl | rfl | rfl | rfl | rfl | rfl | rfl
  all_goals
    first
    | exact absurd h (by decide)
    | exact absurd rfl h5
    | decide
theorem rt_v5 {fc gc : Nat} {s : Int32} {x : Int64} (h : gk_VV fc gc s x) : s = 0 ∨ s = 1 ∨ s = 2 ∨ s = 3 ∨ s = 4 := by
  rcases h with (h | h | h) | h | h
  · exact Or.inl h
  · exact Or.inr (Or.inl h)
  · exact Or.inr (Or.inr (Or.inl h))
  · exact Or.inr (Or.inr (Or.inr (Or.inl h.1)))
  · exact Or.inr (Or.inr (Or.inr (Or.inr h.1)))
theorem rt_m1 {n : Nat} (hn : n < 2 ^ 31) : (-1 : Int32) ≠ nI n := by
  intro e
  have h := congrArg Int32.toInt e
  rw [nI_toInt hn] at h
  have h2 : (-1 : Int32).toInt = -1 := by decide
  omega
theorem gk_suc {S : Nat → List gf_T} {a b : Nat} {L L' : List gf_T} (h : a ≠ b) : gk_su (gk_su S b L') a L = gk_su (gk_su S a L) b L' := by
  funext s
  by_cases z : s = a
  · subst z
    rw [gk_sus, gk_sun h, gk_sus]
  · by_cases z2 : s = b
    · subst z2
      rw [gk_sus, gk_sun z, gk_sus]
    · rw [gk_sun z, gk_sun z2, gk_sun z2, gk_sun z]
section
variable {w : gw_T} {qx : xq_T} {qy : yq_T} {E : ye_T} {M : gm_T} {S : Nat → List gf_T} {a : Nat} {A' : List Nat} {V : gv_T} {F : gp_T} {G : gg_T} {N : gn_T} {nc sp : Nat} {f : gf_T} {L : List gf_T} {h s : Int32} {x : Int64}
theorem rt_wt (h0 : f.2.1 ≠ 0) (h3 : f.2.1 ≤ 3) : gk_wt L < gk_wt (f :: L) ∧ gk_yl L ≤ gk_yl (f :: L) := by
  constructor
  · show gk_wt L < gk_wt L + (if f.2.1 = 1 ∨ f.2.1 = 2 then 3 else if f.2.1 = 3 then 1 else 0)
    split
    · omega
    · rw [if_pos (by omega)]; omega
  · by_cases z : f.2.1 = 1 ∨ f.2.1 = 2
    · rw [gk_yly z]; omega
    · rw [gk_yln z]; omega
theorem rt_w3 (hst : f.2.1 = 1 ∨ f.2.1 = 2) : gk_wt (f :: L) = gk_wt L + 3 := by
  show gk_wt L + (if f.2.1 = 1 ∨ f.2.1 = 2 then 3 else if f.2.1 = 3 then 1 else 0) = _
  rw [if_pos hst]
theorem rt_pop (hw : gw_S w) (I : gk_I w (false, h, s, x) S (a :: A') V F G nc sp) (hSa : S a = f :: L) (h0 : f.2.1 ≠ 0) (h3 : f.2.1 ≤ 3) {h' s' : Int32} {x' : Int64}
    (hh : gk_HW h') (hv : gk_hv h' → gk_VV F.2.2 G.2.2.2 s' x') (hb : h' = 2 ∨ h' = 3 → gw_il w f.1 = true) (h5 : h' = 5 → gk_cl G a) :
    gk_I w (false, h', s', x') (gk_su S a L) (a :: A') V F G nc sp ∧ gk_mu (false, h', s', x') (gk_su S a L) (a :: A') sp < gk_mu (false, h, s, x) S (a :: A') sp := by
  have hwt := rt_wt (L := L) h0 h3
  exact gk_pop hw I hSa (gk_Xr V) (Nat.le_refl _) I.2.2.2.1 (by omega) I.2.2.2.2.1.2.1 hh hv hb h5 (by rw [if_neg (show ¬ (false, h, s, x).1 = true from Bool.false_ne_true)]; omega)
theorem rt_pop2 (hw : gw_S w) (I : gk_I w (false, h, s, x) S (a :: A') V F G nc sp) (hSa : S a = f :: L) (hst : f.2.1 = 1 ∨ f.2.1 = 2) {V' : gv_T} {nc' : Nat} (hX : gk_X V V') (hVF : gk_VF w V' F G.2.2.2) (hvc : V'.2.2.2.2 = V.2.2.2.2) (hnc : nc' ≤ nc + 1) {h' s' : Int32} {x' : Int64}
    (hh : gk_HW h') (hv : gk_hv h' → gk_VV F.2.2 G.2.2.2 s' x') (hb : h' = 2 ∨ h' = 3 → gw_il w f.1 = true) (h5 : h' = 5 → gk_cl G a) :
    gk_I w (false, h', s', x') (gk_su S a L) (a :: A') V' F G nc' sp ∧ gk_mu (false, h', s', x') (gk_su S a L) (a :: A') sp < gk_mu (false, h, s, x) S (a :: A') sp := by
  have hwt := rt_w3 (L := L) hst
  have hy := gk_yly (L := L) hst
  exact gk_pop hw I hSa hX (Nat.le_refl _) hVF (by omega) I.2.2.2.2.1.2.1 hh hv hb h5 (by rw [if_neg (show ¬ (false, h, s, x).1 = true from Bool.false_ne_true)]; omega)
theorem rt_fo {V' : gv_T} {cl : Prop} {st : Nat} {ke ks : Int32} {kn : Int64} (fo : gk_FO w V F.2.2 G.2.2.2 cl f) (hX : gk_X V V') (hst : st ≤ 3) (h4 : 0 < gw_o w f.1 ∧ gw_K w f.1 ≠ 5)
    (h5 : st = 2 → gw_K w f.1 = 14 ∨ gw_K w f.1 = 21 ∨ gk_eag (gw_K w f.1)) (h6 : st = 3 → gw_K w f.1 ≠ 14 ∧ gw_K w f.1 ≠ 21) (h7 : st = 2 → gw_K w f.1 ≠ 14 → gk_KP w F.2.2 G.2.2.2 cl (f.1, st, f.2.2.1, ke, ks, kn)) :
    gk_FO w V' F.2.2 G.2.2.2 cl (f.1, st, f.2.2.1, ke, ks, kn) :=
  ⟨fo.1, gk_CHm hX _ _ fo.2.1, hst, fun _ => h4, h5, h6, h7⟩
theorem rt_push (hw : gw_S w) (I : gk_I w (false, h, s, x) S (a :: A') V F G nc sp) (hSa : S a = f :: L) (hst : f.2.1 = 1 ∨ f.2.1 = 2) {V' : gv_T} (hX : gk_X V V') (hVF : gk_VF w V' F G.2.2.2)
    {st j : Nat} (hs1 : st = 1 ∨ st = 2 ∨ st = 3) (hj : j < gw_o w f.1) (h1 : st = 1 → j = 0) (h2 : st = 2 → j = 1) {c' ke ks : Int32} {kn : Int64} (hc : gk_CH V' (gw_sc w (gw_c w f.1 j)) c')
    (hvc : V'.2.2.2.2 + (if st = 3 then 0 else 1) ≤ V.2.2.2.2 + 1)
    (h5 : st = 2 → gw_K w f.1 = 14 ∨ gw_K w f.1 = 21 ∨ gk_eag (gw_K w f.1)) (h6 : st = 3 → gw_K w f.1 ≠ 14 ∧ gw_K w f.1 ≠ 21) (h7 : st = 2 → gw_K w f.1 ≠ 14 → gk_KP w F.2.2 G.2.2.2 (gk_cl G a) (f.1, st, f.2.2.1, ke, ks, kn)) :
    gk_I w (true, h, s, x) (gk_su S a ((gw_c w f.1 j, 0, c', 0, 0, 0) :: (f.1, st, f.2.2.1, ke, ks, kn) :: L)) (a :: A') V' F G nc sp ∧
    gk_mu (true, h, s, x) (gk_su S a ((gw_c w f.1 j, 0, c', 0, 0, 0) :: (f.1, st, f.2.2.1, ke, ks, kn) :: L)) (a :: A') sp < gk_mu (false, h, s, x) S (a :: A') sp := by
  have hwt := rt_w3 (L := L) hst
  have hy := gk_yly (L := L) hst
  have fo := xs_fo I hSa
  have h4 := fo.2.2.2.1 (by omega)
  refine gk_push hw I hSa hX (Nat.le_refl _) hVF (by omega) (rt_fo fo hX (by omega) h4 h5 h6 h7) hj h1 h2 hc ?_ I.2.2.2.2.1.2.1 ?_
  · rcases hs1 with z | z | z
    · rw [if_pos (Or.inl z)]
      rw [if_neg (by omega)] at hvc
      omega
    · rw [if_pos (Or.inr z)]
      rw [if_neg (by omega)] at hvc
      omega
    · rw [if_neg (by omega)]
      rw [if_pos z] at hvc
      omega
  · rw [if_neg (show ¬ (false, h, s, x).1 = true from Bool.false_ne_true), hwt]
    split
    · omega
    · split <;> omega
theorem rt_yd (hw : gw_S w) (I : gk_I w M S (a :: A') V F G nc sp) (hSa : S a = f :: L) (hk : gw_K w f.1 = 22) : ∃ g, a = 8 + g ∧ g < G.2.2.2 ∧ G.1 g = 2 := by
  obtain ⟨r, hr, hs⟩ := gk_Is I
  rw [hSa] at hs
  have fo := hs.2 f (List.mem_cons_self ..)
  have ho := gk_PTo hw L f.1 (hs.1 f L rfl) (fun g hg => hs.2 g (List.mem_cons_of_mem _ hg))
  obtain ⟨fy, hfy, e, hg1⟩ := hw.2.2.2.2.2.2.2.2.2.1 f.1 fo.1 hk
  have hn := hw.2.2.1
  have ha8 : 8 ≤ a := by
    rcases hr with ⟨_, rfl⟩ | ⟨f', hf', hk', rfl, h8, _⟩
    · rw [hw.2.2.2.2.2.1.2.2, e] at ho
      exact absurd ho.symm (rt_m1 (by omega))
    · have ho1 : gw_o w f' = 1 := by rw [hw.2.2.2.1 f' hf', hk']; decide
      have h7 := ((hw.2.2.2.2.2.2.1 f' 0 hf' (by omega)).2.2.1 hk').2
      have h7' : gw_ow w (f' + 1) = nI f' := h7
      rw [h7', e] at ho
      rw [nI_eq (by omega) (by omega)] at ho
      subst ho
      by_cases z : a < 8
      · rw [h8 z] at hg1
        exact absurd hg1 (by decide)
      · omega
  have hag := gk_AOg _ I.2.1.1 I.2.1.2 a (List.mem_cons_self ..)
  refine ⟨a - 8, by omega, by omega, ?_⟩
  exact (I.2.2.1 (a - 8) (by omega)).2.2.1.mpr (by rw [show 8 + (a - 8) = a by omega]; exact List.mem_cons_self ..)
end
