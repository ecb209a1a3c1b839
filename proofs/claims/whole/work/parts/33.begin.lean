section
variable {w : gw_T} {qx : xq_T} {qy : yq_T} {E : ye_T} {S : Nat → List gf_T} {a : Nat} {A' : List Nat} {V : gv_T} {F : gp_T} {G : gg_T} {N : gn_T} {nc sp : Nat} {f : gf_T} {L : List gf_T} {h s : Int32} {x : Int64}
def rb_T (w : gw_T) (qx : xq_T) (qy : yq_T) (E : ye_T) (M : gm_T) (S : Nat → List gf_T) (a : Nat) (A' : List Nat) (V : gv_T) (F : gp_T) (G : gg_T) (N : gn_T) (sp k : Nat) : Prop :=
  ∃ M' S' F', gk_I w M' S' (a :: A') V F' G N.2.2 (sp + 1) ∧ gk_mu M' S' (a :: A') (sp + 1) < gk_mu M S (a :: A') sp ∧
    (∀ u post, xr_R w qx M S (a :: A') V F G N sp u → (∀ u', xr_R w qx M' S' (a :: A') V F' G N (sp + 1) u' → post u') → wpX_beginToken post u (nI k)) ∧
    (∀ v post, yr_R w qy E M S (a :: A') V F G N (sp + 1) v → (∀ v', yr_R w qy E M' S' (a :: A') V F' G N (sp + 1) v' → post v') → wpY_begin post v)
theorem rb_pop (hw : gw_S w) (I : gk_I w (true, h, s, x) S (a :: A') V F G nc sp) (hsp : sp < 600) (hSa : S a = f :: L) (hst : f.2.1 = 0) {F' : gp_T} (hF : F.2.2 ≤ F'.2.2) (hF2 : F'.2.2 ≤ F.2.2 + 1) (hVF : gk_VF w V F' G.2.2.2) {h' s' : Int32} {x' : Int64}
    (hh : gk_HW h') (hv : gk_hv h' → gk_VV F'.2.2 G.2.2.2 s' x') (hb : h' = 2 ∨ h' = 3 → gw_il w f.1 = true) (h5 : h' ≠ 5) :
    gk_I w (false, h', s', x') (gk_su S a L) (a :: A') V F' G nc (sp + 1) ∧ gk_mu (false, h', s', x') (gk_su S a L) (a :: A') (sp + 1) < gk_mu (true, h, s, x) S (a :: A') sp := by
  have hy := gk_yln (f := f) (L := L) (by omega)
  have hwt : gk_wt (f :: L) = gk_wt L := by
    show gk_wt L + (if f.2.1 = 1 ∨ f.2.1 = 2 then 3 else if f.2.1 = 3 then 1 else 0) = _
    rw [if_neg (by omega), if_neg (by omega)]
    rfl
  exact gk_pop hw I hSa (gk_Xr V) hF hVF (by omega) (by omega) hh hv hb (fun z => absurd z h5) (by rw [if_pos (show (true, h, s, x).1 = true from rfl)]; omega)
theorem rb_val (hw : gw_S w) (I : gk_I w (true, h, s, x) S (a :: A') V F G nc sp) (hsp : sp < 600) (hSa : S a = f :: L) (hst : f.2.1 = 0) {s' : Int32} {x' : Int64} (hv : gk_VV F.2.2 G.2.2.2 s' x') :
    gk_I w (false, 0, s', x') (gk_su S a L) (a :: A') V F G nc (sp + 1) ∧ gk_mu (false, 0, s', x') (gk_su S a L) (a :: A') (sp + 1) < gk_mu (true, h, s, x) S (a :: A') sp :=
  rb_pop hw I hsp hSa hst (Nat.le_refl _) (Nat.le_succ _) I.2.2.2.1 (Or.inl rfl) (fun _ => hv) (fun z => absurd z (by decide)) (by decide)
theorem rb_begin (hw : gw_S w) (hx : xq_S w qx) (hy : yq_S w qy) (I : gk_I w (true, h, s, x) S (a :: A') V F G N.2.2 sp) (hsp : sp < 600) (hSa : S a = f :: L) (hst : f.2.1 = 0) :
    rb_T w qx qy E (true, h, s, x) S a A' V F G N sp (48 * a + L.length) := by
  have fo := xs_fo I hSa
  obtain ⟨k, hk27, hk⟩ := hw.2.2.2.2.1 f.1 fo.1
  have ho := hw.2.2.2.1 f.1 fo.1
  by_cases k5 : gw_K w f.1 = 5
  · have h6 : F.2.2 < 600 := by have := I.2.2.2.2.1; omega
    have hVF : gk_VF w V (upd F.1 F.2.2 (nI f.1), upd F.2.1 F.2.2 f.2.2.1, F.2.2 + 1) G.2.2.2 := by
      refine ⟨fun i hi => gk_VVm (Nat.le_succ _) (Nat.le_refl _) (I.2.2.2.1.1 i hi), ?_⟩
      intro i hi
      have hi2 : i < F.2.2 + 1 := hi
      by_cases z : i = F.2.2
      · subst z
        exact ⟨f.1, fo.1, pk_us, k5, by show gk_CH V _ (upd F.2.1 F.2.2 f.2.2.1 F.2.2); rw [pk_us]; exact fo.2.1⟩
      · obtain ⟨t, t1, t2, t3, t4⟩ := I.2.2.2.1.2 i (by omega)
        exact ⟨t, t1, (pk_un z).trans t2, t3, by show gk_CH V _ (upd F.2.1 F.2.2 f.2.2.1 i); rw [pk_un z]; exact t4⟩
    have r := rb_pop (F' := (upd F.1 F.2.2 (nI f.1), upd F.2.1 F.2.2 f.2.2.1, F.2.2 + 1)) (h' := 0) (s' := 3) (x' := lN F.2.2) hw I hsp hSa hst (Nat.le_succ _) (Nat.le_refl _) hVF (Or.inl rfl) (fun _ => Or.inr (Or.inl ⟨rfl, F.2.2, Nat.lt_succ_self _, rfl⟩)) (fun z => absurd z (by decide)) (by decide)
    exact ⟨_, _, _, r.1, r.2, fun u post hR hp => xb_fn hw hx I hR hSa hst k5 h6 hp, fun v post hR hp => yb_fn hw hy I hR hSa hst rfl k5 h6 hp⟩
  by_cases o0 : 0 < gw_o w f.1
  · have hsc := (hw.2.2.2.2.2.2.1 f.1 0 fo.1 o0).2.1 (by intro z; rcases z with z | z; exact k5 z; exact absurd z.2 (by decide))
    have hwt : gk_wt (f :: L) = gk_wt L := by
      show gk_wt L + (if f.2.1 = 1 ∨ f.2.1 = 2 then 3 else if f.2.1 = 3 then 1 else 0) = _
      rw [if_neg (by omega), if_neg (by omega)]
      rfl
    have hyl := gk_yln (f := f) (L := L) (by omega)
    have h5 := I.2.2.2.2.1
    have r := gk_push (h := h) (s := s) (x := x) (st := 1) (j := 0) (c' := f.2.2.1) (ke := 0) (ks := 0) (kn := 0) (e0 := 0) (s0 := 0) (n0 := 0) (sp' := sp + 1) (nc' := N.2.2) hw I hSa (gk_Xr V) (Nat.le_refl _) I.2.2.2.1 (by decide)
      (rt_fo fo (gk_Xr V) (by decide) ⟨o0, k5⟩ (fun z => absurd z (by decide)) (fun z => absurd z (by decide)) (fun z => absurd z (by decide))) o0 (fun _ => rfl) (fun z => absurd z (by decide)) (by rw [hsc]; exact fo.2.1)
      (by rw [if_pos (Or.inl rfl)]; omega) (by omega) (by rw [if_pos (Or.inl rfl), if_pos (show (true, h, s, x).1 = true from rfl)]; omega)
    exact ⟨_, _, _, r.1, r.2, fun u post hR hp => xb_aw hw hx I hR hSa hst hk27 hk (by rw [← hk]; exact k5) o0 rfl hp, fun v post hR hp => yb_aw hw hy I hR hSa hst rfl hk27 hk (by rw [← hk]; exact k5) o0 rfl hp⟩
  · have kc : gw_K w f.1 = 0 ∨ gw_K w f.1 = 1 ∨ gw_K w f.1 = 2 ∨ gw_K w f.1 = 16 ∨ gw_K w f.1 = 17 := by
      rw [ho] at o0
      unfold gw_op at o0
      split at o0
      · omega
      · split at o0
        · assumption
        · split at o0 <;> omega
    rcases kc with c | c | c | c | c
    · have r := rb_val (s' := 1) (x' := (gw_v w f.1).toInt64) hw I hsp hSa hst (Or.inl (Or.inr (Or.inl rfl)))
      exact ⟨_, _, _, r.1, r.2, fun u post hR hp => xb_num hw hx I hR hSa hst c hp, fun v post hR hp => yb_num hw hy I hR hSa hst rfl c hp⟩
    · have r := rb_val (s' := 0) (x' := 0) hw I hsp hSa hst (Or.inl (Or.inl rfl))
      exact ⟨_, _, _, r.1, r.2, fun u post hR hp => xb_nil hw hx I hR hSa hst c hp, fun v post hR hp => yb_nil hw hy I hR hSa hst rfl c hp⟩
    · obtain ⟨b, hbs, hmn⟩ := hw.2.2.2.2.2.2.2.1 f.1 fo.1 (Or.inl c)
      have hvc := xg_vc I
      have hfi := gk_fil (b := b) (by omega) _ _ fo.2.1 hbs
      have r := rb_val (s' := V.2.2.1 (gk_fi V b (gw_sc w f.1) f.2.2.1)) (x' := V.2.2.2.1 (gk_fi V b (gw_sc w f.1) f.2.2.1)) hw I hsp hSa hst (I.2.2.2.1.1 _ hfi)
      exact ⟨_, _, _, r.1, r.2, fun u post hR hp => xb_var hw hx I hR hSa hst c hbs hmn hp, fun v post hR hp => yb_var hw hy I hR hSa hst rfl c hbs hmn hp⟩
    · have il := hw.2.2.2.2.2.2.2.2.1 f.1 fo.1 (Or.inl c)
      have r := rb_pop (F' := F) (h' := 2) (s' := 0) (x' := 0) hw I hsp hSa hst (Nat.le_refl _) (Nat.le_succ _) I.2.2.2.1 (Or.inr (Or.inr (Or.inl rfl))) (fun z => absurd z (by unfold gk_hv; decide)) (fun _ => il) (by decide)
      exact ⟨_, _, _, r.1, r.2, fun u post hR hp => xb_brk hw hx I hR hSa hst c hp, fun v post hR hp => yb_brk hw hy I hR hSa hst rfl c hp⟩
    · have il := hw.2.2.2.2.2.2.2.2.1 f.1 fo.1 (Or.inr c)
      have r := rb_pop (F' := F) (h' := 3) (s' := 0) (x' := 0) hw I hsp hSa hst (Nat.le_refl _) (Nat.le_succ _) I.2.2.2.1 (Or.inr (Or.inr (Or.inr (Or.inl rfl)))) (fun z => absurd z (by unfold gk_hv; decide)) (fun _ => il) (by decide)
      exact ⟨_, _, _, r.1, r.2, fun u post hR hp => xb_nxt hw hx I hR hSa hst c hp, fun v post hR hp => yb_nxt hw hy I hR hSa hst rfl c hp⟩
def re_T (w : gw_T) (qx : xq_T) (qy : yq_T) (E : ye_T) (M : gm_T) (S : Nat → List gf_T) (a : Nat) (A' : List Nat) (V : gv_T) (F : gp_T) (G : gg_T) (N : gn_T) (sp : Nat) : Prop :=
  ∃ h' s' x' G', gk_I w (false, h', s', x') S A' V F G' N.2.2 sp ∧ gk_mu (false, h', s', x') S A' sp < gk_mu M S (a :: A') sp ∧
    (∀ u post, xr_R w qx M S (a :: A') V F G N sp u → (∀ u', xr_R w qx (false, h', s', x') S A' V F G' N sp u' → post u') → wpX_endActivation post u (nI a)) ∧
    (∀ v post, yr_R w qy E M S (a :: A') V F G N sp v → (A' ≠ [] → ∀ v', yr_R w qy E (false, h', s', x') S A' V F G' N sp v' → post v') →
      (A' = [] → ∀ v', yr_R w qy (ye_E F h' s' x') (false, h', s', x') S A' V F G' N sp v' → post v') → wpY_pass post v)
theorem re_end (hw : gw_S w) (I : gk_I w (false, h, s, x) S (a :: A') V F G N.2.2 sp) (hSa : S a = []) : re_T w qx qy E (false, h, s, x) S a A' V F G N sp := by
  obtain ⟨m1, m2, m3, m4, m5⟩ := (I.2.2.2.2.2.1 a A' rfl).2.2 rfl
  rw [hSa] at m4
  have n23 : ¬ (h = 2 ∨ h = 3) := by
    intro z
    obtain ⟨g, L', e, _⟩ := m4 z
    cases e
  have hv4 : h ≠ 5 → gk_hv h := by
    intro n5
    rcases m2 with z | z | z | z | z | z
    · exact Or.inl z
    · exact Or.inr (Or.inl z)
    · exact absurd (Or.inl z) n23
    · exact absurd (Or.inr z) n23
    · exact Or.inr (Or.inr z)
    · exact absurd z n5
  have h01 : (if h = 1 then (1 : Int32) else 0) = 0 ∨ (if h = 1 then (1 : Int32) else 0) = 1 := by
    split
    · exact Or.inr rfl
    · exact Or.inl rfl
  by_cases ha8 : a < 8
  · have hh := hv4 (fun z => by have := (m5 z).1; omega)
    have hvv := m3 hh
    have r := gk_end (st' := G.1) (h' := if h = 1 then 1 else 0) (s' := s) (x' := x) I rfl (fun _ _ => rfl) (fun i z => by omega) h01 hvv
    exact ⟨_, _, _, G, r.1, r.2, fun u post hR hp => xe_1 I hR rfl ha8 hh hp, fun v post hR hp1 hp0 => ye_1 hw I hR hSa rfl ha8 hh hvv hp1 hp0⟩
  · have hag := gk_AOg _ I.2.1.1 I.2.1.2 a (List.mem_cons_self ..)
    obtain ⟨g, rfl⟩ : ∃ g, a = 8 + g := ⟨a - 8, by omega⟩
    have hg : g < G.2.2.2 := by omega
    have gn := I.2.2.1 g hg
    have g2 := gn.2.2.1.mpr (List.mem_cons_self ..)
    have u1 : ∀ i, 8 + i ≠ 8 + g → upd G.1 g 3 i = G.1 i := fun i z => pk_un (by omega)
    have u2 : ∀ i, 8 + i = 8 + g → upd G.1 g 3 i = 3 := by
      intro i z
      have : i = g := by omega
      subst this
      exact pk_us
    rcases gn.2.1 with c | c
    · have hh := hv4 (fun z => by
        have h1 := (m5 z).2
        rw [Nat.add_sub_cancel_left, c] at h1
        exact absurd h1 (by decide))
      have hvv := m3 hh
      have r := gk_end (st' := upd G.1 g 3) (h' := if h = 1 then 1 else 0) (s' := s) (x' := x) I rfl u1 u2 h01 hvv
      exact ⟨_, _, _, _, r.1, r.2, fun u post hR hp => xe_2 I hR rfl hg rfl g2 c hh hp, fun v post hR hp1 hp0 => ye_2 hw I hR hSa rfl hg rfl c hh hvv hp1 hp0⟩
    · by_cases h1 : h = 1
      · have hvv := m3 (Or.inr (Or.inl h1))
        have r := gk_end (st' := upd G.1 g 3) (h' := 1) (s' := s) (x' := x) I rfl u1 u2 (Or.inr rfl) hvv
        exact ⟨_, _, _, _, r.1, r.2, fun u post hR hp => xe_3 I hR rfl hg rfl g2 c h1 hp, fun v post hR hp1 hp0 => ye_3 hw I hR hSa rfl hg rfl c h1 hvv hp1 hp0⟩
      · have r := gk_end (st' := upd G.1 g 3) (h' := 0) (s' := 0) (x' := 0) I rfl u1 u2 (Or.inl rfl) (Or.inl (Or.inl rfl))
        exact ⟨_, _, _, _, r.1, r.2, fun u post hR hp => xe_4 I hR rfl hg rfl g2 c h1 hp, fun v post hR hp1 hp0 => ye_4 hw I hR hSa rfl hg rfl c h1 hp1 hp0⟩
end
