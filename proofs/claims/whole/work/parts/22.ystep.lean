def yo_B (w : gw_T) (S : Nat → List gf_T) (A' : List Nat) (a : Nat) (f : gf_T) (L : List gf_T) (G : gg_T) (gb gh ro mn wt wo wc wh ws : Nat → Int32) (wv : Nat → Int64) : Prop :=
  a < 16 ∧ A'.length < 8 ∧ (∀ s, s < 16 → gk_lv (a :: A') G.2.2.2 s → (S s).length ≤ 48) ∧ S a = f :: L ∧ xr_A ro yr_row (a :: A') ∧
  yr_C (gw_K w) (yr_Z wt wo wc wh ws wv) mn (gk_lv (a :: A') G.2.2.2) S ∧ (∀ g, g < G.2.2.2 → G.1 g = 0 → 8 + g ≠ a ∧ ∀ f, S (8 + g) = [f] → gb g = nI f.1 ∧ gh g = f.2.2.1)
section
variable {w : gw_T} {q : yq_T} {E : ye_T} {M M' : gm_T} {S : Nat → List gf_T} {a : Nat} {A' : List Nat} {V : gv_T} {F : gp_T} {G : gg_T} {N : gn_T} {nc sp : Nat} {v : SY} {f : gf_T} {L L2 : List gf_T} {post : SY → Prop}
variable {bg tk ch hw so : Int32} {va : Int64} {gb gh ro mn wt wo wc wh ws : Nat → Int32} {wv : Nat → Int64}
theorem yo_mk (hw0 : gw_S w) (I : gk_I w M S (a :: A') V F G nc sp) (hSa : S a = f :: L) (hP : yr_P w M S (a :: A') G bg tk ch hw so va gb gh ro mn wt wo wc wh ws wv) : yo_B w S A' a f L G gb gh ro mn wt wo wc wh ws wv := by
  refine ⟨gk_Ia I, I.2.1.2, xo_len hw0 I, hSa, hP.2.1, hP.2.2.1, ?_⟩
  intro g hg h0
  refine ⟨?_, hP.2.2.2 g hg h0⟩
  intro e
  have h2 := (I.2.2.1 g hg).2.2.1.mpr (by rw [e]; exact List.mem_cons_self ..)
  rw [h0] at h2
  exact absurd h2 (by decide)
theorem yo_r (B : yo_B w S A' a f L G gb gh ro mn wt wo wc wh ws wv) : yr_row a < 16 := yr_rl B.1
theorem yo_y (B : yo_B w S A' a f L G gb gh ro mn wt wo wc wh ws wv) : gk_yl L < 48 := by
  have h := B.2.2.1 a B.1 (Or.inl (List.mem_cons_self ..))
  rw [B.2.2.2.1] at h
  have h2 : L.length + 1 ≤ 48 := h
  have := gk_yll L
  omega
theorem yo_mn (B : yo_B w S A' a f L G gb gh ro mn wt wo wc wh ws wv) : mn (yr_row a) = nI (gk_yl (f :: L)) := by
  have h := (B.2.2.2.2.2.1 a B.1 (Or.inl (List.mem_cons_self ..))).1
  rw [B.2.2.2.1] at h
  exact h
theorem yo_L (B : yo_B w S A' a f L G gb gh ro mn wt wo wc wh ws wv) : yr_L (gw_K w) (yr_Z wt wo wc wh ws wv) (48 * yr_row a) (f :: L) := by
  have h := (B.2.2.2.2.2.1 a B.1 (Or.inl (List.mem_cons_self ..))).2
  rw [B.2.2.2.1] at h
  exact h
theorem yo_g (B : yo_B w S A' a f L G gb gh ro mn wt wo wc wh ws wv) {st' : Nat → Int32} (hst : ∀ i, i < G.2.2.2 → st' i = 0 → G.1 i = 0) :
    ∀ g, g < G.2.2.2 → st' g = 0 → ∀ f', gk_su S a L2 (8 + g) = [f'] → gb g = nI f'.1 ∧ gh g = f'.2.2.1 := by
  intro g hg h0 f' e
  have h := B.2.2.2.2.2.2 g hg (hst g hg h0)
  rw [gk_sun h.1] at e
  exact h.2 f' e
theorem yf_top (B : yo_B w S A' a f L G gb gh ro mn wt wo wc wh ws wv) {V' : gv_T} {F' : gp_T} {N' : gn_T} {sp' : Nat} {st' cl' gy' mn' : Nat → Int32}
    (hst : ∀ i, i < G.2.2.2 → st' i = 0 → G.1 i = 0) (h1 : mn' (yr_row a) = nI (gk_yl L2)) (h2 : ∀ r, r ≠ yr_row a → mn' r = mn r)
    (hL : yr_L (gw_K w) (yr_Z wt wo wc wh ws wv) (48 * yr_row a) L → yr_L (gw_K w) (yr_Z wt wo wc wh ws wv) (48 * yr_row a) L2)
    (hm : yr_M M' (gk_su S a L2) (a :: A') bg tk ch hw so va)
    (hp : ∀ v', yr_R w q E M' (gk_su S a L2) (a :: A') V' F' (st', cl', gy', G.2.2.2) N' sp' v' → post v') :
    post (yr_t q E (a :: A') V' F' (st', cl', gy', G.2.2.2) N' sp' bg tk ch hw so va gb gh ro mn' wt wo wc wh ws wv) :=
  hp _ ⟨_, _, _, _, _, _, _, _, _, _, _, _, _, _, _, _, rfl, hm, B.2.2.2.2.1, yr_flat B.2.2.2.2.2.1 B.1 (Or.inl (List.mem_cons_self ..)) B.2.2.1 (fun s q _ => q) B.2.2.2.1 h1 h2 hL, yo_g B hst⟩
theorem yf_mb {t : Nat} {c e0 s0 : Int32} {n0 : Int64} (hm : M'.1 = true) : yr_M M' (gk_su S a ((t, 0, c, e0, s0, n0) :: L2)) (a :: A') 1 (nI t) c hw so va := by
  refine ⟨fun _ => ⟨rfl, ?_⟩, fun z => absurd (hm.symm.trans z) (by decide)⟩
  intro a2 A2 f2 L3 e1 e2
  cases e1
  rw [gk_sus] at e2
  cases e2
  exact ⟨rfl, rfl⟩
theorem yf_me {h s : Int32} {x : Int64} : yr_M (false, h, s, x) S (a :: A') 0 tk ch h s x :=
  ⟨fun z => (by cases z), fun _ => ⟨rfl, rfl, fun _ => ⟨rfl, rfl⟩⟩⟩
theorem yp_in (hw0 : gw_S w) (hq : yq_S w q) (B : yo_B w S A' a f L G gb gh ro mn wt wo wc wh ws wv) (hn : f.1 < gw_n w) (hst : f.2.1 = 1 ∨ f.2.1 = 2) {kd : Int32} {sg : Nat} (hk : gw_K w f.1 = kd) (hs : f.2.1 - 1 = sg) :
    vp_in (nI (a :: A').length - 1) 9 ∧ ro (nI (a :: A').length - 1).toNatClampNeg = nI (yr_row a) ∧ vp_in (nI (yr_row a)) 17 ∧ ¬ mn (nI (yr_row a)).toNatClampNeg = 0 ∧
    upd mn (nI (yr_row a)).toNatClampNeg (mn (nI (yr_row a)).toNatClampNeg - 1) = upd mn (yr_row a) (nI (gk_yl L)) ∧
    (48 : Int32) * nI (yr_row a) + upd mn (yr_row a) (nI (gk_yl L)) (nI (yr_row a)).toNatClampNeg = nI (48 * yr_row a + gk_yl L) ∧
    vp_in (nI (48 * yr_row a + gk_yl L)) 816 ∧ wt (nI (48 * yr_row a + gk_yl L)).toNatClampNeg = nI f.1 ∧ wo (nI (48 * yr_row a + gk_yl L)).toNatClampNeg = nI sg ∧ vp_in (nI f.1) 48 ∧
    wc (nI (48 * yr_row a + gk_yl L)).toNatClampNeg = f.2.2.1 ∧ q.2.2.2.2.2.2.1 (nI f.1).toNatClampNeg = kd ∧
    (f.2.1 = 2 → gw_K w f.1 ≠ 14 → wh (nI (48 * yr_row a + gk_yl L)).toNatClampNeg = f.2.2.2.1 ∧ (gk_hv f.2.2.2.1 → ws (nI (48 * yr_row a + gk_yl L)).toNatClampNeg = f.2.2.2.2.1 ∧ wv (nI (48 * yr_row a + gk_yl L)).toNatClampNeg = f.2.2.2.2.2)) := by
  have hr := yo_r B
  have hy := yo_y B
  have h1 := yo_mn B
  have h2 := (yo_L B).1 hst
  rw [gk_yly hst] at h1
  have hn2 := hw0.2.2.1
  have er : (nI (yr_row a)).toNatClampNeg = yr_row a := nI_clamp (by omega)
  have ek : (nI (48 * yr_row a + gk_yl L)).toNatClampNeg = 48 * yr_row a + gk_yl L := nI_clamp (by omega)
  have ef : (nI f.1).toNatClampNeg = f.1 := nI_clamp (by omega)
  have e1 : wt (48 * yr_row a + gk_yl L) = nI f.1 := h2.1
  have e2 : wo (48 * yr_row a + gk_yl L) = nI (f.2.1 - 1) := h2.2.1
  have e3 : wc (48 * yr_row a + gk_yl L) = f.2.2.1 := h2.2.2.1
  have e5 : q.2.2.2.2.2.2.1 f.1 = gw_K w f.1 := (hq.1 f.1 hn).1
  refine ⟨ym_ti (d := A'.length) rfl B.2.1, ym_tp (d := A'.length) rfl B.2.1 B.2.2.2.2.1.1, vp_in_nI (by omega) (by decide), ?_, ?_, ?_, vp_in_nI (by omega) (by decide), ?_, ?_, vp_in_nI (by omega) (by decide), ?_, ?_, ?_⟩
  · rw [er, h1]
    exact nI_ne0 (by omega) (by omega)
  · rw [er, h1, nI_pred]
  · rw [er, pk_us, show (48 : Int32) = nI 48 from rfl, pk_mul, nI_add]
  · rw [ek]; exact e1
  · rw [ek, e2, hs]
  · rw [ek]; exact e3
  · rw [ef, e5, hk]
  · rw [ek]; exact h2.2.2.2
theorem ys_skip (hw0 : gw_S w) (I : gk_I w M S (a :: A') V F G nc sp) (hR : yr_R w q E M S (a :: A') V F G N sp v) (hSa : S a = f :: L) (hb : M.1 = false) (hst : f.2.1 = 3) : yr_R w q E M (gk_su S a L) (a :: A') V F G N sp v := by
  obtain ⟨bg, tk, ch, hw, so, va, gb, gh, ro, mn, wt, wo, wc, wh, ws, wv, rfl, hP⟩ := hR
  have B := yo_mk hw0 I hSa hP
  have h1 := yo_mn B
  rw [gk_yln (by omega)] at h1
  exact yf_top (post := fun v => yr_R w q E M (gk_su S a L) (a :: A') V F G N sp v) (V' := V) (F' := F) (N' := N) (sp' := sp) (M' := M) (E := E) (q := q) (st' := G.1) (cl' := G.2.1) (gy' := G.2.2.1) B (fun _ _ z => z) h1 (fun _ _ => rfl) (fun z => z) ⟨fun z => absurd (hb.symm.trans z) (by decide), hP.1.2⟩ (fun v' h => h)
end
