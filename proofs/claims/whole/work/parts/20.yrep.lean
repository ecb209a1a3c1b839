def yr_row (s : Nat) : Nat := if s < 8 then 8 + s else s - 8
theorem yr_rl {s : Nat} (h : s < 16) : yr_row s < 16 := by unfold yr_row; split <;> omega
theorem yr_ri {s t : Nat} (h1 : s < 16) (h2 : t < 16) (h : yr_row s = yr_row t) : s = t := by
  unfold yr_row at h
  split at h <;> split at h <;> omega
theorem yr_rg (g : Nat) : yr_row (8 + g) = g := by
  unfold yr_row
  rw [if_neg (by omega)]
  omega
theorem yr_rd {d : Nat} (h : d < 8) : yr_row d = 8 + d := if_pos h
def yr_1 (K : Nat → Int32) (z : gx_T) (f : gf_T) : Prop :=
  z.1 = nI f.1 ∧ z.2.1 = nI (f.2.1 - 1) ∧ z.2.2.1 = f.2.2.1 ∧
  (f.2.1 = 2 → K f.1 ≠ 14 → z.2.2.2.1 = f.2.2.2.1 ∧ (gk_hv f.2.2.2.1 → z.2.2.2.2.1 = f.2.2.2.2.1 ∧ z.2.2.2.2.2 = f.2.2.2.2.2))
def yr_L (K : Nat → Int32) (Z : Nat → gx_T) (b : Nat) : List gf_T → Prop
  | [] => True
  | f :: L => (f.2.1 = 1 ∨ f.2.1 = 2 → yr_1 K (Z (b + gk_yl L)) f) ∧ yr_L K Z b L
theorem gk_yly {f : gf_T} {L : List gf_T} (h : f.2.1 = 1 ∨ f.2.1 = 2) : gk_yl (f :: L) = gk_yl L + 1 := if_pos h
theorem gk_yln {f : gf_T} {L : List gf_T} (h : ¬ (f.2.1 = 1 ∨ f.2.1 = 2)) : gk_yl (f :: L) = gk_yl L := if_neg h
theorem gk_yll : ∀ L, gk_yl L ≤ L.length := by
  intro L
  induction L with
  | nil => exact Nat.le_refl _
  | cons f L ih =>
    show gk_yl (f :: L) ≤ L.length + 1
    by_cases h : f.2.1 = 1 ∨ f.2.1 = 2
    · rw [gk_yly h]; omega
    · rw [gk_yln h]; omega
theorem yr_Lc {K : Nat → Int32} {Z Z' : Nat → gx_T} {b : Nat} : ∀ L, (∀ j, j < gk_yl L → Z' (b + j) = Z (b + j)) → yr_L K Z b L → yr_L K Z' b L := by
  intro L
  induction L with
  | nil => exact fun _ _ => trivial
  | cons f L ih =>
    intro h hL
    by_cases z : f.2.1 = 1 ∨ f.2.1 = 2
    · rw [gk_yly z] at h
      refine ⟨fun y => ?_, ih (fun j hj => h j (by omega)) hL.2⟩
      rw [h _ (by omega)]
      exact hL.1 y
    · rw [gk_yln z] at h
      exact ⟨fun y => absurd y z, ih h hL.2⟩
def yr_C (K : Nat → Int32) (Z : Nat → gx_T) (mn : Nat → Int32) (P : Nat → Prop) (S : Nat → List gf_T) : Prop :=
  ∀ s, s < 16 → P s → mn (yr_row s) = nI (gk_yl (S s)) ∧ yr_L K Z (48 * yr_row s) (S s)
theorem yr_ch {K : Nat → Int32} {Z Z' : Nat → gx_T} {mn mn' : Nat → Int32} {P P' : Nat → Prop} {S : Nat → List gf_T} {a : Nat} {L2 : List gf_T}
    (h : yr_C K Z mn P S) (ha : a < 16) (hl : ∀ s, s < 16 → P s → (S s).length ≤ 48) (hP : ∀ s, P' s → s ≠ a → P s)
    (hZ : ∀ i, (i < 48 * yr_row a ∨ 48 * yr_row a + 48 ≤ i) → Z' i = Z i) (hc : mn' (yr_row a) = nI (gk_yl L2)) (hc2 : ∀ r, r ≠ yr_row a → mn' r = mn r) (hL : yr_L K Z' (48 * yr_row a) L2) :
    yr_C K Z' mn' P' (gk_su S a L2) := by
  intro s hs hp
  by_cases z : s = a
  · subst z
    rw [gk_sus]
    exact ⟨hc, hL⟩
  · have hr : yr_row s ≠ yr_row a := fun e => z (yr_ri hs ha e)
    rw [gk_sun z, hc2 _ hr]
    have hp' := hP s hp z
    have h1 := h s hs hp'
    have h2 := hl s hs hp'
    have h3 := gk_yll (S s)
    refine ⟨h1.1, yr_Lc _ ?_ h1.2⟩
    intro j hj
    exact hZ _ (by omega)
theorem yr_flat {K : Nat → Int32} {Z : Nat → gx_T} {mn : Nat → Int32} {P P' : Nat → Prop} {S : Nat → List gf_T} {a : Nat} {f : gf_T} {L L2 : List gf_T}
    (h : yr_C K Z mn P S) (ha : a < 16) (hp : P a) (hl : ∀ s, s < 16 → P s → (S s).length ≤ 48) (hP : ∀ s, P' s → s ≠ a → P s) (hSa : S a = f :: L)
    {mn' : Nat → Int32} (hc : mn' (yr_row a) = nI (gk_yl L2)) (hc2 : ∀ r, r ≠ yr_row a → mn' r = mn r)
    (h2 : yr_L K Z (48 * yr_row a) L → yr_L K Z (48 * yr_row a) L2) : yr_C K Z mn' P' (gk_su S a L2) := by
  have h1 := (h a ha hp).2
  rw [hSa] at h1
  exact yr_ch h ha hl hP (fun _ _ => rfl) hc hc2 (h2 h1.2)
def yr_Z (wt wo wc wh ws : Nat → Int32) (wv : Nat → Int64) : Nat → gx_T := fun i => (wt i, wo i, wc i, wh i, ws i, wv i)
theorem yr_push {K wt wo wc wh ws mn : Nat → Int32} {wv : Nat → Int64} {P P' : Nat → Prop} {S : Nat → List gf_T} {a : Nat} {f : gf_T} {L : List gf_T}
    (h : yr_C K (yr_Z wt wo wc wh ws wv) mn P S) (ha : a < 16) (hp : P a) (hl : ∀ s, s < 16 → P s → (S s).length ≤ 48) (hP : ∀ s, P' s → s ≠ a → P s) (hSa : S a = f :: L)
    {t i st : Nat} {c c' e0 s0 k1 k2 h0 hs0 : Int32} {n0 k3 hv0 : Int64} (hst : st = 1 ∨ st = 2) {mn' : Nat → Int32} (hc : mn' (yr_row a) = nI (gk_yl L + 1)) (hc2 : ∀ r, r ≠ yr_row a → mn' r = mn r)
    (hk : st = 2 → K i ≠ 14 → h0 = k1 ∧ (gk_hv k1 → hs0 = k2 ∧ hv0 = k3)) :
    yr_C K (yr_Z (upd wt (48 * yr_row a + gk_yl L) (nI i)) (upd wo (48 * yr_row a + gk_yl L) (nI (st - 1))) (upd wc (48 * yr_row a + gk_yl L) c') (upd wh (48 * yr_row a + gk_yl L) h0) (upd ws (48 * yr_row a + gk_yl L) hs0) (vp_updL wv (48 * yr_row a + gk_yl L) hv0)) mn' P'
      (gk_su S a ((t, 0, c, e0, s0, n0) :: (i, st, c', k1, k2, k3) :: L)) := by
  have h1 := (h a ha hp).2
  rw [hSa] at h1
  have h2 := hl a ha hp
  rw [hSa] at h2
  have h2' : L.length + 1 ≤ 48 := h2
  have h3 := gk_yll L
  refine yr_ch h ha hl hP ?_ (by rw [hc]; show _ = nI (gk_yl ((i, st, c', k1, k2, k3) :: L)); rw [gk_yly hst]) hc2 ⟨fun z => (by rcases z with z | z <;> cases z), fun _ => ⟨pk_us, pk_us, pk_us, ?_⟩, ?_⟩
  · intro j hj
    exact xr_zu (pk_un (by omega)) (pk_un (by omega)) (pk_un (by omega)) (pk_un (by omega)) (pk_un (by omega)) (pk_uLn (by omega))
  · intro z1 z2
    obtain ⟨q1, q2⟩ := hk z1 z2
    refine ⟨?_, fun z => ⟨?_, ?_⟩⟩
    · show upd wh _ h0 _ = k1
      rw [pk_us]; exact q1
    · show upd ws _ hs0 _ = k2
      rw [pk_us]; exact (q2 z).1
    · show vp_updL wv _ hv0 _ = k3
      rw [pk_uLs]; exact (q2 z).2
  · refine yr_Lc _ ?_ h1.2
    intro j hj
    exact xr_zu (pk_un (by omega)) (pk_un (by omega)) (pk_un (by omega)) (pk_un (by omega)) (pk_un (by omega)) (pk_uLn (by omega))
abbrev yq_T : Type := Int32 × Int32 × Int32 × Int32 × (Nat → Int32) × (Nat → Int32) × (Nat → Int32) × (Nat → Int32) × (Nat → Int32) × (Nat → Int32) × (Nat → Int32) × (Nat → Int32) × (Nat → Int32) × (Nat → Int32) × (Nat → Int32)
def yq_kind (q : yq_T) : Nat → Int32 := q.2.2.2.2.2.2.1
def yq_with (q : yq_T) : Nat → Int32 := q.2.2.2.2.2.2.2.1
def yq_part (q : yq_T) : Nat → Int32 := q.2.2.2.2.2.2.2.2.2.2.1
def yq_means (q : yq_T) : Nat → Int32 := q.2.2.2.2.2.2.2.2.2.2.2.2.1
def yq_yields (q : yq_T) : Nat → Int32 := q.2.2.2.2.2.2.2.2.2.2.2.2.2.2
def yq_S (w : gw_T) (q : yq_T) : Prop :=
  (∀ i, i < gw_n w → yq_kind q i = gw_K w i ∧ yq_with q i = gw_v w i ∧ yq_means q i = gw_mn w i ∧ yq_yields q i = gw_gn w i) ∧
  (∀ i j, i < gw_n w → j < gw_o w i → yq_part q (3 * i + j) = nI (gw_c w i j))
abbrev ye_T : Type := Int32 × Int32 × Int64 × Int32
abbrev yr_t (q : yq_T) (E : ye_T) (A : List Nat) (V : gv_T) (F : gp_T) (G : gg_T) (N : gn_T) (sp : Nat) (bg tk ch hw so : Int32) (va : Int64) (gb gh ro mn wt wo wc wh ws : Nat → Int32) (wv : Nat → Int64) : SY :=
  (q.1, q.2.1, q.2.2.1, q.2.2.2.1, nI V.2.2.2.2, nI F.2.2, nI G.2.2.2, nI A.length, bg, tk, ch, hw, so, va, nI sp, E.1, E.2.1, E.2.2.1, E.2.2.2, nI N.2.2, q.2.2.2.2.1, q.2.2.2.2.2.1, q.2.2.2.2.2.2.1, q.2.2.2.2.2.2.2.1, q.2.2.2.2.2.2.2.2.1, q.2.2.2.2.2.2.2.2.2.1, q.2.2.2.2.2.2.2.2.2.2.1, q.2.2.2.2.2.2.2.2.2.2.2.1, q.2.2.2.2.2.2.2.2.2.2.2.2.1, q.2.2.2.2.2.2.2.2.2.2.2.2.2.1, q.2.2.2.2.2.2.2.2.2.2.2.2.2.2, V.1, V.2.1, V.2.2.1, V.2.2.2.1, F.1, F.2.1, G.1, gb, gh, G.2.2.1, G.2.1, ro, mn, wt, wo, wc, ws, wh, wv, N.1, N.2.1)
def yr_M (M : gm_T) (S : Nat → List gf_T) (A : List Nat) (bg tk ch hw so : Int32) (va : Int64) : Prop :=
  (M.1 = true → bg = 1 ∧ ∀ a A' f L, A = a :: A' → S a = f :: L → tk = nI f.1 ∧ ch = f.2.2.1) ∧
  (M.1 = false → bg = 0 ∧ hw = M.2.1 ∧ (gk_hv M.2.1 → so = M.2.2.1 ∧ va = M.2.2.2))
def yr_P (w : gw_T) (M : gm_T) (S : Nat → List gf_T) (A : List Nat) (G : gg_T) (bg tk ch hw so : Int32) (va : Int64) (gb gh ro mn wt wo wc wh ws : Nat → Int32) (wv : Nat → Int64) : Prop :=
  yr_M M S A bg tk ch hw so va ∧ xr_A ro yr_row A ∧ yr_C (gw_K w) (yr_Z wt wo wc wh ws wv) mn (gk_lv A G.2.2.2) S ∧
  (∀ g, g < G.2.2.2 → G.1 g = 0 → ∀ f, S (8 + g) = [f] → gb g = nI f.1 ∧ gh g = f.2.2.1)
def yr_R (w : gw_T) (q : yq_T) (E : ye_T) (M : gm_T) (S : Nat → List gf_T) (A : List Nat) (V : gv_T) (F : gp_T) (G : gg_T) (N : gn_T) (sp : Nat) (v : SY) : Prop :=
  ∃ bg tk ch hw so va gb gh ro mn wt wo wc wh ws wv, v = yr_t q E A V F G N sp bg tk ch hw so va gb gh ro mn wt wo wc wh ws wv ∧ yr_P w M S A G bg tk ch hw so va gb gh ro mn wt wo wc wh ws wv
