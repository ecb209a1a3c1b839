abbrev gx_T : Type := Int32 × Int32 × Int32 × Int32 × Int32 × Int64
abbrev gn_T : Type := (Nat → Int32) × (Nat → Int64) × Nat
def xr_1 (K : Nat → Int32) (z : gx_T) (f : gf_T) : Prop :=
  z.1 = nI f.1 ∧ z.2.1 = nI f.2.1 ∧ z.2.2.1 = f.2.2.1 ∧
  (f.2.1 = 2 → K f.1 ≠ 14 → (K f.1 = 21 → z.2.2.2.1 = f.2.2.2.1) ∧ (gk_hv f.2.2.2.1 → z.2.2.2.2.1 = f.2.2.2.2.1 ∧ z.2.2.2.2.2 = f.2.2.2.2.2))
def xr_L (K : Nat → Int32) (Z : Nat → gx_T) (b : Nat) : List gf_T → Prop
  | [] => True
  | f :: L => xr_1 K (Z (b + L.length)) f ∧ xr_L K Z b L
theorem xr_Lc {K : Nat → Int32} {Z Z' : Nat → gx_T} {b : Nat} : ∀ L, (∀ j, j < L.length → Z' (b + j) = Z (b + j)) → xr_L K Z b L → xr_L K Z' b L := by
  intro L
  induction L with
  | nil => exact fun _ _ => trivial
  | cons f L ih =>
    intro h hL
    refine ⟨?_, ih (fun j hj => h j (by show j < L.length + 1; omega)) hL.2⟩
    rw [h L.length (by show L.length < L.length + 1; omega)]
    exact hL.1
def xr_Z (ft fs fc ke ks : Nat → Int32) (kn : Nat → Int64) : Nat → gx_T := fun i => (ft i, fs i, fc i, ke i, ks i, kn i)
def xr_C (K : Nat → Int32) (Z : Nat → gx_T) (cn : Nat → Int32) (P : Nat → Prop) (S : Nat → List gf_T) : Prop :=
  ∀ s, s < 16 → P s → cn s = nI (S s).length ∧ xr_L K Z (48 * s) (S s)
theorem xr_ch {K : Nat → Int32} {Z Z' : Nat → gx_T} {cn cn' : Nat → Int32} {P P' : Nat → Prop} {S : Nat → List gf_T} {a : Nat} {L2 : List gf_T}
    (h : xr_C K Z cn P S) (hl : ∀ s, s < 16 → P s → (S s).length ≤ 48) (hP : ∀ s, P' s → s ≠ a → P s)
    (hZ : ∀ i, (i < 48 * a ∨ 48 * a + 48 ≤ i) → Z' i = Z i) (hc : cn' a = nI L2.length) (hc2 : ∀ s, s ≠ a → cn' s = cn s) (hL : xr_L K Z' (48 * a) L2) :
    xr_C K Z' cn' P' (gk_su S a L2) := by
  intro s hs hp
  by_cases z : s = a
  · subst z
    rw [gk_sus]
    exact ⟨hc, hL⟩
  · rw [gk_sun z, hc2 s z]
    have hp' := hP s hp z
    have h1 := h s hs hp'
    have h2 := hl s hs hp'
    refine ⟨h1.1, xr_Lc _ ?_ h1.2⟩
    intro j hj
    exact hZ _ (by omega)
theorem xr_pop {K : Nat → Int32} {Z : Nat → gx_T} {cn : Nat → Int32} {P : Nat → Prop} {S : Nat → List gf_T} {a : Nat} {f : gf_T} {L : List gf_T}
    (h : xr_C K Z cn P S) (ha : a < 16) (hp : P a) (hl : ∀ s, s < 16 → P s → (S s).length ≤ 48) (hSa : S a = f :: L) : xr_C K Z (upd cn a (nI L.length)) P (gk_su S a L) := by
  have h1 := (h a ha hp).2
  rw [hSa] at h1
  exact xr_ch h hl (fun s q _ => q) (fun _ _ => rfl) pk_us (fun s q => pk_un q) h1.2
theorem xr_zu {ft fs fc ke ks ft' fs' fc' ke' ks' : Nat → Int32} {kn kn' : Nat → Int64} {i : Nat} (h1 : ft' i = ft i) (h2 : fs' i = fs i) (h3 : fc' i = fc i) (h4 : ke' i = ke i) (h5 : ks' i = ks i) (h6 : kn' i = kn i) :
    xr_Z ft' fs' fc' ke' ks' kn' i = xr_Z ft fs fc ke ks kn i := by
  show (ft' i, fs' i, fc' i, ke' i, ks' i, kn' i) = (ft i, fs i, fc i, ke i, ks i, kn i)
  rw [h1, h2, h3, h4, h5, h6]
section
variable {K ft fs fc ke ks cn : Nat → Int32} {kn : Nat → Int64} {P : Nat → Prop} {S : Nat → List gf_T} {a : Nat} {f : gf_T} {L : List gf_T}
theorem xr_push (h : xr_C K (xr_Z ft fs fc ke ks kn) cn P S) (ha : a < 16) (hp : P a) (hl : ∀ s, s < 16 → P s → (S s).length ≤ 48) (hSa : S a = f :: L) (hL : L.length + 2 ≤ 48)
    {t st : Nat} {c k1 k2 e0 s0 : Int32} {k3 n0 : Int64}
    (hk : st = 2 → K f.1 ≠ 14 → (K f.1 = 21 → ke (48 * a + L.length) = k1) ∧ (gk_hv k1 → ks (48 * a + L.length) = k2 ∧ kn (48 * a + L.length) = k3)) :
    xr_C K (xr_Z (upd ft (48 * a + L.length + 1) (nI t)) (upd (upd fs (48 * a + L.length) (nI st)) (48 * a + L.length + 1) 0) (upd fc (48 * a + L.length + 1) c) ke ks kn) (upd cn a (nI (L.length + 2))) P
      (gk_su S a ((t, 0, c, e0, s0, n0) :: (f.1, st, f.2.2.1, k1, k2, k3) :: L)) := by
  have h1 := (h a ha hp).2
  rw [hSa] at h1
  refine xr_ch h hl (fun s q _ => q) ?_ pk_us (fun s q => pk_un q) ⟨?_, ?_, ?_⟩
  · intro i hi
    exact xr_zu (pk_un (by omega)) (by rw [pk_un (by omega), pk_un (by omega)]) (pk_un (by omega)) rfl rfl rfl
  · show xr_1 K (xr_Z _ _ _ _ _ _ (48 * a + (L.length + 1))) _
    refine ⟨?_, ?_, ?_, gk_02⟩
    · exact pk_us
    · exact pk_us
    · exact pk_us
  · refine ⟨?_, ?_, ?_, hk⟩
    · show upd ft (48 * a + L.length + 1) (nI t) (48 * a + L.length) = nI f.1
      rw [pk_un (by omega)]
      exact h1.1.1
    · show upd (upd fs (48 * a + L.length) (nI st)) (48 * a + L.length + 1) 0 (48 * a + L.length) = nI st
      rw [pk_un (by omega), pk_us]
    · show upd fc (48 * a + L.length + 1) c (48 * a + L.length) = f.2.2.1
      rw [pk_un (by omega)]
      exact h1.1.2.2.1
  · refine xr_Lc _ ?_ h1.2
    intro j hj
    exact xr_zu (pk_un (by omega)) (by rw [pk_un (by omega), pk_un (by omega)]) (pk_un (by omega)) rfl rfl rfl
theorem xr_st3 (h : xr_C K (xr_Z ft fs fc ke ks kn) cn P S) (ha : a < 16) (hp : P a) (hl : ∀ s, s < 16 → P s → (S s).length ≤ 48) (hSa : S a = f :: L) {P' : Nat → Prop} (hP : ∀ s, P' s → s ≠ a → P s) (hL : L.length + 1 ≤ 48) :
    xr_C K (xr_Z ft (upd fs (48 * a + L.length) 3) fc ke ks kn) cn P' (gk_su S a ((f.1, 3, f.2.2) :: L)) := by
  have h1 := h a ha hp
  rw [hSa] at h1
  refine xr_ch h hl hP ?_ h1.1 (fun s q => rfl) ⟨⟨h1.2.1.1, pk_us, h1.2.1.2.2.1, gk_32⟩, ?_⟩
  · intro i hi
    exact xr_zu rfl (pk_un (by omega)) rfl rfl rfl rfl
  · refine xr_Lc _ ?_ h1.2.2
    intro j hj
    exact xr_zu rfl (pk_un (by omega)) rfl rfl rfl rfl
theorem xr_lay {b t : Nat} {c e0 s0 : Int32} {n0 : Int64} (h : xr_C K (xr_Z ft fs fc ke ks kn) cn P S) (hl : ∀ s, s < 16 → P s → (S s).length ≤ 48) {P' : Nat → Prop} (hP : ∀ s, P' s → s ≠ b → P s) :
    xr_C K (xr_Z (upd ft (48 * b) (nI t)) (upd fs (48 * b) 0) (upd fc (48 * b) c) ke ks kn) (upd cn b 1) P' (gk_su S b [(t, 0, c, e0, s0, n0)]) := by
  refine xr_ch h hl hP ?_ pk_us (fun s q => pk_un q) ⟨⟨pk_us, pk_us, pk_us, gk_02⟩, trivial⟩
  intro i hi
  exact xr_zu (pk_un (by omega)) (pk_un (by omega)) (pk_un (by omega)) rfl rfl rfl
theorem xr_keep (h : xr_C K (xr_Z ft fs fc ke ks kn) cn P S) (ha : a < 16) (hp : P a) (hl : ∀ s, s < 16 → P s → (S s).length ≤ 48) (hSa : S a = f :: L) (hf : f.2.1 = 1) {k2 : Int32} {k3 : Int64} (ke' : Nat → Int32)
    (hke : ∀ i, i ≠ 48 * a + L.length → ke' i = ke i) (hL : L.length + 1 ≤ 48) :
    xr_C K (xr_Z ft fs fc ke' (upd ks (48 * a + L.length) k2) (vp_updL kn (48 * a + L.length) k3)) cn P S := by
  have h1 := h a ha hp
  rw [hSa] at h1
  have e : gk_su S a (f :: L) = S := by
    funext s
    by_cases z : s = a
    · subst z
      rw [gk_sus, hSa]
    · rw [gk_sun z]
  rw [← e]
  refine xr_ch h hl (fun s q _ => q) ?_ h1.1 (fun s q => rfl) ⟨⟨h1.2.1.1, h1.2.1.2.1, h1.2.1.2.2.1, fun z => by omega⟩, ?_⟩
  · intro i hi
    exact xr_zu rfl rfl rfl (hke i (by omega)) (pk_un (by omega)) (pk_uLn (by omega))
  · refine xr_Lc _ ?_ h1.2.2
    intro j hj
    exact xr_zu rfl rfl rfl (hke _ (by omega)) (pk_un (by omega)) (pk_uLn (by omega))
end
def xr_A (ac : Nat → Int32) (r : Nat → Nat) : List Nat → Prop
  | [] => True
  | s :: A => ac A.length = nI (r s) ∧ xr_A ac r A
theorem xr_Ac {ac ac' : Nat → Int32} {r : Nat → Nat} : ∀ A, (∀ j, j < A.length → ac' j = ac j) → xr_A ac r A → xr_A ac' r A := by
  intro A
  induction A with
  | nil => exact fun _ _ => trivial
  | cons s A ih =>
    intro h hA
    refine ⟨?_, ih (fun j hj => h j (by show j < A.length + 1; omega)) hA.2⟩
    rw [h A.length (by show A.length < A.length + 1; omega)]
    exact hA.1
def xr_g (s c : Int32) : Int32 := if s = 2 ∧ c = 1 then 4 else s
abbrev xq_T : Type := Int32 × Int32 × Int32 × Int32 × (Nat → Int32) × (Nat → Int32) × (Nat → Int32) × (Nat → Int32) × (Nat → Int32)
def xq_S (w : gw_T) (q : xq_T) : Prop := ∀ i, i < gw_n w → q.2.2.2.2.2.2.2.1 i = nI (gw_e w i)
abbrev xr_t (w : gw_T) (q : xq_T) (A : List Nat) (V : gv_T) (F : gp_T) (gc : Nat) (N : gn_T) (sp : Nat) (en vs : Int32) (vn : Int64) (ft fs fc ke ks : Nat → Int32) (kn : Nat → Int64) (cn ac gs : Nat → Int32) : SX :=
  (q.1, q.2.1, q.2.2.1, nI A.length, nI V.2.2.2.2, nI F.2.2, nI gc, en, vs, vn, nI N.2.2, nI sp, q.2.2.2.1, q.2.2.2.2.1, q.2.2.2.2.2.1, gw_K w, gw_v w, q.2.2.2.2.2.2.1, q.2.2.2.2.2.2.2.1, q.2.2.2.2.2.2.2.2, gw_mn w, gw_gn w, ft, fs, fc, ke, ks, kn, cn, ac, V.1, V.2.1, V.2.2.1, V.2.2.2.1, F.1, F.2.1, gs, N.1, N.2.1)
def xr_P (w : gw_T) (M : gm_T) (S : Nat → List gf_T) (A : List Nat) (G : gg_T) (en vs : Int32) (vn : Int64) (ft fs fc ke ks : Nat → Int32) (kn : Nat → Int64) (cn ac gs : Nat → Int32) : Prop :=
  (M.1 = false → en = M.2.1 ∧ (gk_hv M.2.1 → vs = M.2.2.1 ∧ vn = M.2.2.2)) ∧ xr_A ac (fun s => s) A ∧
  xr_C (gw_K w) (xr_Z ft fs fc ke ks kn) cn (gk_lv A G.2.2.2) S ∧ (∀ g, g < G.2.2.2 → gs g = xr_g (G.1 g) (G.2.1 g))
def xr_R (w : gw_T) (q : xq_T) (M : gm_T) (S : Nat → List gf_T) (A : List Nat) (V : gv_T) (F : gp_T) (G : gg_T) (N : gn_T) (sp : Nat) (u : SX) : Prop :=
  ∃ en vs vn ft fs fc ke ks kn cn ac gs, u = xr_t w q A V F G.2.2.2 N sp en vs vn ft fs fc ke ks kn cn ac gs ∧ xr_P w M S A G en vs vn ft fs fc ke ks kn cn ac gs
