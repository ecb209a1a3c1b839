abbrev gw_T : Type := Nat × (Nat → Int32) × (Nat → Nat) × (Nat → Nat) × (Nat → List Nat) × (Nat → Bool) × (Nat → Int32) × (Nat → Int32) × (Nat → Int32) × (Nat → Int32)
def gw_n (w : gw_T) : Nat := w.1
def gw_K (w : gw_T) : Nat → Int32 := w.2.1
def gw_o (w : gw_T) : Nat → Nat := w.2.2.1
def gw_e (w : gw_T) : Nat → Nat := w.2.2.2.1
def gw_sc (w : gw_T) : Nat → List Nat := w.2.2.2.2.1
def gw_il (w : gw_T) : Nat → Bool := w.2.2.2.2.2.1
def gw_ow (w : gw_T) : Nat → Int32 := w.2.2.2.2.2.2.1
def gw_mn (w : gw_T) : Nat → Int32 := w.2.2.2.2.2.2.2.1
def gw_gn (w : gw_T) : Nat → Int32 := w.2.2.2.2.2.2.2.2.1
def gw_v (w : gw_T) : Nat → Int32 := w.2.2.2.2.2.2.2.2.2
def gw_c (w : gw_T) (i j : Nat) : Nat := tr_c (gw_e w) i j
def gw_op (k : Int32) : Nat :=
  if k = 13 then 3 else if k = 0 ∨ k = 1 ∨ k = 2 ∨ k = 16 ∨ k = 17 then 0
  else if k = 3 ∨ k = 5 ∨ k = 18 ∨ k = 19 ∨ k = 22 ∨ k = 24 ∨ k = 25 ∨ k = 26 then 1 else 2
abbrev gw_bd (k : Int32) (j : Nat) : Prop := k = 5 ∨ (k = 4 ∨ k = 20) ∧ j = 1
def gw_S (w : gw_T) : Prop :=
  tr_T (gw_o w) (gw_e w) ∧ gw_e w 0 = gw_n w ∧ gw_n w ≤ 48 ∧
  (∀ i, i < gw_n w → gw_o w i = gw_op (gw_K w i)) ∧
  (∀ i, i < gw_n w → ∃ k, k < 27 ∧ gw_K w i = nI k) ∧
  (gw_sc w 0 = [] ∧ gw_il w 0 = false ∧ gw_ow w 0 = -1) ∧
  (∀ p j, p < gw_n w → j < gw_o w p →
    (gw_bd (gw_K w p) j → gw_sc w (gw_c w p j) = p :: gw_sc w p) ∧ (¬ gw_bd (gw_K w p) j → gw_sc w (gw_c w p j) = gw_sc w p) ∧
    (gw_K w p = 5 → gw_il w (gw_c w p j) = false ∧ gw_ow w (gw_c w p j) = nI p) ∧
    (gw_K w p ≠ 5 → gw_ow w (gw_c w p j) = gw_ow w p ∧ (gw_il w (gw_c w p j) = true → (gw_K w p = 14 ∧ j = 1) ∨ gw_il w p = true))) ∧
  (∀ i, i < gw_n w → gw_K w i = 2 ∨ gw_K w i = 3 → ∃ b, b ∈ gw_sc w i ∧ gw_mn w i = nI b) ∧
  (∀ i, i < gw_n w → gw_K w i = 16 ∨ gw_K w i = 17 → gw_il w i = true) ∧
  (∀ i, i < gw_n w → gw_K w i = 22 → ∃ f, f < gw_n w ∧ gw_ow w i = nI f ∧ gw_gn w f = 1) ∧
  (∀ i, i < gw_n w → gw_gn w i = 0 ∨ gw_gn w i = 1) ∧
  (∀ i, i < gw_n w → (gw_sc w i).length ≤ i ∧ ∀ b, b ∈ gw_sc w i → b < i)
abbrev gf_T : Type := Nat × Nat × Int32 × Int32 × Int32 × Int64
abbrev gv_T : Type := (Nat → Int32) × (Nat → Int32) × (Nat → Int32) × (Nat → Int64) × Nat
abbrev gp_T : Type := (Nat → Int32) × (Nat → Int32) × Nat
abbrev gg_T : Type := (Nat → Int32) × (Nat → Int32) × (Nat → Int32) × Nat
abbrev gm_T : Type := Bool × Int32 × Int32 × Int64
def gk_hv (h : Int32) : Prop := h = 0 ∨ h = 1 ∨ h = 4
def gk_HW (h : Int32) : Prop := h = 0 ∨ h = 1 ∨ h = 2 ∨ h = 3 ∨ h = 4 ∨ h = 5
def gk_VV (fc gc : Nat) (s : Int32) (x : Int64) : Prop := (s = 0 ∨ s = 1 ∨ s = 2) ∨ (s = 3 ∧ ∃ i, i < fc ∧ x = lN i) ∨ (s = 4 ∧ ∃ i, i < gc ∧ x = lN i)
def gk_CH (V : gv_T) : List Nat → Int32 → Prop
  | [], c => c = -1
  | b :: l, c => ∃ i, i < V.2.2.2.2 ∧ c = nI i ∧ V.1 i = nI b ∧ gk_CH V l (V.2.1 i)
def gk_eag (k : Int32) : Prop := k = 6 ∨ k = 7 ∨ k = 8 ∨ k = 9 ∨ k = 10 ∨ k = 11 ∨ k = 12 ∨ k = 23
def gk_KP (w : gw_T) (fc gc : Nat) (cl : Prop) (f : gf_T) : Prop :=
  gk_HW f.2.2.2.1 ∧ (gk_hv f.2.2.2.1 → gk_VV fc gc f.2.2.2.2.1 f.2.2.2.2.2) ∧
  (f.2.2.2.1 = 2 ∨ f.2.2.2.1 = 3 → gw_il w f.1 = true) ∧ (f.2.2.2.1 = 5 → cl) ∧ (gw_K w f.1 ≠ 21 → f.2.2.2.1 = 0)
def gk_FO (w : gw_T) (V : gv_T) (fc gc : Nat) (cl : Prop) (f : gf_T) : Prop :=
  f.1 < gw_n w ∧ gk_CH V (gw_sc w f.1) f.2.2.1 ∧ f.2.1 ≤ 3 ∧
  (f.2.1 ≠ 0 → 0 < gw_o w f.1 ∧ gw_K w f.1 ≠ 5) ∧
  (f.2.1 = 2 → gw_K w f.1 = 14 ∨ gw_K w f.1 = 21 ∨ gk_eag (gw_K w f.1)) ∧
  (f.2.1 = 3 → gw_K w f.1 ≠ 14 ∧ gw_K w f.1 ≠ 21) ∧
  (f.2.1 = 2 → gw_K w f.1 ≠ 14 → gk_KP w fc gc cl f)
def gk_PT (w : gw_T) (r : Nat) : List gf_T → Nat → Prop
  | [], t => t = r
  | g :: L, t => g.2.1 ≠ 0 ∧ (∃ j, j < gw_o w g.1 ∧ t = gw_c w g.1 j ∧ (g.2.1 = 1 → j = 0) ∧ (g.2.1 = 2 → j = 1)) ∧ gk_PT w r L g.1
def gk_SL (w : gw_T) (V : gv_T) (fc gc r : Nat) (cl : Prop) (L : List gf_T) : Prop :=
  (∀ f L', L = f :: L' → gk_PT w r L' f.1) ∧ ∀ f, f ∈ L → gk_FO w V fc gc cl f
def gk_RT (w : gw_T) (s r : Nat) : Prop :=
  (s = 0 ∧ r = 0) ∨ ∃ f, f < gw_n w ∧ gw_K w f = 5 ∧ r = f + 1 ∧ (s < 8 → gw_gn w f = 0) ∧ (8 ≤ s → gw_gn w f = 1)
def gk_cl (G : gg_T) (s : Nat) : Prop := 8 ≤ s ∧ G.2.1 (s - 8) = 1
def gk_lv (A : List Nat) (gc s : Nat) : Prop := s ∈ A ∨ (8 ≤ s ∧ s < 8 + gc)
def gk_AO (gc : Nat) : List Nat → Prop
  | [] => True
  | s :: A => ((s = A.length) ∨ (8 ≤ s ∧ s < 8 + gc ∧ ¬ s ∈ A ∧ A ≠ [])) ∧ gk_AO gc A
def gk_yl : List gf_T → Nat
  | [] => 0
  | f :: L => if f.2.1 = 1 ∨ f.2.1 = 2 then gk_yl L + 1 else gk_yl L
def gk_wt : List gf_T → Nat
  | [] => 0
  | f :: L => gk_wt L + (if f.2.1 = 1 ∨ f.2.1 = 2 then 3 else if f.2.1 = 3 then 1 else 0)
def gk_sm (f : List gf_T → Nat) (S : Nat → List gf_T) : Nat → Nat
  | 0 => 0
  | k + 1 => gk_sm f S k + f (S k)
def gk_su (S : Nat → List gf_T) (a : Nat) (L : List gf_T) : Nat → List gf_T := fun s => if s = a then L else S s
def gk_BK (w : gw_T) (L : List gf_T) (h : Int32) : Prop := h = 2 ∨ h = 3 → ∃ g L', L = g :: L' ∧ ((gw_K w g.1 = 14 ∧ g.2.1 = 2) ∨ gw_il w g.1 = true)
def gk_NH (L : List gf_T) : Prop := ∀ f, f ∈ L → f.2.1 ≠ 0
def gk_MD (w : gw_T) (fc gc : Nat) (cl : Prop) (M : gm_T) (L : List gf_T) : Prop :=
  (M.1 = true → ∃ f L', L = f :: L' ∧ f.2.1 = 0) ∧
  (M.1 = false → gk_NH L ∧ gk_HW M.2.1 ∧ (gk_hv M.2.1 → gk_VV fc gc M.2.2.1 M.2.2.2) ∧ gk_BK w L M.2.1 ∧ (M.2.1 = 5 → cl))
def gk_GN (w : gw_T) (S : Nat → List gf_T) (A : List Nat) (G : gg_T) (g : Nat) : Prop :=
  (G.1 g = 0 ∨ G.1 g = 1 ∨ G.1 g = 2 ∨ G.1 g = 3) ∧ (G.2.1 g = 0 ∨ G.2.1 g = 1) ∧ (G.1 g = 2 ↔ 8 + g ∈ A) ∧
  (G.1 g = 0 → G.2.1 g = 0 ∧ ∃ f, S (8 + g) = [f] ∧ f.2.1 = 0) ∧
  (G.1 g = 1 → G.2.1 g = 0 ∧ ∃ f L, S (8 + g) = f :: L ∧ f.2.1 = 3 ∧ gk_NH L ∧ G.2.2.1 g = nI f.1)
def gk_VF (w : gw_T) (V : gv_T) (F : gp_T) (gc : Nat) : Prop :=
  (∀ i, i < V.2.2.2.2 → gk_VV F.2.2 gc (V.2.2.1 i) (V.2.2.2.1 i)) ∧
  (∀ i, i < F.2.2 → ∃ t, t < gw_n w ∧ F.1 i = nI t ∧ gw_K w t = 5 ∧ gk_CH V (gw_sc w t) (F.2.1 i))
def gk_I (w : gw_T) (M : gm_T) (S : Nat → List gf_T) (A : List Nat) (V : gv_T) (F : gp_T) (G : gg_T) (nc sp : Nat) : Prop :=
  (∀ s, s < 16 → gk_lv A G.2.2.2 s → ∃ r, gk_RT w s r ∧ gk_SL w V F.2.2 G.2.2.2 r (gk_cl G s) (S s)) ∧
  (gk_AO G.2.2.2 A ∧ A.length ≤ 8) ∧ (∀ g, g < G.2.2.2 → gk_GN w S A G g) ∧ gk_VF w V F G.2.2.2 ∧
  (V.2.2.2.2 + F.2.2 + nc + gk_sm gk_yl S 16 ≤ sp ∧ sp ≤ 600 ∧ G.2.2.2 ≤ 8) ∧
  (∀ a A', A = a :: A' → (∀ s, s ∈ A' → gk_NH (S s)) ∧ gk_MD w F.2.2 G.2.2.2 (gk_cl G a) M (S a)) ∧
  (A = [] → M.1 = false ∧ (M.2.1 = 0 ∨ M.2.1 = 1) ∧ gk_VV F.2.2 G.2.2.2 M.2.2.1 M.2.2.2)
def gk_mu (M : gm_T) (S : Nat → List gf_T) (A : List Nat) (sp : Nat) : Nat := 4 * (600 - sp) + gk_sm gk_wt S 16 + A.length + (if M.1 = true then 0 else 1)
theorem gk_sus {S : Nat → List gf_T} {a : Nat} {L : List gf_T} : gk_su S a L a = L := if_pos rfl
theorem gk_sun {S : Nat → List gf_T} {a s : Nat} {L : List gf_T} (h : s ≠ a) : gk_su S a L s = S s := if_neg h
theorem gk_smn (f : List gf_T → Nat) (S : Nat → List gf_T) (a : Nat) (L : List gf_T) : ∀ k, k ≤ a → gk_sm f (gk_su S a L) k = gk_sm f S k := by
  intro k
  induction k with
  | zero => intro _; rfl
  | succ k ih =>
    intro h
    show gk_sm f (gk_su S a L) k + f (gk_su S a L k) = gk_sm f S k + f (S k)
    rw [ih (by omega), gk_sun (by omega)]
theorem gk_sms (f : List gf_T → Nat) (S : Nat → List gf_T) (a : Nat) (L : List gf_T) : ∀ k, a < k → gk_sm f (gk_su S a L) k + f (S a) = gk_sm f S k + f L := by
  intro k
  induction k with
  | zero => intro h; omega
  | succ k ih =>
    intro h
    show gk_sm f (gk_su S a L) k + f (gk_su S a L k) + f (S a) = gk_sm f S k + f (S k) + f L
    by_cases z : a = k
    · subst z
      rw [gk_smn f S a L a (Nat.le_refl _), gk_sus]
      omega
    · have := ih (by omega)
      rw [gk_sun (by omega)]
      omega
def gk_X (V V' : gv_T) : Prop := V.2.2.2.2 ≤ V'.2.2.2.2 ∧ ∀ i, i < V.2.2.2.2 → V'.1 i = V.1 i ∧ V'.2.1 i = V.2.1 i
theorem gk_Xr (V : gv_T) : gk_X V V := ⟨Nat.le_refl _, fun _ _ => ⟨rfl, rfl⟩⟩
theorem gk_CHm {V V' : gv_T} (h : gk_X V V') : ∀ l c, gk_CH V l c → gk_CH V' l c := by
  intro l
  induction l with
  | nil => exact fun c hc => hc
  | cons b l ih =>
    intro c hc
    obtain ⟨i, hi, hci, hb, hr⟩ := hc
    refine ⟨i, by have := h.1; omega, hci, ?_, ?_⟩
    · rw [(h.2 i hi).1]; exact hb
    · rw [(h.2 i hi).2]; exact ih _ hr
theorem gk_VVm {fc gc fc' gc' : Nat} {s : Int32} {x : Int64} (h1 : fc ≤ fc') (h2 : gc ≤ gc') (h : gk_VV fc gc s x) : gk_VV fc' gc' s x := by
  rcases h with h | ⟨h, i, hi, e⟩ | ⟨h, i, hi, e⟩
  · exact Or.inl h
  · exact Or.inr (Or.inl ⟨h, i, by omega, e⟩)
  · exact Or.inr (Or.inr ⟨h, i, by omega, e⟩)
theorem gk_KPm {w : gw_T} {fc gc fc' gc' : Nat} {cl cl' : Prop} {f : gf_T} (h1 : fc ≤ fc') (h2 : gc ≤ gc') (hc : cl → cl') (h : gk_KP w fc gc cl f) : gk_KP w fc' gc' cl' f :=
  ⟨h.1, fun z => gk_VVm h1 h2 (h.2.1 z), h.2.2.1, fun z => hc (h.2.2.2.1 z), h.2.2.2.2⟩
theorem gk_FOm {w : gw_T} {V V' : gv_T} {fc gc fc' gc' : Nat} {cl cl' : Prop} {f : gf_T} (hV : gk_X V V') (h1 : fc ≤ fc') (h2 : gc ≤ gc') (hc : cl → cl') (h : gk_FO w V fc gc cl f) : gk_FO w V' fc' gc' cl' f :=
  ⟨h.1, gk_CHm hV _ _ h.2.1, h.2.2.1, h.2.2.2.1, h.2.2.2.2.1, h.2.2.2.2.2.1, fun z y => gk_KPm h1 h2 hc (h.2.2.2.2.2.2 z y)⟩
theorem gk_SLm {w : gw_T} {V V' : gv_T} {fc gc fc' gc' r : Nat} {cl cl' : Prop} {L : List gf_T} (hV : gk_X V V') (h1 : fc ≤ fc') (h2 : gc ≤ gc') (hc : cl → cl') (h : gk_SL w V fc gc r cl L) : gk_SL w V' fc' gc' r cl' L :=
  ⟨h.1, fun f hf => gk_FOm hV h1 h2 hc (h.2 f hf)⟩
theorem gw_cl {w : gw_T} (hw : gw_S w) {p j : Nat} (hp : p < gw_n w) (hj : j < gw_o w p) : p < gw_c w p j ∧ gw_c w p j < gw_n w := by
  have h := tr_cin hw.1 hj
  have h2 := tr_nest hw.1 _ 0 p (Nat.le_refl _) (by omega) (by rw [hw.2.1]; exact hp)
  rw [hw.2.1] at h2
  exact ⟨h.1, Nat.lt_of_lt_of_le h.2 h2⟩
theorem gk_PTl {w : gw_T} (hw : gw_S w) {r : Nat} : ∀ L t, gk_PT w r L t → L.length ≤ t := by
  intro L
  induction L with
  | nil => intro t _; exact Nat.zero_le _
  | cons g L ih =>
    intro t h
    obtain ⟨_, ⟨j, hj, e, _⟩, h2⟩ := h
    have := ih _ h2
    have h3 := (tr_cin hw.1 hj).1
    have h4 : t = tr_c (gw_e w) g.1 j := e
    show L.length + 1 ≤ t
    omega
theorem gk_PTo {w : gw_T} (hw : gw_S w) {V : gv_T} {fc gc r : Nat} {cl : Prop} : ∀ L t, gk_PT w r L t → (∀ f, f ∈ L → gk_FO w V fc gc cl f) → gw_ow w t = gw_ow w r := by
  intro L
  induction L with
  | nil => intro t h _; rw [show t = r from h]
  | cons g L ih =>
    intro t h hf
    obtain ⟨h0, ⟨j, hj, e, _⟩, h2⟩ := h
    have hg := hf g (List.mem_cons_self ..)
    have h5 := (hg.2.2.2.1 h0).2
    have h7 := (hw.2.2.2.2.2.2.1 g.1 j hg.1 hj).2.2.2 h5
    rw [e, h7.1]
    exact ih _ h2 (fun f hm => hf f (List.mem_cons_of_mem _ hm))
theorem gk_rt0 {w : gw_T} (hw : gw_S w) {s r : Nat} (h : gk_RT w s r) : gw_il w r = false := by
  rcases h with ⟨_, rfl⟩ | ⟨f, hf, hk, rfl, _⟩
  · exact hw.2.2.2.2.2.1.2.1
  · have ho : gw_o w f = 1 := by rw [hw.2.2.2.1 f hf, hk]; decide
    exact ((hw.2.2.2.2.2.2.1 f 0 hf (by omega)).2.2.1 hk).1
theorem gk_BKp {w : gw_T} (hw : gw_S w) {V : gv_T} {fc gc s r t : Nat} {cl : Prop} {L : List gf_T} {h : Int32} (hr : gk_RT w s r) (hp : gk_PT w r L t) (hL : ∀ f, f ∈ L → gk_FO w V fc gc cl f) (hi : h = 2 ∨ h = 3 → gw_il w t = true) : gk_BK w L h := by
  intro hh
  have hi := hi hh
  cases L with
  | nil =>
    have : t = r := hp
    rw [this, gk_rt0 hw hr] at hi
    cases hi
  | cons g L =>
    refine ⟨g, L, rfl, ?_⟩
    obtain ⟨h0, ⟨j, hj, e, e1, e2⟩, h2⟩ := hp
    have hg := hL g (List.mem_cons_self ..)
    have h5 := (hg.2.2.2.1 h0).2
    have h7 := (hw.2.2.2.2.2.2.1 g.1 j hg.1 hj).2.2.2 h5
    rw [e] at hi
    rcases h7.2 hi with ⟨k, hj1⟩ | k
    · left
      refine ⟨k, ?_⟩
      have h3 : g.2.1 ≠ 3 := fun z => (hg.2.2.2.2.2.1 z).1 k
      have h1 : g.2.1 ≠ 1 := fun z => by have := e1 z; omega
      have := hg.2.2.1
      omega
    · exact Or.inr k
theorem gk_02 {P : Prop} : (0 : Nat) = 2 → P := fun z => nomatch z
theorem gk_03 {P : Prop} : (0 : Nat) = 3 → P := fun z => nomatch z
theorem gk_32 {P : Prop} : (3 : Nat) = 2 → P := fun z => nomatch z
