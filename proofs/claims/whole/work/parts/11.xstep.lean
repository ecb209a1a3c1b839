def xo_B (w : gw_T) (S : Nat → List gf_T) (A' : List Nat) (a : Nat) (f : gf_T) (L : List gf_T) (G : gg_T) (ft fs fc ke ks : Nat → Int32) (kn : Nat → Int64) (cn ac gs : Nat → Int32) : Prop :=
  a < 16 ∧ A'.length < 8 ∧ (∀ s, s < 16 → gk_lv (a :: A') G.2.2.2 s → (S s).length ≤ 48) ∧ S a = f :: L ∧ xr_A ac (fun s => s) (a :: A') ∧
  xr_C (gw_K w) (xr_Z ft fs fc ke ks kn) cn (gk_lv (a :: A') G.2.2.2) S ∧ (∀ g, g < G.2.2.2 → gs g = xr_g (G.1 g) (G.2.1 g))
section
variable {w : gw_T} {q : xq_T} {M M' : gm_T} {S : Nat → List gf_T} {a : Nat} {A' : List Nat} {V : gv_T} {F : gp_T} {G : gg_T} {N : gn_T} {nc sp : Nat} {u : SX} {f : gf_T} {L : List gf_T} {post : SX → Prop}
variable {en vs : Int32} {vn : Int64} {ft fs fc ke ks : Nat → Int32} {kn : Nat → Int64} {cn ac gs : Nat → Int32}
theorem xo_len (hw : gw_S w) {A : List Nat} (I : gk_I w M S A V F G nc sp) : ∀ s, s < 16 → gk_lv A G.2.2.2 s → (S s).length ≤ 48 := by
  intro s h1 h2
  obtain ⟨r, hr, hs⟩ := I.1 s h1 h2
  exact gk_SLl hw hs
theorem xo_mk (hw : gw_S w) (I : gk_I w M S (a :: A') V F G nc sp) (hSa : S a = f :: L) (hP : xr_P w M S (a :: A') G en vs vn ft fs fc ke ks kn cn ac gs) : xo_B w S A' a f L G ft fs fc ke ks kn cn ac gs :=
  ⟨gk_Ia I, I.2.1.2, xo_len hw I, hSa, hP.2.1, hP.2.2.1, hP.2.2.2⟩
theorem xo_lv : gk_lv (a :: A') G.2.2.2 a := Or.inl (List.mem_cons_self ..)
theorem xo_cn (B : xo_B w S A' a f L G ft fs fc ke ks kn cn ac gs) : cn a = nI (L.length + 1) := by
  have h := (B.2.2.2.2.2.1 a B.1 xo_lv).1
  rw [B.2.2.2.1] at h
  exact h
theorem xo_f (B : xo_B w S A' a f L G ft fs fc ke ks kn cn ac gs) : xr_1 (gw_K w) (xr_Z ft fs fc ke ks kn (48 * a + L.length)) f := by
  have h := (B.2.2.2.2.2.1 a B.1 xo_lv).2
  rw [B.2.2.2.1] at h
  exact h.1
theorem xo_l (B : xo_B w S A' a f L G ft fs fc ke ks kn cn ac gs) : L.length + 1 ≤ 48 := by
  have h := B.2.2.1 a B.1 xo_lv
  rw [B.2.2.2.1] at h
  exact h
theorem xs_fas (B : xo_B w S A' a f L G ft fs fc ke ks kn cn ac gs) {s : Int32} (hm : M'.1 = false → s = M'.2.1 ∧ (gk_hv M'.2.1 → vs = M'.2.2.1 ∧ vn = M'.2.2.2))
    (hp : ∀ u', xr_R w q M' (gk_su S a L) (a :: A') V F G N sp u' → post u') : wpX_finishAs post (xr_t w q (a :: A') V F G.2.2.2 N sp en vs vn ft fs fc ke ks kn cn ac gs) s :=
  xm_finishAs (d := A'.length) (a := a) (l := L.length) rfl B.2.1 B.2.2.2.2.1.1 B.1 (xo_cn B)
    (hp _ ⟨_, _, _, _, _, _, _, _, _, _, _, _, rfl, hm, B.2.2.2.2.1, xr_pop B.2.2.2.2.2.1 B.1 xo_lv B.2.2.1 B.2.2.2.1, B.2.2.2.2.2.2⟩)
theorem xs_fin (B : xo_B w S A' a f L G ft fs fc ke ks kn cn ac gs) {s : Int32} {x : Int64}
    (hp : ∀ u', xr_R w q (false, 0, s, x) (gk_su S a L) (a :: A') V F G N sp u' → post u') : wpX_finish post (xr_t w q (a :: A') V F G.2.2.2 N sp en vs vn ft fs fc ke ks kn cn ac gs) s x :=
  xm_finish (d := A'.length) (a := a) (l := L.length) rfl B.2.1 B.2.2.2.2.1.1 B.1 (xo_cn B)
    (hp _ ⟨_, _, _, _, _, _, _, _, _, _, _, _, rfl, fun _ => ⟨rfl, fun _ => ⟨rfl, rfl⟩⟩, B.2.2.2.2.1, xr_pop B.2.2.2.2.2.1 B.1 xo_lv B.2.2.1 B.2.2.2.1, B.2.2.2.2.2.2⟩)
theorem xs_thr (B : xo_B w S A' a f L G ft fs fc ke ks kn cn ac gs) {s : Int32}
    (hp : ∀ u', xr_R w q (false, 1, 1, s.toInt64) (gk_su S a L) (a :: A') V F G N sp u' → post u') : wpX_finishThrowing post (xr_t w q (a :: A') V F G.2.2.2 N sp en vs vn ft fs fc ke ks kn cn ac gs) s :=
  xm_finishThrowing (d := A'.length) (a := a) (l := L.length) rfl B.2.1 B.2.2.2.2.1.1 B.1 (xo_cn B)
    (hp _ ⟨_, _, _, _, _, _, _, _, _, _, _, _, rfl, fun _ => ⟨rfl, fun _ => ⟨rfl, rfl⟩⟩, B.2.2.2.2.1, xr_pop B.2.2.2.2.2.1 B.1 xo_lv B.2.2.1 B.2.2.2.1, B.2.2.2.2.2.2⟩)
theorem xs_wop (B : xo_B w S A' a f L G ft fs fc ke ks kn cn ac gs) (hL : L.length + 2 ≤ 48) {t st : Nat} {c k1 k2 e0 s0 : Int32} {k3 n0 : Int64}
    (hk : st = 2 → gw_K w f.1 ≠ 14 → (gw_K w f.1 = 21 → ke (48 * a + L.length) = k1) ∧ (gk_hv k1 → ks (48 * a + L.length) = k2 ∧ kn (48 * a + L.length) = k3))
    (hm : M'.1 = true) {stt tt : Int32} (h1 : stt = nI st) (h2 : tt = nI t) (hp : ∀ u', xr_R w q M' (gk_su S a ((t, 0, c, e0, s0, n0) :: (f.1, st, f.2.2.1, k1, k2, k3) :: L)) (a :: A') V F G N sp u' → post u') :
    wpX_workOutPart post (xr_t w q (a :: A') V F G.2.2.2 N sp en vs vn ft fs fc ke ks kn cn ac gs) (nI (48 * a + L.length)) stt tt c := by
  subst h1 h2
  exact xm_wop (d := A'.length) (a := a) (l := L.length) rfl B.2.1 B.2.2.2.2.1.1 B.1 (xo_cn B) (by have := B.1; omega)
    (hp _ ⟨_, _, _, _, _, _, _, _, _, _, _, _, rfl, fun z => absurd (hm.symm.trans z) (by decide), B.2.2.2.2.1, xr_push B.2.2.2.2.2.1 B.1 xo_lv B.2.2.1 B.2.2.2.1 hL hk, B.2.2.2.2.2.2⟩)
theorem xs_in (hw : gw_S w) (B : xo_B w S A' a f L G ft fs fc ke ks kn cn ac gs) (hn : f.1 < gw_n w) {kd : Int32} {sg : Nat} (hk : gw_K w f.1 = kd) (hs : f.2.1 = sg) :
    vp_in (nI (48 * a + L.length)) 768 ∧ vp_in (ft (nI (48 * a + L.length)).toNatClampNeg) 48 ∧ gw_K w (ft (nI (48 * a + L.length)).toNatClampNeg).toNatClampNeg = kd ∧
    fs (nI (48 * a + L.length)).toNatClampNeg = nI sg ∧ ft (nI (48 * a + L.length)).toNatClampNeg = nI f.1 ∧ fc (nI (48 * a + L.length)).toNatClampNeg = f.2.2.1 := by
  have h := xo_f B
  have hl := xo_l B
  have ha := B.1
  have hn2 := hw.2.2.1
  have ek : (nI (48 * a + L.length)).toNatClampNeg = 48 * a + L.length := nI_clamp (by omega)
  have e1 : ft (48 * a + L.length) = nI f.1 := h.1
  have e2 : fs (48 * a + L.length) = nI f.2.1 := h.2.1
  have e3 : fc (48 * a + L.length) = f.2.2.1 := h.2.2.1
  rw [ek, e1, e2, e3, nI_clamp (by omega), hk, hs]
  exact ⟨vp_in_nI (by omega) (by decide), vp_in_nI (by omega) (by decide), rfl, rfl, rfl, rfl⟩
theorem xs_c0 {w : gw_T} {t : Nat} : nI t + 1 = nI (gw_c w t 0) := nI_1 t
theorem xs_c1 (hw : gw_S w) (hq : xq_S w q) {t : Nat} (ht : t < gw_n w) (ho : 2 ≤ gw_o w t) : vp_in (nI t + 1) 48 ∧ q.2.2.2.2.2.2.2.1 (nI t + 1).toNatClampNeg = nI (gw_c w t 1) := by
  have h0 := gw_cl hw ht (show 0 < gw_o w t by omega)
  have hn := hw.2.2.1
  have e : gw_c w t 0 = t + 1 := rfl
  rw [nI_1, nI_clamp (by omega), hq (t + 1) (by omega)]
  exact ⟨vp_in_nI (by omega) (by decide), rfl⟩
theorem xs_c2 (hw : gw_S w) (hq : xq_S w q) {t : Nat} (ht : t < gw_n w) (ho : 3 ≤ gw_o w t) : vp_in (nI (gw_c w t 1)) 48 ∧ q.2.2.2.2.2.2.2.1 (nI (gw_c w t 1)).toNatClampNeg = nI (gw_c w t 2) := by
  have h0 := gw_cl hw ht (show 1 < gw_o w t by omega)
  have hn := hw.2.2.1
  rw [nI_clamp (by omega), hq _ h0.2]
  exact ⟨vp_in_nI (by omega) (by decide), rfl⟩
theorem xs_room (hw : gw_S w) (I : gk_I w M S (a :: A') V F G nc sp) (hSa : S a = f :: L) (ho : 0 < gw_o w f.1) : L.length + 2 ≤ 48 := by
  obtain ⟨r, hr, hs⟩ := gk_Is I
  rw [hSa] at hs
  have h1 := gk_PTl hw L f.1 (hs.1 f L rfl)
  have h2 := gw_cl hw (hs.2 f (List.mem_cons_self ..)).1 ho
  have h3 := hw.2.2.1
  have e : gw_c w f.1 0 = f.1 + 1 := rfl
  omega
theorem xs_fo (I : gk_I w M S (a :: A') V F G nc sp) (hSa : S a = f :: L) : gk_FO w V F.2.2 G.2.2.2 (gk_cl G a) f := by
  obtain ⟨r, hr, hs⟩ := gk_Is I
  rw [hSa] at hs
  exact hs.2 f (List.mem_cons_self ..)
end
