def cy_L (op : Nat → Int32) : List Nat → Prop
  | [] => True
  | u :: L => op L.length = nI u ∧ (∀ v, v ∈ L → v < u) ∧ cy_L op L
theorem cy_Lc {op op' : Nat → Int32} : ∀ L, (∀ j, j < L.length → op' j = op j) → cy_L op L → cy_L op' L := by
  intro L
  induction L with
  | nil => exact fun _ _ => trivial
  | cons u L ih =>
    intro h hL
    refine ⟨?_, hL.2.1, ih (fun j hj => h j (by show j < L.length + 1; omega)) hL.2.2⟩
    rw [h L.length (by show L.length < L.length + 1; omega)]
    exact hL.1
theorem cy_Li {op : Nat → Int32} : ∀ L, cy_L op L → ∀ k, k < L.length → ∃ u, u ∈ L ∧ op k = nI u := by
  intro L
  induction L with
  | nil => intro _ k hk; exact absurd hk (Nat.not_lt_zero _)
  | cons u L ih =>
    intro hL k hk
    have hk2 : k < L.length + 1 := hk
    by_cases z : k = L.length
    · subst z
      exact ⟨u, List.mem_cons_self .., hL.1⟩
    · obtain ⟨v, hv, e⟩ := ih hL.2.2 k (by omega)
      exact ⟨v, List.mem_cons_of_mem _ hv, e⟩
theorem cy_Lk {op : Nat → Int32} : ∀ L, cy_L op L → ∀ u, u ∈ L → ∃ k, k < L.length ∧ op k = nI u := by
  intro L
  induction L with
  | nil => intro _ u hu; cases hu
  | cons v L ih =>
    intro hL u hu
    rcases List.mem_cons.mp hu with z | z
    · subst z
      exact ⟨L.length, Nat.lt_succ_self _, hL.1⟩
    · obtain ⟨k, hk, e⟩ := ih hL.2.2 u z
      exact ⟨k, Nat.lt_succ_of_lt hk, e⟩
theorem cy_Ln {op : Nat → Int32} {i : Nat} : ∀ L, cy_L op L → (∀ u, u ∈ L → u < i) → L.length ≤ i := by
  intro L
  induction L generalizing i with
  | nil => intro _ _; exact Nat.zero_le _
  | cons u L ih =>
    intro hL h
    have h1 := ih (i := u) hL.2.2 hL.2.1
    have h2 := h u (List.mem_cons_self ..)
    show L.length + 1 ≤ i
    omega
def cy_I (nt : Nat) (K : Nat → Int32) (e : Nat → Nat) (i : Nat) (ab as pt : Nat → Int32) : Prop :=
  (0 < i → ab 0 = -1) ∧ (∀ j, 0 < j → j < i → ab j = nI (tr_pa e j) ∧ as j = nI (tr_ix e j)) ∧
  (∀ p j, p < i → j < gs_o nt K p → (tr_c e p j < i → pt (3 * p + j) = nI (tr_c e p j)) ∧ (i ≤ tr_c e p j → pt (3 * p + j) = -1))
section
variable {f_drafted f_length f_place f_there f_chains f_functions f_generators f_active f_begins f_token f_chain f_how f_sort : Int32} {f_value : Int64} {f_steps f_endSort f_status : Int32} {f_endNumber : Int64} {f_over f_noted : Int32} {a_draftKind a_draftWith a_kind a_with a_above a_as a_part a_open a_means a_own a_yields a_binder a_outer a_holdsSort : Nat → Int32} {a_holds : Nat → Int64} {a_fnToken a_fnChain a_state a_gBody a_gChain a_gYield a_closing a_rowOf a_many a_wToken a_wOperand a_wChain a_wSort a_wHow : Nat → Int32} {a_wValue : Nat → Int64} {a_noteSort : Nat → Int32} {a_noteNumber : Nat → Int64}
theorem cy_lk2 {post : Int32 → Prop} {u m k : Nat} (hu : u < 48) (hk27 : k < 27) (hk : a_kind u = nI k) (hm : m ≤ gw_op (nI k)) (h1 : ∀ j, j < m → ∃ q, q < 2 ^ 31 ∧ a_part (3 * u + j) = nI q) (h2 : ∀ j, m ≤ j → j < gw_op (nI k) → a_part (3 * u + j) = -1)
    (hp : post (nI (gw_op (nI k) - m))) : ∀ d j, j + d = gw_op (nI k) → wY_lacks_4 post (nI u) f_drafted f_length f_place f_there f_chains f_functions f_generators f_active f_begins f_token f_chain f_how f_sort f_value f_steps f_endSort f_status f_endNumber f_over f_noted a_draftKind a_draftWith a_kind a_with a_above a_as a_part a_open a_means a_own a_yields a_binder a_outer a_holdsSort a_holds a_fnToken a_fnChain a_state a_gBody a_gChain a_gYield a_closing a_rowOf a_many a_wToken a_wOperand a_wChain a_wSort a_wHow a_wValue a_noteSort a_noteNumber (d + 1) (nI (j - m)) (nI j) := by
  have iv : vp_in (nI u) 48 := vp_in_nI hu (by decide)
  have eu : (nI u).toNatClampNeg = u := nI_clamp (by omega)
  have o3 := gs_op3 (nI k)
  intro d
  induction d with
  | zero =>
    intro j hj
    refine ⟨iv, ?_⟩
    rw [eu, hk]
    have hj : j = gw_op (nI k) := by omega
    subst hj
    exact ym_ops k hk27 (br_t (nI_le (Nat.le_refl _) (by omega)) hp)
  | succ d ih =>
    intro j hj
    refine ⟨iv, ?_⟩
    rw [eu, hk]
    have e3 : (3 : Int32) * nI u + nI j = nI (3 * u + j) := by rw [show (3 : Int32) = nI 3 from rfl, pk_mul, nI_add]
    refine ym_ops k hk27 (br_f (nI_ge (by omega) (by omega)) ?_)
    rw [e3]
    refine ⟨vp_in_nI (by omega) (by decide), ?_⟩
    rw [nI_clamp (by omega)]
    by_cases z : j < m
    · obtain ⟨q, hq, e⟩ := h1 j z
      refine br_t (by rw [e]; exact nI_pos' hq) (nm_r (nI_1 j) ?_)
      have := ih (j + 1) (by omega)
      rw [show j + 1 - m = j - m by omega] at this
      exact this
    · refine br_f (by rw [h2 j (by omega) (by omega)]; decide) (nm_r (nI_1 (j - m)) (nm_r (nI_1 j) ?_))
      have := ih (j + 1) (by omega)
      rw [show j + 1 - m = j - m + 1 by omega] at this
      exact this
theorem cy_lk {post : Int32 → Prop} {u m k : Nat} (hu : u < 48) (hk27 : k < 27) (hk : a_kind u = nI k) (hm : m ≤ gw_op (nI k)) (h1 : ∀ j, j < m → ∃ q, q < 2 ^ 31 ∧ a_part (3 * u + j) = nI q) (h2 : ∀ j, m ≤ j → j < gw_op (nI k) → a_part (3 * u + j) = -1)
    (hp : post (nI (gw_op (nI k) - m))) : wpY_lacks post (f_drafted, f_length, f_place, f_there, f_chains, f_functions, f_generators, f_active, f_begins, f_token, f_chain, f_how, f_sort, f_value, f_steps, f_endSort, f_status, f_endNumber, f_over, f_noted, a_draftKind, a_draftWith, a_kind, a_with, a_above, a_as, a_part, a_open, a_means, a_own, a_yields, a_binder, a_outer, a_holdsSort, a_holds, a_fnToken, a_fnChain, a_state, a_gBody, a_gChain, a_gYield, a_closing, a_rowOf, a_many, a_wToken, a_wOperand, a_wChain, a_wSort, a_wHow, a_wValue, a_noteSort, a_noteNumber) (nI u) := by
  have key : wY_lacks_4 post (nI u) f_drafted f_length f_place f_there f_chains f_functions f_generators f_active f_begins f_token f_chain f_how f_sort f_value f_steps f_endSort f_status f_endNumber f_over f_noted a_draftKind a_draftWith a_kind a_with a_above a_as a_part a_open a_means a_own a_yields a_binder a_outer a_holdsSort a_holds a_fnToken a_fnChain a_state a_gBody a_gChain a_gYield a_closing a_rowOf a_many a_wToken a_wOperand a_wChain a_wSort a_wHow a_wValue a_noteSort a_noteNumber (gw_op (nI k) + 1) (nI (0 - m)) (nI 0) := cy_lk2 hu hk27 hk hm h1 h2 hp (gw_op (nI k)) 0 (by omega)
  rw [Nat.zero_sub] at key
  exact ⟨_, key⟩
theorem cy_136 {post : Int32 → SY → Prop} (J : Int32 → Int32 → (Nat → Int32) → (Nat → Int32) → (Nat → Int32) → (Nat → Int32) → (Nat → Int32) → (Nat → Int32) → (Nat → Int32) → (Nat → Int32) → (Nat → Int32) → (Nat → Int32) → (Nat → Int32) → (Nat → Int32) → (Nat → Int32) → (Nat → Int32) → (Nat → Int64) → (Nat → Int32) → (Nat → Int32) → (Nat → Int32) → (Nat → Int32) → (Nat → Int32) → (Nat → Int32) → (Nat → Int32) → (Nat → Int32) → (Nat → Int32) → (Nat → Int32) → (Nat → Int32) → (Nat → Int32) → (Nat → Int32) → (Nat → Int32) → (Nat → Int64) → (Nat → Int32) → (Nat → Int64) → Prop) {l i : Nat} (hl : l < 49) (hp : J (nI (l + 1)) (nI (i + 1)) a_draftKind a_draftWith a_kind a_with a_above a_as a_part (upd a_open l (nI i)) a_means a_own a_yields a_binder a_outer a_holdsSort a_holds a_fnToken a_fnChain a_state a_gBody a_gChain a_gYield a_closing a_rowOf a_many a_wToken a_wOperand a_wChain a_wSort a_wHow a_wValue a_noteSort a_noteNumber) : wY_shape_136 post J (nI l) (nI i) f_drafted f_length f_place f_there f_chains f_functions f_generators f_active f_begins f_token f_chain f_how f_sort f_value f_steps f_endSort f_status f_endNumber f_over f_noted a_draftKind a_draftWith a_kind a_with a_above a_as a_part a_open a_means a_own a_yields a_binder a_outer a_holdsSort a_holds a_fnToken a_fnChain a_state a_gBody a_gChain a_gYield a_closing a_rowOf a_many a_wToken a_wOperand a_wChain a_wSort a_wHow a_wValue a_noteSort a_noteNumber :=
  nm_r (nI_1 l) ⟨vp_in_nI hl (by decide), nm_r (by rw [nI_clamp (by omega)]) (nm_r (nI_1 i) hp)⟩
end
section
variable {f_drafted f_length f_place f_there f_chains f_functions f_generators f_active f_begins f_token f_chain f_how f_sort : Int32} {f_value : Int64} {f_steps f_endSort f_status : Int32} {f_endNumber : Int64} {f_over f_noted : Int32} {a_draftKind a_draftWith a_kind a_with a_above a_as a_part a_open a_means a_own a_yields a_binder a_outer a_holdsSort : Nat → Int32} {a_holds : Nat → Int64} {a_fnToken a_fnChain a_state a_gBody a_gChain a_gYield a_closing a_rowOf a_many a_wToken a_wOperand a_wChain a_wSort a_wHow : Nat → Int32} {a_wValue : Nat → Int64} {a_noteSort : Nat → Int32} {a_noteNumber : Nat → Int64}
theorem cy_96 {post : Int32 → SY → Prop} (J : Int32 → Int32 → (Nat → Int32) → (Nat → Int32) → (Nat → Int32) → (Nat → Int32) → (Nat → Int32) → (Nat → Int32) → (Nat → Int32) → (Nat → Int32) → (Nat → Int32) → (Nat → Int32) → (Nat → Int32) → (Nat → Int32) → (Nat → Int32) → (Nat → Int32) → (Nat → Int64) → (Nat → Int32) → (Nat → Int32) → (Nat → Int32) → (Nat → Int32) → (Nat → Int32) → (Nat → Int32) → (Nat → Int32) → (Nat → Int32) → (Nat → Int32) → (Nat → Int32) → (Nat → Int32) → (Nat → Int32) → (Nat → Int32) → (Nat → Int32) → (Nat → Int64) → (Nat → Int32) → (Nat → Int64) → Prop) {l i : Nat} {x3 x4 : Int32} (hi : i < 48)
    (hp : ((x3 < 0 → wY_shape_136 post J (nI l) (nI i) f_drafted f_length f_place f_there f_chains f_functions f_generators f_active f_begins f_token f_chain f_how f_sort f_value f_steps f_endSort f_status f_endNumber f_over f_noted a_draftKind a_draftWith a_kind a_with a_above a_as (upd (upd (upd a_part (3 * i) (-1)) (3 * i + 1) (-1)) (3 * i + 2) (-1)) a_open a_means a_own a_yields a_binder a_outer a_holdsSort a_holds a_fnToken a_fnChain a_state a_gBody a_gChain a_gYield a_closing a_rowOf a_many a_wToken a_wOperand a_wChain a_wSort a_wHow a_wValue a_noteSort a_noteNumber) ∧
      (¬ x3 < 0 → (vp_in ((3 * x3) + x4) 144 ∧ ∀ y : Nat → Int32, y = upd (upd (upd (upd a_part (3 * i) (-1)) (3 * i + 1) (-1)) (3 * i + 2) (-1)) ((3 * x3) + x4).toNatClampNeg (nI i) → wY_shape_136 post J (nI l) (nI i) f_drafted f_length f_place f_there f_chains f_functions f_generators f_active f_begins f_token f_chain f_how f_sort f_value f_steps f_endSort f_status f_endNumber f_over f_noted a_draftKind a_draftWith a_kind a_with a_above a_as y a_open a_means a_own a_yields a_binder a_outer a_holdsSort a_holds a_fnToken a_fnChain a_state a_gBody a_gChain a_gYield a_closing a_rowOf a_many a_wToken a_wOperand a_wChain a_wSort a_wHow a_wValue a_noteSort a_noteNumber)))) :
    wY_shape_96 post J (nI l) (nI i) x3 x4 f_drafted f_length f_place f_there f_chains f_functions f_generators f_active f_begins f_token f_chain f_how f_sort f_value f_steps f_endSort f_status f_endNumber f_over f_noted 4 0 a_draftKind a_draftWith a_kind a_with a_above a_as a_part a_open a_means a_own a_yields a_binder a_outer a_holdsSort a_holds a_fnToken a_fnChain a_state a_gBody a_gChain a_gYield a_closing a_rowOf a_many a_wToken a_wOperand a_wChain a_wSort a_wHow a_wValue a_noteSort a_noteNumber := by
  have e0 : (3 : Int32) * nI i + 0 = nI (3 * i) := by rw [show (3 : Int32) = nI 3 from rfl, pk_mul, Int32.add_zero]
  have e1 : (3 : Int32) * nI i + 1 = nI (3 * i + 1) := by rw [show (3 : Int32) = nI 3 from rfl, pk_mul, nI_1]
  have e2 : (3 : Int32) * nI i + 2 = nI (3 * i + 2) := by rw [show (3 : Int32) = nI 3 from rfl, show (2 : Int32) = nI 2 from rfl, pk_mul, nI_add]
  refine br_f (by decide) ⟨by rw [e0]; exact vp_in_nI (by omega) (by decide), nm_r (e' := upd a_part (3 * i) (-1)) (by rw [e0, nI_clamp (by omega)]) (nm_r (e' := 1) (by decide) ?_)⟩
  refine br_f (by decide) ⟨by rw [e1]; exact vp_in_nI (by omega) (by decide), nm_r (e' := upd (upd a_part (3 * i) (-1)) (3 * i + 1) (-1)) (by rw [e1, nI_clamp (by omega)]) (nm_r (e' := 2) (by decide) ?_)⟩
  refine br_f (by decide) ⟨by rw [e2]; exact vp_in_nI (by omega) (by decide), nm_r (e' := upd (upd (upd a_part (3 * i) (-1)) (3 * i + 1) (-1)) (3 * i + 2) (-1)) (by rw [e2, nI_clamp (by omega)]) (nm_r (e' := 3) (by decide) ?_)⟩
  exact br_t (by decide) hp
end
theorem cy_p3 {pt : Nat → Int32} {i q : Nat} (h : q < 3 * i ∨ 3 * i + 3 ≤ q) : upd (upd (upd pt (3 * i) (-1)) (3 * i + 1) (-1)) (3 * i + 2) (-1) q = pt q := by
  rw [pk_un (by omega), pk_un (by omega), pk_un (by omega)]
theorem cy_p3i {pt : Nat → Int32} {i j : Nat} (h : j < 3) : upd (upd (upd pt (3 * i) (-1)) (3 * i + 1) (-1)) (3 * i + 2) (-1) (3 * i + j) = -1 := by
  have : j = 0 ∨ j = 1 ∨ j = 2 := by omega
  rcases this with rfl | rfl | rfl
  · rw [pk_un (by omega), pk_un (by omega)]
    exact pk_us
  · rw [pk_un (by omega)]
    exact pk_us
  · exact pk_us
section
variable {f_drafted f_length f_place f_there f_chains f_functions f_generators f_active f_begins f_token f_chain f_how f_sort : Int32} {f_value : Int64} {f_steps f_endSort f_status : Int32} {f_endNumber : Int64} {f_over f_noted : Int32} {a_draftKind a_draftWith a_kind a_with a_above a_as a_part a_open a_means a_own a_yields a_binder a_outer a_holdsSort : Nat → Int32} {a_holds : Nat → Int64} {a_fnToken a_fnChain a_state a_gBody a_gChain a_gYield a_closing a_rowOf a_many a_wToken a_wOperand a_wChain a_wSort a_wHow : Nat → Int32} {a_wValue : Nat → Int64} {a_noteSort : Nat → Int32} {a_noteNumber : Nat → Int64}
variable {nt : Nat} {e : Nat → Nat}
theorem cy_lko {post : Int32 → Prop} {i u m : Nat} (hnt : nt ≤ 48) (hi : i ≤ nt) (hkd : ∀ i, i < nt → ∃ k, k < 27 ∧ a_kind i = nI k) (h : tr_T (gs_o nt a_kind) e) (hI : cy_I nt a_kind e i a_above a_as a_part) (hu : u < i) (hm : m ≤ gs_o nt a_kind u)
    (h1 : ∀ j, j < m → tr_c e u j < i) (h2 : ∀ j, m ≤ j → j < gs_o nt a_kind u → i ≤ tr_c e u j) (hp : post (nI (gs_o nt a_kind u - m))) : wpY_lacks post (f_drafted, f_length, f_place, f_there, f_chains, f_functions, f_generators, f_active, f_begins, f_token, f_chain, f_how, f_sort, f_value, f_steps, f_endSort, f_status, f_endNumber, f_over, f_noted, a_draftKind, a_draftWith, a_kind, a_with, a_above, a_as, a_part, a_open, a_means, a_own, a_yields, a_binder, a_outer, a_holdsSort, a_holds, a_fnToken, a_fnChain, a_state, a_gBody, a_gChain, a_gYield, a_closing, a_rowOf, a_many, a_wToken, a_wOperand, a_wChain, a_wSort, a_wHow, a_wValue, a_noteSort, a_noteNumber) (nI u) := by
  obtain ⟨k, hk27, hk⟩ := hkd u (by omega)
  have ho := gs_oi nt a_kind u (by omega)
  rw [hk] at ho
  rw [ho] at hp hm
  refine cy_lk (by omega) hk27 hk hm (fun j hj => ⟨tr_c e u j, by have := h1 j hj; omega, (hI.2.2 u j hu (by omega)).1 (h1 j hj)⟩) (fun j hj1 hj2 => (hI.2.2 u j hu (by omega)).2 (h2 j hj1 (by omega))) hp
theorem cy_lk0 {post : Int32 → Prop} {i u : Nat} (hnt : nt ≤ 48) (hi : i ≤ nt) (hkd : ∀ i, i < nt → ∃ k, k < 27 ∧ a_kind i = nI k) (h : tr_T (gs_o nt a_kind) e) (hI : cy_I nt a_kind e i a_above a_as a_part) (hu : u < i) (he : e u ≤ i) (hp : post 0) : wpY_lacks post (f_drafted, f_length, f_place, f_there, f_chains, f_functions, f_generators, f_active, f_begins, f_token, f_chain, f_how, f_sort, f_value, f_steps, f_endSort, f_status, f_endNumber, f_over, f_noted, a_draftKind, a_draftWith, a_kind, a_with, a_above, a_as, a_part, a_open, a_means, a_own, a_yields, a_binder, a_outer, a_holdsSort, a_holds, a_fnToken, a_fnChain, a_state, a_gBody, a_gChain, a_gYield, a_closing, a_rowOf, a_many, a_wToken, a_wOperand, a_wChain, a_wSort, a_wHow, a_wValue, a_noteSort, a_noteNumber) (nI u) := by
  refine cy_lko hnt hi hkd h hI hu (Nat.le_refl _) (fun j hj => ?_) (fun j h1 h2 => by omega) (by rw [Nat.sub_self]; exact hp)
  have := (tr_cin h hj).2
  omega
theorem cy_par {i u : Nat} {L : List Nat} (h : tr_T (gs_o nt a_kind) e) (hu : u < i) (hd : ∀ v, v ∈ L → v < u) (hc : ∀ v, v < i → i < e v → v ∈ u :: L) (he : i < e u) : tr_pa e i = u ∧ tr_ix e i < gs_o nt a_kind u ∧ tr_c e u (tr_ix e i) = i := by
  obtain ⟨p, j, hp, hj, hcj⟩ := tr_par h _ u i (Nat.le_refl _) hu he
  have hpa := tr_pac h hj
  have hix := tr_ixc h hj (gs_o3 nt a_kind p)
  rw [hcj] at hpa hix
  have hin := tr_cin h hj
  rw [hcj] at hin
  have hpu : p = u := by
    rcases List.mem_cons.mp (hc p hin.1 hin.2) with z | z
    · exact z
    · have := hd p z
      omega
  subst hpu
  rw [hpa, hix]
  exact ⟨rfl, hj, hcj⟩
end
section
variable {f_drafted f_length f_place f_there f_chains f_functions f_generators f_active f_begins f_token f_chain f_how f_sort : Int32} {f_value : Int64} {f_steps f_endSort f_status : Int32} {f_endNumber : Int64} {f_over f_noted : Int32} {a_draftKind a_draftWith a_kind a_with a_above a_as a_part a_open a_means a_own a_yields a_binder a_outer a_holdsSort : Nat → Int32} {a_holds : Nat → Int64} {a_fnToken a_fnChain a_state a_gBody a_gChain a_gYield a_closing a_rowOf a_many a_wToken a_wOperand a_wChain a_wSort a_wHow : Nat → Int32} {a_wValue : Nat → Int64} {a_noteSort : Nat → Int32} {a_noteNumber : Nat → Int64}
variable {nt : Nat} {e : Nat → Nat}
theorem cy_pop {post : Int32 → SY → Prop} (J : Int32 → Int32 → (Nat → Int32) → (Nat → Int32) → (Nat → Int32) → (Nat → Int32) → (Nat → Int32) → (Nat → Int32) → (Nat → Int32) → (Nat → Int32) → (Nat → Int32) → (Nat → Int32) → (Nat → Int32) → (Nat → Int32) → (Nat → Int32) → (Nat → Int32) → (Nat → Int64) → (Nat → Int32) → (Nat → Int32) → (Nat → Int32) → (Nat → Int32) → (Nat → Int32) → (Nat → Int32) → (Nat → Int32) → (Nat → Int32) → (Nat → Int32) → (Nat → Int32) → (Nat → Int32) → (Nat → Int32) → (Nat → Int32) → (Nat → Int32) → (Nat → Int64) → (Nat → Int32) → (Nat → Int64) → Prop) {i : Nat} (hnt : nt ≤ 48) (hi0 : 0 < i) (hi : i < nt) (hie : i ≤ e 0) (hkd : ∀ i, i < nt → ∃ k, k < 27 ∧ a_kind i = nI k) (h : tr_T (gs_o nt a_kind) e) (hI : cy_I nt a_kind e i a_above a_as a_part)
    (hret : e 0 = i → post (nI i) (f_drafted, f_length, f_place, f_there, f_chains, f_functions, f_generators, f_active, f_begins, f_token, f_chain, f_how, f_sort, f_value, f_steps, f_endSort, f_status, f_endNumber, f_over, f_noted, a_draftKind, a_draftWith, a_kind, a_with, a_above, a_as, a_part, a_open, a_means, a_own, a_yields, a_binder, a_outer, a_holdsSort, a_holds, a_fnToken, a_fnChain, a_state, a_gBody, a_gChain, a_gYield, a_closing, a_rowOf, a_many, a_wToken, a_wOperand, a_wChain, a_wSort, a_wHow, a_wValue, a_noteSort, a_noteNumber))
    (hgo : ∀ u L, u < i → i < e u → (∀ v, v ∈ L → v < u ∧ i < e v) → (∀ v, v < i → i < e v → v ∈ u :: L) → cy_L a_open (u :: L) → tr_pa e i = u → tr_ix e i < gs_o nt a_kind u → tr_c e u (tr_ix e i) = i →
      wY_shape_78 post J (nI (L.length + 1)) (nI i) (nI u) (nI (tr_ix e i)) f_drafted f_length f_place f_there f_chains f_functions f_generators f_active f_begins f_token f_chain f_how f_sort f_value f_steps f_endSort f_status f_endNumber f_over f_noted a_draftKind a_draftWith a_kind a_with a_above a_as a_part a_open a_means a_own a_yields a_binder a_outer a_holdsSort a_holds a_fnToken a_fnChain a_state a_gBody a_gChain a_gYield a_closing a_rowOf a_many a_wToken a_wOperand a_wChain a_wSort a_wHow a_wValue a_noteSort a_noteNumber) :
    ∀ L : List Nat, (∀ u, u ∈ L → u < i ∧ i ≤ e u) → (∀ u, u < i → i < e u → u ∈ L) → cy_L a_open L → wY_shape_21 post J (nI i) f_drafted f_length f_place f_there f_chains f_functions f_generators f_active f_begins f_token f_chain f_how f_sort f_value f_steps f_endSort f_status f_endNumber f_over f_noted a_draftKind a_draftWith a_kind a_with a_above a_as a_part a_open a_means a_own a_yields a_binder a_outer a_holdsSort a_holds a_fnToken a_fnChain a_state a_gBody a_gChain a_gYield a_closing a_rowOf a_many a_wToken a_wOperand a_wChain a_wSort a_wHow a_wValue a_noteSort a_noteNumber (L.length + 1) (nI L.length) := by
  intro L
  induction L with
  | nil =>
    intro h1 h2 h3
    refine br_t (by decide) (br_t rfl (hret ?_))
    by_cases z : i < e 0
    · have := h2 0 hi0 z
      cases this
    · omega
  | cons u L ih =>
    intro h1 h2 h3
    have hu := h1 u (List.mem_cons_self ..)
    have hlen := cy_Ln (u :: L) h3 (fun v hv => (h1 v hv).1)
    have hlen2 : L.length + 1 ≤ i := hlen
    have el : nI (u :: L).length - 1 = nI L.length := nI_pred _
    have elc : (nI L.length).toNatClampNeg = L.length := nI_clamp (by omega)
    have i49 : vp_in (nI L.length) 49 := vp_in_nI (by omega) (by decide)
    refine br_f (nI_nle (n := L.length + 1) (by omega) (by omega)) ?_
    rw [el]
    refine ⟨i49, ?_⟩
    rw [elc, h3.1]
    by_cases z : e u = i
    · refine cy_lk0 hnt (by omega) hkd h hI hu.1 (by omega) (br_t rfl (nm_r (e' := nI L.length) (pk_m1 _) (ih (fun v hv => h1 v (List.mem_cons_of_mem _ hv)) ?_ h3.2.2)))
      intro v hv1 hv2
      rcases List.mem_cons.mp (h2 v hv1 hv2) with y | y
      · subst y
        omega
      · exact y
    · have hlt : i < e u := by omega
      have hp := cy_par h hu.1 h3.2.1 h2 hlt
      obtain ⟨k, hk27, hk⟩ := hkd u (by omega)
      have ho := gs_oi nt a_kind u (by omega)
      have o3 := gs_o3 nt a_kind u
      have lk : ∀ post' : Int32 → Prop, post' (nI (gs_o nt a_kind u - tr_ix e i)) → wpY_lacks post' (f_drafted, f_length, f_place, f_there, f_chains, f_functions, f_generators, f_active, f_begins, f_token, f_chain, f_how, f_sort, f_value, f_steps, f_endSort, f_status, f_endNumber, f_over, f_noted, a_draftKind, a_draftWith, a_kind, a_with, a_above, a_as, a_part, a_open, a_means, a_own, a_yields, a_binder, a_outer, a_holdsSort, a_holds, a_fnToken, a_fnChain, a_state, a_gBody, a_gChain, a_gYield, a_closing, a_rowOf, a_many, a_wToken, a_wOperand, a_wChain, a_wSort, a_wHow, a_wValue, a_noteSort, a_noteNumber) (nI u) := by
        intro post' hq
        refine cy_lko hnt (by omega) hkd h hI hu.1 (Nat.le_of_lt hp.2.1) (fun j hj => ?_) (fun j hj1 hj2 => ?_) hq
        · have := tr_cm h u j (tr_ix e i) hj
          rw [hp.2.2] at this
          exact this
        · have := tr_cme h u (tr_ix e i) j hj1
          rw [hp.2.2] at this
          exact this
      refine lk _ (br_f (nI_ne0 (by omega) (by omega)) (br_f (nI_ne0 (n := L.length + 1) (by omega) (by omega)) ?_))
      rw [el]
      refine ⟨i49, nm_r (e' := nI u) (by rw [elc]; exact h3.1) ⟨vp_in_nI (by omega) (by decide), ?_⟩⟩
      rw [nI_clamp (by omega), hk]
      refine ym_ops k hk27 (lk _ (nm_r (e' := nI (tr_ix e i)) ?_ (hgo u L hu.1 hlt ?_ h2 h3 hp.1 hp.2.1 hp.2.2)))
      · rw [hk] at ho
        rw [← ho, pk_sub (by omega)]
        exact congrArg nI (by have := hp.2.1; omega)
      · intro v hv
        have h4 := h3.2.1 v hv
        have h5 := h1 v (List.mem_cons_of_mem _ hv)
        have h6 := tr_nest h _ v u (Nat.le_refl _) (by omega) (by omega)
        exact ⟨h4, by omega⟩
end
