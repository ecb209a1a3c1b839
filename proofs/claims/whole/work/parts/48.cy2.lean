section
variable {f_drafted f_length f_place f_there f_chains f_functions f_generators f_active f_begins f_token f_chain f_how f_sort : Int32} {f_value : Int64} {f_steps f_endSort f_status : Int32} {f_endNumber : Int64} {f_over f_noted : Int32} {a_draftKind a_draftWith a_kind a_with a_above a_as a_part a_open a_means a_own a_yields a_binder a_outer a_holdsSort : Nat → Int32} {a_holds : Nat → Int64} {a_fnToken a_fnChain a_state a_gBody a_gChain a_gYield a_closing a_rowOf a_many a_wToken a_wOperand a_wChain a_wSort a_wHow : Nat → Int32} {a_wValue : Nat → Int64} {a_noteSort : Nat → Int32} {a_noteNumber : Nat → Int64}
theorem cy_78 {post : Int32 → SY → Prop} (J : Int32 → Int32 → (Nat → Int32) → (Nat → Int32) → (Nat → Int32) → (Nat → Int32) → (Nat → Int32) → (Nat → Int32) → (Nat → Int32) → (Nat → Int32) → (Nat → Int32) → (Nat → Int32) → (Nat → Int32) → (Nat → Int32) → (Nat → Int32) → (Nat → Int32) → (Nat → Int64) → (Nat → Int32) → (Nat → Int32) → (Nat → Int32) → (Nat → Int32) → (Nat → Int32) → (Nat → Int32) → (Nat → Int32) → (Nat → Int32) → (Nat → Int32) → (Nat → Int32) → (Nat → Int32) → (Nat → Int32) → (Nat → Int32) → (Nat → Int32) → (Nat → Int64) → (Nat → Int32) → (Nat → Int64) → Prop) {l i : Nat} {x3 x4 : Int32} (hi : i < 48) (hl : l < 49)
    (h1 : x3 < 0 → J (nI (l + 1)) (nI (i + 1)) a_draftKind a_draftWith a_kind a_with (upd a_above i x3) (upd a_as i x4) (upd (upd (upd a_part (3 * i) (-1)) (3 * i + 1) (-1)) (3 * i + 2) (-1)) (upd a_open l (nI i)) a_means a_own a_yields a_binder a_outer a_holdsSort a_holds a_fnToken a_fnChain a_state a_gBody a_gChain a_gYield a_closing a_rowOf a_many a_wToken a_wOperand a_wChain a_wSort a_wHow a_wValue a_noteSort a_noteNumber)
    (h2 : ¬ x3 < 0 → ∃ u j, x3 = nI u ∧ x4 = nI j ∧ u < 48 ∧ j < 3 ∧ J (nI (l + 1)) (nI (i + 1)) a_draftKind a_draftWith a_kind a_with (upd a_above i x3) (upd a_as i x4) (upd (upd (upd (upd a_part (3 * i) (-1)) (3 * i + 1) (-1)) (3 * i + 2) (-1)) (3 * u + j) (nI i)) (upd a_open l (nI i)) a_means a_own a_yields a_binder a_outer a_holdsSort a_holds a_fnToken a_fnChain a_state a_gBody a_gChain a_gYield a_closing a_rowOf a_many a_wToken a_wOperand a_wChain a_wSort a_wHow a_wValue a_noteSort a_noteNumber) :
    wY_shape_78 post J (nI l) (nI i) x3 x4 f_drafted f_length f_place f_there f_chains f_functions f_generators f_active f_begins f_token f_chain f_how f_sort f_value f_steps f_endSort f_status f_endNumber f_over f_noted a_draftKind a_draftWith a_kind a_with a_above a_as a_part a_open a_means a_own a_yields a_binder a_outer a_holdsSort a_holds a_fnToken a_fnChain a_state a_gBody a_gChain a_gYield a_closing a_rowOf a_many a_wToken a_wOperand a_wChain a_wSort a_wHow a_wValue a_noteSort a_noteNumber := by
  have iv : vp_in (nI i) 49 := vp_in_nI (by omega) (by decide)
  have ei : (nI i).toNatClampNeg = i := nI_clamp (by omega)
  refine ⟨iv, nm_r (e' := upd a_above i x3) (by rw [ei]) ⟨iv, nm_r (e' := upd a_as i x4) (by rw [ei]) ⟨4, ?_⟩⟩⟩
  refine cy_96 J hi (br_c (fun z => ?_) (fun z => ?_))
  · exact cy_136 J hl (h1 z)
  · obtain ⟨u, j, rfl, rfl, hu, hj, hJ⟩ := h2 z
    have e3 : (3 : Int32) * nI u + nI j = nI (3 * u + j) := by rw [show (3 : Int32) = nI 3 from rfl, pk_mul, nI_add]
    rw [e3]
    refine ⟨vp_in_nI (by omega) (by decide), nm_r (by rw [nI_clamp (by omega)]) ?_⟩
    exact cy_136 J hl hJ
end
theorem cy_ms {o e : Nat → Nat} (h : tr_T o e) (u i : Nat) : ∀ b, ∃ m, m ≤ b ∧ (∀ j, j < m → tr_c e u j < i) ∧ (∀ j, m ≤ j → j < b → i ≤ tr_c e u j) := by
  intro b
  induction b with
  | zero => exact ⟨0, Nat.le_refl _, fun j hj => absurd hj (Nat.not_lt_zero _), fun j _ hj => absurd hj (Nat.not_lt_zero _)⟩
  | succ b ih =>
    obtain ⟨m, h1, h2, h3⟩ := ih
    by_cases z : m = b
    · subst z
      by_cases y : tr_c e u m < i
      · refine ⟨m + 1, Nat.le_refl _, fun j hj => ?_, fun j h4 h5 => by omega⟩
        by_cases q : j = m
        · subst q; exact y
        · exact h2 j (by omega)
      · refine ⟨m, by omega, h2, fun j h4 h5 => ?_⟩
        have : j = m := by omega
        subst this
        omega
    · refine ⟨m, by omega, h2, fun j h4 h5 => ?_⟩
      by_cases q : j = b
      · subst q
        have a := h3 m (Nat.le_refl _) (by omega)
        have c := tr_cm h u m j (by omega)
        omega
      · exact h3 j h4 (by omega)
section
variable {f_drafted f_length f_place f_there f_chains f_functions f_generators f_active f_begins f_token f_chain f_how f_sort : Int32} {f_value : Int64} {f_steps f_endSort f_status : Int32} {f_endNumber : Int64} {f_over f_noted : Int32} {a_draftKind a_draftWith a_kind a_with a_above a_as a_part a_open a_means a_own a_yields a_binder a_outer a_holdsSort : Nat → Int32} {a_holds : Nat → Int64} {a_fnToken a_fnChain a_state a_gBody a_gChain a_gYield a_closing a_rowOf a_many a_wToken a_wOperand a_wChain a_wSort a_wHow : Nat → Int32} {a_wValue : Nat → Int64} {a_noteSort : Nat → Int32} {a_noteNumber : Nat → Int64}
variable {nt : Nat} {e : Nat → Nat}
theorem cy_A {post : Int32 → SY → Prop} {L : List Nat} (hnt : nt ≤ 48) (hn0 : 0 < nt) (el : f_length = nI nt) (hkd : ∀ i, i < nt → ∃ k, k < 27 ∧ a_kind i = nI k) (h : tr_T (gs_o nt a_kind) e) (hI : cy_I nt a_kind e nt a_above a_as a_part)
    (hL : ∀ u, u ∈ L → u < nt ∧ e u ≤ nt) (hop : cy_L a_open L) (hp : post (-1) (f_drafted, f_length, f_place, f_there, f_chains, f_functions, f_generators, f_active, f_begins, f_token, f_chain, f_how, f_sort, f_value, f_steps, f_endSort, f_status, f_endNumber, f_over, f_noted, a_draftKind, a_draftWith, a_kind, a_with, a_above, a_as, a_part, a_open, a_means, a_own, a_yields, a_binder, a_outer, a_holdsSort, a_holds, a_fnToken, a_fnChain, a_state, a_gBody, a_gChain, a_gYield, a_closing, a_rowOf, a_many, a_wToken, a_wOperand, a_wChain, a_wSort, a_wHow, a_wValue, a_noteSort, a_noteNumber)) : ∀ d k, k + d = L.length → wY_shape_154 post (nI L.length) f_drafted f_length f_place f_there f_chains f_functions f_generators f_active f_begins f_token f_chain f_how f_sort f_value f_steps f_endSort f_status f_endNumber f_over f_noted a_draftKind a_draftWith a_kind a_with a_above a_as a_part a_open a_means a_own a_yields a_binder a_outer a_holdsSort a_holds a_fnToken a_fnChain a_state a_gBody a_gChain a_gYield a_closing a_rowOf a_many a_wToken a_wOperand a_wChain a_wSort a_wHow a_wValue a_noteSort a_noteNumber (d + 1) (nI k) := by
  have hlen := cy_Ln L hop (fun v hv => (hL v hv).1)
  intro d
  induction d with
  | zero =>
    intro k hk
    exact br_t (nI_le (by omega) (by omega)) (br_f (by rw [el]; exact nI_ne0 hn0 (by omega)) hp)
  | succ d ih =>
    intro k hk
    obtain ⟨u, hu, eu⟩ := cy_Li L hop k (by omega)
    refine br_f (nI_ge (by omega) (by omega)) ⟨vp_in_nI (by omega) (by decide), ?_⟩
    rw [nI_clamp (by omega), eu]
    exact cy_lk0 hnt (Nat.le_refl _) hkd h hI (hL u hu).1 (hL u hu).2 (br_t (by decide) (nm_r (nI_1 k) (ih (k + 1) (by omega))))
theorem cy_B {post : Int32 → SY → Prop} {L : List Nat} {k0 u0 m0 : Nat} (hnt : nt ≤ 48) (el : f_length = nI nt) (hkd : ∀ i, i < nt → ∃ k, k < 27 ∧ a_kind i = nI k) (h : tr_T (gs_o nt a_kind) e) (hI : cy_I nt a_kind e nt a_above a_as a_part)
    (hL : ∀ u, u ∈ L → u < nt) (hop : cy_L a_open L) (hk0 : k0 < L.length) (ek0 : a_open k0 = nI u0) (hu0 : u0 < nt) (hm0 : m0 < gs_o nt a_kind u0) (hm1 : ∀ j, j < m0 → tr_c e u0 j < nt) (hm2 : ∀ j, m0 ≤ j → j < gs_o nt a_kind u0 → nt ≤ tr_c e u0 j) (hp : post (nI nt) (f_drafted, f_length, f_place, f_there, f_chains, f_functions, f_generators, f_active, f_begins, f_token, f_chain, f_how, f_sort, f_value, f_steps, f_endSort, f_status, f_endNumber, f_over, f_noted, a_draftKind, a_draftWith, a_kind, a_with, a_above, a_as, a_part, a_open, a_means, a_own, a_yields, a_binder, a_outer, a_holdsSort, a_holds, a_fnToken, a_fnChain, a_state, a_gBody, a_gChain, a_gYield, a_closing, a_rowOf, a_many, a_wToken, a_wOperand, a_wChain, a_wSort, a_wHow, a_wValue, a_noteSort, a_noteNumber)) :
    ∀ d k, k + d = L.length → k ≤ k0 → wY_shape_154 post (nI L.length) f_drafted f_length f_place f_there f_chains f_functions f_generators f_active f_begins f_token f_chain f_how f_sort f_value f_steps f_endSort f_status f_endNumber f_over f_noted a_draftKind a_draftWith a_kind a_with a_above a_as a_part a_open a_means a_own a_yields a_binder a_outer a_holdsSort a_holds a_fnToken a_fnChain a_state a_gBody a_gChain a_gYield a_closing a_rowOf a_many a_wToken a_wOperand a_wChain a_wSort a_wHow a_wValue a_noteSort a_noteNumber (d + 1) (nI k) := by
  have hlen := cy_Ln L hop hL
  intro d
  induction d with
  | zero => intro k hk hk2; omega
  | succ d ih =>
    intro k hk hk2
    refine br_f (nI_ge (by omega) (by omega)) ⟨vp_in_nI (by omega) (by decide), ?_⟩
    rw [nI_clamp (by omega)]
    by_cases z : k = k0
    · subst z
      rw [ek0]
      have o3 := gs_o3 nt a_kind u0
      refine cy_lko hnt (Nat.le_refl _) hkd h hI hu0 (Nat.le_of_lt hm0) hm1 hm2 (br_f (nI_nle (by omega) (by omega)) ?_)
      rw [el]
      subst el
      exact hp
    · obtain ⟨u, hu, eu⟩ := cy_Li L hop k (by omega)
      rw [eu]
      obtain ⟨m, q1, q2, q3⟩ := cy_ms h u nt (gs_o nt a_kind u)
      refine cy_lko hnt (Nat.le_refl _) hkd h hI (hL u hu) q1 q2 q3 (br_c (fun _ => nm_r (nI_1 k) (ih (k + 1) (by omega) (by omega))) (fun _ => ?_))
      rw [el]
      subst el
      exact hp
theorem cy_next {i l u : Nat} {L : List Nat} (hi0 : 0 < i) (hi : i < nt) (h : tr_T (gs_o nt a_kind) e) (hI : cy_I nt a_kind e i a_above a_as a_part) (hu : u < i) (hpa : tr_pa e i = u) (hix : tr_ix e i < gs_o nt a_kind u) (hc : tr_c e u (tr_ix e i) = i) :
    cy_I nt a_kind e (i + 1) (upd a_above i (nI u)) (upd a_as i (nI (tr_ix e i))) (upd (upd (upd (upd a_part (3 * i) (-1)) (3 * i + 1) (-1)) (3 * i + 2) (-1)) (3 * u + tr_ix e i) (nI i)) := by
  have o3 := gs_o3 nt a_kind
  have ou := o3 u
  refine ⟨fun _ => by rw [pk_un (by omega)]; exact hI.1 hi0, ?_, ?_⟩
  · intro j h1 h2
    by_cases z : j = i
    · subst z
      rw [pk_us, pk_us, hpa]
      exact ⟨rfl, rfl⟩
    · rw [pk_un z, pk_un z]
      exact hI.2.1 j h1 (by omega)
  · intro p j hp hj
    have op := o3 p
    by_cases z : p = i
    · subst z
      have hg := tr_cgt h p j
      refine ⟨fun y => by omega, fun _ => ?_⟩
      rw [pk_un (by omega), cy_p3i (by omega)]
    · have q := hI.2.2 p j (by omega) hj
      by_cases y : p = u ∧ j = tr_ix e i
      · obtain ⟨rfl, rfl⟩ := y
        refine ⟨fun _ => ?_, fun y => by omega⟩
        rw [pk_us, hc]
      · have hne : 3 * p + j ≠ 3 * u + tr_ix e i := by
          intro w
          apply y
          omega
        have hne2 : tr_c e p j ≠ i := by
          intro w
          apply y
          exact tr_uniq h hj hix (w.trans hc.symm)
        refine ⟨fun w => ?_, fun w => ?_⟩
        · rw [pk_un hne, cy_p3 (by omega)]
          exact q.1 (by omega)
        · rw [pk_un hne, cy_p3 (by omega)]
          exact q.2 (by omega)
end
section
variable {f_drafted f_length f_place f_there f_chains f_functions f_generators f_active f_begins f_token f_chain f_how f_sort : Int32} {f_value : Int64} {f_steps f_endSort f_status : Int32} {f_endNumber : Int64} {f_over f_noted : Int32} {a_draftKind a_draftWith a_kind a_with a_above a_as a_part a_open a_means a_own a_yields a_binder a_outer a_holdsSort : Nat → Int32} {a_holds : Nat → Int64} {a_fnToken a_fnChain a_state a_gBody a_gChain a_gYield a_closing a_rowOf a_many a_wToken a_wOperand a_wChain a_wSort a_wHow : Nat → Int32} {a_wValue : Nat → Int64} {a_noteSort : Nat → Int32} {a_noteNumber : Nat → Int64}
variable {nt : Nat} {e : Nat → Nat}
theorem cy_4 {post : Int32 → SY → Prop} (hnt : nt ≤ 48) (el : f_length = nI nt) (hkd : ∀ i, i < nt → ∃ k, k < 27 ∧ a_kind i = nI k) (h : tr_T (gs_o nt a_kind) e)
    (hfin : ∀ ab as pt op : Nat → Int32, (e 0 = nt → cy_I nt a_kind e nt ab as pt) → post (cm_pl (e 0) nt) (f_drafted, f_length, f_place, f_there, f_chains, f_functions, f_generators, f_active, f_begins, f_token, f_chain, f_how, f_sort, f_value, f_steps, f_endSort, f_status, f_endNumber, f_over, f_noted, a_draftKind, a_draftWith, a_kind, a_with, ab, as, pt, op, a_means, a_own, a_yields, a_binder, a_outer, a_holdsSort, a_holds, a_fnToken, a_fnChain, a_state, a_gBody, a_gChain, a_gYield, a_closing, a_rowOf, a_many, a_wToken, a_wOperand, a_wChain, a_wSort, a_wHow, a_wValue, a_noteSort, a_noteNumber)) :
    ∀ d i (ab as pt op : Nat → Int32) (L : List Nat), i + d = nt → i ≤ e 0 → cy_I nt a_kind e i ab as pt → (∀ u, u ∈ L ↔ u < i ∧ i ≤ e u) → cy_L op L →
    wY_shape_4 post f_drafted f_length f_place f_there f_chains f_functions f_generators f_active f_begins f_token f_chain f_how f_sort f_value f_steps f_endSort f_status f_endNumber f_over f_noted (d + 1) (nI L.length) (nI i) a_draftKind a_draftWith a_kind a_with ab as pt op a_means a_own a_yields a_binder a_outer a_holdsSort a_holds a_fnToken a_fnChain a_state a_gBody a_gChain a_gYield a_closing a_rowOf a_many a_wToken a_wOperand a_wChain a_wSort a_wHow a_wValue a_noteSort a_noteNumber := by
  intro d
  induction d with
  | zero =>
    intro i ab as pt op L hi hie hI hL hop
    have hi : i = nt := by omega
    subst hi
    have hlt : ∀ u, u ∈ L → u < i := fun u hu => ((hL u).mp hu).1
    have hlen := cy_Ln L hop hlt
    refine br_t (by rw [el]; exact nI_le (Nat.le_refl _) (by omega)) ⟨L.length + 1, ?_⟩
    by_cases z : e 0 = i
    · have hn0 : 0 < i := by have := h.2 0; omega
      have hf := hfin ab as pt op (fun _ => hI)
      rw [cm_pl0 z] at hf
      refine cy_A hnt hn0 el hkd h hI (fun u hu => ⟨hlt u hu, ?_⟩) hop hf L.length 0 (by omega)
      have := tr_nest h _ 0 u (Nat.le_refl _) (by omega) (by have := hlt u hu; omega)
      omega
    · have hf := hfin ab as pt op (fun y => absurd y z)
      rw [cm_pl2 (by omega)] at hf
      by_cases y : i = 0
      · subst y
        have hLn : L = [] := by
          cases L with
          | nil => rfl
          | cons u L => exact absurd (hlt u (List.mem_cons_self ..)) (Nat.not_lt_zero _)
        subst hLn
        exact br_t (by decide) (br_t (by rw [el]; rfl) hf)
      · have hp := tr_pk (k := i) h (gs_o3 i a_kind) (by omega) (by omega)
        have hin := tr_cin h hp.2.1
        rw [hp.2.2] at hin
        obtain ⟨k0, hk0, ek0⟩ := cy_Lk L hop (tr_pa e i) ((hL _).mpr ⟨hp.1, by omega⟩)
        refine cy_B hnt el hkd h hI hlt hop hk0 ek0 hp.1 hp.2.1 (fun j hj => ?_) (fun j hj1 hj2 => ?_) hf L.length 0 (by omega) (Nat.zero_le _)
        · have := tr_cm h (tr_pa e i) j (tr_ix e i) hj
          rw [hp.2.2] at this
          exact this
        · have := tr_cme h (tr_pa e i) (tr_ix e i) j hj1
          rw [hp.2.2] at this
          exact this
  | succ d ih =>
    intro i ab as pt op L hi hie hI hL hop
    have hlt : ∀ u, u ∈ L → u < i := fun u hu => ((hL u).mp hu).1
    have hlen := cy_Ln L hop hlt
    refine br_f (by rw [el]; exact nI_ge (by omega) (by omega)) ?_
    by_cases z : i = 0
    · subst z
      have hLn : L = [] := by
        cases L with
        | nil => rfl
        | cons u L => exact absurd (hlt u (List.mem_cons_self ..)) (Nat.not_lt_zero _)
      subst hLn
      refine br_t (by decide) ?_
      refine cy_78 (l := 0) (i := 0) _ (by omega) (by omega) (fun _ => ?_) (fun y => absurd (by decide) y)
      refine ih 1 _ _ _ _ [0] (by omega) (by have := h.2 0; omega) ⟨fun _ => pk_us, fun j h1 h2 => by omega, ?_⟩ ?_ ⟨pk_us, fun v hv => (by cases hv), trivial⟩
      · intro p j hp hj
        have : p = 0 := by omega
        subst this
        have hg := tr_cgt h 0 j
        have o3 := gs_o3 nt a_kind 0
        exact ⟨fun y => by omega, fun _ => cy_p3i (i := 0) (by omega)⟩
      · intro u
        constructor
        · intro hu
          rcases List.mem_cons.mp hu with y | y
          · subst y
            exact ⟨by omega, by have := h.2 0; omega⟩
          · cases y
        · intro hu
          have : u = 0 := by omega
          subst this
          exact List.mem_cons_self ..
    · refine br_f (nI_nle (by omega) (by omega)) ⟨L.length + 1, ?_⟩
      refine cy_pop _ hnt (by omega) (by omega) hie hkd h hI ?_ ?_ L (fun u hu => (hL u).mp hu) (fun u h1 h2 => (hL u).mpr ⟨h1, by omega⟩) hop
      · intro y
        have hf := hfin ab as pt op (fun q => by omega)
        rw [cm_pl1 (by omega), y] at hf
        exact hf
      · intro u L2 hu hue hL2 hc2 hop2 hpa hix hc
        have hlen2 : L2.length + 1 ≤ i := cy_Ln (u :: L2) hop2 (fun v hv => by
          rcases List.mem_cons.mp hv with q | q
          · omega
          · have := (hL2 v q).1; omega)
        have o3 := gs_o3 nt a_kind u
        refine cy_78 (l := L2.length + 1) _ (by omega) (by omega) (fun y => absurd y (nI_pos (by omega))) (fun _ => ⟨u, tr_ix e i, rfl, rfl, by omega, by omega, ?_⟩)
        refine ih (i + 1) _ _ _ _ (i :: u :: L2) (by omega) ?_ (cy_next (l := 0) (L := []) (by omega) (by omega) h hI hu hpa hix hc) ?_ ⟨pk_us, ?_, cy_Lc (u :: L2) (fun j hj => pk_un (by have : j < L2.length + 1 := hj; omega)) hop2⟩
        · by_cases q : i < e 0
          · omega
          · have := tr_nest h _ 0 u (Nat.le_refl _) (by omega) (by omega)
            omega
        · intro v
          constructor
          · intro hv
            rcases List.mem_cons.mp hv with q | hv
            · subst q
              exact ⟨by omega, h.2 _⟩
            · rcases List.mem_cons.mp hv with q | hv
              · subst q
                exact ⟨by omega, hue⟩
              · have := hL2 v hv
                exact ⟨by omega, this.2⟩
          · intro hv
            by_cases q : v = i
            · subst q
              exact List.mem_cons_self ..
            · exact List.mem_cons_of_mem _ (hc2 v (by omega) (by omega))
        · intro v hv
          rcases List.mem_cons.mp hv with q | hv
          · omega
          · have := (hL2 v hv).1
            omega
theorem cy_shape {post : Int32 → SY → Prop} (hnt : nt ≤ 48) (el : f_length = nI nt) (hkd : ∀ i, i < nt → ∃ k, k < 27 ∧ a_kind i = nI k) (h : tr_T (gs_o nt a_kind) e)
    (hfin : ∀ ab as pt op : Nat → Int32, (e 0 = nt → cy_I nt a_kind e nt ab as pt) → post (cm_pl (e 0) nt) (f_drafted, f_length, f_place, f_there, f_chains, f_functions, f_generators, f_active, f_begins, f_token, f_chain, f_how, f_sort, f_value, f_steps, f_endSort, f_status, f_endNumber, f_over, f_noted, a_draftKind, a_draftWith, a_kind, a_with, ab, as, pt, op, a_means, a_own, a_yields, a_binder, a_outer, a_holdsSort, a_holds, a_fnToken, a_fnChain, a_state, a_gBody, a_gChain, a_gYield, a_closing, a_rowOf, a_many, a_wToken, a_wOperand, a_wChain, a_wSort, a_wHow, a_wValue, a_noteSort, a_noteNumber)) : wpY_shape post (f_drafted, f_length, f_place, f_there, f_chains, f_functions, f_generators, f_active, f_begins, f_token, f_chain, f_how, f_sort, f_value, f_steps, f_endSort, f_status, f_endNumber, f_over, f_noted, a_draftKind, a_draftWith, a_kind, a_with, a_above, a_as, a_part, a_open, a_means, a_own, a_yields, a_binder, a_outer, a_holdsSort, a_holds, a_fnToken, a_fnChain, a_state, a_gBody, a_gChain, a_gYield, a_closing, a_rowOf, a_many, a_wToken, a_wOperand, a_wChain, a_wSort, a_wHow, a_wValue, a_noteSort, a_noteNumber) :=
  ⟨nt + 1, cy_4 hnt el hkd h hfin nt 0 a_above a_as a_part a_open [] (by omega) (by omega) ⟨fun z => absurd z (Nat.lt_irrefl _), fun j h1 h2 => by omega, fun p j hp => absurd hp (Nat.not_lt_zero _)⟩ (fun u => ⟨fun z => (by cases z), fun z => absurd z.1 (Nat.not_lt_zero _)⟩) trivial⟩
end
