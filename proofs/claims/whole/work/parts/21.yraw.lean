theorem ym_b0 : vp_nar .boolean 0 = 0 := by decide
theorem ym_b1 : vp_nar .boolean 1 = 1 := by decide
section
variable {post : SY → Prop} {f_drafted f_length f_place f_there f_chains f_functions f_generators f_active f_begins f_token f_chain f_how f_sort : Int32} {f_value : Int64} {f_steps f_endSort f_status : Int32} {f_endNumber : Int64} {f_over f_noted : Int32} {a_draftKind a_draftWith a_kind a_with a_above a_as a_part a_open a_means a_own a_yields a_binder a_outer a_holdsSort : Nat → Int32} {a_holds : Nat → Int64} {a_fnToken a_fnChain a_state a_gBody a_gChain a_gYield a_closing a_rowOf a_many a_wToken a_wOperand a_wChain a_wSort a_wHow : Nat → Int32} {a_wValue : Nat → Int64} {a_noteSort : Nat → Int32} {a_noteNumber : Nat → Int64}
theorem ym_ops {posti : Int32 → Prop} : ∀ k, k < 27 → posti (nI (gw_op (nI k))) → wpY_operands posti (nI k) := by
  intro k hk h
  have c : k = 0 ∨ k = 1 ∨ k = 2 ∨ k = 3 ∨ k = 4 ∨ k = 5 ∨ k = 6 ∨ k = 7 ∨ k = 8 ∨ k = 9 ∨ k = 10 ∨ k = 11 ∨ k = 12 ∨ k = 13 ∨ k = 14 ∨ k = 15 ∨ k = 16 ∨ k = 17 ∨ k = 18 ∨ k = 19 ∨ k = 20 ∨ k = 21 ∨ k = 22 ∨ k = 23 ∨ k = 24 ∨ k = 25 ∨ k = 26 := by omega
  rcases c with rfl | rfl | rfl | rfl | rfl | rfl | rfl | rfl | rfl | rfl | rfl | rfl | rfl | rfl | rfl | rfl | rfl | rfl | rfl | rfl | rfl | rfl | rfl | rfl | rfl | rfl | rfl
  all_goals
    unfold wpY_operands wY_operands_25
    repeat (first | (refine br_f (by decide) ?_) | (refine br_t (by decide) ?_))
    exact h
theorem ym_ti {d : Nat} (hA : f_active = nI (d + 1)) (hd : d < 8) : vp_in (f_active - 1) 9 := by
  rw [hA, nI_pred]
  exact vp_in_nI (by omega) (by decide)
theorem ym_tp {d r : Nat} (hA : f_active = nI (d + 1)) (hd : d < 8) (hro : a_rowOf d = nI r) : a_rowOf (f_active - 1).toNatClampNeg = nI r := by
  rw [hA, nI_pred, nI_clamp (by omega), hro]
theorem ym_await {d r y i o : Nat} (hA : f_active = nI (d + 1)) (hd : d < 8) (hro : a_rowOf d = nI r) (hr : r < 16) (hmn : a_many r = nI y) (hy : y < 48) (hi : i < 48) (ho : o < 3) {p c pi po : Int32} (hpi : pi = nI i) (hpo : po = nI o) (hpt : a_part (3 * i + o) = p)
    (h : post (f_drafted, f_length, f_place, f_there, f_chains, f_functions, f_generators, f_active, 1, p, c, f_how, f_sort, f_value, f_steps, f_endSort, f_status, f_endNumber, f_over, f_noted, a_draftKind, a_draftWith, a_kind, a_with, a_above, a_as, a_part, a_open, a_means, a_own, a_yields, a_binder, a_outer, a_holdsSort, a_holds, a_fnToken, a_fnChain, a_state, a_gBody, a_gChain, a_gYield, a_closing, a_rowOf, upd a_many r (nI (y + 1)), upd a_wToken (48 * r + y) (nI i), upd a_wOperand (48 * r + y) (nI o), upd a_wChain (48 * r + y) c, upd a_wSort (48 * r + y) f_sort, upd a_wHow (48 * r + y) f_how, vp_updL a_wValue (48 * r + y) f_value, a_noteSort, a_noteNumber)) :
    wpY_await post (f_drafted, f_length, f_place, f_there, f_chains, f_functions, f_generators, f_active, f_begins, f_token, f_chain, f_how, f_sort, f_value, f_steps, f_endSort, f_status, f_endNumber, f_over, f_noted, a_draftKind, a_draftWith, a_kind, a_with, a_above, a_as, a_part, a_open, a_means, a_own, a_yields, a_binder, a_outer, a_holdsSort, a_holds, a_fnToken, a_fnChain, a_state, a_gBody, a_gChain, a_gYield, a_closing, a_rowOf, a_many, a_wToken, a_wOperand, a_wChain, a_wSort, a_wHow, a_wValue, a_noteSort, a_noteNumber) pi po c := by
  subst hpi hpo
  have e1 := ym_tp hA hd hro
  have i1 : vp_in (nI r) 17 := vp_in_nI (by omega) (by decide)
  have er : (nI r).toNatClampNeg = r := nI_clamp (by omega)
  have i2 : vp_in (nI (48 * r + y)) 816 := vp_in_nI (by omega) (by decide)
  have ek : (nI (48 * r + y)).toNatClampNeg = 48 * r + y := nI_clamp (by omega)
  have e2 : (48 : Int32) * nI r + a_many (nI r).toNatClampNeg = nI (48 * r + y) := by
    rw [er, hmn, show (48 : Int32) = nI 48 from rfl, pk_mul, nI_add]
  have e3 : (3 : Int32) * nI i + nI o = nI (3 * i + o) := by
    rw [show (3 : Int32) = nI 3 from rfl, pk_mul, nI_add]
  have i3 : vp_in ((3 : Int32) * nI i + nI o) 144 := by rw [e3]; exact vp_in_nI (by omega) (by decide)
  have e4 : a_part ((3 : Int32) * nI i + nI o).toNatClampNeg = p := by rw [e3, nI_clamp (by omega)]; exact hpt
  refine ⟨ym_ti hA hd, nm_r e1 ⟨i1, nm_r e2 ⟨i1, i1, nm_r (by rw [er, hmn, nI_1]) ⟨i2, nm_r (by rw [ek]) ⟨i2, nm_r (by rw [ek]) ⟨i2, nm_r (by rw [ek]) ⟨i2, nm_r (by rw [ek]) ⟨i2, nm_r (by rw [ek]) ⟨i2, nm_r (by rw [ek]) ⟨i3, ?_⟩⟩⟩⟩⟩⟩⟩⟩⟩⟩
  rw [e4]
  exact h
theorem ym_enterG {d r : Nat} (hA : f_active = nI d) (hd : d < 9) (hr : r < 8) (h : post (f_drafted, f_length, f_place, f_there, f_chains, f_functions, f_generators, nI (d + 1), f_begins, f_token, f_chain, f_how, f_sort, f_value, f_steps, f_endSort, f_status, f_endNumber, f_over, f_noted, a_draftKind, a_draftWith, a_kind, a_with, a_above, a_as, a_part, a_open, a_means, a_own, a_yields, a_binder, a_outer, a_holdsSort, a_holds, a_fnToken, a_fnChain, a_state, a_gBody, a_gChain, a_gYield, a_closing, upd a_rowOf d (nI r), a_many, a_wToken, a_wOperand, a_wChain, a_wSort, a_wHow, a_wValue, a_noteSort, a_noteNumber)) : wpY_enter post (f_drafted, f_length, f_place, f_there, f_chains, f_functions, f_generators, f_active, f_begins, f_token, f_chain, f_how, f_sort, f_value, f_steps, f_endSort, f_status, f_endNumber, f_over, f_noted, a_draftKind, a_draftWith, a_kind, a_with, a_above, a_as, a_part, a_open, a_means, a_own, a_yields, a_binder, a_outer, a_holdsSort, a_holds, a_fnToken, a_fnChain, a_state, a_gBody, a_gChain, a_gYield, a_closing, a_rowOf, a_many, a_wToken, a_wOperand, a_wChain, a_wSort, a_wHow, a_wValue, a_noteSort, a_noteNumber) (nI r) := by
  subst hA
  exact ⟨vp_in_nI hd (by decide), nm_r (by rw [nI_clamp (by omega)]) (nm_r (nI_1 d) (br_t (nI_le (b := 7) (by omega) (by decide)) h))⟩
theorem ym_enterD {d r : Nat} (hA : f_active = nI d) (hd : d < 9) (hr : 8 ≤ r) (hr2 : r < 16) {p : Int32} (hp : p = nI r) (h : post (f_drafted, f_length, f_place, f_there, f_chains, f_functions, f_generators, nI (d + 1), f_begins, f_token, f_chain, f_how, f_sort, f_value, f_steps, f_endSort, f_status, f_endNumber, f_over, f_noted, a_draftKind, a_draftWith, a_kind, a_with, a_above, a_as, a_part, a_open, a_means, a_own, a_yields, a_binder, a_outer, a_holdsSort, a_holds, a_fnToken, a_fnChain, a_state, a_gBody, a_gChain, a_gYield, a_closing, upd a_rowOf d (nI r), upd a_many r 0, a_wToken, a_wOperand, a_wChain, a_wSort, a_wHow, a_wValue, a_noteSort, a_noteNumber)) : wpY_enter post (f_drafted, f_length, f_place, f_there, f_chains, f_functions, f_generators, f_active, f_begins, f_token, f_chain, f_how, f_sort, f_value, f_steps, f_endSort, f_status, f_endNumber, f_over, f_noted, a_draftKind, a_draftWith, a_kind, a_with, a_above, a_as, a_part, a_open, a_means, a_own, a_yields, a_binder, a_outer, a_holdsSort, a_holds, a_fnToken, a_fnChain, a_state, a_gBody, a_gChain, a_gYield, a_closing, a_rowOf, a_many, a_wToken, a_wOperand, a_wChain, a_wSort, a_wHow, a_wValue, a_noteSort, a_noteNumber) p := by
  subst hA hp
  exact ⟨vp_in_nI hd (by decide), nm_r (by rw [nI_clamp (by omega)]) (nm_r (nI_1 d) (br_f (nI_ge (a := 7) (by omega) (by omega)) ⟨vp_in_nI (by omega) (by decide), nm_r (by rw [nI_clamp (by omega)]) h⟩))⟩
theorem ym_bind {postv : Int32 → SY → Prop} {v : Nat} (hv : f_chains = nI v) (h6 : v < 600) {b c s : Int32} {x : Int64}
    (h : postv (nI v) (f_drafted, f_length, f_place, f_there, nI (v + 1), f_functions, f_generators, f_active, f_begins, f_token, f_chain, f_how, f_sort, f_value, f_steps, f_endSort, f_status, f_endNumber, f_over, f_noted, a_draftKind, a_draftWith, a_kind, a_with, a_above, a_as, a_part, a_open, a_means, a_own, a_yields, upd a_binder v b, upd a_outer v c, upd a_holdsSort v s, vp_updL a_holds v x, a_fnToken, a_fnChain, a_state, a_gBody, a_gChain, a_gYield, a_closing, a_rowOf, a_many, a_wToken, a_wOperand, a_wChain, a_wSort, a_wHow, a_wValue, a_noteSort, a_noteNumber)) : wpY_bind postv (f_drafted, f_length, f_place, f_there, f_chains, f_functions, f_generators, f_active, f_begins, f_token, f_chain, f_how, f_sort, f_value, f_steps, f_endSort, f_status, f_endNumber, f_over, f_noted, a_draftKind, a_draftWith, a_kind, a_with, a_above, a_as, a_part, a_open, a_means, a_own, a_yields, a_binder, a_outer, a_holdsSort, a_holds, a_fnToken, a_fnChain, a_state, a_gBody, a_gChain, a_gYield, a_closing, a_rowOf, a_many, a_wToken, a_wOperand, a_wChain, a_wSort, a_wHow, a_wValue, a_noteSort, a_noteNumber) b c s x := by
  subst hv
  have i : vp_in (nI v) 700 := vp_in_nI (by omega) (by decide)
  have e : (nI v).toNatClampNeg = v := nI_clamp (by omega)
  refine ⟨i, nm_r (by rw [e]) ⟨i, nm_r (by rw [e]) ⟨i, nm_r (by rw [e]) ⟨i, nm_r (by rw [e]) (nm_r (nI_1 v) ?_)⟩⟩⟩⟩
  rw [nI_pred]
  exact h
theorem ym_true {posti : Int32 → Prop} {s : Int32} {x : Int64} (hs : f_sort = s) (hx : f_value = x) (h5 : s = 0 ∨ s = 1 ∨ s = 2 ∨ s = 3 ∨ s = 4) (h : posti (if gk_tr s x = true then 1 else 0)) : wpY_isTrue posti (f_drafted, f_length, f_place, f_there, f_chains, f_functions, f_generators, f_active, f_begins, f_token, f_chain, f_how, f_sort, f_value, f_steps, f_endSort, f_status, f_endNumber, f_over, f_noted, a_draftKind, a_draftWith, a_kind, a_with, a_above, a_as, a_part, a_open, a_means, a_own, a_yields, a_binder, a_outer, a_holdsSort, a_holds, a_fnToken, a_fnChain, a_state, a_gBody, a_gChain, a_gYield, a_closing, a_rowOf, a_many, a_wToken, a_wOperand, a_wChain, a_wSort, a_wHow, a_wValue, a_noteSort, a_noteNumber) := by
  subst hs hx
  have key : ∀ s : Int32, f_sort = s → (s = 0 ∨ s = 1 ∨ s = 2 ∨ s = 3 ∨ s = 4) → wpY_isTrue posti (f_drafted, f_length, f_place, f_there, f_chains, f_functions, f_generators, f_active, f_begins, f_token, f_chain, f_how, f_sort, f_value, f_steps, f_endSort, f_status, f_endNumber, f_over, f_noted, a_draftKind, a_draftWith, a_kind, a_with, a_above, a_as, a_part, a_open, a_means, a_own, a_yields, a_binder, a_outer, a_holdsSort, a_holds, a_fnToken, a_fnChain, a_state, a_gBody, a_gChain, a_gYield, a_closing, a_rowOf, a_many, a_wToken, a_wOperand, a_wChain, a_wSort, a_wHow, a_wValue, a_noteSort, a_noteNumber) := by
    intro s es hs
    rw [es] at h
    unfold wpY_isTrue
    dsimp only
    rw [es]
    rcases hs with rfl | rfl | rfl | rfl | rfl
    · exact br_f (by decide) (br_t (by decide) h)
    · refine br_f (by decide) (br_f (by decide) (br_c (fun z => ?_) (fun z => ?_)))
      · rw [z] at h; exact h
      · rw [gk_tr, if_pos (Or.inl rfl), decide_eq_true z] at h; exact h
    · refine br_f (by decide) (br_f (by decide) (br_c (fun z => ?_) (fun z => ?_)))
      · rw [z] at h; exact h
      · rw [gk_tr, if_pos (Or.inr rfl), decide_eq_true z] at h; exact h
    · exact br_t (by decide) h
    · exact br_t (by decide) h
  exact key f_sort rfl h5
end
section
variable {f_drafted f_length f_place f_there f_chains f_functions f_generators f_active f_begins f_token f_chain f_how f_sort : Int32} {f_value : Int64} {f_steps f_endSort f_status : Int32} {f_endNumber : Int64} {f_over f_noted : Int32} {a_draftKind a_draftWith a_kind a_with a_above a_as a_part a_open a_means a_own a_yields a_binder a_outer a_holdsSort : Nat → Int32} {a_holds : Nat → Int64} {a_fnToken a_fnChain a_state a_gBody a_gChain a_gYield a_closing a_rowOf a_many a_wToken a_wOperand a_wChain a_wSort a_wHow : Nat → Int32} {a_wValue : Nat → Int64} {a_noteSort : Nat → Int32} {a_noteNumber : Nat → Int64}
theorem ym_find2 {V : gv_T} {b : Nat} {post : Int32 → Prop} (hv : V.2.2.2.2 ≤ 600) (hb48 : b < 48) (e1 : a_binder = V.1) (e2 : a_outer = V.2.1) : ∀ l c n, gk_CH V l c → b ∈ l → (∀ x, x ∈ l → x < 48) → l.length < n →
    post (nI (gk_fi V b l c)) → wY_find_2 post (nI b) f_drafted f_length f_place f_there f_chains f_functions f_generators f_active f_begins f_token f_chain f_how f_sort f_value f_steps f_endSort f_status f_endNumber f_over f_noted a_draftKind a_draftWith a_kind a_with a_above a_as a_part a_open a_means a_own a_yields a_binder a_outer a_holdsSort a_holds a_fnToken a_fnChain a_state a_gBody a_gChain a_gYield a_closing a_rowOf a_many a_wToken a_wOperand a_wChain a_wSort a_wHow a_wValue a_noteSort a_noteNumber n c := by
  intro l
  induction l with
  | nil => intro c n _ h; cases h
  | cons b' l ih =>
    intro c n hc hb h48 hn h
    obtain ⟨n, rfl⟩ : ∃ x, n = x + 1 := ⟨n - 1, by omega⟩
    obtain ⟨i, hi, rfl, h1, h2⟩ := hc
    have hn2 : l.length + 1 < n + 1 := hn
    have ec : (nI i).toNatClampNeg = i := nI_clamp (by omega)
    have h : post (nI (if b' = b then (nI i).toNatClampNeg else gk_fi V b l (V.2.1 (nI i).toNatClampNeg))) := h
    rw [ec] at h
    have iv : vp_in (nI i) 700 := vp_in_nI (by omega) (by decide)
    refine ⟨iv, ?_⟩
    have eb : a_binder (nI i).toNatClampNeg = nI b' := by rw [ec, e1]; exact h1
    by_cases z : b' = b
    · rw [if_pos z] at h
      exact br_t (by rw [eb, z]) h
    · rw [if_neg z] at h
      refine br_f ?_ ⟨iv, nm_r (e' := V.2.1 i) (by rw [ec, e2]) ?_⟩
      · rw [eb, nI_eq (by have := h48 b' (List.mem_cons_self ..); omega) (by omega)]
        exact z
      · rcases List.mem_cons.mp hb with e | e
        · exact absurd e.symm z
        · exact ih _ n h2 e (fun x hx => h48 x (List.mem_cons_of_mem _ hx)) (by omega) h
theorem ym_find {V : gv_T} {b : Nat} {post : Int32 → Prop} {l : List Nat} {c : Int32} (hv : V.2.2.2.2 ≤ 600) (hb48 : b < 48) (e1 : a_binder = V.1) (e2 : a_outer = V.2.1) (hc : gk_CH V l c) (hb : b ∈ l) (h48 : ∀ x, x ∈ l → x < 48)
    (h : post (nI (gk_fi V b l c))) : wpY_find post (f_drafted, f_length, f_place, f_there, f_chains, f_functions, f_generators, f_active, f_begins, f_token, f_chain, f_how, f_sort, f_value, f_steps, f_endSort, f_status, f_endNumber, f_over, f_noted, a_draftKind, a_draftWith, a_kind, a_with, a_above, a_as, a_part, a_open, a_means, a_own, a_yields, a_binder, a_outer, a_holdsSort, a_holds, a_fnToken, a_fnChain, a_state, a_gBody, a_gChain, a_gYield, a_closing, a_rowOf, a_many, a_wToken, a_wOperand, a_wChain, a_wSort, a_wHow, a_wValue, a_noteSort, a_noteNumber) c (nI b) :=
  ⟨l.length + 1, ym_find2 hv hb48 e1 e2 l c (l.length + 1) hc hb h48 (by omega) h⟩
end
