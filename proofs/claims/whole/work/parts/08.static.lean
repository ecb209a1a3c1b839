def gs_o (n : Nat) (K : Nat → Int32) : Nat → Nat := fun i => if i < n then gw_op (K i) else 0
def gs_sc (K : Nat → Int32) (e : Nat → Nat) : Nat → List Nat := tr_r [] (fun p k l => if gw_bd (K p) (tr_ix e k) then p :: l else l) (tr_pa e)
def gs_il (K : Nat → Int32) (e : Nat → Nat) : Nat → Bool := tr_r false (fun p k b => if K p = 5 then false else if K p = 14 ∧ tr_ix e k = 1 then true else b) (tr_pa e)
def gs_ow (K : Nat → Int32) (e : Nat → Nat) : Nat → Int32 := tr_r (-1) (fun p _ f => if K p = 5 then nI p else f) (tr_pa e)
theorem gs_op3 (k : Int32) : gw_op k ≤ 3 := by
  unfold gw_op
  split
  · omega
  · split
    · omega
    · split <;> omega
theorem gs_o3 (n : Nat) (K : Nat → Int32) (i : Nat) : gs_o n K i ≤ 3 := by
  unfold gs_o
  split
  · exact gs_op3 _
  · omega
theorem gs_o0 (n : Nat) (K : Nat → Int32) (i : Nat) (h : n ≤ i) : gs_o n K i = 0 := if_neg (by omega)
theorem gs_oi (n : Nat) (K : Nat → Int32) (i : Nat) (h : i < n) : gs_o n K i = gw_op (K i) := if_pos h
section
variable {o e : Nat → Nat} {K : Nat → Int32}
theorem gs_pa (h : tr_T o e) (h3 : ∀ i, o i ≤ 3) {k : Nat} (hk : k < e 0) : ∀ q, 0 < q → q ≤ k → tr_pa e q < q :=
  fun _ a b => (tr_pk h h3 a (by omega)).1
theorem gs_scp (h : tr_T o e) (h3 : ∀ i, o i ≤ 3) {k : Nat} (h0 : 0 < k) (hk : k < e 0) :
    gs_sc K e k = if gw_bd (K (tr_pa e k)) (tr_ix e k) then tr_pa e k :: gs_sc K e (tr_pa e k) else gs_sc K e (tr_pa e k) :=
  tr_rs _ _ _ k (gs_pa h h3 hk) h0
theorem gs_ilp (h : tr_T o e) (h3 : ∀ i, o i ≤ 3) {k : Nat} (h0 : 0 < k) (hk : k < e 0) :
    gs_il K e k = if K (tr_pa e k) = 5 then false else if K (tr_pa e k) = 14 ∧ tr_ix e k = 1 then true else gs_il K e (tr_pa e k) :=
  tr_rs _ _ _ k (gs_pa h h3 hk) h0
theorem gs_owp (h : tr_T o e) (h3 : ∀ i, o i ≤ 3) {k : Nat} (h0 : 0 < k) (hk : k < e 0) :
    gs_ow K e k = if K (tr_pa e k) = 5 then nI (tr_pa e k) else gs_ow K e (tr_pa e k) :=
  tr_rs _ _ _ k (gs_pa h h3 hk) h0
theorem gs_scm (h : tr_T o e) (h3 : ∀ i, o i ≤ 3) : ∀ k, k < e 0 → ∀ b, b ∈ gs_sc K e k → b < k ∧ k < e b ∧ (K b = 5 ∨ K b = 4 ∨ K b = 20) := by
  intro k
  induction k using Nat.strongRecOn with
  | ind k ih =>
    intro hk b hb
    by_cases z : k = 0
    · subst z
      cases hb
    · have hp := tr_pk h h3 (by omega) hk
      have hin := tr_cin h hp.2.1
      rw [hp.2.2] at hin
      have up : ∀ b, b ∈ gs_sc K e (tr_pa e k) → b < k ∧ k < e b ∧ (K b = 5 ∨ K b = 4 ∨ K b = 20) := by
        intro b hb
        obtain ⟨h1, h2, h3'⟩ := ih _ hp.1 (by omega) b hb
        have := tr_nest h _ b (tr_pa e k) (Nat.le_refl _) (by omega) h2
        exact ⟨by omega, by omega, h3'⟩
      rw [gs_scp h h3 (by omega) hk] at hb
      split at hb
      · rename_i hbd
        rcases List.mem_cons.mp hb with q | q
        · subst q
          refine ⟨hp.1, hin.2, ?_⟩
          rcases hbd with q | q
          · exact Or.inl q
          · exact Or.inr q.1
        · exact up b q
      · exact up b hb
theorem gs_scl (h : tr_T o e) (h3 : ∀ i, o i ≤ 3) : ∀ k, k < e 0 → (gs_sc K e k).length ≤ k := by
  intro k
  induction k using Nat.strongRecOn with
  | ind k ih =>
    intro hk
    by_cases z : k = 0
    · subst z
      exact Nat.le_refl _
    · have hp := tr_pk h h3 (by omega) hk
      have q := ih _ hp.1 (by omega)
      rw [gs_scp h h3 (by omega) hk]
      split
      · show (gs_sc K e (tr_pa e k)).length + 1 ≤ k
        omega
      · omega
end
theorem gs_make {n : Nat} {K : Nat → Int32} {e : Nat → Nat} {mn gn nv : Nat → Int32} (h : tr_T (gs_o n K) e) (h0 : e 0 = n) (hn : n ≤ 48)
    (hk : ∀ i, i < n → ∃ k, k < 27 ∧ K i = nI k)
    (hm : ∀ i, i < n → K i = 2 ∨ K i = 3 → ∃ b, b ∈ gs_sc K e i ∧ mn i = nI b)
    (hl : ∀ i, i < n → K i = 16 ∨ K i = 17 → gs_il K e i = true)
    (hy : ∀ i, i < n → K i = 22 → ∃ f, f < n ∧ gs_ow K e i = nI f ∧ gn f = 1)
    (hg : ∀ i, i < n → gn i = 0 ∨ gn i = 1) : gw_S (n, K, gs_o n K, e, gs_sc K e, gs_il K e, gs_ow K e, mn, gn, nv) := by
  have h3 := gs_o3 n K
  refine ⟨h, h0, hn, fun i hi => gs_oi n K i hi, hk, ⟨rfl, rfl, rfl⟩, ?_, hm, hl, hy, hg, fun i hi => ⟨gs_scl h h3 i (by rw [h0]; exact hi), fun b hb => (gs_scm h h3 i (by rw [h0]; exact hi) b hb).1⟩⟩
  intro p j hp hj
  have hp : p < n := hp
  have hj : j < gs_o n K p := hj
  show (gw_bd (K p) j → gs_sc K e (tr_c e p j) = p :: gs_sc K e p) ∧ (¬ gw_bd (K p) j → gs_sc K e (tr_c e p j) = gs_sc K e p) ∧
    (K p = 5 → gs_il K e (tr_c e p j) = false ∧ gs_ow K e (tr_c e p j) = nI p) ∧
    (K p ≠ 5 → gs_ow K e (tr_c e p j) = gs_ow K e p ∧ (gs_il K e (tr_c e p j) = true → (K p = 14 ∧ j = 1) ∨ gs_il K e p = true))
  have hin := tr_cin h hj
  have hne := tr_nest h _ 0 p (Nat.le_refl _) (by omega) (by omega)
  have q1 : 0 < tr_c e p j := by omega
  have q2 : tr_c e p j < e 0 := by omega
  have a := gs_scp (K := K) h h3 q1 q2
  have b := gs_ilp (K := K) h h3 q1 q2
  have c := gs_owp (K := K) h h3 q1 q2
  rw [tr_pac h hj, tr_ixc h hj (h3 p)] at a b
  rw [tr_pac h hj] at c
  refine ⟨?_, ?_, ?_, ?_⟩
  · intro z
    rw [a, if_pos z]
  · intro z
    rw [a, if_neg z]
  · intro z
    rw [b, c, if_pos z, if_pos z]
    exact ⟨rfl, rfl⟩
  · intro z
    rw [b, c, if_neg z, if_neg z]
    refine ⟨rfl, ?_⟩
    split
    · rename_i y
      exact fun _ => Or.inl y
    · exact fun y => Or.inr y
