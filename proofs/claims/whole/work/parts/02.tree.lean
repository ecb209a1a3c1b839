def tr_c (e : Nat → Nat) (i : Nat) : Nat → Nat
  | 0 => i + 1
  | j + 1 => e (tr_c e i j)
def tr_T (o e : Nat → Nat) : Prop := (∀ i, e i = tr_c e i (o i)) ∧ ∀ i, i < e i
def tr_E (o : Nat → Nat) (n : Nat) : Nat → (Nat → Nat)
  | 0 => fun i => i + 1
  | d + 1 => fun i => if i + (d + 1) = n then tr_c (tr_E o n d) i (o i) else tr_E o n d i
theorem tr_cgt0 {e : Nat → Nat} {i : Nat} (h : ∀ k, i < k → k < e k) : ∀ j, i < tr_c e i j := by
  intro j
  induction j with
  | zero => exact Nat.lt_succ_self i
  | succ j ih => exact Nat.lt_trans ih (h _ ih)
theorem tr_ceq {e e' : Nat → Nat} {i : Nat} (h : ∀ k, i < k → k < e k) (h' : ∀ k, i < k → e' k = e k) : ∀ j, tr_c e' i j = tr_c e i j := by
  intro j
  induction j with
  | zero => rfl
  | succ j ih =>
    show e' (tr_c e' i j) = e (tr_c e i j)
    rw [ih]
    exact h' _ (tr_cgt0 h j)
theorem tr_Eg (o : Nat → Nat) (n : Nat) : ∀ d i, i < tr_E o n d i := by
  intro d
  induction d with
  | zero => exact fun i => Nat.lt_succ_self i
  | succ d ih =>
    intro i
    show i < (if i + (d + 1) = n then tr_c (tr_E o n d) i (o i) else tr_E o n d i)
    split
    · exact tr_cgt0 (fun k _ => ih k) _
    · exact ih i
theorem tr_Es (o : Nat → Nat) (n : Nat) (h0 : ∀ i, n ≤ i → o i = 0) : ∀ d i, n ≤ i + d → tr_E o n d i = tr_c (tr_E o n d) i (o i) := by
  intro d
  induction d with
  | zero =>
    intro i hi
    rw [h0 i (by omega)]
    rfl
  | succ d ih =>
    intro i hi
    have hk : ∀ k, i < k → tr_E o n (d + 1) k = tr_E o n d k := by
      intro k hk
      show (if k + (d + 1) = n then tr_c (tr_E o n d) k (o k) else tr_E o n d k) = _
      rw [if_neg (by omega)]
    rw [tr_ceq (e := tr_E o n d) (fun k _ => tr_Eg o n d k) hk]
    show (if i + (d + 1) = n then tr_c (tr_E o n d) i (o i) else tr_E o n d i) = _
    split
    · rfl
    · exact ih i (by omega)
theorem tr_ex (o : Nat → Nat) (n : Nat) (h0 : ∀ i, n ≤ i → o i = 0) : ∃ e, tr_T o e :=
  ⟨tr_E o n n, fun i => tr_Es o n h0 n i (by omega), tr_Eg o n n⟩
section
variable {o e : Nat → Nat}
theorem tr_cgt (h : tr_T o e) (i j : Nat) : i < tr_c e i j := tr_cgt0 (fun k _ => h.2 k) j
theorem tr_cs (h : tr_T o e) (i j : Nat) : tr_c e i j < tr_c e i (j + 1) := h.2 _
theorem tr_cm (h : tr_T o e) (i a : Nat) : ∀ b, a < b → tr_c e i a < tr_c e i b := by
  intro b
  induction b with
  | zero => intro hb; omega
  | succ b ih =>
    intro hb
    by_cases z : a = b
    · subst z
      exact tr_cs h i a
    · exact Nat.lt_trans (ih (by omega)) (tr_cs h i b)
theorem tr_cme (h : tr_T o e) (i a b : Nat) (hb : a ≤ b) : tr_c e i a ≤ tr_c e i b := by
  by_cases z : a = b
  · rw [z]; exact Nat.le_refl _
  · exact Nat.le_of_lt (tr_cm h i a b (by omega))
theorem tr_find (i k : Nat) (h0 : i < k) : ∀ m, k < tr_c e i m → ∃ j, j < m ∧ tr_c e i j ≤ k ∧ k < tr_c e i (j + 1) := by
  intro m
  induction m with
  | zero => intro hm; exact absurd hm (by show ¬ k < i + 1; omega)
  | succ m ih =>
    intro hm
    by_cases z : k < tr_c e i m
    · obtain ⟨j, hj, a, b⟩ := ih z
      exact ⟨j, by omega, a, b⟩
    · exact ⟨m, by omega, by omega, hm⟩
theorem tr_cin (h : tr_T o e) {p j : Nat} (hj : j < o p) : p < tr_c e p j ∧ tr_c e p j < e p := by
  refine ⟨tr_cgt h p j, ?_⟩
  rw [h.1 p]
  exact tr_cm h p j _ hj
theorem tr_nest (h : tr_T o e) : ∀ d i k, k - i ≤ d → i ≤ k → k < e i → e k ≤ e i := by
  intro d
  induction d with
  | zero =>
    intro i k hd hi hk
    have : k = i := by omega
    subst this
    exact Nat.le_refl _
  | succ d ih =>
    intro i k hd hi hk
    by_cases z : k = i
    · subst z; exact Nat.le_refl _
    · have hk2 := hk
      rw [h.1 i] at hk2
      obtain ⟨j, hj, a, b⟩ := tr_find i k (by omega) _ hk2
      have g := tr_cgt h i j
      have r := ih (tr_c e i j) k (by omega) a b
      have r2 : tr_c e i (j + 1) ≤ tr_c e i (o i) := tr_cme h i _ _ hj
      have r3 : e (tr_c e i j) = tr_c e i (j + 1) := rfl
      rw [h.1 i]
      omega
theorem tr_par (h : tr_T o e) : ∀ d i k, k - i ≤ d → i < k → k < e i → ∃ p j, i ≤ p ∧ j < o p ∧ tr_c e p j = k := by
  intro d
  induction d with
  | zero => intro i k hd hi hk; omega
  | succ d ih =>
    intro i k hd hi hk
    have hk2 := hk
    rw [h.1 i] at hk2
    obtain ⟨j, hj, a, b⟩ := tr_find i k hi _ hk2
    by_cases z : tr_c e i j = k
    · exact ⟨i, j, Nat.le_refl _, hj, z⟩
    · have g := tr_cgt h i j
      obtain ⟨p, j', hp, hj', r⟩ := ih (tr_c e i j) k (by omega) (by omega) b
      exact ⟨p, j', by omega, hj', r⟩
theorem tr_btw (h : tr_T o e) {p j q : Nat} (hp : p < q) (hq : q < tr_c e p j) : e q ≤ tr_c e p j := by
  obtain ⟨j1, hj1, a, b⟩ := tr_find p q hp j hq
  have r := tr_nest h _ (tr_c e p j1) q (Nat.le_refl _) a b
  have r2 : tr_c e p (j1 + 1) ≤ tr_c e p j := tr_cme h p _ _ hj1
  exact Nat.le_trans r r2
theorem tr_cinj (h : tr_T o e) {p j j' : Nat} (he : tr_c e p j = tr_c e p j') : j = j' := by
  by_cases a : j < j'
  · have := tr_cm h p j j' a; omega
  · by_cases b : j' < j
    · have := tr_cm h p j' j b; omega
    · omega
theorem tr_uniq (h : tr_T o e) {p j p' j' : Nat} (hj : j < o p) (hj' : j' < o p') (he : tr_c e p j = tr_c e p' j') : p = p' ∧ j = j' := by
  have a := tr_cin h hj
  have b := tr_cin h hj'
  have hp : p = p' := by
    by_cases z : p < p'
    · have := tr_btw h (j := j) z (by omega); omega
    · by_cases z2 : p' < p
      · have := tr_btw h (j := j') z2 (by omega); omega
      · omega
  subst hp
  exact ⟨rfl, tr_cinj h he⟩
theorem tr_leaf (h : tr_T o e) {i : Nat} (ho : o i = 0) : e i = i + 1 := by rw [h.1 i, ho]; rfl
end
def tr_dn (e : Nat → Nat) (k : Nat) : Nat → Nat
  | 0 => 0
  | p + 1 => if k < e p then p else tr_dn e k p
def tr_pa (e : Nat → Nat) (k : Nat) : Nat := tr_dn e k k
def tr_ix (e : Nat → Nat) (k : Nat) : Nat := if tr_c e (tr_pa e k) 0 = k then 0 else if tr_c e (tr_pa e k) 1 = k then 1 else 2
theorem tr_dn_eq (e : Nat → Nat) (k p : Nat) (hp : k < e p) : ∀ m, p < m → (∀ q, p < q → q < m → ¬ k < e q) → tr_dn e k m = p := by
  intro m
  induction m with
  | zero => intro hm; omega
  | succ m ih =>
    intro hm hq
    show (if k < e m then m else tr_dn e k m) = p
    by_cases z : p = m
    · subst z
      rw [if_pos hp]
    · rw [if_neg (hq m (by omega) (by omega))]
      exact ih (by omega) (fun q a b => hq q a (by omega))
section
variable {o e : Nat → Nat}
theorem tr_pac (h : tr_T o e) {p j : Nat} (hj : j < o p) : tr_pa e (tr_c e p j) = p := by
  have a := tr_cin h hj
  refine tr_dn_eq e _ p a.2 _ a.1 ?_
  intro q h1 h2 h3
  have := tr_btw h (j := j) h1 h2
  omega
theorem tr_ixc (h : tr_T o e) {p j : Nat} (hj : j < o p) (h3 : o p ≤ 3) : tr_ix e (tr_c e p j) = j := by
  unfold tr_ix
  rw [tr_pac h hj]
  match j, hj with
  | 0, _ => rw [if_pos rfl]
  | 1, _ => rw [if_neg (fun z => absurd (tr_cinj h z) (by decide)), if_pos rfl]
  | 2, _ => rw [if_neg (fun z => absurd (tr_cinj h z) (by decide)), if_neg (fun z => absurd (tr_cinj h z) (by decide))]
  | j + 3, hj => omega
theorem tr_pk (h : tr_T o e) (h3 : ∀ i, o i ≤ 3) {k : Nat} (h0 : 0 < k) (hk : k < e 0) : tr_pa e k < k ∧ tr_ix e k < o (tr_pa e k) ∧ tr_c e (tr_pa e k) (tr_ix e k) = k := by
  obtain ⟨p, j, _, hj, hc⟩ := tr_par h _ 0 k (Nat.le_refl _) h0 hk
  subst hc
  rw [tr_pac h hj, tr_ixc h hj (h3 p)]
  exact ⟨(tr_cin h hj).1, hj, rfl⟩
end
def tr_R {α : Type} (z : α) (f : Nat → Nat → α → α) (pa : Nat → Nat) : Nat → Nat → α
  | 0, _ => z
  | m + 1, k => if k = 0 then z else f (pa k) k (tr_R z f pa m (pa k))
def tr_r {α : Type} (z : α) (f : Nat → Nat → α → α) (pa : Nat → Nat) (k : Nat) : α := tr_R z f pa k k
theorem tr_Rm {α : Type} (z : α) (f : Nat → Nat → α → α) (pa : Nat → Nat) : ∀ b k, (∀ q, 0 < q → q ≤ b → pa q < q) → k ≤ b → ∀ m m', k ≤ m → k ≤ m' → tr_R z f pa m k = tr_R z f pa m' k := by
  intro b k hp
  induction k using Nat.strongRecOn with
  | ind k ih =>
    intro hb m m' hm hm'
    by_cases z0 : k = 0
    · subst z0
      cases m <;> cases m' <;> simp [tr_R]
    · obtain ⟨m, rfl⟩ : ∃ x, m = x + 1 := ⟨m - 1, by omega⟩
      obtain ⟨m', rfl⟩ : ∃ x, m' = x + 1 := ⟨m' - 1, by omega⟩
      have hl := hp k (by omega) hb
      show (if k = 0 then z else f (pa k) k (tr_R z f pa m (pa k))) = (if k = 0 then z else f (pa k) k (tr_R z f pa m' (pa k)))
      rw [if_neg z0, if_neg z0, ih (pa k) hl (by omega) m m' (by omega) (by omega)]
theorem tr_r0 {α : Type} (z : α) (f : Nat → Nat → α → α) (pa : Nat → Nat) : tr_r z f pa 0 = z := rfl
theorem tr_rs {α : Type} (z : α) (f : Nat → Nat → α → α) (pa : Nat → Nat) (k : Nat) (hp : ∀ q, 0 < q → q ≤ k → pa q < q) (h0 : 0 < k) : tr_r z f pa k = f (pa k) k (tr_r z f pa (pa k)) := by
  obtain ⟨m, rfl⟩ : ∃ x, k = x + 1 := ⟨k - 1, by omega⟩
  have hl := hp (m + 1) (by omega) (Nat.le_refl _)
  show (if m + 1 = 0 then z else f (pa (m + 1)) (m + 1) (tr_R z f pa m (pa (m + 1)))) = _
  rw [if_neg (by omega)]
  congr 1
  exact tr_Rm z f pa (m + 1) _ hp (by omega) _ _ (by omega) (Nat.le_refl _)
def tr_s (o : Nat → Nat) : Nat → Int
  | 0 => 1
  | i + 1 => tr_s o i + (o i : Int) - 1
theorem tr_sum {o e : Nat → Nat} (h : tr_T o e) : ∀ d u, e u - u ≤ d → tr_s o (e u) = tr_s o u - 1 ∧ ∀ i, u ≤ i → i < e u → tr_s o u ≤ tr_s o i := by
  intro d
  induction d with
  | zero => intro u hd; have := h.2 u; omega
  | succ d ih =>
    intro u hd
    have inner : ∀ j, j ≤ o u → tr_s o (tr_c e u j) = tr_s o u + (o u : Int) - 1 - (j : Int) ∧ ∀ i, u ≤ i → i < tr_c e u j → tr_s o u ≤ tr_s o i := by
      intro j
      induction j with
      | zero =>
        intro _
        refine ⟨by show tr_s o u + (o u : Int) - 1 = _; omega, ?_⟩
        intro i h1 h2
        have : i = u := by
          have h3 : i < u + 1 := h2
          omega
        subst this
        exact Int.le_refl _
      | succ j ihj =>
        intro hj
        obtain ⟨a, b⟩ := ihj (by omega)
        have hc := tr_cin h (show j < o u by omega)
        have hn := tr_nest h _ u (tr_c e u j) (Nat.le_refl _) (by omega) hc.2
        obtain ⟨a2, b2⟩ := ih (tr_c e u j) (by omega)
        have hs : tr_c e u (j + 1) = e (tr_c e u j) := rfl
        refine ⟨by rw [hs, a2, a]; omega, ?_⟩
        intro i h1 h2
        by_cases z : i < tr_c e u j
        · exact b i h1 z
        · have := b2 i (by omega) (by rw [← hs]; exact h2)
          omega
    obtain ⟨a, b⟩ := inner (o u) (Nat.le_refl _)
    rw [← h.1 u] at a b
    exact ⟨by omega, b⟩
theorem tr_sum0 {o e : Nat → Nat} (h : tr_T o e) : tr_s o (e 0) = 0 ∧ ∀ i, i < e 0 → 1 ≤ tr_s o i := by
  obtain ⟨a, b⟩ := tr_sum h _ 0 (Nat.le_refl _)
  have z : tr_s o 0 = 1 := rfl
  rw [z] at a b
  exact ⟨by omega, fun i hi => b i (by omega) hi⟩
